set_option maxRecDepth 20000 in
theorem ggL_begin_X4_begin : GoodIn wsL_begin wsX4_begin := goodIn_ca (goodIn_r _ [6, 7, 8, 9, 10, 11, 12, 13, 14, 15, 16, 17, 18, 19, 20, 21, 22, 23, 24, 25, 26, 27, 28, 29, 30, 31, 32, 33, 34, 35, 36, 37, 38, 39, 40, 41, 42, 43, 44, 45, 46, 47, 48, 5, 49, 50, 51, 52, 53, 54, 55, 56, 57, 58, 59, 60, 61, 62, 63, 64, 65, 66, 67, 68, 69, 70, 71, 72, 73, 74, 75, 76, 77, 78, 79, 80, 81, 82, 83, 84, 85, 86, 87, 88, 89] (by decide +kernel) (by decide +kernel)) (goodIn_sub (fun _ h => List.mem_cons_of_mem _ (List.mem_append_right _ h)) (by decide +kernel))
set_option maxRecDepth 20000 in
theorem gL_begin_X4_begin : GoodIn wsL_begin (wsV RL 7 RX4 yX4_begin wsX4_begin) := goodIn_app (goodIn_of _ (by decide +kernel)) ggL_begin_X4_begin
theorem dL_begin_0 : decode cL_begin 0 = .ok (.aload_n 2, 1) := by decide +kernel
theorem dL_begin_1 : decode cL_begin 1 = .ok (.iconst 0, 1) := by decide +kernel
theorem dL_begin_2 : decode cL_begin 2 = .ok (.aload_n 0, 1) := by decide +kernel
theorem dL_begin_3 : decode cL_begin 3 = .ok (.iload_n 1, 1) := by decide +kernel
theorem dL_begin_4 : decode cL_begin 4 = .ok (.invokevirtual 7, 3) := by decide +kernel
theorem dL_begin_7 : decode cL_begin 7 = .ok (.i2l, 1) := by decide +kernel
theorem dL_begin_8 : decode cL_begin 8 = .ok (.lastore, 1) := by decide +kernel
theorem dL_begin_9 : decode cL_begin 9 = .ok (.goto 6, 3) := by decide +kernel
theorem dL_begin_12 : decode cL_begin 12 = .ok (.astore_n 3, 1) := by decide +kernel
theorem dL_begin_13 : decode cL_begin 13 = .ok (.iconst 1, 1) := by decide +kernel
theorem dL_begin_14 : decode cL_begin 14 = .ok (.ireturn, 1) := by decide +kernel
theorem dL_begin_15 : decode cL_begin 15 = .ok (.iconst 0, 1) := by decide +kernel
theorem dL_begin_16 : decode cL_begin 16 = .ok (.ireturn, 1) := by decide +kernel
set_option maxRecDepth 20000 in
theorem ggL_setLimit_X4_setLimit : GoodIn wsL_setLimit wsX4_setLimit := goodIn_ca (goodIn_r _ [6, 7, 8, 9, 10, 11, 12, 13, 14, 15, 16, 17, 18, 19, 20, 21, 22, 23, 24, 25, 26, 27, 28, 29, 30, 31, 32, 33, 34, 35, 36, 37, 38, 39, 40, 41, 42, 43, 44, 45, 46, 47, 48, 5, 49, 50, 51, 52, 53, 54, 55, 56, 57, 58, 59, 60, 61, 62, 63, 64, 65, 66, 67, 68, 69, 70, 71, 72, 73, 74, 75, 76, 77, 78, 79, 80, 81, 82, 83, 84, 85, 86, 87, 88, 89] (by decide +kernel) (by decide +kernel)) (goodIn_sub (fun _ h => List.mem_cons_of_mem _ (List.mem_append_right _ h)) (by decide +kernel))
set_option maxRecDepth 20000 in
theorem gL_setLimit_X4_setLimit : GoodIn wsL_setLimit (wsV RL 15 RX4 yX4_setLimit wsX4_setLimit) := goodIn_app (goodIn_of _ (by decide +kernel)) ggL_setLimit_X4_setLimit
theorem dL_setLimit_0 : decode cL_setLimit 0 = .ok (.aload_n 2, 1) := by decide +kernel
theorem dL_setLimit_1 : decode cL_setLimit 1 = .ok (.iconst 0, 1) := by decide +kernel
theorem dL_setLimit_2 : decode cL_setLimit 2 = .ok (.aload_n 0, 1) := by decide +kernel
theorem dL_setLimit_3 : decode cL_setLimit 3 = .ok (.iload_n 1, 1) := by decide +kernel
theorem dL_setLimit_4 : decode cL_setLimit 4 = .ok (.invokevirtual 15, 3) := by decide +kernel
theorem dL_setLimit_7 : decode cL_setLimit 7 = .ok (.i2l, 1) := by decide +kernel
theorem dL_setLimit_8 : decode cL_setLimit 8 = .ok (.lastore, 1) := by decide +kernel
theorem dL_setLimit_9 : decode cL_setLimit 9 = .ok (.goto 6, 3) := by decide +kernel
theorem dL_setLimit_12 : decode cL_setLimit 12 = .ok (.astore_n 3, 1) := by decide +kernel
theorem dL_setLimit_13 : decode cL_setLimit 13 = .ok (.iconst 1, 1) := by decide +kernel
theorem dL_setLimit_14 : decode cL_setLimit 14 = .ok (.ireturn, 1) := by decide +kernel
theorem dL_setLimit_15 : decode cL_setLimit 15 = .ok (.iconst 0, 1) := by decide +kernel
theorem dL_setLimit_16 : decode cL_setLimit 16 = .ok (.ireturn, 1) := by decide +kernel
set_option maxRecDepth 20000 in
theorem ggL_tell_X4_tell : GoodIn wsL_tell wsX4_tell := goodIn_ca (goodIn_ca (goodIn_r _ [7, 8, 9, 10, 11, 12, 13, 14, 15, 16, 17, 18, 19, 20, 21, 22, 23, 24, 25, 26, 27, 28, 6, 29, 30, 31, 32, 33, 34, 35, 36, 37, 38, 39, 40, 41, 42, 43, 44, 45, 46, 47, 48, 49, 50, 51, 52, 53, 54, 55, 56, 57, 58, 59, 60, 61, 62, 63, 64, 65, 66, 67, 68, 69, 70, 71, 72, 73, 74, 75, 76, 77, 78, 79, 80, 81, 82, 83, 84, 85, 86, 87, 88, 89, 90, 91, 92, 93, 94, 95, 96, 97, 98, 99, 100, 101, 102, 103, 104, 105, 106, 107, 108, 109, 110, 111, 112, 113, 114, 115, 116, 117, 118, 119, 120, 121, 122, 123, 124, 125, 126, 127, 128, 129] (by decide +kernel) (by decide +kernel)) (goodIn_sub (fun _ h => List.mem_cons_of_mem _ (List.mem_append_left _ (List.mem_append_right _ h))) (by decide +kernel))) (goodIn_sub (fun _ h => List.mem_cons_of_mem _ (List.mem_append_right _ h)) (by decide +kernel))
set_option maxRecDepth 20000 in
theorem gL_tell_X4_tell : GoodIn wsL_tell (wsV RL 18 RX4 yX4_tell wsX4_tell) := goodIn_app (goodIn_of _ (by decide +kernel)) ggL_tell_X4_tell
theorem dL_tell_0 : decode cL_tell 0 = .ok (.aload 4, 2) := by decide +kernel
theorem dL_tell_2 : decode cL_tell 2 = .ok (.iconst 0, 1) := by decide +kernel
theorem dL_tell_3 : decode cL_tell 3 = .ok (.aload_n 0, 1) := by decide +kernel
theorem dL_tell_4 : decode cL_tell 4 = .ok (.iload_n 1, 1) := by decide +kernel
theorem dL_tell_5 : decode cL_tell 5 = .ok (.iload_n 2, 1) := by decide +kernel
theorem dL_tell_6 : decode cL_tell 6 = .ok (.iload_n 3, 1) := by decide +kernel
theorem dL_tell_7 : decode cL_tell 7 = .ok (.invokevirtual 18, 3) := by decide +kernel
theorem dL_tell_10 : decode cL_tell 10 = .ok (.i2l, 1) := by decide +kernel
theorem dL_tell_11 : decode cL_tell 11 = .ok (.lastore, 1) := by decide +kernel
theorem dL_tell_12 : decode cL_tell 12 = .ok (.goto 11, 3) := by decide +kernel
theorem dL_tell_15 : decode cL_tell 15 = .ok (.astore 5, 2) := by decide +kernel
theorem dL_tell_17 : decode cL_tell 17 = .ok (.iconst 1, 1) := by decide +kernel
theorem dL_tell_18 : decode cL_tell 18 = .ok (.ireturn, 1) := by decide +kernel
theorem dL_tell_19 : decode cL_tell 19 = .ok (.astore 5, 2) := by decide +kernel
theorem dL_tell_21 : decode cL_tell 21 = .ok (.iconst 2, 1) := by decide +kernel
theorem dL_tell_22 : decode cL_tell 22 = .ok (.ireturn, 1) := by decide +kernel
theorem dL_tell_23 : decode cL_tell 23 = .ok (.iconst 0, 1) := by decide +kernel
theorem dL_tell_24 : decode cL_tell 24 = .ok (.ireturn, 1) := by decide +kernel
set_option maxRecDepth 20000 in
theorem ggL_hide_X4_hide : GoodIn wsL_hide wsX4_hide := goodIn_ca (goodIn_ca (goodIn_r _ [7, 8, 9, 10, 11, 12, 13, 14, 15, 16, 17, 18, 19, 20, 21, 22, 23, 24, 25, 26, 27, 28, 29, 30, 31, 32, 33, 34, 35, 36, 37, 38, 39, 40, 41, 42, 43, 44, 45, 46, 47, 48, 49, 50, 51, 52, 53, 54, 55, 56, 57, 58, 59, 60, 6, 61, 62, 63, 64, 65, 66, 67, 68, 69, 70, 71, 72, 73, 74, 75, 76, 77, 78, 79, 80, 81, 82, 83, 84, 85, 86, 87, 88, 89, 90, 91] (by decide +kernel) (by decide +kernel)) (goodIn_sub (fun _ h => List.mem_cons_of_mem _ (List.mem_append_left _ (List.mem_append_right _ h))) (by decide +kernel))) (goodIn_sub (fun _ h => List.mem_cons_of_mem _ (List.mem_append_right _ h)) (by decide +kernel))
set_option maxRecDepth 20000 in
theorem gL_hide_X4_hide : GoodIn wsL_hide (wsV RL 24 RX4 yX4_hide wsX4_hide) := goodIn_app (goodIn_of _ (by decide +kernel)) ggL_hide_X4_hide
theorem dL_hide_0 : decode cL_hide 0 = .ok (.aload_n 3, 1) := by decide +kernel
theorem dL_hide_1 : decode cL_hide 1 = .ok (.iconst 0, 1) := by decide +kernel
theorem dL_hide_2 : decode cL_hide 2 = .ok (.aload_n 0, 1) := by decide +kernel
theorem dL_hide_3 : decode cL_hide 3 = .ok (.iload_n 1, 1) := by decide +kernel
theorem dL_hide_4 : decode cL_hide 4 = .ok (.iload_n 2, 1) := by decide +kernel
theorem dL_hide_5 : decode cL_hide 5 = .ok (.invokevirtual 24, 3) := by decide +kernel
theorem dL_hide_8 : decode cL_hide 8 = .ok (.i2l, 1) := by decide +kernel
theorem dL_hide_9 : decode cL_hide 9 = .ok (.lastore, 1) := by decide +kernel
theorem dL_hide_10 : decode cL_hide 10 = .ok (.goto 11, 3) := by decide +kernel
theorem dL_hide_13 : decode cL_hide 13 = .ok (.astore 4, 2) := by decide +kernel
theorem dL_hide_15 : decode cL_hide 15 = .ok (.iconst 1, 1) := by decide +kernel
theorem dL_hide_16 : decode cL_hide 16 = .ok (.ireturn, 1) := by decide +kernel
theorem dL_hide_17 : decode cL_hide 17 = .ok (.astore 4, 2) := by decide +kernel
theorem dL_hide_19 : decode cL_hide 19 = .ok (.iconst 2, 1) := by decide +kernel
theorem dL_hide_20 : decode cL_hide 20 = .ok (.ireturn, 1) := by decide +kernel
theorem dL_hide_21 : decode cL_hide 21 = .ok (.iconst 0, 1) := by decide +kernel
theorem dL_hide_22 : decode cL_hide 22 = .ok (.ireturn, 1) := by decide +kernel
set_option maxRecDepth 20000 in
theorem ggL_ask_X4_ask : GoodIn wsL_ask wsX4_ask := goodIn_ca (goodIn_ca (goodIn_r _ [7, 8, 9, 10, 11, 12, 13, 14, 15, 16, 17, 18, 19, 20, 21, 22, 23, 24, 25, 26, 27, 28, 29, 30, 31, 32, 33, 34, 35, 36, 37, 38, 39, 40, 41, 42, 43, 44, 45, 46, 47, 48, 49, 50, 51, 52, 53, 54, 55, 56, 57, 58, 59, 60, 61, 62, 63, 64, 65, 66, 67, 68, 69, 70, 6, 71, 72, 73, 74, 75, 76, 77, 78, 79, 80, 81, 82, 83, 84, 85, 86, 87, 88, 89, 90, 91, 92, 93, 94, 95, 96, 97, 98, 99, 100, 101, 102, 103, 104, 105, 106, 107, 108, 109, 110, 111, 112, 113, 114, 115, 116, 117, 118, 119, 120, 121, 122, 123, 124, 125, 126] (by decide +kernel) (by decide +kernel)) (goodIn_sub (fun _ h => List.mem_cons_of_mem _ (List.mem_append_left _ (List.mem_append_right _ h))) (by decide +kernel))) (goodIn_sub (fun _ h => List.mem_cons_of_mem _ (List.mem_append_right _ h)) (by decide +kernel))
set_option maxRecDepth 20000 in
theorem gL_ask_X4_ask : GoodIn wsL_ask (wsV RL 30 RX4 yX4_ask wsX4_ask) := goodIn_app (goodIn_of _ (by decide +kernel)) ggL_ask_X4_ask
theorem dL_ask_0 : decode cL_ask 0 = .ok (.aload_n 3, 1) := by decide +kernel
theorem dL_ask_1 : decode cL_ask 1 = .ok (.iconst 0, 1) := by decide +kernel
theorem dL_ask_2 : decode cL_ask 2 = .ok (.aload_n 0, 1) := by decide +kernel
theorem dL_ask_3 : decode cL_ask 3 = .ok (.iload_n 1, 1) := by decide +kernel
theorem dL_ask_4 : decode cL_ask 4 = .ok (.iload_n 2, 1) := by decide +kernel
theorem dL_ask_5 : decode cL_ask 5 = .ok (.invokevirtual 30, 3) := by decide +kernel
theorem dL_ask_8 : decode cL_ask 8 = .ok (.i2l, 1) := by decide +kernel
theorem dL_ask_9 : decode cL_ask 9 = .ok (.lastore, 1) := by decide +kernel
theorem dL_ask_10 : decode cL_ask 10 = .ok (.goto 11, 3) := by decide +kernel
theorem dL_ask_13 : decode cL_ask 13 = .ok (.astore 4, 2) := by decide +kernel
theorem dL_ask_15 : decode cL_ask 15 = .ok (.iconst 1, 1) := by decide +kernel
theorem dL_ask_16 : decode cL_ask 16 = .ok (.ireturn, 1) := by decide +kernel
theorem dL_ask_17 : decode cL_ask 17 = .ok (.astore 4, 2) := by decide +kernel
theorem dL_ask_19 : decode cL_ask 19 = .ok (.iconst 2, 1) := by decide +kernel
theorem dL_ask_20 : decode cL_ask 20 = .ok (.ireturn, 1) := by decide +kernel
theorem dL_ask_21 : decode cL_ask 21 = .ok (.iconst 0, 1) := by decide +kernel
theorem dL_ask_22 : decode cL_ask 22 = .ok (.ireturn, 1) := by decide +kernel
set_option maxRecDepth 20000 in
theorem ggL_add_X4_add : GoodIn wsL_add wsX4_add := goodIn_ca (goodIn_ca (goodIn_r _ [7, 8, 9, 10, 11, 12, 13, 14, 15, 16, 17, 18, 19, 20, 21, 22, 23, 24, 25, 26, 27, 28, 29, 30, 31, 32, 33, 34, 35, 36, 37, 38, 39, 40, 41, 42, 43, 44, 45, 46, 47, 48, 49, 50, 51, 52, 53, 54, 55, 56, 57, 58, 59, 60, 61, 62, 63, 64, 65, 66, 6, 67, 68, 69, 70, 71, 72, 73, 74, 75, 76, 77, 78, 79, 80, 81, 82, 83, 84, 85, 86, 87, 88, 89, 90, 91, 92, 93, 94, 95, 96, 97, 98, 99, 100, 101, 102, 103] (by decide +kernel) (by decide +kernel)) (goodIn_sub (fun _ h => List.mem_cons_of_mem _ (List.mem_append_left _ (List.mem_append_right _ h))) (by decide +kernel))) (goodIn_sub (fun _ h => List.mem_cons_of_mem _ (List.mem_append_right _ h)) (by decide +kernel))
set_option maxRecDepth 20000 in
theorem gL_add_X4_add : GoodIn wsL_add (wsV RL 33 RX4 yX4_add wsX4_add) := goodIn_app (goodIn_of _ (by decide +kernel)) ggL_add_X4_add
theorem dL_add_0 : decode cL_add 0 = .ok (.aload_n 3, 1) := by decide +kernel
theorem dL_add_1 : decode cL_add 1 = .ok (.iconst 0, 1) := by decide +kernel
theorem dL_add_2 : decode cL_add 2 = .ok (.aload_n 0, 1) := by decide +kernel
theorem dL_add_3 : decode cL_add 3 = .ok (.iload_n 1, 1) := by decide +kernel
theorem dL_add_4 : decode cL_add 4 = .ok (.iload_n 2, 1) := by decide +kernel
theorem dL_add_5 : decode cL_add 5 = .ok (.invokevirtual 33, 3) := by decide +kernel
theorem dL_add_8 : decode cL_add 8 = .ok (.i2l, 1) := by decide +kernel
theorem dL_add_9 : decode cL_add 9 = .ok (.lastore, 1) := by decide +kernel
theorem dL_add_10 : decode cL_add 10 = .ok (.goto 11, 3) := by decide +kernel
theorem dL_add_13 : decode cL_add 13 = .ok (.astore 4, 2) := by decide +kernel
theorem dL_add_15 : decode cL_add 15 = .ok (.iconst 1, 1) := by decide +kernel
theorem dL_add_16 : decode cL_add 16 = .ok (.ireturn, 1) := by decide +kernel
theorem dL_add_17 : decode cL_add 17 = .ok (.astore 4, 2) := by decide +kernel
theorem dL_add_19 : decode cL_add 19 = .ok (.iconst 2, 1) := by decide +kernel
theorem dL_add_20 : decode cL_add 20 = .ok (.ireturn, 1) := by decide +kernel
theorem dL_add_21 : decode cL_add 21 = .ok (.iconst 0, 1) := by decide +kernel
theorem dL_add_22 : decode cL_add 22 = .ok (.ireturn, 1) := by decide +kernel
set_option maxRecDepth 20000 in
theorem ggL_removeLast_X4_removeLast : GoodIn wsL_removeLast wsX4_removeLast := goodIn_ca (goodIn_r _ [6, 7, 8, 9, 10, 11, 12, 13, 14, 15, 16, 17, 18, 19, 20, 21, 22, 23, 24, 25, 26, 27, 28, 29, 30, 31, 32, 33, 34, 35, 36, 37, 38, 39, 40, 41, 42, 43, 44, 45, 46, 47, 48, 5, 49, 50, 51, 52, 53, 54, 55, 56, 57, 58, 59, 60, 61, 62, 63, 64, 65, 66, 67, 68, 69, 70, 71, 72, 73, 74, 75, 76, 77, 78, 79] (by decide +kernel) (by decide +kernel)) (goodIn_sub (fun _ h => List.mem_cons_of_mem _ (List.mem_append_right _ h)) (by decide +kernel))
set_option maxRecDepth 20000 in
theorem gL_removeLast_X4_removeLast : GoodIn wsL_removeLast (wsV RL 36 RX4 yX4_removeLast wsX4_removeLast) := goodIn_app (goodIn_of _ (by decide +kernel)) ggL_removeLast_X4_removeLast
theorem dL_removeLast_0 : decode cL_removeLast 0 = .ok (.aload_n 1, 1) := by decide +kernel
theorem dL_removeLast_1 : decode cL_removeLast 1 = .ok (.iconst 0, 1) := by decide +kernel
theorem dL_removeLast_2 : decode cL_removeLast 2 = .ok (.aload_n 0, 1) := by decide +kernel
theorem dL_removeLast_3 : decode cL_removeLast 3 = .ok (.invokevirtual 36, 3) := by decide +kernel
theorem dL_removeLast_6 : decode cL_removeLast 6 = .ok (.i2l, 1) := by decide +kernel
theorem dL_removeLast_7 : decode cL_removeLast 7 = .ok (.lastore, 1) := by decide +kernel
theorem dL_removeLast_8 : decode cL_removeLast 8 = .ok (.goto 6, 3) := by decide +kernel
theorem dL_removeLast_11 : decode cL_removeLast 11 = .ok (.astore_n 2, 1) := by decide +kernel
theorem dL_removeLast_12 : decode cL_removeLast 12 = .ok (.iconst 1, 1) := by decide +kernel
theorem dL_removeLast_13 : decode cL_removeLast 13 = .ok (.ireturn, 1) := by decide +kernel
theorem dL_removeLast_14 : decode cL_removeLast 14 = .ok (.iconst 0, 1) := by decide +kernel
theorem dL_removeLast_15 : decode cL_removeLast 15 = .ok (.ireturn, 1) := by decide +kernel
set_option maxRecDepth 20000 in
theorem ggL_lies_X4_lies : GoodIn wsL_lies wsX4_lies := goodIn_ca (goodIn_r _ [6, 7, 8, 9, 10, 11, 12, 13, 14, 15, 16, 17, 18, 19, 20, 21, 5, 22, 23, 24, 25, 26, 27, 28, 29, 30, 31, 32, 33, 34] (by decide +kernel) (by decide +kernel)) (goodIn_sub (fun _ h => List.mem_cons_of_mem _ (List.mem_append_right _ h)) (by decide +kernel))
set_option maxRecDepth 20000 in
theorem gL_lies_X4_lies : GoodIn wsL_lies (wsV RL 40 RX4 yX4_lies wsX4_lies) := goodIn_app (goodIn_of _ (by decide +kernel)) ggL_lies_X4_lies
theorem dL_lies_0 : decode cL_lies 0 = .ok (.aload_n 2, 1) := by decide +kernel
theorem dL_lies_1 : decode cL_lies 1 = .ok (.iconst 0, 1) := by decide +kernel
theorem dL_lies_2 : decode cL_lies 2 = .ok (.aload_n 0, 1) := by decide +kernel
theorem dL_lies_3 : decode cL_lies 3 = .ok (.iload_n 1, 1) := by decide +kernel
theorem dL_lies_4 : decode cL_lies 4 = .ok (.invokevirtual 40, 3) := by decide +kernel
theorem dL_lies_7 : decode cL_lies 7 = .ok (.i2l, 1) := by decide +kernel
theorem dL_lies_8 : decode cL_lies 8 = .ok (.lastore, 1) := by decide +kernel
theorem dL_lies_9 : decode cL_lies 9 = .ok (.goto 6, 3) := by decide +kernel
theorem dL_lies_12 : decode cL_lies 12 = .ok (.astore_n 3, 1) := by decide +kernel
theorem dL_lies_13 : decode cL_lies 13 = .ok (.iconst 1, 1) := by decide +kernel
theorem dL_lies_14 : decode cL_lies 14 = .ok (.ireturn, 1) := by decide +kernel
theorem dL_lies_15 : decode cL_lies 15 = .ok (.iconst 0, 1) := by decide +kernel
theorem dL_lies_16 : decode cL_lies 16 = .ok (.ireturn, 1) := by decide +kernel
set_option maxRecDepth 20000 in
theorem ggL_answer_X4_answer : GoodIn wsL_answer wsX4_answer := goodIn_ca (goodIn_ca (goodIn_r _ [7, 8, 9, 10, 11, 12, 13, 14, 15, 16, 17, 18, 19, 20, 21, 22, 23, 24, 25, 26, 27, 28, 29, 30, 31, 32, 33, 34, 35, 6, 36, 37, 38, 39, 40, 41, 42, 43, 44, 45, 46, 47, 48, 49, 50, 51] (by decide +kernel) (by decide +kernel)) (goodIn_sub (fun _ h => List.mem_cons_of_mem _ (List.mem_append_left _ (List.mem_append_right _ h))) (by decide +kernel))) (goodIn_sub (fun _ h => List.mem_cons_of_mem _ (List.mem_append_right _ h)) (by decide +kernel))
set_option maxRecDepth 20000 in
theorem gL_answer_X4_answer : GoodIn wsL_answer (wsV RL 43 RX4 yX4_answer wsX4_answer) := goodIn_app (goodIn_of _ (by decide +kernel)) ggL_answer_X4_answer
theorem dL_answer_0 : decode cL_answer 0 = .ok (.aload 4, 2) := by decide +kernel
theorem dL_answer_2 : decode cL_answer 2 = .ok (.iconst 0, 1) := by decide +kernel
theorem dL_answer_3 : decode cL_answer 3 = .ok (.aload_n 0, 1) := by decide +kernel
theorem dL_answer_4 : decode cL_answer 4 = .ok (.iload_n 1, 1) := by decide +kernel
theorem dL_answer_5 : decode cL_answer 5 = .ok (.iload_n 2, 1) := by decide +kernel
theorem dL_answer_6 : decode cL_answer 6 = .ok (.iload_n 3, 1) := by decide +kernel
theorem dL_answer_7 : decode cL_answer 7 = .ok (.invokevirtual 43, 3) := by decide +kernel
theorem dL_answer_10 : decode cL_answer 10 = .ok (.i2l, 1) := by decide +kernel
theorem dL_answer_11 : decode cL_answer 11 = .ok (.lastore, 1) := by decide +kernel
theorem dL_answer_12 : decode cL_answer 12 = .ok (.goto 11, 3) := by decide +kernel
theorem dL_answer_15 : decode cL_answer 15 = .ok (.astore 5, 2) := by decide +kernel
theorem dL_answer_17 : decode cL_answer 17 = .ok (.iconst 1, 1) := by decide +kernel
theorem dL_answer_18 : decode cL_answer 18 = .ok (.ireturn, 1) := by decide +kernel
theorem dL_answer_19 : decode cL_answer 19 = .ok (.astore 5, 2) := by decide +kernel
theorem dL_answer_21 : decode cL_answer 21 = .ok (.iconst 2, 1) := by decide +kernel
theorem dL_answer_22 : decode cL_answer 22 = .ok (.ireturn, 1) := by decide +kernel
theorem dL_answer_23 : decode cL_answer 23 = .ok (.iconst 0, 1) := by decide +kernel
theorem dL_answer_24 : decode cL_answer 24 = .ok (.ireturn, 1) := by decide +kernel
set_option maxRecDepth 20000 in
theorem ggL_leftCase_X4_leftCase : GoodIn wsL_leftCase wsX4_leftCase := goodIn_ca (goodIn_r _ [6, 7, 8, 9, 10, 11, 12, 13, 14, 15, 16, 17, 18, 19, 20, 21, 22, 23, 24, 25, 26, 5, 27, 28, 29, 30, 31, 32, 33, 34, 35, 36, 37, 38, 39] (by decide +kernel) (by decide +kernel)) (goodIn_sub (fun _ h => List.mem_cons_of_mem _ (List.mem_append_right _ h)) (by decide +kernel))
set_option maxRecDepth 20000 in
theorem gL_leftCase_X4_leftCase : GoodIn wsL_leftCase (wsV RL 46 RX4 yX4_leftCase wsX4_leftCase) := goodIn_app (goodIn_of _ (by decide +kernel)) ggL_leftCase_X4_leftCase
theorem dL_leftCase_0 : decode cL_leftCase 0 = .ok (.aload_n 2, 1) := by decide +kernel
theorem dL_leftCase_1 : decode cL_leftCase 1 = .ok (.iconst 0, 1) := by decide +kernel
theorem dL_leftCase_2 : decode cL_leftCase 2 = .ok (.aload_n 0, 1) := by decide +kernel
theorem dL_leftCase_3 : decode cL_leftCase 3 = .ok (.iload_n 1, 1) := by decide +kernel
theorem dL_leftCase_4 : decode cL_leftCase 4 = .ok (.invokevirtual 46, 3) := by decide +kernel
theorem dL_leftCase_7 : decode cL_leftCase 7 = .ok (.i2l, 1) := by decide +kernel
theorem dL_leftCase_8 : decode cL_leftCase 8 = .ok (.lastore, 1) := by decide +kernel
theorem dL_leftCase_9 : decode cL_leftCase 9 = .ok (.goto 6, 3) := by decide +kernel
theorem dL_leftCase_12 : decode cL_leftCase 12 = .ok (.astore_n 3, 1) := by decide +kernel
theorem dL_leftCase_13 : decode cL_leftCase 13 = .ok (.iconst 1, 1) := by decide +kernel
theorem dL_leftCase_14 : decode cL_leftCase 14 = .ok (.ireturn, 1) := by decide +kernel
theorem dL_leftCase_15 : decode cL_leftCase 15 = .ok (.iconst 0, 1) := by decide +kernel
theorem dL_leftCase_16 : decode cL_leftCase 16 = .ok (.ireturn, 1) := by decide +kernel
set_option maxRecDepth 20000 in
theorem ggL_weighing_X4_weighing : GoodIn wsL_weighing wsX4_weighing := goodIn_ca (goodIn_ca (goodIn_r _ [7, 8, 9, 10, 11, 12, 13, 14, 15, 16, 17, 18, 19, 20, 21, 6, 22, 23, 24, 25, 26, 27, 28, 29, 30, 31, 32, 33, 34, 35, 36, 37, 38] (by decide +kernel) (by decide +kernel)) (goodIn_sub (fun _ h => List.mem_cons_of_mem _ (List.mem_append_left _ (List.mem_append_right _ h))) (by decide +kernel))) (goodIn_sub (fun _ h => List.mem_cons_of_mem _ (List.mem_append_right _ h)) (by decide +kernel))
set_option maxRecDepth 20000 in
theorem gL_weighing_X4_weighing : GoodIn wsL_weighing (wsV RL 49 RX4 yX4_weighing wsX4_weighing) := goodIn_app (goodIn_of _ (by decide +kernel)) ggL_weighing_X4_weighing
theorem dL_weighing_0 : decode cL_weighing 0 = .ok (.aload_n 3, 1) := by decide +kernel
theorem dL_weighing_1 : decode cL_weighing 1 = .ok (.iconst 0, 1) := by decide +kernel
theorem dL_weighing_2 : decode cL_weighing 2 = .ok (.aload_n 0, 1) := by decide +kernel
theorem dL_weighing_3 : decode cL_weighing 3 = .ok (.iload_n 1, 1) := by decide +kernel
theorem dL_weighing_4 : decode cL_weighing 4 = .ok (.iload_n 2, 1) := by decide +kernel
theorem dL_weighing_5 : decode cL_weighing 5 = .ok (.invokevirtual 49, 3) := by decide +kernel
theorem dL_weighing_8 : decode cL_weighing 8 = .ok (.i2l, 1) := by decide +kernel
theorem dL_weighing_9 : decode cL_weighing 9 = .ok (.lastore, 1) := by decide +kernel
theorem dL_weighing_10 : decode cL_weighing 10 = .ok (.goto 11, 3) := by decide +kernel
theorem dL_weighing_13 : decode cL_weighing 13 = .ok (.astore 4, 2) := by decide +kernel
theorem dL_weighing_15 : decode cL_weighing 15 = .ok (.iconst 1, 1) := by decide +kernel
theorem dL_weighing_16 : decode cL_weighing 16 = .ok (.ireturn, 1) := by decide +kernel
theorem dL_weighing_17 : decode cL_weighing 17 = .ok (.astore 4, 2) := by decide +kernel
theorem dL_weighing_19 : decode cL_weighing 19 = .ok (.iconst 2, 1) := by decide +kernel
theorem dL_weighing_20 : decode cL_weighing 20 = .ok (.ireturn, 1) := by decide +kernel
theorem dL_weighing_21 : decode cL_weighing 21 = .ok (.iconst 0, 1) := by decide +kernel
theorem dL_weighing_22 : decode cL_weighing 22 = .ok (.ireturn, 1) := by decide +kernel
set_option maxRecDepth 20000 in
theorem ggL_value_X4_value : GoodIn wsL_value wsX4_value := goodIn_ca (goodIn_r _ [6, 7, 8, 9, 10, 11, 12, 13, 14, 15, 16, 17, 18, 19, 20, 21, 22, 23, 24, 25, 26, 27, 28, 29, 30, 31, 32, 33, 34, 5, 35, 36, 37, 38, 39, 40, 41, 42, 43, 44, 45, 46, 47, 48, 49, 50, 51, 52, 53, 54, 55, 56, 57] (by decide +kernel) (by decide +kernel)) (goodIn_sub (fun _ h => List.mem_cons_of_mem _ (List.mem_append_right _ h)) (by decide +kernel))
set_option maxRecDepth 20000 in
theorem gL_value_X4_value : GoodIn wsL_value (wsV RL 52 RX4 yX4_value wsX4_value) := goodIn_app (goodIn_of _ (by decide +kernel)) ggL_value_X4_value
theorem dL_value_0 : decode cL_value 0 = .ok (.aload_n 2, 1) := by decide +kernel
theorem dL_value_1 : decode cL_value 1 = .ok (.iconst 0, 1) := by decide +kernel
theorem dL_value_2 : decode cL_value 2 = .ok (.aload_n 0, 1) := by decide +kernel
theorem dL_value_3 : decode cL_value 3 = .ok (.iload_n 1, 1) := by decide +kernel
theorem dL_value_4 : decode cL_value 4 = .ok (.invokevirtual 52, 3) := by decide +kernel
theorem dL_value_7 : decode cL_value 7 = .ok (.i2l, 1) := by decide +kernel
theorem dL_value_8 : decode cL_value 8 = .ok (.lastore, 1) := by decide +kernel
theorem dL_value_9 : decode cL_value 9 = .ok (.goto 6, 3) := by decide +kernel
theorem dL_value_12 : decode cL_value 12 = .ok (.astore_n 3, 1) := by decide +kernel
theorem dL_value_13 : decode cL_value 13 = .ok (.iconst 1, 1) := by decide +kernel
theorem dL_value_14 : decode cL_value 14 = .ok (.ireturn, 1) := by decide +kernel
theorem dL_value_15 : decode cL_value 15 = .ok (.iconst 0, 1) := by decide +kernel
theorem dL_value_16 : decode cL_value 16 = .ok (.ireturn, 1) := by decide +kernel
set_option maxRecDepth 20000 in
theorem ggL_weight_X4_weight : GoodIn wsL_weight wsX4_weight := goodIn_ca (goodIn_r _ [6, 7, 8, 9, 10, 11, 5, 12, 13, 14, 15, 16, 17, 18, 19, 20, 21, 22, 23, 24, 25, 26, 27, 28, 29, 30, 31, 32, 33, 34, 35, 36, 37, 38, 39, 40, 41, 42, 43, 44, 45, 46, 47, 48] (by decide +kernel) (by decide +kernel)) (goodIn_sub (fun _ h => List.mem_cons_of_mem _ (List.mem_append_right _ h)) (by decide +kernel))
set_option maxRecDepth 20000 in
theorem gL_weight_X4_weight : GoodIn wsL_weight (wsV RL 55 RX4 yX4_weight wsX4_weight) := goodIn_app (goodIn_of _ (by decide +kernel)) ggL_weight_X4_weight
theorem dL_weight_0 : decode cL_weight 0 = .ok (.aload_n 2, 1) := by decide +kernel
theorem dL_weight_1 : decode cL_weight 1 = .ok (.iconst 0, 1) := by decide +kernel
theorem dL_weight_2 : decode cL_weight 2 = .ok (.aload_n 0, 1) := by decide +kernel
theorem dL_weight_3 : decode cL_weight 3 = .ok (.iload_n 1, 1) := by decide +kernel
theorem dL_weight_4 : decode cL_weight 4 = .ok (.invokevirtual 55, 3) := by decide +kernel
theorem dL_weight_7 : decode cL_weight 7 = .ok (.lastore, 1) := by decide +kernel
theorem dL_weight_8 : decode cL_weight 8 = .ok (.goto 6, 3) := by decide +kernel
theorem dL_weight_11 : decode cL_weight 11 = .ok (.astore_n 3, 1) := by decide +kernel
theorem dL_weight_12 : decode cL_weight 12 = .ok (.iconst 1, 1) := by decide +kernel
theorem dL_weight_13 : decode cL_weight 13 = .ok (.ireturn, 1) := by decide +kernel
theorem dL_weight_14 : decode cL_weight 14 = .ok (.iconst 0, 1) := by decide +kernel
theorem dL_weight_15 : decode cL_weight 15 = .ok (.ireturn, 1) := by decide +kernel
set_option maxRecDepth 20000 in
theorem ggL_weightBehind_X4_weightBehind : GoodIn wsL_weightBehind wsX4_weightBehind := goodIn_ca (goodIn_r _ [6, 7, 8, 9, 10, 11, 12, 13, 14, 15, 16, 17, 18, 19, 20, 21, 22, 23, 24, 5, 25, 26, 27, 28, 29, 30, 31, 32, 33, 34, 35, 36, 37, 38, 39, 40, 41, 42, 43, 44, 45, 46, 47, 48, 49, 50, 51, 52, 53, 54, 55, 56, 57, 58, 59, 60, 61, 62, 63, 64, 65, 66, 67, 68, 69, 70, 71] (by decide +kernel) (by decide +kernel)) (goodIn_sub (fun _ h => List.mem_cons_of_mem _ (List.mem_append_right _ h)) (by decide +kernel))
set_option maxRecDepth 20000 in
theorem gL_weightBehind_X4_weightBehind : GoodIn wsL_weightBehind (wsV RL 59 RX4 yX4_weightBehind wsX4_weightBehind) := goodIn_app (goodIn_of _ (by decide +kernel)) ggL_weightBehind_X4_weightBehind
theorem dL_weightBehind_0 : decode cL_weightBehind 0 = .ok (.aload 5, 2) := by decide +kernel
theorem dL_weightBehind_2 : decode cL_weightBehind 2 = .ok (.iconst 0, 1) := by decide +kernel
theorem dL_weightBehind_3 : decode cL_weightBehind 3 = .ok (.aload_n 0, 1) := by decide +kernel
theorem dL_weightBehind_4 : decode cL_weightBehind 4 = .ok (.iload_n 1, 1) := by decide +kernel
theorem dL_weightBehind_5 : decode cL_weightBehind 5 = .ok (.iload_n 2, 1) := by decide +kernel
theorem dL_weightBehind_6 : decode cL_weightBehind 6 = .ok (.iload_n 3, 1) := by decide +kernel
theorem dL_weightBehind_7 : decode cL_weightBehind 7 = .ok (.iload 4, 2) := by decide +kernel
theorem dL_weightBehind_9 : decode cL_weightBehind 9 = .ok (.invokevirtual 59, 3) := by decide +kernel
theorem dL_weightBehind_12 : decode cL_weightBehind 12 = .ok (.lastore, 1) := by decide +kernel
theorem dL_weightBehind_13 : decode cL_weightBehind 13 = .ok (.goto 7, 3) := by decide +kernel
theorem dL_weightBehind_16 : decode cL_weightBehind 16 = .ok (.astore 6, 2) := by decide +kernel
theorem dL_weightBehind_18 : decode cL_weightBehind 18 = .ok (.iconst 1, 1) := by decide +kernel
theorem dL_weightBehind_19 : decode cL_weightBehind 19 = .ok (.ireturn, 1) := by decide +kernel
theorem dL_weightBehind_20 : decode cL_weightBehind 20 = .ok (.iconst 0, 1) := by decide +kernel
theorem dL_weightBehind_21 : decode cL_weightBehind 21 = .ok (.ireturn, 1) := by decide +kernel
set_option maxRecDepth 20000 in
theorem ggL_bestGroup_X4_bestGroup : GoodIn wsL_bestGroup wsX4_bestGroup := goodIn_ca (goodIn_r _ [6, 7, 8, 9, 10, 11, 5, 12, 13, 14, 15, 16, 17, 18, 19, 20, 21, 22, 23, 24, 25, 26, 27, 28, 29, 30, 31, 32, 33, 34, 35, 36, 37, 38, 39, 40, 41, 42, 43, 44, 45, 46, 47, 48, 49, 50, 51, 52, 53, 54, 55, 56, 57, 58, 59, 60, 61, 62, 63, 64, 65, 66, 67, 68] (by decide +kernel) (by decide +kernel)) (goodIn_sub (fun _ h => List.mem_cons_of_mem _ (List.mem_append_right _ h)) (by decide +kernel))
set_option maxRecDepth 20000 in
theorem gL_bestGroup_X4_bestGroup : GoodIn wsL_bestGroup (wsV RL 63 RX4 yX4_bestGroup wsX4_bestGroup) := goodIn_app (goodIn_of _ (by decide +kernel)) ggL_bestGroup_X4_bestGroup
theorem dL_bestGroup_0 : decode cL_bestGroup 0 = .ok (.aload_n 2, 1) := by decide +kernel
theorem dL_bestGroup_1 : decode cL_bestGroup 1 = .ok (.iconst 0, 1) := by decide +kernel
theorem dL_bestGroup_2 : decode cL_bestGroup 2 = .ok (.aload_n 0, 1) := by decide +kernel
theorem dL_bestGroup_3 : decode cL_bestGroup 3 = .ok (.iload_n 1, 1) := by decide +kernel
theorem dL_bestGroup_4 : decode cL_bestGroup 4 = .ok (.invokevirtual 63, 3) := by decide +kernel
theorem dL_bestGroup_7 : decode cL_bestGroup 7 = .ok (.i2l, 1) := by decide +kernel
theorem dL_bestGroup_8 : decode cL_bestGroup 8 = .ok (.lastore, 1) := by decide +kernel
theorem dL_bestGroup_9 : decode cL_bestGroup 9 = .ok (.goto 6, 3) := by decide +kernel
theorem dL_bestGroup_12 : decode cL_bestGroup 12 = .ok (.astore_n 3, 1) := by decide +kernel
theorem dL_bestGroup_13 : decode cL_bestGroup 13 = .ok (.iconst 1, 1) := by decide +kernel
theorem dL_bestGroup_14 : decode cL_bestGroup 14 = .ok (.ireturn, 1) := by decide +kernel
theorem dL_bestGroup_15 : decode cL_bestGroup 15 = .ok (.iconst 0, 1) := by decide +kernel
theorem dL_bestGroup_16 : decode cL_bestGroup 16 = .ok (.ireturn, 1) := by decide +kernel
set_option maxRecDepth 20000 in
theorem ggL_teaches_X4_teaches : GoodIn wsL_teaches wsX4_teaches := goodIn_ca (goodIn_r _ [6, 7, 8, 9, 10, 11, 12, 13, 14, 15, 16, 17, 18, 19, 20, 21, 22, 23, 24, 25, 26, 27, 28, 29, 30, 31, 32, 33, 34, 35, 36, 37, 5, 38, 39, 40, 41, 42, 43, 44, 45, 46, 47, 48, 49, 50, 51, 52, 53, 54, 55] (by decide +kernel) (by decide +kernel)) (goodIn_sub (fun _ h => List.mem_cons_of_mem _ (List.mem_append_right _ h)) (by decide +kernel))
set_option maxRecDepth 20000 in
theorem gL_teaches_X4_teaches : GoodIn wsL_teaches (wsV RL 66 RX4 yX4_teaches wsX4_teaches) := goodIn_app (goodIn_of _ (by decide +kernel)) ggL_teaches_X4_teaches
theorem dL_teaches_0 : decode cL_teaches 0 = .ok (.aload_n 3, 1) := by decide +kernel
theorem dL_teaches_1 : decode cL_teaches 1 = .ok (.iconst 0, 1) := by decide +kernel
theorem dL_teaches_2 : decode cL_teaches 2 = .ok (.aload_n 0, 1) := by decide +kernel
theorem dL_teaches_3 : decode cL_teaches 3 = .ok (.iload_n 1, 1) := by decide +kernel
theorem dL_teaches_4 : decode cL_teaches 4 = .ok (.iload_n 2, 1) := by decide +kernel
theorem dL_teaches_5 : decode cL_teaches 5 = .ok (.invokevirtual 66, 3) := by decide +kernel
theorem dL_teaches_8 : decode cL_teaches 8 = .ok (.ifCond .eq 7, 3) := by decide +kernel
theorem dL_teaches_11 : decode cL_teaches 11 = .ok (.lconst 1, 1) := by decide +kernel
theorem dL_teaches_12 : decode cL_teaches 12 = .ok (.goto 4, 3) := by decide +kernel
theorem dL_teaches_15 : decode cL_teaches 15 = .ok (.lconst 0, 1) := by decide +kernel
theorem dL_teaches_16 : decode cL_teaches 16 = .ok (.lastore, 1) := by decide +kernel
theorem dL_teaches_17 : decode cL_teaches 17 = .ok (.goto 7, 3) := by decide +kernel
theorem dL_teaches_20 : decode cL_teaches 20 = .ok (.astore 4, 2) := by decide +kernel
theorem dL_teaches_22 : decode cL_teaches 22 = .ok (.iconst 1, 1) := by decide +kernel
theorem dL_teaches_23 : decode cL_teaches 23 = .ok (.ireturn, 1) := by decide +kernel
theorem dL_teaches_24 : decode cL_teaches 24 = .ok (.iconst 0, 1) := by decide +kernel
theorem dL_teaches_25 : decode cL_teaches 25 = .ok (.ireturn, 1) := by decide +kernel
set_option maxRecDepth 20000 in
theorem ggL_distance_X4_distance : GoodIn wsL_distance wsX4_distance := goodIn_ca (goodIn_r _ [6, 7, 8, 9, 10, 11, 12, 13, 14, 15, 16, 17, 18, 19, 20, 21, 22, 23, 24, 25, 26, 27, 28, 5, 29, 30, 31, 32, 33, 34, 35, 36, 37, 38, 39, 40, 41, 42, 43, 44, 45, 46, 47, 48, 49, 50, 51, 52, 53, 54, 55, 56, 57, 58, 59, 60] (by decide +kernel) (by decide +kernel)) (goodIn_sub (fun _ h => List.mem_cons_of_mem _ (List.mem_append_right _ h)) (by decide +kernel))
set_option maxRecDepth 20000 in
theorem gL_distance_X4_distance : GoodIn wsL_distance (wsV RL 70 RX4 yX4_distance wsX4_distance) := goodIn_app (goodIn_of _ (by decide +kernel)) ggL_distance_X4_distance
theorem dL_distance_0 : decode cL_distance 0 = .ok (.aload_n 3, 1) := by decide +kernel
theorem dL_distance_1 : decode cL_distance 1 = .ok (.iconst 0, 1) := by decide +kernel
theorem dL_distance_2 : decode cL_distance 2 = .ok (.aload_n 0, 1) := by decide +kernel
theorem dL_distance_3 : decode cL_distance 3 = .ok (.iload_n 1, 1) := by decide +kernel
theorem dL_distance_4 : decode cL_distance 4 = .ok (.iload_n 2, 1) := by decide +kernel
theorem dL_distance_5 : decode cL_distance 5 = .ok (.invokevirtual 70, 3) := by decide +kernel
theorem dL_distance_8 : decode cL_distance 8 = .ok (.i2l, 1) := by decide +kernel
theorem dL_distance_9 : decode cL_distance 9 = .ok (.lastore, 1) := by decide +kernel
theorem dL_distance_10 : decode cL_distance 10 = .ok (.goto 7, 3) := by decide +kernel
theorem dL_distance_13 : decode cL_distance 13 = .ok (.astore 4, 2) := by decide +kernel
theorem dL_distance_15 : decode cL_distance 15 = .ok (.iconst 1, 1) := by decide +kernel
theorem dL_distance_16 : decode cL_distance 16 = .ok (.ireturn, 1) := by decide +kernel
theorem dL_distance_17 : decode cL_distance 17 = .ok (.iconst 0, 1) := by decide +kernel
theorem dL_distance_18 : decode cL_distance 18 = .ok (.ireturn, 1) := by decide +kernel
set_option maxRecDepth 20000 in
theorem ggL_decode_X4_decode : GoodIn wsL_decode wsX4_decode := goodIn_ca (goodIn_r _ [6, 7, 8, 9, 10, 11, 12, 13, 14, 15, 16, 17, 5, 18, 19, 20, 21, 22, 23, 24, 25, 26, 27, 28, 29, 30, 31, 32, 33, 34, 35, 36, 37, 38, 39, 40, 41, 42, 43, 44, 45, 46, 47, 48, 49, 50, 51, 52, 53, 54, 55, 56, 57, 58, 59, 60, 61, 62, 63, 64, 65, 66, 67] (by decide +kernel) (by decide +kernel)) (goodIn_sub (fun _ h => List.mem_cons_of_mem _ (List.mem_append_right _ h)) (by decide +kernel))
set_option maxRecDepth 20000 in
theorem gL_decode_X4_decode : GoodIn wsL_decode (wsV RL 73 RX4 yX4_decode wsX4_decode) := goodIn_app (goodIn_of _ (by decide +kernel)) ggL_decode_X4_decode
theorem dL_decode_0 : decode cL_decode 0 = .ok (.aload_n 2, 1) := by decide +kernel
theorem dL_decode_1 : decode cL_decode 1 = .ok (.iconst 0, 1) := by decide +kernel
theorem dL_decode_2 : decode cL_decode 2 = .ok (.aload_n 0, 1) := by decide +kernel
theorem dL_decode_3 : decode cL_decode 3 = .ok (.iload_n 1, 1) := by decide +kernel
theorem dL_decode_4 : decode cL_decode 4 = .ok (.invokevirtual 73, 3) := by decide +kernel
theorem dL_decode_7 : decode cL_decode 7 = .ok (.i2l, 1) := by decide +kernel
theorem dL_decode_8 : decode cL_decode 8 = .ok (.lastore, 1) := by decide +kernel
theorem dL_decode_9 : decode cL_decode 9 = .ok (.goto 6, 3) := by decide +kernel
theorem dL_decode_12 : decode cL_decode 12 = .ok (.astore_n 3, 1) := by decide +kernel
theorem dL_decode_13 : decode cL_decode 13 = .ok (.iconst 1, 1) := by decide +kernel
theorem dL_decode_14 : decode cL_decode 14 = .ok (.ireturn, 1) := by decide +kernel
theorem dL_decode_15 : decode cL_decode 15 = .ok (.iconst 0, 1) := by decide +kernel
theorem dL_decode_16 : decode cL_decode 16 = .ok (.ireturn, 1) := by decide +kernel
set_option maxRecDepth 20000 in
theorem ggL_append_X4_append : GoodIn wsL_append wsX4_append := goodIn_ca (goodIn_ca (goodIn_r _ [7, 8, 9, 10, 11, 12, 13, 14, 15, 16, 17, 18, 19, 20, 6, 21, 22, 23, 24, 25, 26, 27, 28, 29, 30, 31, 32, 33] (by decide +kernel) (by decide +kernel)) (goodIn_sub (fun _ h => List.mem_cons_of_mem _ (List.mem_append_left _ (List.mem_append_right _ h))) (by decide +kernel))) (goodIn_sub (fun _ h => List.mem_cons_of_mem _ (List.mem_append_right _ h)) (by decide +kernel))
set_option maxRecDepth 20000 in
theorem gL_append_X4_append : GoodIn wsL_append (wsV RL 76 RX4 yX4_append wsX4_append) := goodIn_app (goodIn_of _ (by decide +kernel)) ggL_append_X4_append
theorem dL_append_0 : decode cL_append 0 = .ok (.aload_n 2, 1) := by decide +kernel
theorem dL_append_1 : decode cL_append 1 = .ok (.iconst 0, 1) := by decide +kernel
theorem dL_append_2 : decode cL_append 2 = .ok (.aload_n 0, 1) := by decide +kernel
theorem dL_append_3 : decode cL_append 3 = .ok (.iload_n 1, 1) := by decide +kernel
theorem dL_append_4 : decode cL_append 4 = .ok (.invokevirtual 76, 3) := by decide +kernel
theorem dL_append_7 : decode cL_append 7 = .ok (.i2l, 1) := by decide +kernel
theorem dL_append_8 : decode cL_append 8 = .ok (.lastore, 1) := by decide +kernel
theorem dL_append_9 : decode cL_append 9 = .ok (.goto 9, 3) := by decide +kernel
theorem dL_append_12 : decode cL_append 12 = .ok (.astore_n 3, 1) := by decide +kernel
theorem dL_append_13 : decode cL_append 13 = .ok (.iconst 1, 1) := by decide +kernel
theorem dL_append_14 : decode cL_append 14 = .ok (.ireturn, 1) := by decide +kernel
theorem dL_append_15 : decode cL_append 15 = .ok (.astore_n 3, 1) := by decide +kernel
theorem dL_append_16 : decode cL_append 16 = .ok (.iconst 2, 1) := by decide +kernel
theorem dL_append_17 : decode cL_append 17 = .ok (.ireturn, 1) := by decide +kernel
theorem dL_append_18 : decode cL_append 18 = .ok (.iconst 0, 1) := by decide +kernel
theorem dL_append_19 : decode cL_append 19 = .ok (.ireturn, 1) := by decide +kernel
set_option maxRecDepth 20000 in
theorem ggL_undo_X4_undo : GoodIn wsL_undo wsX4_undo := goodIn_ca (goodIn_r _ [6, 7, 8, 9, 10, 11, 12, 13, 14, 15, 16, 17, 18, 19, 20, 21, 22, 23, 24, 25, 26, 27, 28, 29, 30, 31, 32, 33, 34, 35, 36, 37, 38, 39, 40, 41, 42, 43, 44, 5, 45, 46, 47, 48, 49, 50, 51, 52, 53, 54, 55, 56, 57, 58, 59, 60, 61, 62, 63, 64, 65, 66, 67, 68, 69, 70, 71] (by decide +kernel) (by decide +kernel)) (goodIn_sub (fun _ h => List.mem_cons_of_mem _ (List.mem_append_right _ h)) (by decide +kernel))
set_option maxRecDepth 20000 in
theorem gL_undo_X4_undo : GoodIn wsL_undo (wsV RL 79 RX4 yX4_undo wsX4_undo) := goodIn_app (goodIn_of _ (by decide +kernel)) ggL_undo_X4_undo
theorem dL_undo_0 : decode cL_undo 0 = .ok (.aload_n 1, 1) := by decide +kernel
theorem dL_undo_1 : decode cL_undo 1 = .ok (.iconst 0, 1) := by decide +kernel
theorem dL_undo_2 : decode cL_undo 2 = .ok (.aload_n 0, 1) := by decide +kernel
theorem dL_undo_3 : decode cL_undo 3 = .ok (.invokevirtual 79, 3) := by decide +kernel
theorem dL_undo_6 : decode cL_undo 6 = .ok (.i2l, 1) := by decide +kernel
theorem dL_undo_7 : decode cL_undo 7 = .ok (.lastore, 1) := by decide +kernel
theorem dL_undo_8 : decode cL_undo 8 = .ok (.goto 6, 3) := by decide +kernel
theorem dL_undo_11 : decode cL_undo 11 = .ok (.astore_n 2, 1) := by decide +kernel
theorem dL_undo_12 : decode cL_undo 12 = .ok (.iconst 1, 1) := by decide +kernel
theorem dL_undo_13 : decode cL_undo 13 = .ok (.ireturn, 1) := by decide +kernel
theorem dL_undo_14 : decode cL_undo 14 = .ok (.iconst 0, 1) := by decide +kernel
theorem dL_undo_15 : decode cL_undo 15 = .ok (.ireturn, 1) := by decide +kernel
set_option maxRecDepth 20000 in
theorem ggL_law_X4_init : GoodIn wsL_law wsX4_init := goodIn_r _ [9, 10, 11, 12, 13, 14, 15, 16, 17, 18, 19, 20, 21, 22, 23, 24, 25, 26, 27, 28, 29, 30, 31, 32, 33, 34, 35, 36, 37, 38, 39, 40, 41, 42, 43, 44, 45, 46, 47, 48, 49, 50, 51, 52, 53, 54, 55, 56, 57, 58, 59, 60, 61, 62, 63, 64, 65, 2, 66, 67, 68, 69, 70, 71, 72, 73, 74, 75, 76, 77, 78, 79, 80, 81, 812, 813, 814, 815, 816, 817, 818, 819, 820, 798, 799, 800, 821, 822, 823, 824, 825, 826, 827, 828, 829, 830, 831, 832, 833, 834, 835] (by decide +kernel) (by decide +kernel)
set_option maxRecDepth 20000 in
theorem gL_law_X4_init : GoodIn wsL_law (wsX4_init) := ggL_law_X4_init
set_option maxRecDepth 20000 in
theorem ggL_law_X5_init : GoodIn wsL_law wsX5_init := goodIn_r _ [84, 85, 11, 12, 34, 86, 87, 88, 89, 90, 91, 92, 93, 5, 94, 801, 802, 803, 804, 805, 806, 807, 808, 809, 810, 811] (by decide +kernel) (by decide +kernel)
set_option maxRecDepth 20000 in
theorem gL_law_X5_init : GoodIn wsL_law (wsX5_init) := ggL_law_X5_init
set_option maxRecDepth 20000 in
theorem ggL_law_L_begin : GoodIn wsL_law wsL_begin := goodIn_ca (goodIn_r _ [98, 99, 100, 101, 102, 2, 103, 104, 105, 20, 16, 106, 107, 108, 19, 109, 110, 72, 111, 112, 113, 114, 115, 116, 117, 118, 119, 120, 121, 15, 122, 32, 33, 35, 52, 53, 58, 59, 60, 123, 124, 125, 31, 126, 45, 46, 47, 127, 128, 129, 130, 131, 43, 132, 133, 134, 135, 136, 137, 49, 50, 51, 54, 55, 56, 57, 61, 62, 63, 64, 65, 66, 798, 799, 800, 812, 813, 814, 815, 816, 817, 818, 819, 820, 832, 833, 834, 835, 821, 822] (by decide +kernel) (by decide +kernel)) (goodIn_sub (fun _ h => List.mem_append_left _ (List.mem_append_left _ (List.mem_append_right _ h))) (by decide +kernel))
set_option maxRecDepth 20000 in
theorem gL_law_L_begin : GoodIn wsL_law (va_wsS RL 86 yL_begin wsL_begin) := goodIn_app (goodIn_of _ (by decide +kernel)) ggL_law_L_begin
set_option maxRecDepth 20000 in
theorem ggL_law_X5_begin : GoodIn wsL_law wsX5_begin := goodIn_r _ [141, 86, 142, 143, 5, 144, 145, 146, 147, 148, 149, 150, 151, 152, 153, 88, 91, 92, 93, 94, 154, 155, 156, 157, 158, 87, 159, 160, 161, 162, 801, 802, 803, 804, 805, 806, 807, 808, 809, 810, 811] (by decide +kernel) (by decide +kernel)
set_option maxRecDepth 20000 in
theorem gL_law_X5_begin : GoodIn wsL_law (wsV RL 91 RX5 yX5_begin wsX5_begin) := goodIn_app (goodIn_of _ (by decide +kernel)) ggL_law_X5_begin
set_option maxRecDepth 20000 in
theorem ggL_law_X5_thrown : GoodIn wsL_law wsX5_thrown := goodIn_r _ [166, 149, 801, 802, 803, 804, 805, 806, 807, 808, 809, 810, 811] (by decide +kernel) (by decide +kernel)
set_option maxRecDepth 20000 in
theorem gL_law_X5_thrown : GoodIn wsL_law (wsV RL 92 RX5 yX5_thrown wsX5_thrown) := goodIn_app (goodIn_of _ (by decide +kernel)) ggL_law_X5_thrown
set_option maxRecDepth 20000 in
theorem ggL_law_L_setLimit : GoodIn wsL_law wsL_setLimit := goodIn_ca (goodIn_r _ [169, 99, 170, 171, 172, 2, 173, 104, 105, 20, 16, 106, 107, 108, 19, 109, 110, 72, 111, 112, 113, 114, 115, 116, 117, 118, 119, 120, 121, 15, 122, 32, 33, 35, 52, 53, 58, 59, 60, 123, 124, 125, 31, 126, 45, 46, 47, 127, 128, 129, 130, 131, 43, 132, 133, 134, 135, 136, 174, 175, 176, 177, 178, 179, 180, 181, 182, 183, 184, 185, 186, 187, 798, 799, 800, 812, 813, 814, 815, 816, 817, 818, 819, 820, 821, 822, 832, 833, 834, 835] (by decide +kernel) (by decide +kernel)) (goodIn_sub (fun _ h => List.mem_append_left _ (List.mem_append_left _ (List.mem_append_right _ h))) (by decide +kernel))
set_option maxRecDepth 20000 in
theorem gL_law_L_setLimit : GoodIn wsL_law (va_wsS RL 95 yL_setLimit wsL_setLimit) := goodIn_app (goodIn_of _ (by decide +kernel)) ggL_law_L_setLimit
set_option maxRecDepth 20000 in
theorem ggL_law_X5_setLimit : GoodIn wsL_law wsX5_setLimit := goodIn_r _ [191, 86, 142, 143, 5, 144, 145, 146, 147, 148, 149, 150, 151, 152, 153, 88, 192, 193, 194, 195, 196, 197, 198, 199, 200, 201, 202, 203, 154, 155, 156, 157, 158, 87, 159, 160, 161, 162, 801, 802, 803, 804, 805, 806, 807, 808, 809, 810, 811] (by decide +kernel) (by decide +kernel)
set_option maxRecDepth 20000 in
theorem gL_law_X5_setLimit : GoodIn wsL_law (wsV RL 97 RX5 yX5_setLimit wsX5_setLimit) := goodIn_app (goodIn_of _ (by decide +kernel)) ggL_law_X5_setLimit
set_option maxRecDepth 20000 in
theorem ggL_law_L_tell : GoodIn wsL_law wsL_tell := goodIn_ca (goodIn_ca (goodIn_r _ [206, 99, 207, 208, 209, 210, 2, 211, 104, 105, 212, 213, 16, 20, 214, 215, 216, 15, 217, 52, 218, 219, 220, 221, 222, 223, 224, 225, 226, 227, 228, 229, 230, 231, 32, 106, 107, 108, 19, 109, 110, 72, 111, 112, 113, 114, 115, 116, 117, 118, 119, 120, 121, 122, 33, 35, 53, 58, 59, 60, 123, 124, 125, 31, 126, 45, 46, 47, 127, 128, 129, 130, 131, 43, 132, 133, 134, 135, 136, 232, 233, 234, 235, 236, 237, 238, 239, 65, 66, 178, 179, 180, 181, 240, 241, 242, 243, 186, 187, 244, 245, 246, 247, 248, 174, 175, 176, 177, 182, 183, 184, 185, 798, 799, 800, 812, 813, 814, 815, 816, 817, 818, 819, 820, 832, 833, 834, 835, 821, 822] (by decide +kernel) (by decide +kernel)) (goodIn_sub (fun _ h => List.mem_append_left _ (List.mem_append_left _ (List.mem_append_right _ h))) (by decide +kernel))) (goodIn_sub (fun _ h => List.mem_append_left _ (List.mem_append_right _ h)) (by decide +kernel))
set_option maxRecDepth 20000 in
theorem gL_law_L_tell : GoodIn wsL_law (va_wsS RL 98 yL_tell wsL_tell) := goodIn_app (goodIn_of _ (by decide +kernel)) ggL_law_L_tell
set_option maxRecDepth 20000 in
theorem ggL_law_X5_tell : GoodIn wsL_law wsX5_tell := goodIn_r _ [252, 253, 254, 255, 5, 256, 86, 257, 258, 259, 260, 142, 143, 144, 261, 262, 263, 145, 146, 147, 148, 149, 150, 151, 152, 153, 88, 264, 265, 266, 267, 196, 197, 198, 199, 268, 269, 270, 192, 193, 194, 195, 200, 201, 202, 203, 154, 155, 156, 157, 158, 87, 159, 160, 161, 162, 801, 802, 803, 804, 805, 806, 807, 808, 809, 810, 811] (by decide +kernel) (by decide +kernel)
set_option maxRecDepth 20000 in
theorem gL_law_X5_tell : GoodIn wsL_law (wsV RL 101 RX5 yX5_tell wsX5_tell) := goodIn_app (goodIn_of _ (by decide +kernel)) ggL_law_X5_tell
set_option maxRecDepth 20000 in
theorem ggL_law_X4_forget : GoodIn wsL_law wsX4_forget := goodIn_r _ [274, 20, 16, 106, 107, 108, 19, 109, 110, 72, 111, 112, 113, 114, 115, 116, 117, 118, 119, 120, 121, 15, 122, 32, 33, 35, 52, 53, 58, 59, 60, 123, 124, 125, 31, 126, 45, 46, 47, 127, 128, 2, 129, 130, 131, 43, 132, 133, 134, 135, 136, 275, 62, 63, 64, 65, 66, 798, 799, 800, 812, 813, 814, 815, 816, 817, 818, 819, 820, 832, 833, 834, 835, 821, 822] (by decide +kernel) (by decide +kernel)
set_option maxRecDepth 20000 in
theorem gL_law_X4_forget : GoodIn wsL_law (wsV RL 102 RX4 yX4_forget wsX4_forget) := goodIn_app (goodIn_of _ (by decide +kernel)) ggL_law_X4_forget
set_option maxRecDepth 20000 in
theorem ggL_law_X5_forget : GoodIn wsL_law wsX5_forget := goodIn_r _ [279, 86, 150, 151, 152, 5, 153, 88, 154, 155, 156, 157, 158, 87, 159, 160, 161, 162, 149, 801, 802, 803, 804, 805, 806, 807, 808, 809, 810, 811] (by decide +kernel) (by decide +kernel)
set_option maxRecDepth 20000 in
theorem gL_law_X5_forget : GoodIn wsL_law (wsV RL 105 RX5 yX5_forget wsX5_forget) := goodIn_app (goodIn_of _ (by decide +kernel)) ggL_law_X5_forget
set_option maxRecDepth 20000 in
theorem ggL_law_L_hide : GoodIn wsL_law wsL_hide := goodIn_ca (goodIn_ca (goodIn_r _ [282, 283, 99, 284, 285, 286, 2, 287, 288, 289, 104, 105, 16, 290, 20, 291, 292, 293, 15, 294, 178, 179, 180, 181, 52, 106, 107, 108, 19, 109, 110, 72, 111, 112, 113, 114, 115, 116, 117, 118, 119, 120, 121, 122, 32, 33, 35, 53, 58, 59, 60, 123, 124, 125, 31, 126, 45, 46, 47, 127, 128, 129, 130, 131, 43, 132, 133, 134, 135, 136, 295, 55, 56, 57, 798, 799, 800, 812, 813, 814, 815, 816, 817, 818, 819, 820, 821, 822, 832, 833, 834, 835] (by decide +kernel) (by decide +kernel)) (goodIn_sub (fun _ h => List.mem_append_right _ h) (by decide +kernel))) (goodIn_sub (fun _ h => List.mem_append_left _ (List.mem_append_left _ (List.mem_append_right _ h))) (by decide +kernel))
set_option maxRecDepth 20000 in
theorem gL_law_L_hide : GoodIn wsL_law (va_wsS RL 106 yL_hide wsL_hide) := goodIn_app (goodIn_of _ (by decide +kernel)) ggL_law_L_hide
set_option maxRecDepth 20000 in
theorem ggL_law_X5_hide : GoodIn wsL_law wsX5_hide := goodIn_r _ [299, 300, 86, 301, 302, 303, 5, 304, 196, 197, 198, 199, 142, 143, 144, 145, 146, 147, 148, 149, 150, 151, 152, 153, 88, 154, 155, 156, 157, 158, 87, 159, 160, 161, 162, 801, 802, 803, 804, 805, 806, 807, 808, 809, 810, 811] (by decide +kernel) (by decide +kernel)
set_option maxRecDepth 20000 in
theorem gL_law_X5_hide : GoodIn wsL_law (wsV RL 109 RX5 yX5_hide wsX5_hide) := goodIn_app (goodIn_of _ (by decide +kernel)) ggL_law_X5_hide
set_option maxRecDepth 20000 in
theorem ggL_law_L_ask : GoodIn wsL_law wsL_ask := goodIn_ca (goodIn_ca (goodIn_r _ [307, 99, 207, 308, 309, 310, 2, 311, 104, 105, 212, 213, 16, 20, 214, 215, 216, 15, 217, 52, 218, 219, 220, 221, 222, 223, 224, 312, 313, 314, 315, 58, 60, 316, 229, 230, 231, 32, 106, 107, 108, 19, 109, 110, 72, 111, 112, 113, 114, 115, 116, 117, 118, 119, 120, 121, 122, 33, 35, 53, 59, 123, 124, 125, 31, 126, 45, 46, 47, 127, 128, 129, 130, 131, 43, 132, 133, 134, 135, 136, 317, 318, 319, 320, 244, 245, 246, 247, 248, 321, 233, 234, 235, 236, 237, 238, 239, 65, 66, 178, 179, 180, 181, 240, 241, 242, 243, 186, 187, 798, 799, 800, 812, 813, 814, 815, 816, 817, 818, 819, 820, 832, 833, 834, 835, 821, 822] (by decide +kernel) (by decide +kernel)) (goodIn_sub (fun _ h => List.mem_append_left _ (List.mem_append_left _ (List.mem_append_right _ h))) (by decide +kernel))) (goodIn_sub (fun _ h => List.mem_append_left _ (List.mem_append_right _ h)) (by decide +kernel))
set_option maxRecDepth 20000 in
theorem gL_law_L_ask : GoodIn wsL_law (va_wsS RL 110 yL_ask wsL_ask) := goodIn_app (goodIn_of _ (by decide +kernel)) ggL_law_L_ask
set_option maxRecDepth 20000 in
theorem ggL_law_X5_ask : GoodIn wsL_law wsX5_ask := goodIn_r _ [325, 326, 327, 328, 5, 329, 86, 257, 258, 259, 260, 142, 143, 144, 261, 262, 263, 145, 146, 147, 148, 149, 150, 151, 152, 153, 88, 330, 331, 332, 333, 268, 269, 270, 264, 265, 266, 267, 196, 197, 198, 199, 154, 155, 156, 157, 158, 87, 159, 160, 161, 162, 801, 802, 803, 804, 805, 806, 807, 808, 809, 810, 811] (by decide +kernel) (by decide +kernel)
set_option maxRecDepth 20000 in
theorem gL_law_X5_ask : GoodIn wsL_law (wsV RL 112 RX5 yX5_ask wsX5_ask) := goodIn_app (goodIn_of _ (by decide +kernel)) ggL_law_X5_ask
set_option maxRecDepth 20000 in
theorem ggL_law_L_add : GoodIn wsL_law wsL_add := goodIn_ca (goodIn_ca (goodIn_r _ [336, 99, 207, 337, 338, 339, 2, 340, 104, 105, 212, 213, 16, 20, 214, 215, 216, 15, 217, 52, 218, 219, 220, 221, 222, 223, 224, 341, 342, 343, 344, 33, 106, 107, 108, 19, 109, 110, 72, 111, 112, 113, 114, 115, 116, 117, 118, 119, 120, 121, 122, 32, 35, 53, 58, 59, 60, 123, 124, 125, 31, 126, 45, 46, 47, 127, 128, 129, 130, 131, 43, 132, 133, 134, 135, 136, 345, 346, 347, 348, 236, 237, 238, 239, 65, 66, 798, 799, 800, 812, 813, 814, 815, 816, 817, 818, 819, 820, 832, 833, 834, 835, 821, 822] (by decide +kernel) (by decide +kernel)) (goodIn_sub (fun _ h => List.mem_append_left _ (List.mem_append_left _ (List.mem_append_right _ h))) (by decide +kernel))) (goodIn_sub (fun _ h => List.mem_append_left _ (List.mem_append_right _ h)) (by decide +kernel))
set_option maxRecDepth 20000 in
theorem gL_law_L_add : GoodIn wsL_law (va_wsS RL 113 yL_add wsL_add) := goodIn_app (goodIn_of _ (by decide +kernel)) ggL_law_L_add
set_option maxRecDepth 20000 in
theorem ggL_law_X5_add : GoodIn wsL_law wsX5_add := goodIn_r _ [352, 353, 354, 355, 5, 356, 86, 257, 258, 259, 260, 142, 143, 144, 261, 262, 263, 145, 146, 147, 148, 149, 150, 151, 152, 153, 88, 357, 358, 359, 360, 154, 155, 156, 157, 158, 87, 159, 160, 161, 162, 801, 802, 803, 804, 805, 806, 807, 808, 809, 810, 811] (by decide +kernel) (by decide +kernel)
set_option maxRecDepth 20000 in
theorem gL_law_X5_add : GoodIn wsL_law (wsV RL 115 RX5 yX5_add wsX5_add) := goodIn_app (goodIn_of _ (by decide +kernel)) ggL_law_X5_add
set_option maxRecDepth 20000 in
theorem ggL_law_L_removeLast : GoodIn wsL_law wsL_removeLast := goodIn_ca (goodIn_r _ [363, 207, 364, 365, 366, 2, 367, 212, 213, 16, 20, 106, 107, 108, 19, 109, 110, 72, 111, 112, 113, 114, 115, 116, 117, 118, 119, 120, 121, 15, 122, 32, 33, 35, 52, 53, 58, 59, 60, 123, 124, 125, 31, 126, 45, 46, 47, 127, 128, 129, 130, 131, 43, 132, 133, 134, 135, 136, 368, 369, 370, 371, 798, 799, 800, 812, 813, 814, 815, 816, 817, 818, 819, 820, 832, 833, 834, 835, 821, 822] (by decide +kernel) (by decide +kernel)) (goodIn_sub (fun _ h => List.mem_append_left _ (List.mem_append_right _ h)) (by decide +kernel))
set_option maxRecDepth 20000 in
theorem gL_law_L_removeLast : GoodIn wsL_law (va_wsS RL 116 yL_removeLast wsL_removeLast) := goodIn_app (goodIn_of _ (by decide +kernel)) ggL_law_L_removeLast
set_option maxRecDepth 20000 in
theorem ggL_law_X5_removeLast : GoodIn wsL_law wsX5_removeLast := goodIn_r _ [375, 86, 145, 146, 147, 5, 148, 149, 150, 151, 152, 153, 88, 154, 155, 156, 157, 158, 87, 159, 160, 161, 162, 801, 802, 803, 804, 805, 806, 807, 808, 809, 810, 811] (by decide +kernel) (by decide +kernel)
set_option maxRecDepth 20000 in
theorem gL_law_X5_removeLast : GoodIn wsL_law (wsV RL 119 RX5 yX5_removeLast wsX5_removeLast) := goodIn_app (goodIn_of _ (by decide +kernel)) ggL_law_X5_removeLast
set_option maxRecDepth 20000 in
theorem ggL_law_L_lies : GoodIn wsL_law wsL_lies := goodIn_ca (goodIn_r _ [378, 283, 379, 380, 381, 2, 382, 288, 289, 16, 291, 292, 293, 15, 294, 178, 179, 180, 181, 52, 383, 186, 187, 798, 799, 800, 812, 813, 814, 815, 816, 817, 818, 819, 820] (by decide +kernel) (by decide +kernel)) (goodIn_sub (fun _ h => List.mem_append_right _ h) (by decide +kernel))
set_option maxRecDepth 20000 in
theorem gL_law_L_lies : GoodIn wsL_law (va_wsS RL 120 yL_lies wsL_lies) := goodIn_app (goodIn_of _ (by decide +kernel)) ggL_law_L_lies
set_option maxRecDepth 20000 in
theorem ggL_law_X5_lies : GoodIn wsL_law wsX5_lies := goodIn_r _ [387, 86, 301, 302, 303, 5, 304, 196, 197, 198, 199, 142, 143, 144, 159, 160, 161, 162, 149, 145, 146, 147, 148, 801, 802, 803, 804, 805, 806, 807, 808, 809, 810, 811] (by decide +kernel) (by decide +kernel)
set_option maxRecDepth 20000 in
theorem gL_law_X5_lies : GoodIn wsL_law (wsV RL 122 RX5 yX5_lies wsX5_lies) := goodIn_app (goodIn_of _ (by decide +kernel)) ggL_law_X5_lies
set_option maxRecDepth 20000 in
theorem ggL_law_L_answer : GoodIn wsL_law wsL_answer := goodIn_ca (goodIn_ca (goodIn_r _ [390, 283, 99, 391, 392, 393, 2, 394, 288, 289, 104, 105, 16, 291, 292, 293, 15, 294, 178, 179, 180, 181, 52, 214, 215, 216, 217, 218, 219, 220, 221, 222, 223, 224, 395, 244, 245, 246, 247, 248, 798, 799, 800, 812, 813, 814, 815, 816, 817, 818, 819, 820] (by decide +kernel) (by decide +kernel)) (goodIn_sub (fun _ h => List.mem_append_right _ h) (by decide +kernel))) (goodIn_sub (fun _ h => List.mem_append_left _ (List.mem_append_left _ (List.mem_append_right _ h))) (by decide +kernel))
set_option maxRecDepth 20000 in
theorem gL_law_L_answer : GoodIn wsL_law (va_wsS RL 123 yL_answer wsL_answer) := goodIn_app (goodIn_of _ (by decide +kernel)) ggL_law_L_answer
set_option maxRecDepth 20000 in
theorem ggL_law_X5_answer : GoodIn wsL_law wsX5_answer := goodIn_r _ [399, 301, 302, 303, 5, 304, 196, 197, 198, 199, 86, 142, 143, 144, 145, 146, 147, 148, 149, 257, 258, 259, 260, 261, 262, 263, 268, 269, 270, 159, 160, 161, 162, 801, 802, 803, 804, 805, 806, 807, 808, 809, 810, 811] (by decide +kernel) (by decide +kernel)
set_option maxRecDepth 20000 in
theorem gL_law_X5_answer : GoodIn wsL_law (wsV RL 125 RX5 yX5_answer wsX5_answer) := goodIn_app (goodIn_of _ (by decide +kernel)) ggL_law_X5_answer
set_option maxRecDepth 20000 in
theorem ggL_law_L_leftCase : GoodIn wsL_law wsL_leftCase := goodIn_ca (goodIn_r _ [402, 283, 403, 404, 405, 2, 406, 288, 289, 16, 407, 408, 409, 15, 410, 178, 179, 180, 181, 52, 182, 183, 184, 185, 35, 53, 186, 187, 798, 799, 800, 812, 813, 814, 815, 816, 817, 818, 819, 820] (by decide +kernel) (by decide +kernel)) (goodIn_sub (fun _ h => List.mem_append_right _ h) (by decide +kernel))
set_option maxRecDepth 20000 in
theorem gL_law_L_leftCase : GoodIn wsL_law (va_wsS RL 126 yL_leftCase wsL_leftCase) := goodIn_app (goodIn_of _ (by decide +kernel)) ggL_law_L_leftCase
set_option maxRecDepth 20000 in
theorem ggL_law_X5_leftCase : GoodIn wsL_law wsX5_leftCase := goodIn_r _ [414, 196, 197, 198, 5, 199, 86, 200, 201, 202, 203, 159, 160, 161, 162, 149, 145, 146, 147, 148, 801, 802, 803, 804, 805, 806, 807, 808, 809, 810, 811] (by decide +kernel) (by decide +kernel)
set_option maxRecDepth 20000 in
theorem gL_law_X5_leftCase : GoodIn wsL_law (wsV RL 128 RX5 yX5_leftCase wsX5_leftCase) := goodIn_app (goodIn_of _ (by decide +kernel)) ggL_law_X5_leftCase
set_option maxRecDepth 20000 in
theorem ggL_law_L_weighing : GoodIn wsL_law wsL_weighing := goodIn_ca (goodIn_ca (goodIn_r _ [417, 283, 99, 418, 419, 420, 2, 421, 288, 289, 104, 105, 16, 422, 423, 424, 31, 425, 45, 46, 47, 186, 187, 798, 799, 800, 812, 813, 814, 815, 816, 817, 818, 819, 820, 832, 833, 834, 835] (by decide +kernel) (by decide +kernel)) (goodIn_sub (fun _ h => List.mem_append_right _ h) (by decide +kernel))) (goodIn_sub (fun _ h => List.mem_append_left _ (List.mem_append_left _ (List.mem_append_right _ h))) (by decide +kernel))
set_option maxRecDepth 20000 in
theorem gL_law_L_weighing : GoodIn wsL_law (va_wsS RL 129 yL_weighing wsL_weighing) := goodIn_app (goodIn_of _ (by decide +kernel)) ggL_law_L_weighing
set_option maxRecDepth 20000 in
theorem ggL_law_X5_weighing : GoodIn wsL_law wsX5_weighing := goodIn_r _ [429, 86, 142, 143, 5, 144, 145, 146, 147, 148, 149, 159, 160, 161, 162, 801, 802, 803, 804, 805, 806, 807, 808, 809, 810, 811] (by decide +kernel) (by decide +kernel)
set_option maxRecDepth 20000 in
theorem gL_law_X5_weighing : GoodIn wsL_law (wsV RL 131 RX5 yX5_weighing wsX5_weighing) := goodIn_app (goodIn_of _ (by decide +kernel)) ggL_law_X5_weighing
set_option maxRecDepth 20000 in
theorem ggL_law_L_value : GoodIn wsL_law wsL_value := goodIn_ca (goodIn_r _ [432, 99, 433, 434, 435, 2, 436, 104, 105, 16, 437, 438, 439, 15, 440, 52, 53, 32, 33, 58, 60, 441, 175, 176, 177, 178, 179, 180, 181, 182, 183, 184, 185, 35, 186, 187, 442, 443, 444, 445, 247, 248, 798, 799, 800, 812, 813, 814, 815, 816, 817, 818, 819, 820, 832, 833, 834, 835] (by decide +kernel) (by decide +kernel)) (goodIn_sub (fun _ h => List.mem_append_left _ (List.mem_append_left _ (List.mem_append_right _ h))) (by decide +kernel))
set_option maxRecDepth 20000 in
theorem gL_law_L_value : GoodIn wsL_law (va_wsS RL 132 yL_value wsL_value) := goodIn_app (goodIn_of _ (by decide +kernel)) ggL_law_L_value
set_option maxRecDepth 20000 in
theorem ggL_law_X5_value : GoodIn wsL_law wsX5_value := goodIn_r _ [449, 142, 143, 5, 144, 450, 451, 452, 453, 86, 192, 193, 194, 195, 196, 197, 198, 199, 200, 201, 202, 203, 454, 455, 456, 457, 159, 160, 161, 162, 149, 145, 146, 147, 148, 801, 802, 803, 804, 805, 806, 807, 808, 809, 810, 811] (by decide +kernel) (by decide +kernel)
set_option maxRecDepth 20000 in
theorem gL_law_X5_value : GoodIn wsL_law (wsV RL 134 RX5 yX5_value wsX5_value) := goodIn_app (goodIn_of _ (by decide +kernel)) ggL_law_X5_value
set_option maxRecDepth 20000 in
theorem ggL_law_L_weight : GoodIn wsL_law wsL_weight := goodIn_ca (goodIn_r _ [460, 99, 461, 462, 463, 2, 464, 104, 105, 16, 465, 466, 467, 468, 469, 470, 15, 471, 35, 178, 179, 180, 181, 52, 186, 187, 472, 473, 474, 475, 53, 476, 477, 130, 131, 43, 132, 798, 799, 800, 812, 813, 814, 815, 816, 817, 818, 819, 820] (by decide +kernel) (by decide +kernel)) (goodIn_sub (fun _ h => List.mem_append_left _ (List.mem_append_left _ (List.mem_append_right _ h))) (by decide +kernel))
set_option maxRecDepth 20000 in
theorem gL_law_L_weight : GoodIn wsL_law (va_wsS RL 135 yL_weight wsL_weight) := goodIn_app (goodIn_of _ (by decide +kernel)) ggL_law_L_weight
set_option maxRecDepth 20000 in
theorem ggL_law_X5_weight : GoodIn wsL_law wsX5_weight := goodIn_r _ [481, 149, 142, 143, 5, 144, 145, 146, 147, 148, 482, 483, 484, 485, 86, 196, 197, 198, 199, 268, 269, 270, 486, 487, 488, 489, 801, 802, 803, 804, 805, 806, 807, 808, 809, 810, 811] (by decide +kernel) (by decide +kernel)
set_option maxRecDepth 20000 in
theorem gL_law_X5_weight : GoodIn wsL_law (wsV RL 137 RX5 yX5_weight wsX5_weight) := goodIn_app (goodIn_of _ (by decide +kernel)) ggL_law_X5_weight
set_option maxRecDepth 20000 in
theorem ggL_law_X4_bound : GoodIn wsL_law wsX4_bound := goodIn_r _ [493, 16, 494, 468, 469, 470, 15, 471, 35, 178, 179, 180, 181, 52, 186, 2, 187, 472, 473, 474, 475, 53, 476, 477, 130, 131, 43, 132, 798, 799, 800, 812, 813, 814, 815, 816, 817, 818, 819, 820] (by decide +kernel) (by decide +kernel)
set_option maxRecDepth 20000 in
theorem gL_law_X4_bound : GoodIn wsL_law (wsV RL 138 RX4 yX4_bound wsX4_bound) := goodIn_app (goodIn_of _ (by decide +kernel)) ggL_law_X4_bound
set_option maxRecDepth 20000 in
theorem ggL_law_X5_bound : GoodIn wsL_law wsX5_bound := goodIn_r _ [498, 499, 500, 501, 5, 502, 503, 482, 483, 484, 485, 86, 196, 197, 198, 199, 268, 269, 270, 486, 487, 488, 489, 159, 160, 161, 162, 149, 801, 802, 803, 804, 805, 806, 807, 808, 809, 810, 811] (by decide +kernel) (by decide +kernel)
set_option maxRecDepth 20000 in
theorem gL_law_X5_bound : GoodIn wsL_law (wsV RL 141 RX5 yX5_bound wsX5_bound) := goodIn_app (goodIn_of _ (by decide +kernel)) ggL_law_X5_bound
set_option maxRecDepth 20000 in
theorem ggL_law_L_weightBehind : GoodIn wsL_law wsL_weightBehind := goodIn_ca (goodIn_r _ [506, 99, 507, 508, 509, 2, 510, 104, 105, 16, 214, 215, 216, 15, 217, 52, 218, 219, 220, 221, 222, 223, 224, 225, 226, 227, 465, 466, 467, 511, 512, 513, 514, 178, 179, 180, 181, 240, 241, 242, 243, 35, 186, 187, 244, 245, 246, 247, 248, 472, 473, 474, 475, 53, 476, 477, 130, 131, 43, 132, 798, 799, 800, 812, 813, 814, 815, 816, 817, 818, 819, 820] (by decide +kernel) (by decide +kernel)) (goodIn_sub (fun _ h => List.mem_append_left _ (List.mem_append_left _ (List.mem_append_right _ h))) (by decide +kernel))
set_option maxRecDepth 20000 in
theorem gL_law_L_weightBehind : GoodIn wsL_law (va_wsS RL 142 yL_weightBehind wsL_weightBehind) := goodIn_app (goodIn_of _ (by decide +kernel)) ggL_law_L_weightBehind
set_option maxRecDepth 20000 in
theorem ggL_law_X5_weightBehind : GoodIn wsL_law wsX5_weightBehind := goodIn_r _ [518, 149, 257, 258, 259, 5, 260, 86, 142, 143, 144, 261, 262, 263, 145, 146, 147, 148, 482, 483, 484, 485, 196, 197, 198, 199, 268, 269, 270, 486, 487, 488, 489, 801, 802, 803, 804, 805, 806, 807, 808, 809, 810, 811] (by decide +kernel) (by decide +kernel)
set_option maxRecDepth 20000 in
theorem gL_law_X5_weightBehind : GoodIn wsL_law (wsV RL 145 RX5 yX5_weightBehind wsX5_weightBehind) := goodIn_app (goodIn_of _ (by decide +kernel)) ggL_law_X5_weightBehind
set_option maxRecDepth 20000 in
theorem ggL_law_L_bestGroup : GoodIn wsL_law wsL_bestGroup := goodIn_ca (goodIn_r _ [521, 99, 522, 523, 524, 2, 525, 104, 105, 16, 465, 466, 467, 526, 527, 528, 15, 529, 52, 530, 531, 532, 533, 534, 535, 43, 536, 537, 512, 513, 514, 178, 179, 180, 181, 240, 241, 242, 243, 35, 186, 187, 244, 245, 246, 247, 248, 472, 473, 474, 475, 53, 476, 477, 130, 131, 132, 798, 799, 800, 812, 813, 814, 815, 816, 817, 818, 819, 820] (by decide +kernel) (by decide +kernel)) (goodIn_sub (fun _ h => List.mem_append_left _ (List.mem_append_left _ (List.mem_append_right _ h))) (by decide +kernel))
set_option maxRecDepth 20000 in
theorem gL_law_L_bestGroup : GoodIn wsL_law (va_wsS RL 146 yL_bestGroup wsL_bestGroup) := goodIn_app (goodIn_of _ (by decide +kernel)) ggL_law_L_bestGroup
set_option maxRecDepth 20000 in
theorem ggL_law_X5_bestGroup : GoodIn wsL_law wsX5_bestGroup := goodIn_r _ [541, 142, 143, 5, 144, 542, 543, 544, 545, 86, 482, 483, 484, 485, 196, 197, 198, 199, 268, 269, 270, 486, 487, 488, 489, 159, 160, 161, 162, 149, 145, 146, 147, 148, 801, 802, 803, 804, 805, 806, 807, 808, 809, 810, 811] (by decide +kernel) (by decide +kernel)
set_option maxRecDepth 20000 in
theorem gL_law_X5_bestGroup : GoodIn wsL_law (wsV RL 148 RX5 yX5_bestGroup wsX5_bestGroup) := goodIn_app (goodIn_of _ (by decide +kernel)) ggL_law_X5_bestGroup
set_option maxRecDepth 20000 in
theorem ggL_law_L_teaches : GoodIn wsL_law wsL_teaches := goodIn_ca (goodIn_r _ [548, 99, 549, 550, 551, 2, 552, 104, 105, 16, 214, 215, 216, 15, 217, 52, 218, 219, 220, 221, 222, 223, 224, 553, 554, 555, 556, 178, 179, 180, 181, 182, 183, 184, 185, 35, 53, 186, 187, 244, 245, 246, 247, 248, 798, 799, 800, 812, 813, 814, 815, 816, 817, 818, 819, 820] (by decide +kernel) (by decide +kernel)) (goodIn_sub (fun _ h => List.mem_append_left _ (List.mem_append_left _ (List.mem_append_right _ h))) (by decide +kernel))
set_option maxRecDepth 20000 in
theorem gL_law_L_teaches : GoodIn wsL_law (va_wsS RL 149 yL_teaches wsL_teaches) := goodIn_app (goodIn_of _ (by decide +kernel)) ggL_law_L_teaches
set_option maxRecDepth 20000 in
theorem ggL_law_X5_teaches : GoodIn wsL_law wsX5_teaches := goodIn_r _ [560, 149, 257, 258, 259, 5, 260, 86, 142, 143, 144, 261, 262, 263, 196, 197, 198, 199, 200, 201, 202, 203, 268, 269, 270, 801, 802, 803, 804, 805, 806, 807, 808, 809, 810, 811] (by decide +kernel) (by decide +kernel)
set_option maxRecDepth 20000 in
theorem gL_law_X5_teaches : GoodIn wsL_law (wsV RL 151 RX5 yX5_teaches wsX5_teaches) := goodIn_app (goodIn_of _ (by decide +kernel)) ggL_law_X5_teaches
set_option maxRecDepth 20000 in
theorem ggL_law_L_distance : GoodIn wsL_law wsL_distance := goodIn_ca (goodIn_r _ [563, 283, 564, 565, 566, 2, 567, 288, 289, 16, 291, 292, 293, 15, 294, 178, 179, 180, 181, 52, 568, 569, 570, 31, 571, 127, 45, 46, 186, 187, 244, 245, 246, 247, 248, 572, 573, 574, 575, 219, 220, 221, 222, 223, 224, 798, 799, 800, 812, 813, 814, 815, 816, 817, 818, 819, 820, 832, 833, 834, 835] (by decide +kernel) (by decide +kernel)) (goodIn_sub (fun _ h => List.mem_append_right _ h) (by decide +kernel))
set_option maxRecDepth 20000 in
theorem gL_law_L_distance : GoodIn wsL_law (va_wsS RL 152 yL_distance wsL_distance) := goodIn_app (goodIn_of _ (by decide +kernel)) ggL_law_L_distance
set_option maxRecDepth 20000 in
theorem ggL_law_X5_distance : GoodIn wsL_law wsX5_distance := goodIn_r _ [579, 301, 302, 303, 5, 304, 196, 197, 198, 199, 86, 142, 143, 144, 580, 581, 582, 583, 268, 269, 270, 159, 160, 161, 162, 149, 145, 146, 147, 148, 801, 802, 803, 804, 805, 806, 807, 808, 809, 810, 811] (by decide +kernel) (by decide +kernel)
set_option maxRecDepth 20000 in
theorem gL_law_X5_distance : GoodIn wsL_law (wsV RL 154 RX5 yX5_distance wsX5_distance) := goodIn_app (goodIn_of _ (by decide +kernel)) ggL_law_X5_distance
set_option maxRecDepth 20000 in
theorem ggL_law_X4_leastDistance : GoodIn wsL_law wsX4_leastDistance := goodIn_r _ [587, 16, 588, 589, 590, 15, 591, 36, 33, 592, 131, 43, 132, 178, 179, 180, 181, 52, 593, 569, 570, 31, 571, 127, 45, 46, 186, 2, 187, 244, 245, 246, 247, 248, 65, 66, 573, 574, 575, 219, 220, 221, 222, 223, 224, 798, 799, 800, 812, 813, 814, 815, 816, 817, 818, 819, 820, 832, 833, 834, 835] (by decide +kernel) (by decide +kernel)
set_option maxRecDepth 20000 in
theorem gL_law_X4_leastDistance : GoodIn wsL_law (wsV RL 155 RX4 yX4_leastDistance wsX4_leastDistance) := goodIn_app (goodIn_of _ (by decide +kernel)) ggL_law_X4_leastDistance
set_option maxRecDepth 20000 in
theorem ggL_law_X5_leastDistance : GoodIn wsL_law wsX5_leastDistance := goodIn_r _ [597, 598, 599, 600, 5, 601, 196, 197, 198, 199, 86, 580, 581, 582, 583, 268, 269, 270, 159, 160, 161, 162, 149, 801, 802, 803, 804, 805, 806, 807, 808, 809, 810, 811] (by decide +kernel) (by decide +kernel)
set_option maxRecDepth 20000 in
theorem gL_law_X5_leastDistance : GoodIn wsL_law (wsV RL 158 RX5 yX5_leastDistance wsX5_leastDistance) := goodIn_app (goodIn_of _ (by decide +kernel)) ggL_law_X5_leastDistance
set_option maxRecDepth 20000 in
theorem ggL_law_X4_bears : GoodIn wsL_law wsX4_bears := goodIn_r _ [605, 16, 588, 589, 590, 15, 591, 36, 33, 592, 131, 43, 132, 178, 179, 180, 181, 52, 593, 569, 570, 31, 571, 127, 45, 46, 186, 2, 187, 244, 245, 246, 247, 248, 65, 66, 573, 574, 575, 219, 220, 221, 222, 223, 224, 798, 799, 800, 812, 813, 814, 815, 816, 817, 818, 819, 820, 832, 833, 834, 835] (by decide +kernel) (by decide +kernel)
set_option maxRecDepth 20000 in
theorem gL_law_X4_bears : GoodIn wsL_law (wsV RL 159 RX4 yX4_bears wsX4_bears) := goodIn_app (goodIn_of _ (by decide +kernel)) ggL_law_X4_bears
set_option maxRecDepth 20000 in
theorem ggL_law_X5_bears : GoodIn wsL_law wsX5_bears := goodIn_r _ [609, 598, 599, 600, 5, 601, 196, 197, 198, 199, 86, 580, 581, 582, 583, 268, 269, 270, 159, 160, 161, 162, 149, 801, 802, 803, 804, 805, 806, 807, 808, 809, 810, 811] (by decide +kernel) (by decide +kernel)
set_option maxRecDepth 20000 in
theorem gL_law_X5_bears : GoodIn wsL_law (wsV RL 162 RX5 yX5_bears wsX5_bears) := goodIn_app (goodIn_of _ (by decide +kernel)) ggL_law_X5_bears
set_option maxRecDepth 20000 in
theorem ggL_law_L_decode : GoodIn wsL_law wsL_decode := goodIn_ca (goodIn_r _ [612, 99, 613, 614, 615, 2, 616, 104, 105, 16, 617, 618, 619, 31, 620, 127, 621, 622, 623, 624, 625, 626, 15, 627, 33, 178, 179, 180, 181, 52, 593, 569, 570, 571, 45, 46, 186, 187, 244, 245, 246, 247, 248, 573, 574, 575, 219, 220, 221, 222, 223, 224, 798, 799, 800, 812, 813, 814, 815, 816, 817, 818, 819, 820, 832, 833, 834, 835] (by decide +kernel) (by decide +kernel)) (goodIn_sub (fun _ h => List.mem_append_left _ (List.mem_append_left _ (List.mem_append_right _ h))) (by decide +kernel))
set_option maxRecDepth 20000 in
theorem gL_law_L_decode : GoodIn wsL_law (va_wsS RL 163 yL_decode wsL_decode) := goodIn_app (goodIn_of _ (by decide +kernel)) ggL_law_L_decode
set_option maxRecDepth 20000 in
theorem ggL_law_X5_decode : GoodIn wsL_law wsX5_decode := goodIn_r _ [631, 86, 142, 143, 5, 144, 145, 146, 147, 148, 149, 196, 197, 198, 199, 632, 633, 634, 635, 268, 269, 270, 159, 160, 161, 162, 801, 802, 803, 804, 805, 806, 807, 808, 809, 810, 811] (by decide +kernel) (by decide +kernel)
set_option maxRecDepth 20000 in
theorem gL_law_X5_decode : GoodIn wsL_law (wsV RL 165 RX5 yX5_decode wsX5_decode) := goodIn_app (goodIn_of _ (by decide +kernel)) ggL_law_X5_decode
set_option maxRecDepth 20000 in
theorem ggL_law_X4_share : GoodIn wsL_law wsX4_share := goodIn_r _ [639, 16, 174, 175, 176, 15, 177, 178, 179, 180, 181, 52, 182, 183, 184, 185, 35, 53, 186, 2, 187, 640, 798, 799, 800, 812, 813, 814, 815, 816, 817, 818, 819, 820] (by decide +kernel) (by decide +kernel)
set_option maxRecDepth 20000 in
theorem gL_law_X4_share : GoodIn wsL_law (wsV RL 166 RX4 yX4_share wsX4_share) := goodIn_app (goodIn_of _ (by decide +kernel)) ggL_law_X4_share
set_option maxRecDepth 20000 in
theorem ggL_law_X5_share : GoodIn wsL_law wsX5_share := goodIn_r _ [644, 149, 192, 193, 194, 5, 195, 196, 197, 198, 199, 86, 200, 201, 202, 203, 801, 802, 803, 804, 805, 806, 807, 808, 809, 810, 811] (by decide +kernel) (by decide +kernel)
set_option maxRecDepth 20000 in
theorem gL_law_X5_share : GoodIn wsL_law (wsV RL 170 RX5 yX5_share wsX5_share) := goodIn_app (goodIn_of _ (by decide +kernel)) ggL_law_X5_share
set_option maxRecDepth 20000 in
theorem ggL_law_L_append : GoodIn wsL_law wsL_append := goodIn_ca (goodIn_ca (goodIn_r _ [647, 99, 207, 648, 649, 650, 2, 651, 104, 105, 212, 213, 24, 652, 653, 654, 23, 655, 656, 78, 65, 66, 798, 799, 800, 823, 824, 825, 826, 827, 828, 829, 830, 831] (by decide +kernel) (by decide +kernel)) (goodIn_sub (fun _ h => List.mem_append_left _ (List.mem_append_left _ (List.mem_append_right _ h))) (by decide +kernel))) (goodIn_sub (fun _ h => List.mem_append_left _ (List.mem_append_right _ h)) (by decide +kernel))
set_option maxRecDepth 20000 in
theorem gL_law_L_append : GoodIn wsL_law (va_wsS RL 171 yL_append wsL_append) := goodIn_app (goodIn_of _ (by decide +kernel)) ggL_law_L_append
set_option maxRecDepth 20000 in
theorem ggL_law_X5_append : GoodIn wsL_law wsX5_append := goodIn_r _ [660, 661, 90, 142, 143, 5, 144, 145, 146, 147, 148, 149, 159, 160, 161, 162, 801, 802, 803, 804, 805, 806, 807, 808, 809, 810, 811] (by decide +kernel) (by decide +kernel)
set_option maxRecDepth 20000 in
theorem gL_law_X5_append : GoodIn wsL_law (wsV RL 173 RX5 yX5_append wsX5_append) := goodIn_app (goodIn_of _ (by decide +kernel)) ggL_law_X5_append
set_option maxRecDepth 20000 in
theorem ggL_law_X4_clearText : GoodIn wsL_law wsX4_clearText := goodIn_r _ [665, 24, 798, 799, 800, 823, 824, 825, 826, 827, 828, 829, 830, 831] (by decide +kernel) (by decide +kernel)
set_option maxRecDepth 20000 in
theorem gL_law_X4_clearText : GoodIn wsL_law (wsV RL 174 RX4 yX4_clearText wsX4_clearText) := goodIn_app (goodIn_of _ (by decide +kernel)) ggL_law_X4_clearText
set_option maxRecDepth 20000 in
theorem ggL_law_X5_clearText : GoodIn wsL_law wsX5_clearText := goodIn_r _ [669, 661, 159, 160, 161, 5, 162, 149, 801, 802, 803, 804, 805, 806, 807, 808, 809, 810, 811] (by decide +kernel) (by decide +kernel)
set_option maxRecDepth 20000 in
theorem gL_law_X5_clearText : GoodIn wsL_law (wsV RL 177 RX5 yX5_clearText wsX5_clearText) := goodIn_app (goodIn_of _ (by decide +kernel)) ggL_law_X5_clearText
set_option maxRecDepth 20000 in
theorem ggL_law_X4_carryOut : GoodIn wsL_law wsX4_carryOut := goodIn_r _ [673, 24, 20, 16, 674, 675, 676, 23, 677, 678, 679, 656, 78, 186, 2, 187, 680, 681, 682, 683, 684, 685, 686, 687, 688, 689, 690, 691, 692, 693, 694, 695, 696, 697, 698, 699, 700, 701, 702, 703, 704, 705, 706, 707, 708, 709, 79, 80, 81, 65, 66, 710, 711, 712, 713, 714, 715, 716, 717, 106, 107, 108, 19, 109, 110, 72, 111, 112, 113, 114, 115, 116, 117, 118, 119, 120, 121, 15, 122, 32, 33, 35, 52, 53, 58, 59, 60, 123, 124, 125, 31, 126, 45, 46, 47, 127, 128, 129, 130, 131, 43, 132, 133, 134, 135, 136, 383, 718, 719, 720, 721, 722, 215, 216, 217, 218, 219, 220, 221, 222, 223, 224, 723, 724, 725, 726, 727, 313, 314, 315, 316, 229, 230, 231, 728, 342, 343, 344, 729, 318, 319, 320, 244, 245, 246, 247, 248, 321, 233, 234, 235, 236, 237, 238, 239, 178, 179, 180, 181, 240, 241, 242, 243, 730, 346, 347, 348, 798, 799, 800, 823, 824, 825, 826, 827, 828, 829, 830, 831, 821, 822, 812, 813, 814, 815, 816, 817, 818, 819, 820, 832, 833, 834, 835] (by decide +kernel) (by decide +kernel)
set_option maxRecDepth 20000 in
theorem gL_law_X4_carryOut : GoodIn wsL_law (wsV RL 178 RX4 yX4_carryOut wsX4_carryOut) := goodIn_app (goodIn_of _ (by decide +kernel)) ggL_law_X4_carryOut
set_option maxRecDepth 20000 in
theorem ggL_law_X5_carryOut : GoodIn wsL_law wsX5_carryOut := goodIn_r _ [734, 735, 661, 736, 737, 738, 5, 739, 740, 741, 742, 743, 744, 745, 746, 747, 748, 749, 750, 751, 752, 753, 754, 90, 142, 143, 144, 755, 756, 757, 758, 759, 760, 761, 762, 159, 160, 161, 162, 149, 150, 151, 152, 153, 88, 86, 763, 764, 765, 766, 253, 254, 255, 256, 257, 258, 259, 260, 261, 262, 263, 326, 327, 328, 329, 353, 354, 355, 356, 264, 265, 266, 267, 196, 197, 198, 199, 268, 269, 270, 330, 331, 332, 333, 357, 358, 359, 360, 154, 155, 156, 157, 158, 87, 801, 802, 803, 804, 805, 806, 807, 808, 809, 810, 811] (by decide +kernel) (by decide +kernel)
set_option maxRecDepth 20000 in
theorem gL_law_X5_carryOut : GoodIn wsL_law (wsV RL 181 RX5 yX5_carryOut wsX5_carryOut) := goodIn_app (goodIn_of _ (by decide +kernel)) ggL_law_X5_carryOut
set_option maxRecDepth 20000 in
theorem ggL_law_L_undo : GoodIn wsL_law wsL_undo := goodIn_ca (goodIn_r _ [769, 207, 770, 771, 772, 2, 773, 212, 213, 20, 16, 774, 775, 776, 19, 777, 110, 115, 116, 117, 118, 72, 119, 120, 121, 15, 122, 32, 33, 35, 52, 53, 58, 59, 60, 123, 124, 125, 31, 126, 45, 46, 47, 127, 128, 129, 130, 131, 43, 132, 133, 134, 135, 136, 798, 799, 800, 821, 822, 812, 813, 814, 815, 816, 817, 818, 819, 820, 832, 833, 834, 835] (by decide +kernel) (by decide +kernel)) (goodIn_sub (fun _ h => List.mem_append_left _ (List.mem_append_right _ h)) (by decide +kernel))
set_option maxRecDepth 20000 in
theorem gL_law_L_undo : GoodIn wsL_law (va_wsS RL 182 yL_undo wsL_undo) := goodIn_app (goodIn_of _ (by decide +kernel)) ggL_law_L_undo
set_option maxRecDepth 20000 in
theorem ggL_law_X5_undo : GoodIn wsL_law wsX5_undo := goodIn_r _ [781, 158, 86, 87, 145, 146, 147, 5, 148, 149, 159, 160, 161, 162, 801, 802, 803, 804, 805, 806, 807, 808, 809, 810, 811] (by decide +kernel) (by decide +kernel)
set_option maxRecDepth 20000 in
theorem gL_law_X5_undo : GoodIn wsL_law (wsV RL 184 RX5 yX5_undo wsX5_undo) := goodIn_app (goodIn_of _ (by decide +kernel)) ggL_law_X5_undo
set_option maxRecDepth 20000 in
theorem ggL_law_X4_digest : GoodIn wsL_law wsX4_digest := goodIn_r _ [785, 786, 24, 16, 20, 787, 788, 2, 789, 790, 437, 438, 439, 15, 440, 52, 53, 32, 33, 58, 60, 441, 175, 176, 177, 178, 179, 180, 181, 182, 183, 184, 185, 35, 186, 187, 442, 443, 444, 445, 247, 248, 422, 423, 424, 31, 425, 45, 46, 47, 640, 383, 588, 589, 590, 591, 36, 592, 131, 43, 132, 593, 569, 570, 571, 127, 244, 245, 246, 65, 66, 573, 574, 575, 219, 220, 221, 222, 223, 224, 791, 491, 492, 493, 494, 468, 469, 470, 471, 472, 473, 474, 475, 476, 477, 130, 526, 527, 528, 529, 530, 531, 532, 533, 534, 535, 536, 537, 512, 513, 514, 240, 241, 242, 243, 798, 799, 800, 823, 824, 825, 826, 827, 828, 829, 830, 831, 812, 813, 814, 815, 816, 817, 818, 819, 820, 832, 833, 834, 835, 821, 822] (by decide +kernel) (by decide +kernel)
set_option maxRecDepth 20000 in
theorem gL_law_X4_digest : GoodIn wsL_law (wsV RL 185 RX4 yX4_digest wsX4_digest) := goodIn_app (goodIn_of _ (by decide +kernel)) ggL_law_X4_digest
set_option maxRecDepth 20000 in
theorem ggL_law_X5_digest : GoodIn wsL_law wsX5_digest := goodIn_r _ [795, 149, 796, 661, 797, 86, 158, 450, 451, 452, 5, 453, 192, 193, 194, 195, 196, 197, 198, 199, 200, 201, 202, 203, 454, 455, 456, 457, 598, 599, 600, 601, 580, 581, 582, 583, 268, 269, 270, 499, 500, 501, 502, 503, 482, 483, 484, 485, 486, 487, 488, 489, 542, 543, 544, 545, 801, 802, 803, 804, 805, 806, 807, 808, 809, 810, 811] (by decide +kernel) (by decide +kernel)
set_option maxRecDepth 20000 in
theorem gL_law_X5_digest : GoodIn wsL_law (wsV RL 189 RX5 yX5_digest wsX5_digest) := goodIn_app (goodIn_of _ (by decide +kernel)) ggL_law_X5_digest
set_option maxRecDepth 100000 in
theorem bt_law_1 : ([(0, (.new 8, 3)), (3, (.dup, 1)), (4, (.invokespecial 82, 3)), (7, (.astore_n 1, 1)), (8, (.new 83, 3)), (11, (.dup, 1)), (12, (.invokespecial 85, 3)), (15, (.astore_n 2, 1)), (16, (.iconst 1, 1)), (17, (.newarray .long, 2)), (19, (.astore_n 3, 1)), (20, (.iconst 0, 1)), (21, (.istore 4, 2)), (23, (.iload 4, 2)), (25, (.aload_n 0, 1)), (26, (.arraylength, 1)), (27, (.iconst 5, 1)), (28, (.isub, 1)), (29, (.if_icmp .gt 1531, 3)), (32, (.aload_n 0, 1)), (33, (.iload 4, 2)), (35, (.iaload, 1)), (36, (.bipush 31, 2)), (38, (.iand, 1))] : List (Nat × (Instr × Nat))).all (fun q => decide (decode cL_law q.1 = .ok q.2)) = true := by decide +kernel
theorem dL_law_0 : decode cL_law 0 = .ok (.new 8, 3) := of_decide_eq_true (List.all_eq_true.mp bt_law_1 (0, (.new 8, 3)) (List.mem_of_getElem? (i := 0) rfl))
theorem dL_law_3 : decode cL_law 3 = .ok (.dup, 1) := of_decide_eq_true (List.all_eq_true.mp bt_law_1 (3, (.dup, 1)) (List.mem_of_getElem? (i := 1) rfl))
theorem dL_law_4 : decode cL_law 4 = .ok (.invokespecial 82, 3) := of_decide_eq_true (List.all_eq_true.mp bt_law_1 (4, (.invokespecial 82, 3)) (List.mem_of_getElem? (i := 2) rfl))
theorem dL_law_7 : decode cL_law 7 = .ok (.astore_n 1, 1) := of_decide_eq_true (List.all_eq_true.mp bt_law_1 (7, (.astore_n 1, 1)) (List.mem_of_getElem? (i := 3) rfl))
theorem dL_law_8 : decode cL_law 8 = .ok (.new 83, 3) := of_decide_eq_true (List.all_eq_true.mp bt_law_1 (8, (.new 83, 3)) (List.mem_of_getElem? (i := 4) rfl))
theorem dL_law_11 : decode cL_law 11 = .ok (.dup, 1) := of_decide_eq_true (List.all_eq_true.mp bt_law_1 (11, (.dup, 1)) (List.mem_of_getElem? (i := 5) rfl))
theorem dL_law_12 : decode cL_law 12 = .ok (.invokespecial 85, 3) := of_decide_eq_true (List.all_eq_true.mp bt_law_1 (12, (.invokespecial 85, 3)) (List.mem_of_getElem? (i := 6) rfl))
theorem dL_law_15 : decode cL_law 15 = .ok (.astore_n 2, 1) := of_decide_eq_true (List.all_eq_true.mp bt_law_1 (15, (.astore_n 2, 1)) (List.mem_of_getElem? (i := 7) rfl))
theorem dL_law_16 : decode cL_law 16 = .ok (.iconst 1, 1) := of_decide_eq_true (List.all_eq_true.mp bt_law_1 (16, (.iconst 1, 1)) (List.mem_of_getElem? (i := 8) rfl))
theorem dL_law_17 : decode cL_law 17 = .ok (.newarray .long, 2) := of_decide_eq_true (List.all_eq_true.mp bt_law_1 (17, (.newarray .long, 2)) (List.mem_of_getElem? (i := 9) rfl))
theorem dL_law_19 : decode cL_law 19 = .ok (.astore_n 3, 1) := of_decide_eq_true (List.all_eq_true.mp bt_law_1 (19, (.astore_n 3, 1)) (List.mem_of_getElem? (i := 10) rfl))
theorem dL_law_20 : decode cL_law 20 = .ok (.iconst 0, 1) := of_decide_eq_true (List.all_eq_true.mp bt_law_1 (20, (.iconst 0, 1)) (List.mem_of_getElem? (i := 11) rfl))
theorem dL_law_21 : decode cL_law 21 = .ok (.istore 4, 2) := of_decide_eq_true (List.all_eq_true.mp bt_law_1 (21, (.istore 4, 2)) (List.mem_of_getElem? (i := 12) rfl))
theorem dL_law_23 : decode cL_law 23 = .ok (.iload 4, 2) := of_decide_eq_true (List.all_eq_true.mp bt_law_1 (23, (.iload 4, 2)) (List.mem_of_getElem? (i := 13) rfl))
theorem dL_law_25 : decode cL_law 25 = .ok (.aload_n 0, 1) := of_decide_eq_true (List.all_eq_true.mp bt_law_1 (25, (.aload_n 0, 1)) (List.mem_of_getElem? (i := 14) rfl))
theorem dL_law_26 : decode cL_law 26 = .ok (.arraylength, 1) := of_decide_eq_true (List.all_eq_true.mp bt_law_1 (26, (.arraylength, 1)) (List.mem_of_getElem? (i := 15) rfl))
theorem dL_law_27 : decode cL_law 27 = .ok (.iconst 5, 1) := of_decide_eq_true (List.all_eq_true.mp bt_law_1 (27, (.iconst 5, 1)) (List.mem_of_getElem? (i := 16) rfl))
theorem dL_law_28 : decode cL_law 28 = .ok (.isub, 1) := of_decide_eq_true (List.all_eq_true.mp bt_law_1 (28, (.isub, 1)) (List.mem_of_getElem? (i := 17) rfl))
theorem dL_law_29 : decode cL_law 29 = .ok (.if_icmp .gt 1531, 3) := of_decide_eq_true (List.all_eq_true.mp bt_law_1 (29, (.if_icmp .gt 1531, 3)) (List.mem_of_getElem? (i := 18) rfl))
theorem dL_law_32 : decode cL_law 32 = .ok (.aload_n 0, 1) := of_decide_eq_true (List.all_eq_true.mp bt_law_1 (32, (.aload_n 0, 1)) (List.mem_of_getElem? (i := 19) rfl))
theorem dL_law_33 : decode cL_law 33 = .ok (.iload 4, 2) := of_decide_eq_true (List.all_eq_true.mp bt_law_1 (33, (.iload 4, 2)) (List.mem_of_getElem? (i := 20) rfl))
theorem dL_law_35 : decode cL_law 35 = .ok (.iaload, 1) := of_decide_eq_true (List.all_eq_true.mp bt_law_1 (35, (.iaload, 1)) (List.mem_of_getElem? (i := 21) rfl))
theorem dL_law_36 : decode cL_law 36 = .ok (.bipush 31, 2) := of_decide_eq_true (List.all_eq_true.mp bt_law_1 (36, (.bipush 31, 2)) (List.mem_of_getElem? (i := 22) rfl))
theorem dL_law_38 : decode cL_law 38 = .ok (.iand, 1) := of_decide_eq_true (List.all_eq_true.mp bt_law_1 (38, (.iand, 1)) (List.mem_of_getElem? (i := 23) rfl))
theorem dL_law_39 : decode cL_law 39 = .ok (.tableswitch 1515 0 27 #[125, 181, 237, 317, 330, 398, 466, 534, 578, 634, 714, 770, 838, 894, 949, 962, 1053, 1109, 1184, 1252, 1265, 1278, 1334, 1375, 1431, 1444, 1457, 1501], 125) := by decide +kernel
set_option maxRecDepth 100000 in
theorem bt_law_2 : ([(164, (.aload_n 1, 1)), (165, (.aload_n 0, 1)), (166, (.iload 4, 2)), (168, (.iconst 1, 1)), (169, (.iadd, 1)), (170, (.iaload, 1)), (171, (.aload_n 3, 1)), (172, (.invokestatic 86, 3)), (175, (.istore 5, 2)), (177, (.aload_n 2, 1)), (178, (.aload_n 0, 1)), (179, (.iload 4, 2)), (181, (.iconst 1, 1)), (182, (.iadd, 1)), (183, (.iaload, 1)), (184, (.invokevirtual 91, 3)), (187, (.istore 6, 2)), (189, (.aload_n 2, 1)), (190, (.invokevirtual 92, 3)), (193, (.iload 5, 2)), (195, (.if_icmp .eq 5, 3)), (198, (.iconst 0, 1)), (199, (.ireturn, 1)), (200, (.iload 5, 2)), (202, (.ifCond .ne 15, 3)), (205, (.aload_n 3, 1)), (206, (.iconst 0, 1)), (207, (.laload, 1)), (208, (.iload 6, 2)), (210, (.i2l, 1)), (211, (.lcmp, 1)), (212, (.ifCond .eq 5, 3)), (215, (.iconst 0, 1)), (216, (.ireturn, 1)), (217, (.goto 1337, 3)), (220, (.aload_n 1, 1)), (221, (.aload_n 0, 1)), (222, (.iload 4, 2)), (224, (.iconst 1, 1)), (225, (.iadd, 1)), (226, (.iaload, 1)), (227, (.aload_n 3, 1)), (228, (.invokestatic 95, 3)), (231, (.istore 5, 2)), (233, (.aload_n 2, 1)), (234, (.aload_n 0, 1)), (235, (.iload 4, 2)), (237, (.iconst 1, 1)), (238, (.iadd, 1)), (239, (.iaload, 1)), (240, (.invokevirtual 97, 3)), (243, (.istore 6, 2)), (245, (.aload_n 2, 1)), (246, (.invokevirtual 92, 3)), (249, (.iload 5, 2)), (251, (.if_icmp .eq 5, 3)), (254, (.iconst 0, 1)), (255, (.ireturn, 1)), (256, (.iload 5, 2)), (258, (.ifCond .ne 15, 3))] : List (Nat × (Instr × Nat))).all (fun q => decide (decode cL_law q.1 = .ok q.2)) = true := by decide +kernel
theorem dL_law_164 : decode cL_law 164 = .ok (.aload_n 1, 1) := of_decide_eq_true (List.all_eq_true.mp bt_law_2 (164, (.aload_n 1, 1)) (List.mem_of_getElem? (i := 0) rfl))
theorem dL_law_165 : decode cL_law 165 = .ok (.aload_n 0, 1) := of_decide_eq_true (List.all_eq_true.mp bt_law_2 (165, (.aload_n 0, 1)) (List.mem_of_getElem? (i := 1) rfl))
theorem dL_law_166 : decode cL_law 166 = .ok (.iload 4, 2) := of_decide_eq_true (List.all_eq_true.mp bt_law_2 (166, (.iload 4, 2)) (List.mem_of_getElem? (i := 2) rfl))
theorem dL_law_168 : decode cL_law 168 = .ok (.iconst 1, 1) := of_decide_eq_true (List.all_eq_true.mp bt_law_2 (168, (.iconst 1, 1)) (List.mem_of_getElem? (i := 3) rfl))
theorem dL_law_169 : decode cL_law 169 = .ok (.iadd, 1) := of_decide_eq_true (List.all_eq_true.mp bt_law_2 (169, (.iadd, 1)) (List.mem_of_getElem? (i := 4) rfl))
theorem dL_law_170 : decode cL_law 170 = .ok (.iaload, 1) := of_decide_eq_true (List.all_eq_true.mp bt_law_2 (170, (.iaload, 1)) (List.mem_of_getElem? (i := 5) rfl))
theorem dL_law_171 : decode cL_law 171 = .ok (.aload_n 3, 1) := of_decide_eq_true (List.all_eq_true.mp bt_law_2 (171, (.aload_n 3, 1)) (List.mem_of_getElem? (i := 6) rfl))
theorem dL_law_172 : decode cL_law 172 = .ok (.invokestatic 86, 3) := of_decide_eq_true (List.all_eq_true.mp bt_law_2 (172, (.invokestatic 86, 3)) (List.mem_of_getElem? (i := 7) rfl))
theorem dL_law_175 : decode cL_law 175 = .ok (.istore 5, 2) := of_decide_eq_true (List.all_eq_true.mp bt_law_2 (175, (.istore 5, 2)) (List.mem_of_getElem? (i := 8) rfl))
theorem dL_law_177 : decode cL_law 177 = .ok (.aload_n 2, 1) := of_decide_eq_true (List.all_eq_true.mp bt_law_2 (177, (.aload_n 2, 1)) (List.mem_of_getElem? (i := 9) rfl))
theorem dL_law_178 : decode cL_law 178 = .ok (.aload_n 0, 1) := of_decide_eq_true (List.all_eq_true.mp bt_law_2 (178, (.aload_n 0, 1)) (List.mem_of_getElem? (i := 10) rfl))
theorem dL_law_179 : decode cL_law 179 = .ok (.iload 4, 2) := of_decide_eq_true (List.all_eq_true.mp bt_law_2 (179, (.iload 4, 2)) (List.mem_of_getElem? (i := 11) rfl))
theorem dL_law_181 : decode cL_law 181 = .ok (.iconst 1, 1) := of_decide_eq_true (List.all_eq_true.mp bt_law_2 (181, (.iconst 1, 1)) (List.mem_of_getElem? (i := 12) rfl))
theorem dL_law_182 : decode cL_law 182 = .ok (.iadd, 1) := of_decide_eq_true (List.all_eq_true.mp bt_law_2 (182, (.iadd, 1)) (List.mem_of_getElem? (i := 13) rfl))
theorem dL_law_183 : decode cL_law 183 = .ok (.iaload, 1) := of_decide_eq_true (List.all_eq_true.mp bt_law_2 (183, (.iaload, 1)) (List.mem_of_getElem? (i := 14) rfl))
theorem dL_law_184 : decode cL_law 184 = .ok (.invokevirtual 91, 3) := of_decide_eq_true (List.all_eq_true.mp bt_law_2 (184, (.invokevirtual 91, 3)) (List.mem_of_getElem? (i := 15) rfl))
theorem dL_law_187 : decode cL_law 187 = .ok (.istore 6, 2) := of_decide_eq_true (List.all_eq_true.mp bt_law_2 (187, (.istore 6, 2)) (List.mem_of_getElem? (i := 16) rfl))
theorem dL_law_189 : decode cL_law 189 = .ok (.aload_n 2, 1) := of_decide_eq_true (List.all_eq_true.mp bt_law_2 (189, (.aload_n 2, 1)) (List.mem_of_getElem? (i := 17) rfl))
theorem dL_law_190 : decode cL_law 190 = .ok (.invokevirtual 92, 3) := of_decide_eq_true (List.all_eq_true.mp bt_law_2 (190, (.invokevirtual 92, 3)) (List.mem_of_getElem? (i := 18) rfl))
theorem dL_law_193 : decode cL_law 193 = .ok (.iload 5, 2) := of_decide_eq_true (List.all_eq_true.mp bt_law_2 (193, (.iload 5, 2)) (List.mem_of_getElem? (i := 19) rfl))
theorem dL_law_195 : decode cL_law 195 = .ok (.if_icmp .eq 5, 3) := of_decide_eq_true (List.all_eq_true.mp bt_law_2 (195, (.if_icmp .eq 5, 3)) (List.mem_of_getElem? (i := 20) rfl))
theorem dL_law_198 : decode cL_law 198 = .ok (.iconst 0, 1) := of_decide_eq_true (List.all_eq_true.mp bt_law_2 (198, (.iconst 0, 1)) (List.mem_of_getElem? (i := 21) rfl))
theorem dL_law_199 : decode cL_law 199 = .ok (.ireturn, 1) := of_decide_eq_true (List.all_eq_true.mp bt_law_2 (199, (.ireturn, 1)) (List.mem_of_getElem? (i := 22) rfl))
theorem dL_law_200 : decode cL_law 200 = .ok (.iload 5, 2) := of_decide_eq_true (List.all_eq_true.mp bt_law_2 (200, (.iload 5, 2)) (List.mem_of_getElem? (i := 23) rfl))
theorem dL_law_202 : decode cL_law 202 = .ok (.ifCond .ne 15, 3) := of_decide_eq_true (List.all_eq_true.mp bt_law_2 (202, (.ifCond .ne 15, 3)) (List.mem_of_getElem? (i := 24) rfl))
theorem dL_law_205 : decode cL_law 205 = .ok (.aload_n 3, 1) := of_decide_eq_true (List.all_eq_true.mp bt_law_2 (205, (.aload_n 3, 1)) (List.mem_of_getElem? (i := 25) rfl))
theorem dL_law_206 : decode cL_law 206 = .ok (.iconst 0, 1) := of_decide_eq_true (List.all_eq_true.mp bt_law_2 (206, (.iconst 0, 1)) (List.mem_of_getElem? (i := 26) rfl))
theorem dL_law_207 : decode cL_law 207 = .ok (.laload, 1) := of_decide_eq_true (List.all_eq_true.mp bt_law_2 (207, (.laload, 1)) (List.mem_of_getElem? (i := 27) rfl))
theorem dL_law_208 : decode cL_law 208 = .ok (.iload 6, 2) := of_decide_eq_true (List.all_eq_true.mp bt_law_2 (208, (.iload 6, 2)) (List.mem_of_getElem? (i := 28) rfl))
theorem dL_law_210 : decode cL_law 210 = .ok (.i2l, 1) := of_decide_eq_true (List.all_eq_true.mp bt_law_2 (210, (.i2l, 1)) (List.mem_of_getElem? (i := 29) rfl))
theorem dL_law_211 : decode cL_law 211 = .ok (.lcmp, 1) := of_decide_eq_true (List.all_eq_true.mp bt_law_2 (211, (.lcmp, 1)) (List.mem_of_getElem? (i := 30) rfl))
theorem dL_law_212 : decode cL_law 212 = .ok (.ifCond .eq 5, 3) := of_decide_eq_true (List.all_eq_true.mp bt_law_2 (212, (.ifCond .eq 5, 3)) (List.mem_of_getElem? (i := 31) rfl))
theorem dL_law_215 : decode cL_law 215 = .ok (.iconst 0, 1) := of_decide_eq_true (List.all_eq_true.mp bt_law_2 (215, (.iconst 0, 1)) (List.mem_of_getElem? (i := 32) rfl))
theorem dL_law_216 : decode cL_law 216 = .ok (.ireturn, 1) := of_decide_eq_true (List.all_eq_true.mp bt_law_2 (216, (.ireturn, 1)) (List.mem_of_getElem? (i := 33) rfl))
theorem dL_law_217 : decode cL_law 217 = .ok (.goto 1337, 3) := of_decide_eq_true (List.all_eq_true.mp bt_law_2 (217, (.goto 1337, 3)) (List.mem_of_getElem? (i := 34) rfl))
theorem dL_law_220 : decode cL_law 220 = .ok (.aload_n 1, 1) := of_decide_eq_true (List.all_eq_true.mp bt_law_2 (220, (.aload_n 1, 1)) (List.mem_of_getElem? (i := 35) rfl))
theorem dL_law_221 : decode cL_law 221 = .ok (.aload_n 0, 1) := of_decide_eq_true (List.all_eq_true.mp bt_law_2 (221, (.aload_n 0, 1)) (List.mem_of_getElem? (i := 36) rfl))
theorem dL_law_222 : decode cL_law 222 = .ok (.iload 4, 2) := of_decide_eq_true (List.all_eq_true.mp bt_law_2 (222, (.iload 4, 2)) (List.mem_of_getElem? (i := 37) rfl))
theorem dL_law_224 : decode cL_law 224 = .ok (.iconst 1, 1) := of_decide_eq_true (List.all_eq_true.mp bt_law_2 (224, (.iconst 1, 1)) (List.mem_of_getElem? (i := 38) rfl))
theorem dL_law_225 : decode cL_law 225 = .ok (.iadd, 1) := of_decide_eq_true (List.all_eq_true.mp bt_law_2 (225, (.iadd, 1)) (List.mem_of_getElem? (i := 39) rfl))
theorem dL_law_226 : decode cL_law 226 = .ok (.iaload, 1) := of_decide_eq_true (List.all_eq_true.mp bt_law_2 (226, (.iaload, 1)) (List.mem_of_getElem? (i := 40) rfl))
theorem dL_law_227 : decode cL_law 227 = .ok (.aload_n 3, 1) := of_decide_eq_true (List.all_eq_true.mp bt_law_2 (227, (.aload_n 3, 1)) (List.mem_of_getElem? (i := 41) rfl))
theorem dL_law_228 : decode cL_law 228 = .ok (.invokestatic 95, 3) := of_decide_eq_true (List.all_eq_true.mp bt_law_2 (228, (.invokestatic 95, 3)) (List.mem_of_getElem? (i := 42) rfl))
theorem dL_law_231 : decode cL_law 231 = .ok (.istore 5, 2) := of_decide_eq_true (List.all_eq_true.mp bt_law_2 (231, (.istore 5, 2)) (List.mem_of_getElem? (i := 43) rfl))
theorem dL_law_233 : decode cL_law 233 = .ok (.aload_n 2, 1) := of_decide_eq_true (List.all_eq_true.mp bt_law_2 (233, (.aload_n 2, 1)) (List.mem_of_getElem? (i := 44) rfl))
theorem dL_law_234 : decode cL_law 234 = .ok (.aload_n 0, 1) := of_decide_eq_true (List.all_eq_true.mp bt_law_2 (234, (.aload_n 0, 1)) (List.mem_of_getElem? (i := 45) rfl))
theorem dL_law_235 : decode cL_law 235 = .ok (.iload 4, 2) := of_decide_eq_true (List.all_eq_true.mp bt_law_2 (235, (.iload 4, 2)) (List.mem_of_getElem? (i := 46) rfl))
theorem dL_law_237 : decode cL_law 237 = .ok (.iconst 1, 1) := of_decide_eq_true (List.all_eq_true.mp bt_law_2 (237, (.iconst 1, 1)) (List.mem_of_getElem? (i := 47) rfl))
theorem dL_law_238 : decode cL_law 238 = .ok (.iadd, 1) := of_decide_eq_true (List.all_eq_true.mp bt_law_2 (238, (.iadd, 1)) (List.mem_of_getElem? (i := 48) rfl))
theorem dL_law_239 : decode cL_law 239 = .ok (.iaload, 1) := of_decide_eq_true (List.all_eq_true.mp bt_law_2 (239, (.iaload, 1)) (List.mem_of_getElem? (i := 49) rfl))
theorem dL_law_240 : decode cL_law 240 = .ok (.invokevirtual 97, 3) := of_decide_eq_true (List.all_eq_true.mp bt_law_2 (240, (.invokevirtual 97, 3)) (List.mem_of_getElem? (i := 50) rfl))
theorem dL_law_243 : decode cL_law 243 = .ok (.istore 6, 2) := of_decide_eq_true (List.all_eq_true.mp bt_law_2 (243, (.istore 6, 2)) (List.mem_of_getElem? (i := 51) rfl))
theorem dL_law_245 : decode cL_law 245 = .ok (.aload_n 2, 1) := of_decide_eq_true (List.all_eq_true.mp bt_law_2 (245, (.aload_n 2, 1)) (List.mem_of_getElem? (i := 52) rfl))
theorem dL_law_246 : decode cL_law 246 = .ok (.invokevirtual 92, 3) := of_decide_eq_true (List.all_eq_true.mp bt_law_2 (246, (.invokevirtual 92, 3)) (List.mem_of_getElem? (i := 53) rfl))
theorem dL_law_249 : decode cL_law 249 = .ok (.iload 5, 2) := of_decide_eq_true (List.all_eq_true.mp bt_law_2 (249, (.iload 5, 2)) (List.mem_of_getElem? (i := 54) rfl))
theorem dL_law_251 : decode cL_law 251 = .ok (.if_icmp .eq 5, 3) := of_decide_eq_true (List.all_eq_true.mp bt_law_2 (251, (.if_icmp .eq 5, 3)) (List.mem_of_getElem? (i := 55) rfl))
theorem dL_law_254 : decode cL_law 254 = .ok (.iconst 0, 1) := of_decide_eq_true (List.all_eq_true.mp bt_law_2 (254, (.iconst 0, 1)) (List.mem_of_getElem? (i := 56) rfl))
theorem dL_law_255 : decode cL_law 255 = .ok (.ireturn, 1) := of_decide_eq_true (List.all_eq_true.mp bt_law_2 (255, (.ireturn, 1)) (List.mem_of_getElem? (i := 57) rfl))
theorem dL_law_256 : decode cL_law 256 = .ok (.iload 5, 2) := of_decide_eq_true (List.all_eq_true.mp bt_law_2 (256, (.iload 5, 2)) (List.mem_of_getElem? (i := 58) rfl))
theorem dL_law_258 : decode cL_law 258 = .ok (.ifCond .ne 15, 3) := of_decide_eq_true (List.all_eq_true.mp bt_law_2 (258, (.ifCond .ne 15, 3)) (List.mem_of_getElem? (i := 59) rfl))
set_option maxRecDepth 100000 in
theorem bt_law_3 : ([(261, (.aload_n 3, 1)), (262, (.iconst 0, 1)), (263, (.laload, 1)), (264, (.iload 6, 2)), (266, (.i2l, 1)), (267, (.lcmp, 1)), (268, (.ifCond .eq 5, 3)), (271, (.iconst 0, 1)), (272, (.ireturn, 1)), (273, (.goto 1281, 3)), (276, (.aload_n 1, 1)), (277, (.aload_n 0, 1)), (278, (.iload 4, 2)), (280, (.iconst 1, 1)), (281, (.iadd, 1)), (282, (.iaload, 1)), (283, (.aload_n 0, 1)), (284, (.iload 4, 2)), (286, (.iconst 2, 1)), (287, (.iadd, 1)), (288, (.iaload, 1)), (289, (.aload_n 0, 1)), (290, (.iload 4, 2)), (292, (.iconst 3, 1)), (293, (.iadd, 1)), (294, (.iaload, 1)), (295, (.aload_n 3, 1)), (296, (.invokestatic 98, 3)), (299, (.istore 5, 2)), (301, (.aload_n 2, 1)), (302, (.aload_n 0, 1)), (303, (.iload 4, 2)), (305, (.iconst 1, 1)), (306, (.iadd, 1)), (307, (.iaload, 1)), (308, (.aload_n 0, 1)), (309, (.iload 4, 2)), (311, (.iconst 2, 1)), (312, (.iadd, 1)), (313, (.iaload, 1)), (314, (.aload_n 0, 1)), (315, (.iload 4, 2)), (317, (.iconst 3, 1)), (318, (.iadd, 1)), (319, (.iaload, 1)), (320, (.invokevirtual 101, 3)), (323, (.istore 6, 2)), (325, (.aload_n 2, 1)), (326, (.invokevirtual 92, 3)), (329, (.iload 5, 2)), (331, (.if_icmp .eq 5, 3)), (334, (.iconst 0, 1)), (335, (.ireturn, 1)), (336, (.iload 5, 2)), (338, (.ifCond .ne 15, 3)), (341, (.aload_n 3, 1)), (342, (.iconst 0, 1)), (343, (.laload, 1)), (344, (.iload 6, 2)), (346, (.i2l, 1))] : List (Nat × (Instr × Nat))).all (fun q => decide (decode cL_law q.1 = .ok q.2)) = true := by decide +kernel
theorem dL_law_261 : decode cL_law 261 = .ok (.aload_n 3, 1) := of_decide_eq_true (List.all_eq_true.mp bt_law_3 (261, (.aload_n 3, 1)) (List.mem_of_getElem? (i := 0) rfl))
theorem dL_law_262 : decode cL_law 262 = .ok (.iconst 0, 1) := of_decide_eq_true (List.all_eq_true.mp bt_law_3 (262, (.iconst 0, 1)) (List.mem_of_getElem? (i := 1) rfl))
theorem dL_law_263 : decode cL_law 263 = .ok (.laload, 1) := of_decide_eq_true (List.all_eq_true.mp bt_law_3 (263, (.laload, 1)) (List.mem_of_getElem? (i := 2) rfl))
theorem dL_law_264 : decode cL_law 264 = .ok (.iload 6, 2) := of_decide_eq_true (List.all_eq_true.mp bt_law_3 (264, (.iload 6, 2)) (List.mem_of_getElem? (i := 3) rfl))
theorem dL_law_266 : decode cL_law 266 = .ok (.i2l, 1) := of_decide_eq_true (List.all_eq_true.mp bt_law_3 (266, (.i2l, 1)) (List.mem_of_getElem? (i := 4) rfl))
theorem dL_law_267 : decode cL_law 267 = .ok (.lcmp, 1) := of_decide_eq_true (List.all_eq_true.mp bt_law_3 (267, (.lcmp, 1)) (List.mem_of_getElem? (i := 5) rfl))
theorem dL_law_268 : decode cL_law 268 = .ok (.ifCond .eq 5, 3) := of_decide_eq_true (List.all_eq_true.mp bt_law_3 (268, (.ifCond .eq 5, 3)) (List.mem_of_getElem? (i := 6) rfl))
theorem dL_law_271 : decode cL_law 271 = .ok (.iconst 0, 1) := of_decide_eq_true (List.all_eq_true.mp bt_law_3 (271, (.iconst 0, 1)) (List.mem_of_getElem? (i := 7) rfl))
theorem dL_law_272 : decode cL_law 272 = .ok (.ireturn, 1) := of_decide_eq_true (List.all_eq_true.mp bt_law_3 (272, (.ireturn, 1)) (List.mem_of_getElem? (i := 8) rfl))
theorem dL_law_273 : decode cL_law 273 = .ok (.goto 1281, 3) := of_decide_eq_true (List.all_eq_true.mp bt_law_3 (273, (.goto 1281, 3)) (List.mem_of_getElem? (i := 9) rfl))
theorem dL_law_276 : decode cL_law 276 = .ok (.aload_n 1, 1) := of_decide_eq_true (List.all_eq_true.mp bt_law_3 (276, (.aload_n 1, 1)) (List.mem_of_getElem? (i := 10) rfl))
theorem dL_law_277 : decode cL_law 277 = .ok (.aload_n 0, 1) := of_decide_eq_true (List.all_eq_true.mp bt_law_3 (277, (.aload_n 0, 1)) (List.mem_of_getElem? (i := 11) rfl))
theorem dL_law_278 : decode cL_law 278 = .ok (.iload 4, 2) := of_decide_eq_true (List.all_eq_true.mp bt_law_3 (278, (.iload 4, 2)) (List.mem_of_getElem? (i := 12) rfl))
theorem dL_law_280 : decode cL_law 280 = .ok (.iconst 1, 1) := of_decide_eq_true (List.all_eq_true.mp bt_law_3 (280, (.iconst 1, 1)) (List.mem_of_getElem? (i := 13) rfl))
theorem dL_law_281 : decode cL_law 281 = .ok (.iadd, 1) := of_decide_eq_true (List.all_eq_true.mp bt_law_3 (281, (.iadd, 1)) (List.mem_of_getElem? (i := 14) rfl))
theorem dL_law_282 : decode cL_law 282 = .ok (.iaload, 1) := of_decide_eq_true (List.all_eq_true.mp bt_law_3 (282, (.iaload, 1)) (List.mem_of_getElem? (i := 15) rfl))
theorem dL_law_283 : decode cL_law 283 = .ok (.aload_n 0, 1) := of_decide_eq_true (List.all_eq_true.mp bt_law_3 (283, (.aload_n 0, 1)) (List.mem_of_getElem? (i := 16) rfl))
theorem dL_law_284 : decode cL_law 284 = .ok (.iload 4, 2) := of_decide_eq_true (List.all_eq_true.mp bt_law_3 (284, (.iload 4, 2)) (List.mem_of_getElem? (i := 17) rfl))
theorem dL_law_286 : decode cL_law 286 = .ok (.iconst 2, 1) := of_decide_eq_true (List.all_eq_true.mp bt_law_3 (286, (.iconst 2, 1)) (List.mem_of_getElem? (i := 18) rfl))
theorem dL_law_287 : decode cL_law 287 = .ok (.iadd, 1) := of_decide_eq_true (List.all_eq_true.mp bt_law_3 (287, (.iadd, 1)) (List.mem_of_getElem? (i := 19) rfl))
theorem dL_law_288 : decode cL_law 288 = .ok (.iaload, 1) := of_decide_eq_true (List.all_eq_true.mp bt_law_3 (288, (.iaload, 1)) (List.mem_of_getElem? (i := 20) rfl))
theorem dL_law_289 : decode cL_law 289 = .ok (.aload_n 0, 1) := of_decide_eq_true (List.all_eq_true.mp bt_law_3 (289, (.aload_n 0, 1)) (List.mem_of_getElem? (i := 21) rfl))
theorem dL_law_290 : decode cL_law 290 = .ok (.iload 4, 2) := of_decide_eq_true (List.all_eq_true.mp bt_law_3 (290, (.iload 4, 2)) (List.mem_of_getElem? (i := 22) rfl))
theorem dL_law_292 : decode cL_law 292 = .ok (.iconst 3, 1) := of_decide_eq_true (List.all_eq_true.mp bt_law_3 (292, (.iconst 3, 1)) (List.mem_of_getElem? (i := 23) rfl))
theorem dL_law_293 : decode cL_law 293 = .ok (.iadd, 1) := of_decide_eq_true (List.all_eq_true.mp bt_law_3 (293, (.iadd, 1)) (List.mem_of_getElem? (i := 24) rfl))
theorem dL_law_294 : decode cL_law 294 = .ok (.iaload, 1) := of_decide_eq_true (List.all_eq_true.mp bt_law_3 (294, (.iaload, 1)) (List.mem_of_getElem? (i := 25) rfl))
theorem dL_law_295 : decode cL_law 295 = .ok (.aload_n 3, 1) := of_decide_eq_true (List.all_eq_true.mp bt_law_3 (295, (.aload_n 3, 1)) (List.mem_of_getElem? (i := 26) rfl))
theorem dL_law_296 : decode cL_law 296 = .ok (.invokestatic 98, 3) := of_decide_eq_true (List.all_eq_true.mp bt_law_3 (296, (.invokestatic 98, 3)) (List.mem_of_getElem? (i := 27) rfl))
theorem dL_law_299 : decode cL_law 299 = .ok (.istore 5, 2) := of_decide_eq_true (List.all_eq_true.mp bt_law_3 (299, (.istore 5, 2)) (List.mem_of_getElem? (i := 28) rfl))
theorem dL_law_301 : decode cL_law 301 = .ok (.aload_n 2, 1) := of_decide_eq_true (List.all_eq_true.mp bt_law_3 (301, (.aload_n 2, 1)) (List.mem_of_getElem? (i := 29) rfl))
theorem dL_law_302 : decode cL_law 302 = .ok (.aload_n 0, 1) := of_decide_eq_true (List.all_eq_true.mp bt_law_3 (302, (.aload_n 0, 1)) (List.mem_of_getElem? (i := 30) rfl))
theorem dL_law_303 : decode cL_law 303 = .ok (.iload 4, 2) := of_decide_eq_true (List.all_eq_true.mp bt_law_3 (303, (.iload 4, 2)) (List.mem_of_getElem? (i := 31) rfl))
theorem dL_law_305 : decode cL_law 305 = .ok (.iconst 1, 1) := of_decide_eq_true (List.all_eq_true.mp bt_law_3 (305, (.iconst 1, 1)) (List.mem_of_getElem? (i := 32) rfl))
theorem dL_law_306 : decode cL_law 306 = .ok (.iadd, 1) := of_decide_eq_true (List.all_eq_true.mp bt_law_3 (306, (.iadd, 1)) (List.mem_of_getElem? (i := 33) rfl))
theorem dL_law_307 : decode cL_law 307 = .ok (.iaload, 1) := of_decide_eq_true (List.all_eq_true.mp bt_law_3 (307, (.iaload, 1)) (List.mem_of_getElem? (i := 34) rfl))
theorem dL_law_308 : decode cL_law 308 = .ok (.aload_n 0, 1) := of_decide_eq_true (List.all_eq_true.mp bt_law_3 (308, (.aload_n 0, 1)) (List.mem_of_getElem? (i := 35) rfl))
theorem dL_law_309 : decode cL_law 309 = .ok (.iload 4, 2) := of_decide_eq_true (List.all_eq_true.mp bt_law_3 (309, (.iload 4, 2)) (List.mem_of_getElem? (i := 36) rfl))
theorem dL_law_311 : decode cL_law 311 = .ok (.iconst 2, 1) := of_decide_eq_true (List.all_eq_true.mp bt_law_3 (311, (.iconst 2, 1)) (List.mem_of_getElem? (i := 37) rfl))
theorem dL_law_312 : decode cL_law 312 = .ok (.iadd, 1) := of_decide_eq_true (List.all_eq_true.mp bt_law_3 (312, (.iadd, 1)) (List.mem_of_getElem? (i := 38) rfl))
theorem dL_law_313 : decode cL_law 313 = .ok (.iaload, 1) := of_decide_eq_true (List.all_eq_true.mp bt_law_3 (313, (.iaload, 1)) (List.mem_of_getElem? (i := 39) rfl))
theorem dL_law_314 : decode cL_law 314 = .ok (.aload_n 0, 1) := of_decide_eq_true (List.all_eq_true.mp bt_law_3 (314, (.aload_n 0, 1)) (List.mem_of_getElem? (i := 40) rfl))
theorem dL_law_315 : decode cL_law 315 = .ok (.iload 4, 2) := of_decide_eq_true (List.all_eq_true.mp bt_law_3 (315, (.iload 4, 2)) (List.mem_of_getElem? (i := 41) rfl))
theorem dL_law_317 : decode cL_law 317 = .ok (.iconst 3, 1) := of_decide_eq_true (List.all_eq_true.mp bt_law_3 (317, (.iconst 3, 1)) (List.mem_of_getElem? (i := 42) rfl))
theorem dL_law_318 : decode cL_law 318 = .ok (.iadd, 1) := of_decide_eq_true (List.all_eq_true.mp bt_law_3 (318, (.iadd, 1)) (List.mem_of_getElem? (i := 43) rfl))
theorem dL_law_319 : decode cL_law 319 = .ok (.iaload, 1) := of_decide_eq_true (List.all_eq_true.mp bt_law_3 (319, (.iaload, 1)) (List.mem_of_getElem? (i := 44) rfl))
theorem dL_law_320 : decode cL_law 320 = .ok (.invokevirtual 101, 3) := of_decide_eq_true (List.all_eq_true.mp bt_law_3 (320, (.invokevirtual 101, 3)) (List.mem_of_getElem? (i := 45) rfl))
theorem dL_law_323 : decode cL_law 323 = .ok (.istore 6, 2) := of_decide_eq_true (List.all_eq_true.mp bt_law_3 (323, (.istore 6, 2)) (List.mem_of_getElem? (i := 46) rfl))
theorem dL_law_325 : decode cL_law 325 = .ok (.aload_n 2, 1) := of_decide_eq_true (List.all_eq_true.mp bt_law_3 (325, (.aload_n 2, 1)) (List.mem_of_getElem? (i := 47) rfl))
theorem dL_law_326 : decode cL_law 326 = .ok (.invokevirtual 92, 3) := of_decide_eq_true (List.all_eq_true.mp bt_law_3 (326, (.invokevirtual 92, 3)) (List.mem_of_getElem? (i := 48) rfl))
theorem dL_law_329 : decode cL_law 329 = .ok (.iload 5, 2) := of_decide_eq_true (List.all_eq_true.mp bt_law_3 (329, (.iload 5, 2)) (List.mem_of_getElem? (i := 49) rfl))
theorem dL_law_331 : decode cL_law 331 = .ok (.if_icmp .eq 5, 3) := of_decide_eq_true (List.all_eq_true.mp bt_law_3 (331, (.if_icmp .eq 5, 3)) (List.mem_of_getElem? (i := 50) rfl))
theorem dL_law_334 : decode cL_law 334 = .ok (.iconst 0, 1) := of_decide_eq_true (List.all_eq_true.mp bt_law_3 (334, (.iconst 0, 1)) (List.mem_of_getElem? (i := 51) rfl))
theorem dL_law_335 : decode cL_law 335 = .ok (.ireturn, 1) := of_decide_eq_true (List.all_eq_true.mp bt_law_3 (335, (.ireturn, 1)) (List.mem_of_getElem? (i := 52) rfl))
theorem dL_law_336 : decode cL_law 336 = .ok (.iload 5, 2) := of_decide_eq_true (List.all_eq_true.mp bt_law_3 (336, (.iload 5, 2)) (List.mem_of_getElem? (i := 53) rfl))
theorem dL_law_338 : decode cL_law 338 = .ok (.ifCond .ne 15, 3) := of_decide_eq_true (List.all_eq_true.mp bt_law_3 (338, (.ifCond .ne 15, 3)) (List.mem_of_getElem? (i := 54) rfl))
theorem dL_law_341 : decode cL_law 341 = .ok (.aload_n 3, 1) := of_decide_eq_true (List.all_eq_true.mp bt_law_3 (341, (.aload_n 3, 1)) (List.mem_of_getElem? (i := 55) rfl))
theorem dL_law_342 : decode cL_law 342 = .ok (.iconst 0, 1) := of_decide_eq_true (List.all_eq_true.mp bt_law_3 (342, (.iconst 0, 1)) (List.mem_of_getElem? (i := 56) rfl))
theorem dL_law_343 : decode cL_law 343 = .ok (.laload, 1) := of_decide_eq_true (List.all_eq_true.mp bt_law_3 (343, (.laload, 1)) (List.mem_of_getElem? (i := 57) rfl))
theorem dL_law_344 : decode cL_law 344 = .ok (.iload 6, 2) := of_decide_eq_true (List.all_eq_true.mp bt_law_3 (344, (.iload 6, 2)) (List.mem_of_getElem? (i := 58) rfl))
theorem dL_law_346 : decode cL_law 346 = .ok (.i2l, 1) := of_decide_eq_true (List.all_eq_true.mp bt_law_3 (346, (.i2l, 1)) (List.mem_of_getElem? (i := 59) rfl))
set_option maxRecDepth 100000 in
theorem bt_law_4 : ([(347, (.lcmp, 1)), (348, (.ifCond .eq 5, 3)), (351, (.iconst 0, 1)), (352, (.ireturn, 1)), (353, (.goto 1201, 3)), (356, (.aload_n 1, 1)), (357, (.invokevirtual 102, 3)), (360, (.aload_n 2, 1)), (361, (.invokevirtual 105, 3)), (364, (.if_icmp .eq 1190, 3)), (367, (.iconst 0, 1)), (368, (.ireturn, 1)), (369, (.aload_n 1, 1)), (370, (.aload_n 0, 1)), (371, (.iload 4, 2)), (373, (.iconst 1, 1)), (374, (.iadd, 1)), (375, (.iaload, 1)), (376, (.aload_n 0, 1)), (377, (.iload 4, 2)), (379, (.iconst 2, 1)), (380, (.iadd, 1)), (381, (.iaload, 1)), (382, (.aload_n 3, 1)), (383, (.invokestatic 106, 3)), (386, (.istore 5, 2)), (388, (.aload_n 2, 1)), (389, (.aload_n 0, 1)), (390, (.iload 4, 2)), (392, (.iconst 1, 1)), (393, (.iadd, 1)), (394, (.iaload, 1)), (395, (.aload_n 0, 1)), (396, (.iload 4, 2)), (398, (.iconst 2, 1)), (399, (.iadd, 1)), (400, (.iaload, 1)), (401, (.invokevirtual 109, 3)), (404, (.istore 6, 2)), (406, (.aload_n 2, 1)), (407, (.invokevirtual 92, 3)), (410, (.iload 5, 2)), (412, (.if_icmp .eq 5, 3)), (415, (.iconst 0, 1)), (416, (.ireturn, 1)), (417, (.iload 5, 2)), (419, (.ifCond .ne 15, 3)), (422, (.aload_n 3, 1)), (423, (.iconst 0, 1)), (424, (.laload, 1)), (425, (.iload 6, 2)), (427, (.i2l, 1)), (428, (.lcmp, 1)), (429, (.ifCond .eq 5, 3)), (432, (.iconst 0, 1)), (433, (.ireturn, 1)), (434, (.goto 1120, 3)), (437, (.aload_n 1, 1)), (438, (.aload_n 0, 1)), (439, (.iload 4, 2))] : List (Nat × (Instr × Nat))).all (fun q => decide (decode cL_law q.1 = .ok q.2)) = true := by decide +kernel
theorem dL_law_347 : decode cL_law 347 = .ok (.lcmp, 1) := of_decide_eq_true (List.all_eq_true.mp bt_law_4 (347, (.lcmp, 1)) (List.mem_of_getElem? (i := 0) rfl))
theorem dL_law_348 : decode cL_law 348 = .ok (.ifCond .eq 5, 3) := of_decide_eq_true (List.all_eq_true.mp bt_law_4 (348, (.ifCond .eq 5, 3)) (List.mem_of_getElem? (i := 1) rfl))
theorem dL_law_351 : decode cL_law 351 = .ok (.iconst 0, 1) := of_decide_eq_true (List.all_eq_true.mp bt_law_4 (351, (.iconst 0, 1)) (List.mem_of_getElem? (i := 2) rfl))
theorem dL_law_352 : decode cL_law 352 = .ok (.ireturn, 1) := of_decide_eq_true (List.all_eq_true.mp bt_law_4 (352, (.ireturn, 1)) (List.mem_of_getElem? (i := 3) rfl))
theorem dL_law_353 : decode cL_law 353 = .ok (.goto 1201, 3) := of_decide_eq_true (List.all_eq_true.mp bt_law_4 (353, (.goto 1201, 3)) (List.mem_of_getElem? (i := 4) rfl))
theorem dL_law_356 : decode cL_law 356 = .ok (.aload_n 1, 1) := of_decide_eq_true (List.all_eq_true.mp bt_law_4 (356, (.aload_n 1, 1)) (List.mem_of_getElem? (i := 5) rfl))
theorem dL_law_357 : decode cL_law 357 = .ok (.invokevirtual 102, 3) := of_decide_eq_true (List.all_eq_true.mp bt_law_4 (357, (.invokevirtual 102, 3)) (List.mem_of_getElem? (i := 6) rfl))
theorem dL_law_360 : decode cL_law 360 = .ok (.aload_n 2, 1) := of_decide_eq_true (List.all_eq_true.mp bt_law_4 (360, (.aload_n 2, 1)) (List.mem_of_getElem? (i := 7) rfl))
theorem dL_law_361 : decode cL_law 361 = .ok (.invokevirtual 105, 3) := of_decide_eq_true (List.all_eq_true.mp bt_law_4 (361, (.invokevirtual 105, 3)) (List.mem_of_getElem? (i := 8) rfl))
theorem dL_law_364 : decode cL_law 364 = .ok (.if_icmp .eq 1190, 3) := of_decide_eq_true (List.all_eq_true.mp bt_law_4 (364, (.if_icmp .eq 1190, 3)) (List.mem_of_getElem? (i := 9) rfl))
theorem dL_law_367 : decode cL_law 367 = .ok (.iconst 0, 1) := of_decide_eq_true (List.all_eq_true.mp bt_law_4 (367, (.iconst 0, 1)) (List.mem_of_getElem? (i := 10) rfl))
theorem dL_law_368 : decode cL_law 368 = .ok (.ireturn, 1) := of_decide_eq_true (List.all_eq_true.mp bt_law_4 (368, (.ireturn, 1)) (List.mem_of_getElem? (i := 11) rfl))
theorem dL_law_369 : decode cL_law 369 = .ok (.aload_n 1, 1) := of_decide_eq_true (List.all_eq_true.mp bt_law_4 (369, (.aload_n 1, 1)) (List.mem_of_getElem? (i := 12) rfl))
theorem dL_law_370 : decode cL_law 370 = .ok (.aload_n 0, 1) := of_decide_eq_true (List.all_eq_true.mp bt_law_4 (370, (.aload_n 0, 1)) (List.mem_of_getElem? (i := 13) rfl))
theorem dL_law_371 : decode cL_law 371 = .ok (.iload 4, 2) := of_decide_eq_true (List.all_eq_true.mp bt_law_4 (371, (.iload 4, 2)) (List.mem_of_getElem? (i := 14) rfl))
theorem dL_law_373 : decode cL_law 373 = .ok (.iconst 1, 1) := of_decide_eq_true (List.all_eq_true.mp bt_law_4 (373, (.iconst 1, 1)) (List.mem_of_getElem? (i := 15) rfl))
theorem dL_law_374 : decode cL_law 374 = .ok (.iadd, 1) := of_decide_eq_true (List.all_eq_true.mp bt_law_4 (374, (.iadd, 1)) (List.mem_of_getElem? (i := 16) rfl))
theorem dL_law_375 : decode cL_law 375 = .ok (.iaload, 1) := of_decide_eq_true (List.all_eq_true.mp bt_law_4 (375, (.iaload, 1)) (List.mem_of_getElem? (i := 17) rfl))
theorem dL_law_376 : decode cL_law 376 = .ok (.aload_n 0, 1) := of_decide_eq_true (List.all_eq_true.mp bt_law_4 (376, (.aload_n 0, 1)) (List.mem_of_getElem? (i := 18) rfl))
theorem dL_law_377 : decode cL_law 377 = .ok (.iload 4, 2) := of_decide_eq_true (List.all_eq_true.mp bt_law_4 (377, (.iload 4, 2)) (List.mem_of_getElem? (i := 19) rfl))
theorem dL_law_379 : decode cL_law 379 = .ok (.iconst 2, 1) := of_decide_eq_true (List.all_eq_true.mp bt_law_4 (379, (.iconst 2, 1)) (List.mem_of_getElem? (i := 20) rfl))
theorem dL_law_380 : decode cL_law 380 = .ok (.iadd, 1) := of_decide_eq_true (List.all_eq_true.mp bt_law_4 (380, (.iadd, 1)) (List.mem_of_getElem? (i := 21) rfl))
theorem dL_law_381 : decode cL_law 381 = .ok (.iaload, 1) := of_decide_eq_true (List.all_eq_true.mp bt_law_4 (381, (.iaload, 1)) (List.mem_of_getElem? (i := 22) rfl))
theorem dL_law_382 : decode cL_law 382 = .ok (.aload_n 3, 1) := of_decide_eq_true (List.all_eq_true.mp bt_law_4 (382, (.aload_n 3, 1)) (List.mem_of_getElem? (i := 23) rfl))
theorem dL_law_383 : decode cL_law 383 = .ok (.invokestatic 106, 3) := of_decide_eq_true (List.all_eq_true.mp bt_law_4 (383, (.invokestatic 106, 3)) (List.mem_of_getElem? (i := 24) rfl))
theorem dL_law_386 : decode cL_law 386 = .ok (.istore 5, 2) := of_decide_eq_true (List.all_eq_true.mp bt_law_4 (386, (.istore 5, 2)) (List.mem_of_getElem? (i := 25) rfl))
theorem dL_law_388 : decode cL_law 388 = .ok (.aload_n 2, 1) := of_decide_eq_true (List.all_eq_true.mp bt_law_4 (388, (.aload_n 2, 1)) (List.mem_of_getElem? (i := 26) rfl))
theorem dL_law_389 : decode cL_law 389 = .ok (.aload_n 0, 1) := of_decide_eq_true (List.all_eq_true.mp bt_law_4 (389, (.aload_n 0, 1)) (List.mem_of_getElem? (i := 27) rfl))
theorem dL_law_390 : decode cL_law 390 = .ok (.iload 4, 2) := of_decide_eq_true (List.all_eq_true.mp bt_law_4 (390, (.iload 4, 2)) (List.mem_of_getElem? (i := 28) rfl))
theorem dL_law_392 : decode cL_law 392 = .ok (.iconst 1, 1) := of_decide_eq_true (List.all_eq_true.mp bt_law_4 (392, (.iconst 1, 1)) (List.mem_of_getElem? (i := 29) rfl))
theorem dL_law_393 : decode cL_law 393 = .ok (.iadd, 1) := of_decide_eq_true (List.all_eq_true.mp bt_law_4 (393, (.iadd, 1)) (List.mem_of_getElem? (i := 30) rfl))
theorem dL_law_394 : decode cL_law 394 = .ok (.iaload, 1) := of_decide_eq_true (List.all_eq_true.mp bt_law_4 (394, (.iaload, 1)) (List.mem_of_getElem? (i := 31) rfl))
theorem dL_law_395 : decode cL_law 395 = .ok (.aload_n 0, 1) := of_decide_eq_true (List.all_eq_true.mp bt_law_4 (395, (.aload_n 0, 1)) (List.mem_of_getElem? (i := 32) rfl))
theorem dL_law_396 : decode cL_law 396 = .ok (.iload 4, 2) := of_decide_eq_true (List.all_eq_true.mp bt_law_4 (396, (.iload 4, 2)) (List.mem_of_getElem? (i := 33) rfl))
theorem dL_law_398 : decode cL_law 398 = .ok (.iconst 2, 1) := of_decide_eq_true (List.all_eq_true.mp bt_law_4 (398, (.iconst 2, 1)) (List.mem_of_getElem? (i := 34) rfl))
theorem dL_law_399 : decode cL_law 399 = .ok (.iadd, 1) := of_decide_eq_true (List.all_eq_true.mp bt_law_4 (399, (.iadd, 1)) (List.mem_of_getElem? (i := 35) rfl))
theorem dL_law_400 : decode cL_law 400 = .ok (.iaload, 1) := of_decide_eq_true (List.all_eq_true.mp bt_law_4 (400, (.iaload, 1)) (List.mem_of_getElem? (i := 36) rfl))
theorem dL_law_401 : decode cL_law 401 = .ok (.invokevirtual 109, 3) := of_decide_eq_true (List.all_eq_true.mp bt_law_4 (401, (.invokevirtual 109, 3)) (List.mem_of_getElem? (i := 37) rfl))
theorem dL_law_404 : decode cL_law 404 = .ok (.istore 6, 2) := of_decide_eq_true (List.all_eq_true.mp bt_law_4 (404, (.istore 6, 2)) (List.mem_of_getElem? (i := 38) rfl))
theorem dL_law_406 : decode cL_law 406 = .ok (.aload_n 2, 1) := of_decide_eq_true (List.all_eq_true.mp bt_law_4 (406, (.aload_n 2, 1)) (List.mem_of_getElem? (i := 39) rfl))
theorem dL_law_407 : decode cL_law 407 = .ok (.invokevirtual 92, 3) := of_decide_eq_true (List.all_eq_true.mp bt_law_4 (407, (.invokevirtual 92, 3)) (List.mem_of_getElem? (i := 40) rfl))
theorem dL_law_410 : decode cL_law 410 = .ok (.iload 5, 2) := of_decide_eq_true (List.all_eq_true.mp bt_law_4 (410, (.iload 5, 2)) (List.mem_of_getElem? (i := 41) rfl))
theorem dL_law_412 : decode cL_law 412 = .ok (.if_icmp .eq 5, 3) := of_decide_eq_true (List.all_eq_true.mp bt_law_4 (412, (.if_icmp .eq 5, 3)) (List.mem_of_getElem? (i := 42) rfl))
theorem dL_law_415 : decode cL_law 415 = .ok (.iconst 0, 1) := of_decide_eq_true (List.all_eq_true.mp bt_law_4 (415, (.iconst 0, 1)) (List.mem_of_getElem? (i := 43) rfl))
theorem dL_law_416 : decode cL_law 416 = .ok (.ireturn, 1) := of_decide_eq_true (List.all_eq_true.mp bt_law_4 (416, (.ireturn, 1)) (List.mem_of_getElem? (i := 44) rfl))
theorem dL_law_417 : decode cL_law 417 = .ok (.iload 5, 2) := of_decide_eq_true (List.all_eq_true.mp bt_law_4 (417, (.iload 5, 2)) (List.mem_of_getElem? (i := 45) rfl))
theorem dL_law_419 : decode cL_law 419 = .ok (.ifCond .ne 15, 3) := of_decide_eq_true (List.all_eq_true.mp bt_law_4 (419, (.ifCond .ne 15, 3)) (List.mem_of_getElem? (i := 46) rfl))
theorem dL_law_422 : decode cL_law 422 = .ok (.aload_n 3, 1) := of_decide_eq_true (List.all_eq_true.mp bt_law_4 (422, (.aload_n 3, 1)) (List.mem_of_getElem? (i := 47) rfl))
theorem dL_law_423 : decode cL_law 423 = .ok (.iconst 0, 1) := of_decide_eq_true (List.all_eq_true.mp bt_law_4 (423, (.iconst 0, 1)) (List.mem_of_getElem? (i := 48) rfl))
theorem dL_law_424 : decode cL_law 424 = .ok (.laload, 1) := of_decide_eq_true (List.all_eq_true.mp bt_law_4 (424, (.laload, 1)) (List.mem_of_getElem? (i := 49) rfl))
theorem dL_law_425 : decode cL_law 425 = .ok (.iload 6, 2) := of_decide_eq_true (List.all_eq_true.mp bt_law_4 (425, (.iload 6, 2)) (List.mem_of_getElem? (i := 50) rfl))
theorem dL_law_427 : decode cL_law 427 = .ok (.i2l, 1) := of_decide_eq_true (List.all_eq_true.mp bt_law_4 (427, (.i2l, 1)) (List.mem_of_getElem? (i := 51) rfl))
theorem dL_law_428 : decode cL_law 428 = .ok (.lcmp, 1) := of_decide_eq_true (List.all_eq_true.mp bt_law_4 (428, (.lcmp, 1)) (List.mem_of_getElem? (i := 52) rfl))
theorem dL_law_429 : decode cL_law 429 = .ok (.ifCond .eq 5, 3) := of_decide_eq_true (List.all_eq_true.mp bt_law_4 (429, (.ifCond .eq 5, 3)) (List.mem_of_getElem? (i := 53) rfl))
theorem dL_law_432 : decode cL_law 432 = .ok (.iconst 0, 1) := of_decide_eq_true (List.all_eq_true.mp bt_law_4 (432, (.iconst 0, 1)) (List.mem_of_getElem? (i := 54) rfl))
theorem dL_law_433 : decode cL_law 433 = .ok (.ireturn, 1) := of_decide_eq_true (List.all_eq_true.mp bt_law_4 (433, (.ireturn, 1)) (List.mem_of_getElem? (i := 55) rfl))
theorem dL_law_434 : decode cL_law 434 = .ok (.goto 1120, 3) := of_decide_eq_true (List.all_eq_true.mp bt_law_4 (434, (.goto 1120, 3)) (List.mem_of_getElem? (i := 56) rfl))
theorem dL_law_437 : decode cL_law 437 = .ok (.aload_n 1, 1) := of_decide_eq_true (List.all_eq_true.mp bt_law_4 (437, (.aload_n 1, 1)) (List.mem_of_getElem? (i := 57) rfl))
theorem dL_law_438 : decode cL_law 438 = .ok (.aload_n 0, 1) := of_decide_eq_true (List.all_eq_true.mp bt_law_4 (438, (.aload_n 0, 1)) (List.mem_of_getElem? (i := 58) rfl))
theorem dL_law_439 : decode cL_law 439 = .ok (.iload 4, 2) := of_decide_eq_true (List.all_eq_true.mp bt_law_4 (439, (.iload 4, 2)) (List.mem_of_getElem? (i := 59) rfl))
set_option maxRecDepth 100000 in
theorem bt_law_5 : ([(441, (.iconst 1, 1)), (442, (.iadd, 1)), (443, (.iaload, 1)), (444, (.aload_n 0, 1)), (445, (.iload 4, 2)), (447, (.iconst 2, 1)), (448, (.iadd, 1)), (449, (.iaload, 1)), (450, (.aload_n 3, 1)), (451, (.invokestatic 110, 3)), (454, (.istore 5, 2)), (456, (.aload_n 2, 1)), (457, (.aload_n 0, 1)), (458, (.iload 4, 2)), (460, (.iconst 1, 1)), (461, (.iadd, 1)), (462, (.iaload, 1)), (463, (.aload_n 0, 1)), (464, (.iload 4, 2)), (466, (.iconst 2, 1)), (467, (.iadd, 1)), (468, (.iaload, 1)), (469, (.invokevirtual 112, 3)), (472, (.istore 6, 2)), (474, (.aload_n 2, 1)), (475, (.invokevirtual 92, 3)), (478, (.iload 5, 2)), (480, (.if_icmp .eq 5, 3)), (483, (.iconst 0, 1)), (484, (.ireturn, 1)), (485, (.iload 5, 2)), (487, (.ifCond .ne 15, 3)), (490, (.aload_n 3, 1)), (491, (.iconst 0, 1)), (492, (.laload, 1)), (493, (.iload 6, 2)), (495, (.i2l, 1)), (496, (.lcmp, 1)), (497, (.ifCond .eq 5, 3)), (500, (.iconst 0, 1)), (501, (.ireturn, 1)), (502, (.goto 1052, 3)), (505, (.aload_n 1, 1)), (506, (.aload_n 0, 1)), (507, (.iload 4, 2)), (509, (.iconst 1, 1)), (510, (.iadd, 1)), (511, (.iaload, 1)), (512, (.aload_n 0, 1)), (513, (.iload 4, 2)), (515, (.iconst 2, 1)), (516, (.iadd, 1)), (517, (.iaload, 1)), (518, (.aload_n 3, 1)), (519, (.invokestatic 113, 3)), (522, (.istore 5, 2)), (524, (.aload_n 2, 1)), (525, (.aload_n 0, 1)), (526, (.iload 4, 2)), (528, (.iconst 1, 1))] : List (Nat × (Instr × Nat))).all (fun q => decide (decode cL_law q.1 = .ok q.2)) = true := by decide +kernel
theorem dL_law_441 : decode cL_law 441 = .ok (.iconst 1, 1) := of_decide_eq_true (List.all_eq_true.mp bt_law_5 (441, (.iconst 1, 1)) (List.mem_of_getElem? (i := 0) rfl))
theorem dL_law_442 : decode cL_law 442 = .ok (.iadd, 1) := of_decide_eq_true (List.all_eq_true.mp bt_law_5 (442, (.iadd, 1)) (List.mem_of_getElem? (i := 1) rfl))
theorem dL_law_443 : decode cL_law 443 = .ok (.iaload, 1) := of_decide_eq_true (List.all_eq_true.mp bt_law_5 (443, (.iaload, 1)) (List.mem_of_getElem? (i := 2) rfl))
theorem dL_law_444 : decode cL_law 444 = .ok (.aload_n 0, 1) := of_decide_eq_true (List.all_eq_true.mp bt_law_5 (444, (.aload_n 0, 1)) (List.mem_of_getElem? (i := 3) rfl))
theorem dL_law_445 : decode cL_law 445 = .ok (.iload 4, 2) := of_decide_eq_true (List.all_eq_true.mp bt_law_5 (445, (.iload 4, 2)) (List.mem_of_getElem? (i := 4) rfl))
theorem dL_law_447 : decode cL_law 447 = .ok (.iconst 2, 1) := of_decide_eq_true (List.all_eq_true.mp bt_law_5 (447, (.iconst 2, 1)) (List.mem_of_getElem? (i := 5) rfl))
theorem dL_law_448 : decode cL_law 448 = .ok (.iadd, 1) := of_decide_eq_true (List.all_eq_true.mp bt_law_5 (448, (.iadd, 1)) (List.mem_of_getElem? (i := 6) rfl))
theorem dL_law_449 : decode cL_law 449 = .ok (.iaload, 1) := of_decide_eq_true (List.all_eq_true.mp bt_law_5 (449, (.iaload, 1)) (List.mem_of_getElem? (i := 7) rfl))
theorem dL_law_450 : decode cL_law 450 = .ok (.aload_n 3, 1) := of_decide_eq_true (List.all_eq_true.mp bt_law_5 (450, (.aload_n 3, 1)) (List.mem_of_getElem? (i := 8) rfl))
theorem dL_law_451 : decode cL_law 451 = .ok (.invokestatic 110, 3) := of_decide_eq_true (List.all_eq_true.mp bt_law_5 (451, (.invokestatic 110, 3)) (List.mem_of_getElem? (i := 9) rfl))
theorem dL_law_454 : decode cL_law 454 = .ok (.istore 5, 2) := of_decide_eq_true (List.all_eq_true.mp bt_law_5 (454, (.istore 5, 2)) (List.mem_of_getElem? (i := 10) rfl))
theorem dL_law_456 : decode cL_law 456 = .ok (.aload_n 2, 1) := of_decide_eq_true (List.all_eq_true.mp bt_law_5 (456, (.aload_n 2, 1)) (List.mem_of_getElem? (i := 11) rfl))
theorem dL_law_457 : decode cL_law 457 = .ok (.aload_n 0, 1) := of_decide_eq_true (List.all_eq_true.mp bt_law_5 (457, (.aload_n 0, 1)) (List.mem_of_getElem? (i := 12) rfl))
theorem dL_law_458 : decode cL_law 458 = .ok (.iload 4, 2) := of_decide_eq_true (List.all_eq_true.mp bt_law_5 (458, (.iload 4, 2)) (List.mem_of_getElem? (i := 13) rfl))
theorem dL_law_460 : decode cL_law 460 = .ok (.iconst 1, 1) := of_decide_eq_true (List.all_eq_true.mp bt_law_5 (460, (.iconst 1, 1)) (List.mem_of_getElem? (i := 14) rfl))
theorem dL_law_461 : decode cL_law 461 = .ok (.iadd, 1) := of_decide_eq_true (List.all_eq_true.mp bt_law_5 (461, (.iadd, 1)) (List.mem_of_getElem? (i := 15) rfl))
theorem dL_law_462 : decode cL_law 462 = .ok (.iaload, 1) := of_decide_eq_true (List.all_eq_true.mp bt_law_5 (462, (.iaload, 1)) (List.mem_of_getElem? (i := 16) rfl))
theorem dL_law_463 : decode cL_law 463 = .ok (.aload_n 0, 1) := of_decide_eq_true (List.all_eq_true.mp bt_law_5 (463, (.aload_n 0, 1)) (List.mem_of_getElem? (i := 17) rfl))
theorem dL_law_464 : decode cL_law 464 = .ok (.iload 4, 2) := of_decide_eq_true (List.all_eq_true.mp bt_law_5 (464, (.iload 4, 2)) (List.mem_of_getElem? (i := 18) rfl))
theorem dL_law_466 : decode cL_law 466 = .ok (.iconst 2, 1) := of_decide_eq_true (List.all_eq_true.mp bt_law_5 (466, (.iconst 2, 1)) (List.mem_of_getElem? (i := 19) rfl))
theorem dL_law_467 : decode cL_law 467 = .ok (.iadd, 1) := of_decide_eq_true (List.all_eq_true.mp bt_law_5 (467, (.iadd, 1)) (List.mem_of_getElem? (i := 20) rfl))
theorem dL_law_468 : decode cL_law 468 = .ok (.iaload, 1) := of_decide_eq_true (List.all_eq_true.mp bt_law_5 (468, (.iaload, 1)) (List.mem_of_getElem? (i := 21) rfl))
theorem dL_law_469 : decode cL_law 469 = .ok (.invokevirtual 112, 3) := of_decide_eq_true (List.all_eq_true.mp bt_law_5 (469, (.invokevirtual 112, 3)) (List.mem_of_getElem? (i := 22) rfl))
theorem dL_law_472 : decode cL_law 472 = .ok (.istore 6, 2) := of_decide_eq_true (List.all_eq_true.mp bt_law_5 (472, (.istore 6, 2)) (List.mem_of_getElem? (i := 23) rfl))
theorem dL_law_474 : decode cL_law 474 = .ok (.aload_n 2, 1) := of_decide_eq_true (List.all_eq_true.mp bt_law_5 (474, (.aload_n 2, 1)) (List.mem_of_getElem? (i := 24) rfl))
theorem dL_law_475 : decode cL_law 475 = .ok (.invokevirtual 92, 3) := of_decide_eq_true (List.all_eq_true.mp bt_law_5 (475, (.invokevirtual 92, 3)) (List.mem_of_getElem? (i := 25) rfl))
theorem dL_law_478 : decode cL_law 478 = .ok (.iload 5, 2) := of_decide_eq_true (List.all_eq_true.mp bt_law_5 (478, (.iload 5, 2)) (List.mem_of_getElem? (i := 26) rfl))
theorem dL_law_480 : decode cL_law 480 = .ok (.if_icmp .eq 5, 3) := of_decide_eq_true (List.all_eq_true.mp bt_law_5 (480, (.if_icmp .eq 5, 3)) (List.mem_of_getElem? (i := 27) rfl))
theorem dL_law_483 : decode cL_law 483 = .ok (.iconst 0, 1) := of_decide_eq_true (List.all_eq_true.mp bt_law_5 (483, (.iconst 0, 1)) (List.mem_of_getElem? (i := 28) rfl))
theorem dL_law_484 : decode cL_law 484 = .ok (.ireturn, 1) := of_decide_eq_true (List.all_eq_true.mp bt_law_5 (484, (.ireturn, 1)) (List.mem_of_getElem? (i := 29) rfl))
theorem dL_law_485 : decode cL_law 485 = .ok (.iload 5, 2) := of_decide_eq_true (List.all_eq_true.mp bt_law_5 (485, (.iload 5, 2)) (List.mem_of_getElem? (i := 30) rfl))
theorem dL_law_487 : decode cL_law 487 = .ok (.ifCond .ne 15, 3) := of_decide_eq_true (List.all_eq_true.mp bt_law_5 (487, (.ifCond .ne 15, 3)) (List.mem_of_getElem? (i := 31) rfl))
theorem dL_law_490 : decode cL_law 490 = .ok (.aload_n 3, 1) := of_decide_eq_true (List.all_eq_true.mp bt_law_5 (490, (.aload_n 3, 1)) (List.mem_of_getElem? (i := 32) rfl))
theorem dL_law_491 : decode cL_law 491 = .ok (.iconst 0, 1) := of_decide_eq_true (List.all_eq_true.mp bt_law_5 (491, (.iconst 0, 1)) (List.mem_of_getElem? (i := 33) rfl))
theorem dL_law_492 : decode cL_law 492 = .ok (.laload, 1) := of_decide_eq_true (List.all_eq_true.mp bt_law_5 (492, (.laload, 1)) (List.mem_of_getElem? (i := 34) rfl))
theorem dL_law_493 : decode cL_law 493 = .ok (.iload 6, 2) := of_decide_eq_true (List.all_eq_true.mp bt_law_5 (493, (.iload 6, 2)) (List.mem_of_getElem? (i := 35) rfl))
theorem dL_law_495 : decode cL_law 495 = .ok (.i2l, 1) := of_decide_eq_true (List.all_eq_true.mp bt_law_5 (495, (.i2l, 1)) (List.mem_of_getElem? (i := 36) rfl))
theorem dL_law_496 : decode cL_law 496 = .ok (.lcmp, 1) := of_decide_eq_true (List.all_eq_true.mp bt_law_5 (496, (.lcmp, 1)) (List.mem_of_getElem? (i := 37) rfl))
theorem dL_law_497 : decode cL_law 497 = .ok (.ifCond .eq 5, 3) := of_decide_eq_true (List.all_eq_true.mp bt_law_5 (497, (.ifCond .eq 5, 3)) (List.mem_of_getElem? (i := 38) rfl))
theorem dL_law_500 : decode cL_law 500 = .ok (.iconst 0, 1) := of_decide_eq_true (List.all_eq_true.mp bt_law_5 (500, (.iconst 0, 1)) (List.mem_of_getElem? (i := 39) rfl))
theorem dL_law_501 : decode cL_law 501 = .ok (.ireturn, 1) := of_decide_eq_true (List.all_eq_true.mp bt_law_5 (501, (.ireturn, 1)) (List.mem_of_getElem? (i := 40) rfl))
theorem dL_law_502 : decode cL_law 502 = .ok (.goto 1052, 3) := of_decide_eq_true (List.all_eq_true.mp bt_law_5 (502, (.goto 1052, 3)) (List.mem_of_getElem? (i := 41) rfl))
theorem dL_law_505 : decode cL_law 505 = .ok (.aload_n 1, 1) := of_decide_eq_true (List.all_eq_true.mp bt_law_5 (505, (.aload_n 1, 1)) (List.mem_of_getElem? (i := 42) rfl))
theorem dL_law_506 : decode cL_law 506 = .ok (.aload_n 0, 1) := of_decide_eq_true (List.all_eq_true.mp bt_law_5 (506, (.aload_n 0, 1)) (List.mem_of_getElem? (i := 43) rfl))
theorem dL_law_507 : decode cL_law 507 = .ok (.iload 4, 2) := of_decide_eq_true (List.all_eq_true.mp bt_law_5 (507, (.iload 4, 2)) (List.mem_of_getElem? (i := 44) rfl))
theorem dL_law_509 : decode cL_law 509 = .ok (.iconst 1, 1) := of_decide_eq_true (List.all_eq_true.mp bt_law_5 (509, (.iconst 1, 1)) (List.mem_of_getElem? (i := 45) rfl))
theorem dL_law_510 : decode cL_law 510 = .ok (.iadd, 1) := of_decide_eq_true (List.all_eq_true.mp bt_law_5 (510, (.iadd, 1)) (List.mem_of_getElem? (i := 46) rfl))
theorem dL_law_511 : decode cL_law 511 = .ok (.iaload, 1) := of_decide_eq_true (List.all_eq_true.mp bt_law_5 (511, (.iaload, 1)) (List.mem_of_getElem? (i := 47) rfl))
theorem dL_law_512 : decode cL_law 512 = .ok (.aload_n 0, 1) := of_decide_eq_true (List.all_eq_true.mp bt_law_5 (512, (.aload_n 0, 1)) (List.mem_of_getElem? (i := 48) rfl))
theorem dL_law_513 : decode cL_law 513 = .ok (.iload 4, 2) := of_decide_eq_true (List.all_eq_true.mp bt_law_5 (513, (.iload 4, 2)) (List.mem_of_getElem? (i := 49) rfl))
theorem dL_law_515 : decode cL_law 515 = .ok (.iconst 2, 1) := of_decide_eq_true (List.all_eq_true.mp bt_law_5 (515, (.iconst 2, 1)) (List.mem_of_getElem? (i := 50) rfl))
theorem dL_law_516 : decode cL_law 516 = .ok (.iadd, 1) := of_decide_eq_true (List.all_eq_true.mp bt_law_5 (516, (.iadd, 1)) (List.mem_of_getElem? (i := 51) rfl))
theorem dL_law_517 : decode cL_law 517 = .ok (.iaload, 1) := of_decide_eq_true (List.all_eq_true.mp bt_law_5 (517, (.iaload, 1)) (List.mem_of_getElem? (i := 52) rfl))
theorem dL_law_518 : decode cL_law 518 = .ok (.aload_n 3, 1) := of_decide_eq_true (List.all_eq_true.mp bt_law_5 (518, (.aload_n 3, 1)) (List.mem_of_getElem? (i := 53) rfl))
theorem dL_law_519 : decode cL_law 519 = .ok (.invokestatic 113, 3) := of_decide_eq_true (List.all_eq_true.mp bt_law_5 (519, (.invokestatic 113, 3)) (List.mem_of_getElem? (i := 54) rfl))
theorem dL_law_522 : decode cL_law 522 = .ok (.istore 5, 2) := of_decide_eq_true (List.all_eq_true.mp bt_law_5 (522, (.istore 5, 2)) (List.mem_of_getElem? (i := 55) rfl))
theorem dL_law_524 : decode cL_law 524 = .ok (.aload_n 2, 1) := of_decide_eq_true (List.all_eq_true.mp bt_law_5 (524, (.aload_n 2, 1)) (List.mem_of_getElem? (i := 56) rfl))
theorem dL_law_525 : decode cL_law 525 = .ok (.aload_n 0, 1) := of_decide_eq_true (List.all_eq_true.mp bt_law_5 (525, (.aload_n 0, 1)) (List.mem_of_getElem? (i := 57) rfl))
theorem dL_law_526 : decode cL_law 526 = .ok (.iload 4, 2) := of_decide_eq_true (List.all_eq_true.mp bt_law_5 (526, (.iload 4, 2)) (List.mem_of_getElem? (i := 58) rfl))
theorem dL_law_528 : decode cL_law 528 = .ok (.iconst 1, 1) := of_decide_eq_true (List.all_eq_true.mp bt_law_5 (528, (.iconst 1, 1)) (List.mem_of_getElem? (i := 59) rfl))
set_option maxRecDepth 100000 in
theorem bt_law_6 : ([(529, (.iadd, 1)), (530, (.iaload, 1)), (531, (.aload_n 0, 1)), (532, (.iload 4, 2)), (534, (.iconst 2, 1)), (535, (.iadd, 1)), (536, (.iaload, 1)), (537, (.invokevirtual 115, 3)), (540, (.istore 6, 2)), (542, (.aload_n 2, 1)), (543, (.invokevirtual 92, 3)), (546, (.iload 5, 2)), (548, (.if_icmp .eq 5, 3)), (551, (.iconst 0, 1)), (552, (.ireturn, 1)), (553, (.iload 5, 2)), (555, (.ifCond .ne 15, 3)), (558, (.aload_n 3, 1)), (559, (.iconst 0, 1)), (560, (.laload, 1)), (561, (.iload 6, 2)), (563, (.i2l, 1)), (564, (.lcmp, 1)), (565, (.ifCond .eq 5, 3)), (568, (.iconst 0, 1)), (569, (.ireturn, 1)), (570, (.goto 984, 3)), (573, (.aload_n 1, 1)), (574, (.aload_n 3, 1)), (575, (.invokestatic 116, 3)), (578, (.istore 5, 2)), (580, (.aload_n 2, 1)), (581, (.invokevirtual 119, 3)), (584, (.istore 6, 2)), (586, (.aload_n 2, 1)), (587, (.invokevirtual 92, 3)), (590, (.iload 5, 2)), (592, (.if_icmp .eq 5, 3)), (595, (.iconst 0, 1)), (596, (.ireturn, 1)), (597, (.iload 5, 2)), (599, (.ifCond .ne 15, 3)), (602, (.aload_n 3, 1)), (603, (.iconst 0, 1)), (604, (.laload, 1)), (605, (.iload 6, 2)), (607, (.i2l, 1)), (608, (.lcmp, 1)), (609, (.ifCond .eq 5, 3)), (612, (.iconst 0, 1)), (613, (.ireturn, 1)), (614, (.goto 940, 3)), (617, (.aload_n 1, 1)), (618, (.aload_n 0, 1)), (619, (.iload 4, 2)), (621, (.iconst 1, 1)), (622, (.iadd, 1)), (623, (.iaload, 1)), (624, (.aload_n 3, 1)), (625, (.invokestatic 120, 3))] : List (Nat × (Instr × Nat))).all (fun q => decide (decode cL_law q.1 = .ok q.2)) = true := by decide +kernel
theorem dL_law_529 : decode cL_law 529 = .ok (.iadd, 1) := of_decide_eq_true (List.all_eq_true.mp bt_law_6 (529, (.iadd, 1)) (List.mem_of_getElem? (i := 0) rfl))
theorem dL_law_530 : decode cL_law 530 = .ok (.iaload, 1) := of_decide_eq_true (List.all_eq_true.mp bt_law_6 (530, (.iaload, 1)) (List.mem_of_getElem? (i := 1) rfl))
theorem dL_law_531 : decode cL_law 531 = .ok (.aload_n 0, 1) := of_decide_eq_true (List.all_eq_true.mp bt_law_6 (531, (.aload_n 0, 1)) (List.mem_of_getElem? (i := 2) rfl))
theorem dL_law_532 : decode cL_law 532 = .ok (.iload 4, 2) := of_decide_eq_true (List.all_eq_true.mp bt_law_6 (532, (.iload 4, 2)) (List.mem_of_getElem? (i := 3) rfl))
theorem dL_law_534 : decode cL_law 534 = .ok (.iconst 2, 1) := of_decide_eq_true (List.all_eq_true.mp bt_law_6 (534, (.iconst 2, 1)) (List.mem_of_getElem? (i := 4) rfl))
theorem dL_law_535 : decode cL_law 535 = .ok (.iadd, 1) := of_decide_eq_true (List.all_eq_true.mp bt_law_6 (535, (.iadd, 1)) (List.mem_of_getElem? (i := 5) rfl))
theorem dL_law_536 : decode cL_law 536 = .ok (.iaload, 1) := of_decide_eq_true (List.all_eq_true.mp bt_law_6 (536, (.iaload, 1)) (List.mem_of_getElem? (i := 6) rfl))
theorem dL_law_537 : decode cL_law 537 = .ok (.invokevirtual 115, 3) := of_decide_eq_true (List.all_eq_true.mp bt_law_6 (537, (.invokevirtual 115, 3)) (List.mem_of_getElem? (i := 7) rfl))
theorem dL_law_540 : decode cL_law 540 = .ok (.istore 6, 2) := of_decide_eq_true (List.all_eq_true.mp bt_law_6 (540, (.istore 6, 2)) (List.mem_of_getElem? (i := 8) rfl))
theorem dL_law_542 : decode cL_law 542 = .ok (.aload_n 2, 1) := of_decide_eq_true (List.all_eq_true.mp bt_law_6 (542, (.aload_n 2, 1)) (List.mem_of_getElem? (i := 9) rfl))
theorem dL_law_543 : decode cL_law 543 = .ok (.invokevirtual 92, 3) := of_decide_eq_true (List.all_eq_true.mp bt_law_6 (543, (.invokevirtual 92, 3)) (List.mem_of_getElem? (i := 10) rfl))
theorem dL_law_546 : decode cL_law 546 = .ok (.iload 5, 2) := of_decide_eq_true (List.all_eq_true.mp bt_law_6 (546, (.iload 5, 2)) (List.mem_of_getElem? (i := 11) rfl))
theorem dL_law_548 : decode cL_law 548 = .ok (.if_icmp .eq 5, 3) := of_decide_eq_true (List.all_eq_true.mp bt_law_6 (548, (.if_icmp .eq 5, 3)) (List.mem_of_getElem? (i := 12) rfl))
theorem dL_law_551 : decode cL_law 551 = .ok (.iconst 0, 1) := of_decide_eq_true (List.all_eq_true.mp bt_law_6 (551, (.iconst 0, 1)) (List.mem_of_getElem? (i := 13) rfl))
theorem dL_law_552 : decode cL_law 552 = .ok (.ireturn, 1) := of_decide_eq_true (List.all_eq_true.mp bt_law_6 (552, (.ireturn, 1)) (List.mem_of_getElem? (i := 14) rfl))
theorem dL_law_553 : decode cL_law 553 = .ok (.iload 5, 2) := of_decide_eq_true (List.all_eq_true.mp bt_law_6 (553, (.iload 5, 2)) (List.mem_of_getElem? (i := 15) rfl))
theorem dL_law_555 : decode cL_law 555 = .ok (.ifCond .ne 15, 3) := of_decide_eq_true (List.all_eq_true.mp bt_law_6 (555, (.ifCond .ne 15, 3)) (List.mem_of_getElem? (i := 16) rfl))
theorem dL_law_558 : decode cL_law 558 = .ok (.aload_n 3, 1) := of_decide_eq_true (List.all_eq_true.mp bt_law_6 (558, (.aload_n 3, 1)) (List.mem_of_getElem? (i := 17) rfl))
theorem dL_law_559 : decode cL_law 559 = .ok (.iconst 0, 1) := of_decide_eq_true (List.all_eq_true.mp bt_law_6 (559, (.iconst 0, 1)) (List.mem_of_getElem? (i := 18) rfl))
theorem dL_law_560 : decode cL_law 560 = .ok (.laload, 1) := of_decide_eq_true (List.all_eq_true.mp bt_law_6 (560, (.laload, 1)) (List.mem_of_getElem? (i := 19) rfl))
theorem dL_law_561 : decode cL_law 561 = .ok (.iload 6, 2) := of_decide_eq_true (List.all_eq_true.mp bt_law_6 (561, (.iload 6, 2)) (List.mem_of_getElem? (i := 20) rfl))
theorem dL_law_563 : decode cL_law 563 = .ok (.i2l, 1) := of_decide_eq_true (List.all_eq_true.mp bt_law_6 (563, (.i2l, 1)) (List.mem_of_getElem? (i := 21) rfl))
theorem dL_law_564 : decode cL_law 564 = .ok (.lcmp, 1) := of_decide_eq_true (List.all_eq_true.mp bt_law_6 (564, (.lcmp, 1)) (List.mem_of_getElem? (i := 22) rfl))
theorem dL_law_565 : decode cL_law 565 = .ok (.ifCond .eq 5, 3) := of_decide_eq_true (List.all_eq_true.mp bt_law_6 (565, (.ifCond .eq 5, 3)) (List.mem_of_getElem? (i := 23) rfl))
theorem dL_law_568 : decode cL_law 568 = .ok (.iconst 0, 1) := of_decide_eq_true (List.all_eq_true.mp bt_law_6 (568, (.iconst 0, 1)) (List.mem_of_getElem? (i := 24) rfl))
theorem dL_law_569 : decode cL_law 569 = .ok (.ireturn, 1) := of_decide_eq_true (List.all_eq_true.mp bt_law_6 (569, (.ireturn, 1)) (List.mem_of_getElem? (i := 25) rfl))
theorem dL_law_570 : decode cL_law 570 = .ok (.goto 984, 3) := of_decide_eq_true (List.all_eq_true.mp bt_law_6 (570, (.goto 984, 3)) (List.mem_of_getElem? (i := 26) rfl))
theorem dL_law_573 : decode cL_law 573 = .ok (.aload_n 1, 1) := of_decide_eq_true (List.all_eq_true.mp bt_law_6 (573, (.aload_n 1, 1)) (List.mem_of_getElem? (i := 27) rfl))
theorem dL_law_574 : decode cL_law 574 = .ok (.aload_n 3, 1) := of_decide_eq_true (List.all_eq_true.mp bt_law_6 (574, (.aload_n 3, 1)) (List.mem_of_getElem? (i := 28) rfl))
theorem dL_law_575 : decode cL_law 575 = .ok (.invokestatic 116, 3) := of_decide_eq_true (List.all_eq_true.mp bt_law_6 (575, (.invokestatic 116, 3)) (List.mem_of_getElem? (i := 29) rfl))
theorem dL_law_578 : decode cL_law 578 = .ok (.istore 5, 2) := of_decide_eq_true (List.all_eq_true.mp bt_law_6 (578, (.istore 5, 2)) (List.mem_of_getElem? (i := 30) rfl))
theorem dL_law_580 : decode cL_law 580 = .ok (.aload_n 2, 1) := of_decide_eq_true (List.all_eq_true.mp bt_law_6 (580, (.aload_n 2, 1)) (List.mem_of_getElem? (i := 31) rfl))
theorem dL_law_581 : decode cL_law 581 = .ok (.invokevirtual 119, 3) := of_decide_eq_true (List.all_eq_true.mp bt_law_6 (581, (.invokevirtual 119, 3)) (List.mem_of_getElem? (i := 32) rfl))
theorem dL_law_584 : decode cL_law 584 = .ok (.istore 6, 2) := of_decide_eq_true (List.all_eq_true.mp bt_law_6 (584, (.istore 6, 2)) (List.mem_of_getElem? (i := 33) rfl))
theorem dL_law_586 : decode cL_law 586 = .ok (.aload_n 2, 1) := of_decide_eq_true (List.all_eq_true.mp bt_law_6 (586, (.aload_n 2, 1)) (List.mem_of_getElem? (i := 34) rfl))
theorem dL_law_587 : decode cL_law 587 = .ok (.invokevirtual 92, 3) := of_decide_eq_true (List.all_eq_true.mp bt_law_6 (587, (.invokevirtual 92, 3)) (List.mem_of_getElem? (i := 35) rfl))
theorem dL_law_590 : decode cL_law 590 = .ok (.iload 5, 2) := of_decide_eq_true (List.all_eq_true.mp bt_law_6 (590, (.iload 5, 2)) (List.mem_of_getElem? (i := 36) rfl))
theorem dL_law_592 : decode cL_law 592 = .ok (.if_icmp .eq 5, 3) := of_decide_eq_true (List.all_eq_true.mp bt_law_6 (592, (.if_icmp .eq 5, 3)) (List.mem_of_getElem? (i := 37) rfl))
theorem dL_law_595 : decode cL_law 595 = .ok (.iconst 0, 1) := of_decide_eq_true (List.all_eq_true.mp bt_law_6 (595, (.iconst 0, 1)) (List.mem_of_getElem? (i := 38) rfl))
theorem dL_law_596 : decode cL_law 596 = .ok (.ireturn, 1) := of_decide_eq_true (List.all_eq_true.mp bt_law_6 (596, (.ireturn, 1)) (List.mem_of_getElem? (i := 39) rfl))
theorem dL_law_597 : decode cL_law 597 = .ok (.iload 5, 2) := of_decide_eq_true (List.all_eq_true.mp bt_law_6 (597, (.iload 5, 2)) (List.mem_of_getElem? (i := 40) rfl))
theorem dL_law_599 : decode cL_law 599 = .ok (.ifCond .ne 15, 3) := of_decide_eq_true (List.all_eq_true.mp bt_law_6 (599, (.ifCond .ne 15, 3)) (List.mem_of_getElem? (i := 41) rfl))
theorem dL_law_602 : decode cL_law 602 = .ok (.aload_n 3, 1) := of_decide_eq_true (List.all_eq_true.mp bt_law_6 (602, (.aload_n 3, 1)) (List.mem_of_getElem? (i := 42) rfl))
theorem dL_law_603 : decode cL_law 603 = .ok (.iconst 0, 1) := of_decide_eq_true (List.all_eq_true.mp bt_law_6 (603, (.iconst 0, 1)) (List.mem_of_getElem? (i := 43) rfl))
theorem dL_law_604 : decode cL_law 604 = .ok (.laload, 1) := of_decide_eq_true (List.all_eq_true.mp bt_law_6 (604, (.laload, 1)) (List.mem_of_getElem? (i := 44) rfl))
theorem dL_law_605 : decode cL_law 605 = .ok (.iload 6, 2) := of_decide_eq_true (List.all_eq_true.mp bt_law_6 (605, (.iload 6, 2)) (List.mem_of_getElem? (i := 45) rfl))
theorem dL_law_607 : decode cL_law 607 = .ok (.i2l, 1) := of_decide_eq_true (List.all_eq_true.mp bt_law_6 (607, (.i2l, 1)) (List.mem_of_getElem? (i := 46) rfl))
theorem dL_law_608 : decode cL_law 608 = .ok (.lcmp, 1) := of_decide_eq_true (List.all_eq_true.mp bt_law_6 (608, (.lcmp, 1)) (List.mem_of_getElem? (i := 47) rfl))
theorem dL_law_609 : decode cL_law 609 = .ok (.ifCond .eq 5, 3) := of_decide_eq_true (List.all_eq_true.mp bt_law_6 (609, (.ifCond .eq 5, 3)) (List.mem_of_getElem? (i := 48) rfl))
theorem dL_law_612 : decode cL_law 612 = .ok (.iconst 0, 1) := of_decide_eq_true (List.all_eq_true.mp bt_law_6 (612, (.iconst 0, 1)) (List.mem_of_getElem? (i := 49) rfl))
theorem dL_law_613 : decode cL_law 613 = .ok (.ireturn, 1) := of_decide_eq_true (List.all_eq_true.mp bt_law_6 (613, (.ireturn, 1)) (List.mem_of_getElem? (i := 50) rfl))
theorem dL_law_614 : decode cL_law 614 = .ok (.goto 940, 3) := of_decide_eq_true (List.all_eq_true.mp bt_law_6 (614, (.goto 940, 3)) (List.mem_of_getElem? (i := 51) rfl))
theorem dL_law_617 : decode cL_law 617 = .ok (.aload_n 1, 1) := of_decide_eq_true (List.all_eq_true.mp bt_law_6 (617, (.aload_n 1, 1)) (List.mem_of_getElem? (i := 52) rfl))
theorem dL_law_618 : decode cL_law 618 = .ok (.aload_n 0, 1) := of_decide_eq_true (List.all_eq_true.mp bt_law_6 (618, (.aload_n 0, 1)) (List.mem_of_getElem? (i := 53) rfl))
theorem dL_law_619 : decode cL_law 619 = .ok (.iload 4, 2) := of_decide_eq_true (List.all_eq_true.mp bt_law_6 (619, (.iload 4, 2)) (List.mem_of_getElem? (i := 54) rfl))
theorem dL_law_621 : decode cL_law 621 = .ok (.iconst 1, 1) := of_decide_eq_true (List.all_eq_true.mp bt_law_6 (621, (.iconst 1, 1)) (List.mem_of_getElem? (i := 55) rfl))
theorem dL_law_622 : decode cL_law 622 = .ok (.iadd, 1) := of_decide_eq_true (List.all_eq_true.mp bt_law_6 (622, (.iadd, 1)) (List.mem_of_getElem? (i := 56) rfl))
theorem dL_law_623 : decode cL_law 623 = .ok (.iaload, 1) := of_decide_eq_true (List.all_eq_true.mp bt_law_6 (623, (.iaload, 1)) (List.mem_of_getElem? (i := 57) rfl))
theorem dL_law_624 : decode cL_law 624 = .ok (.aload_n 3, 1) := of_decide_eq_true (List.all_eq_true.mp bt_law_6 (624, (.aload_n 3, 1)) (List.mem_of_getElem? (i := 58) rfl))
theorem dL_law_625 : decode cL_law 625 = .ok (.invokestatic 120, 3) := of_decide_eq_true (List.all_eq_true.mp bt_law_6 (625, (.invokestatic 120, 3)) (List.mem_of_getElem? (i := 59) rfl))
set_option maxRecDepth 100000 in
theorem bt_law_7 : ([(628, (.istore 5, 2)), (630, (.aload_n 2, 1)), (631, (.aload_n 0, 1)), (632, (.iload 4, 2)), (634, (.iconst 1, 1)), (635, (.iadd, 1)), (636, (.iaload, 1)), (637, (.invokevirtual 122, 3)), (640, (.istore 6, 2)), (642, (.aload_n 2, 1)), (643, (.invokevirtual 92, 3)), (646, (.iload 5, 2)), (648, (.if_icmp .eq 5, 3)), (651, (.iconst 0, 1)), (652, (.ireturn, 1)), (653, (.iload 5, 2)), (655, (.ifCond .ne 15, 3)), (658, (.aload_n 3, 1)), (659, (.iconst 0, 1)), (660, (.laload, 1)), (661, (.iload 6, 2)), (663, (.i2l, 1)), (664, (.lcmp, 1)), (665, (.ifCond .eq 5, 3)), (668, (.iconst 0, 1)), (669, (.ireturn, 1)), (670, (.goto 884, 3)), (673, (.aload_n 1, 1)), (674, (.aload_n 0, 1)), (675, (.iload 4, 2)), (677, (.iconst 1, 1)), (678, (.iadd, 1)), (679, (.iaload, 1)), (680, (.aload_n 0, 1)), (681, (.iload 4, 2)), (683, (.iconst 2, 1)), (684, (.iadd, 1)), (685, (.iaload, 1)), (686, (.aload_n 0, 1)), (687, (.iload 4, 2)), (689, (.iconst 3, 1)), (690, (.iadd, 1)), (691, (.iaload, 1)), (692, (.aload_n 3, 1)), (693, (.invokestatic 123, 3)), (696, (.istore 5, 2)), (698, (.aload_n 2, 1)), (699, (.aload_n 0, 1)), (700, (.iload 4, 2)), (702, (.iconst 1, 1)), (703, (.iadd, 1)), (704, (.iaload, 1)), (705, (.aload_n 0, 1)), (706, (.iload 4, 2)), (708, (.iconst 2, 1)), (709, (.iadd, 1)), (710, (.iaload, 1)), (711, (.aload_n 0, 1)), (712, (.iload 4, 2)), (714, (.iconst 3, 1))] : List (Nat × (Instr × Nat))).all (fun q => decide (decode cL_law q.1 = .ok q.2)) = true := by decide +kernel
theorem dL_law_628 : decode cL_law 628 = .ok (.istore 5, 2) := of_decide_eq_true (List.all_eq_true.mp bt_law_7 (628, (.istore 5, 2)) (List.mem_of_getElem? (i := 0) rfl))
theorem dL_law_630 : decode cL_law 630 = .ok (.aload_n 2, 1) := of_decide_eq_true (List.all_eq_true.mp bt_law_7 (630, (.aload_n 2, 1)) (List.mem_of_getElem? (i := 1) rfl))
theorem dL_law_631 : decode cL_law 631 = .ok (.aload_n 0, 1) := of_decide_eq_true (List.all_eq_true.mp bt_law_7 (631, (.aload_n 0, 1)) (List.mem_of_getElem? (i := 2) rfl))
theorem dL_law_632 : decode cL_law 632 = .ok (.iload 4, 2) := of_decide_eq_true (List.all_eq_true.mp bt_law_7 (632, (.iload 4, 2)) (List.mem_of_getElem? (i := 3) rfl))
theorem dL_law_634 : decode cL_law 634 = .ok (.iconst 1, 1) := of_decide_eq_true (List.all_eq_true.mp bt_law_7 (634, (.iconst 1, 1)) (List.mem_of_getElem? (i := 4) rfl))
theorem dL_law_635 : decode cL_law 635 = .ok (.iadd, 1) := of_decide_eq_true (List.all_eq_true.mp bt_law_7 (635, (.iadd, 1)) (List.mem_of_getElem? (i := 5) rfl))
theorem dL_law_636 : decode cL_law 636 = .ok (.iaload, 1) := of_decide_eq_true (List.all_eq_true.mp bt_law_7 (636, (.iaload, 1)) (List.mem_of_getElem? (i := 6) rfl))
theorem dL_law_637 : decode cL_law 637 = .ok (.invokevirtual 122, 3) := of_decide_eq_true (List.all_eq_true.mp bt_law_7 (637, (.invokevirtual 122, 3)) (List.mem_of_getElem? (i := 7) rfl))
theorem dL_law_640 : decode cL_law 640 = .ok (.istore 6, 2) := of_decide_eq_true (List.all_eq_true.mp bt_law_7 (640, (.istore 6, 2)) (List.mem_of_getElem? (i := 8) rfl))
theorem dL_law_642 : decode cL_law 642 = .ok (.aload_n 2, 1) := of_decide_eq_true (List.all_eq_true.mp bt_law_7 (642, (.aload_n 2, 1)) (List.mem_of_getElem? (i := 9) rfl))
theorem dL_law_643 : decode cL_law 643 = .ok (.invokevirtual 92, 3) := of_decide_eq_true (List.all_eq_true.mp bt_law_7 (643, (.invokevirtual 92, 3)) (List.mem_of_getElem? (i := 10) rfl))
theorem dL_law_646 : decode cL_law 646 = .ok (.iload 5, 2) := of_decide_eq_true (List.all_eq_true.mp bt_law_7 (646, (.iload 5, 2)) (List.mem_of_getElem? (i := 11) rfl))
theorem dL_law_648 : decode cL_law 648 = .ok (.if_icmp .eq 5, 3) := of_decide_eq_true (List.all_eq_true.mp bt_law_7 (648, (.if_icmp .eq 5, 3)) (List.mem_of_getElem? (i := 12) rfl))
theorem dL_law_651 : decode cL_law 651 = .ok (.iconst 0, 1) := of_decide_eq_true (List.all_eq_true.mp bt_law_7 (651, (.iconst 0, 1)) (List.mem_of_getElem? (i := 13) rfl))
theorem dL_law_652 : decode cL_law 652 = .ok (.ireturn, 1) := of_decide_eq_true (List.all_eq_true.mp bt_law_7 (652, (.ireturn, 1)) (List.mem_of_getElem? (i := 14) rfl))
theorem dL_law_653 : decode cL_law 653 = .ok (.iload 5, 2) := of_decide_eq_true (List.all_eq_true.mp bt_law_7 (653, (.iload 5, 2)) (List.mem_of_getElem? (i := 15) rfl))
theorem dL_law_655 : decode cL_law 655 = .ok (.ifCond .ne 15, 3) := of_decide_eq_true (List.all_eq_true.mp bt_law_7 (655, (.ifCond .ne 15, 3)) (List.mem_of_getElem? (i := 16) rfl))
theorem dL_law_658 : decode cL_law 658 = .ok (.aload_n 3, 1) := of_decide_eq_true (List.all_eq_true.mp bt_law_7 (658, (.aload_n 3, 1)) (List.mem_of_getElem? (i := 17) rfl))
theorem dL_law_659 : decode cL_law 659 = .ok (.iconst 0, 1) := of_decide_eq_true (List.all_eq_true.mp bt_law_7 (659, (.iconst 0, 1)) (List.mem_of_getElem? (i := 18) rfl))
theorem dL_law_660 : decode cL_law 660 = .ok (.laload, 1) := of_decide_eq_true (List.all_eq_true.mp bt_law_7 (660, (.laload, 1)) (List.mem_of_getElem? (i := 19) rfl))
theorem dL_law_661 : decode cL_law 661 = .ok (.iload 6, 2) := of_decide_eq_true (List.all_eq_true.mp bt_law_7 (661, (.iload 6, 2)) (List.mem_of_getElem? (i := 20) rfl))
theorem dL_law_663 : decode cL_law 663 = .ok (.i2l, 1) := of_decide_eq_true (List.all_eq_true.mp bt_law_7 (663, (.i2l, 1)) (List.mem_of_getElem? (i := 21) rfl))
theorem dL_law_664 : decode cL_law 664 = .ok (.lcmp, 1) := of_decide_eq_true (List.all_eq_true.mp bt_law_7 (664, (.lcmp, 1)) (List.mem_of_getElem? (i := 22) rfl))
theorem dL_law_665 : decode cL_law 665 = .ok (.ifCond .eq 5, 3) := of_decide_eq_true (List.all_eq_true.mp bt_law_7 (665, (.ifCond .eq 5, 3)) (List.mem_of_getElem? (i := 23) rfl))
theorem dL_law_668 : decode cL_law 668 = .ok (.iconst 0, 1) := of_decide_eq_true (List.all_eq_true.mp bt_law_7 (668, (.iconst 0, 1)) (List.mem_of_getElem? (i := 24) rfl))
theorem dL_law_669 : decode cL_law 669 = .ok (.ireturn, 1) := of_decide_eq_true (List.all_eq_true.mp bt_law_7 (669, (.ireturn, 1)) (List.mem_of_getElem? (i := 25) rfl))
theorem dL_law_670 : decode cL_law 670 = .ok (.goto 884, 3) := of_decide_eq_true (List.all_eq_true.mp bt_law_7 (670, (.goto 884, 3)) (List.mem_of_getElem? (i := 26) rfl))
theorem dL_law_673 : decode cL_law 673 = .ok (.aload_n 1, 1) := of_decide_eq_true (List.all_eq_true.mp bt_law_7 (673, (.aload_n 1, 1)) (List.mem_of_getElem? (i := 27) rfl))
theorem dL_law_674 : decode cL_law 674 = .ok (.aload_n 0, 1) := of_decide_eq_true (List.all_eq_true.mp bt_law_7 (674, (.aload_n 0, 1)) (List.mem_of_getElem? (i := 28) rfl))
theorem dL_law_675 : decode cL_law 675 = .ok (.iload 4, 2) := of_decide_eq_true (List.all_eq_true.mp bt_law_7 (675, (.iload 4, 2)) (List.mem_of_getElem? (i := 29) rfl))
theorem dL_law_677 : decode cL_law 677 = .ok (.iconst 1, 1) := of_decide_eq_true (List.all_eq_true.mp bt_law_7 (677, (.iconst 1, 1)) (List.mem_of_getElem? (i := 30) rfl))
theorem dL_law_678 : decode cL_law 678 = .ok (.iadd, 1) := of_decide_eq_true (List.all_eq_true.mp bt_law_7 (678, (.iadd, 1)) (List.mem_of_getElem? (i := 31) rfl))
theorem dL_law_679 : decode cL_law 679 = .ok (.iaload, 1) := of_decide_eq_true (List.all_eq_true.mp bt_law_7 (679, (.iaload, 1)) (List.mem_of_getElem? (i := 32) rfl))
theorem dL_law_680 : decode cL_law 680 = .ok (.aload_n 0, 1) := of_decide_eq_true (List.all_eq_true.mp bt_law_7 (680, (.aload_n 0, 1)) (List.mem_of_getElem? (i := 33) rfl))
theorem dL_law_681 : decode cL_law 681 = .ok (.iload 4, 2) := of_decide_eq_true (List.all_eq_true.mp bt_law_7 (681, (.iload 4, 2)) (List.mem_of_getElem? (i := 34) rfl))
theorem dL_law_683 : decode cL_law 683 = .ok (.iconst 2, 1) := of_decide_eq_true (List.all_eq_true.mp bt_law_7 (683, (.iconst 2, 1)) (List.mem_of_getElem? (i := 35) rfl))
theorem dL_law_684 : decode cL_law 684 = .ok (.iadd, 1) := of_decide_eq_true (List.all_eq_true.mp bt_law_7 (684, (.iadd, 1)) (List.mem_of_getElem? (i := 36) rfl))
theorem dL_law_685 : decode cL_law 685 = .ok (.iaload, 1) := of_decide_eq_true (List.all_eq_true.mp bt_law_7 (685, (.iaload, 1)) (List.mem_of_getElem? (i := 37) rfl))
theorem dL_law_686 : decode cL_law 686 = .ok (.aload_n 0, 1) := of_decide_eq_true (List.all_eq_true.mp bt_law_7 (686, (.aload_n 0, 1)) (List.mem_of_getElem? (i := 38) rfl))
theorem dL_law_687 : decode cL_law 687 = .ok (.iload 4, 2) := of_decide_eq_true (List.all_eq_true.mp bt_law_7 (687, (.iload 4, 2)) (List.mem_of_getElem? (i := 39) rfl))
theorem dL_law_689 : decode cL_law 689 = .ok (.iconst 3, 1) := of_decide_eq_true (List.all_eq_true.mp bt_law_7 (689, (.iconst 3, 1)) (List.mem_of_getElem? (i := 40) rfl))
theorem dL_law_690 : decode cL_law 690 = .ok (.iadd, 1) := of_decide_eq_true (List.all_eq_true.mp bt_law_7 (690, (.iadd, 1)) (List.mem_of_getElem? (i := 41) rfl))
theorem dL_law_691 : decode cL_law 691 = .ok (.iaload, 1) := of_decide_eq_true (List.all_eq_true.mp bt_law_7 (691, (.iaload, 1)) (List.mem_of_getElem? (i := 42) rfl))
theorem dL_law_692 : decode cL_law 692 = .ok (.aload_n 3, 1) := of_decide_eq_true (List.all_eq_true.mp bt_law_7 (692, (.aload_n 3, 1)) (List.mem_of_getElem? (i := 43) rfl))
theorem dL_law_693 : decode cL_law 693 = .ok (.invokestatic 123, 3) := of_decide_eq_true (List.all_eq_true.mp bt_law_7 (693, (.invokestatic 123, 3)) (List.mem_of_getElem? (i := 44) rfl))
theorem dL_law_696 : decode cL_law 696 = .ok (.istore 5, 2) := of_decide_eq_true (List.all_eq_true.mp bt_law_7 (696, (.istore 5, 2)) (List.mem_of_getElem? (i := 45) rfl))
theorem dL_law_698 : decode cL_law 698 = .ok (.aload_n 2, 1) := of_decide_eq_true (List.all_eq_true.mp bt_law_7 (698, (.aload_n 2, 1)) (List.mem_of_getElem? (i := 46) rfl))
theorem dL_law_699 : decode cL_law 699 = .ok (.aload_n 0, 1) := of_decide_eq_true (List.all_eq_true.mp bt_law_7 (699, (.aload_n 0, 1)) (List.mem_of_getElem? (i := 47) rfl))
theorem dL_law_700 : decode cL_law 700 = .ok (.iload 4, 2) := of_decide_eq_true (List.all_eq_true.mp bt_law_7 (700, (.iload 4, 2)) (List.mem_of_getElem? (i := 48) rfl))
theorem dL_law_702 : decode cL_law 702 = .ok (.iconst 1, 1) := of_decide_eq_true (List.all_eq_true.mp bt_law_7 (702, (.iconst 1, 1)) (List.mem_of_getElem? (i := 49) rfl))
theorem dL_law_703 : decode cL_law 703 = .ok (.iadd, 1) := of_decide_eq_true (List.all_eq_true.mp bt_law_7 (703, (.iadd, 1)) (List.mem_of_getElem? (i := 50) rfl))
theorem dL_law_704 : decode cL_law 704 = .ok (.iaload, 1) := of_decide_eq_true (List.all_eq_true.mp bt_law_7 (704, (.iaload, 1)) (List.mem_of_getElem? (i := 51) rfl))
theorem dL_law_705 : decode cL_law 705 = .ok (.aload_n 0, 1) := of_decide_eq_true (List.all_eq_true.mp bt_law_7 (705, (.aload_n 0, 1)) (List.mem_of_getElem? (i := 52) rfl))
theorem dL_law_706 : decode cL_law 706 = .ok (.iload 4, 2) := of_decide_eq_true (List.all_eq_true.mp bt_law_7 (706, (.iload 4, 2)) (List.mem_of_getElem? (i := 53) rfl))
theorem dL_law_708 : decode cL_law 708 = .ok (.iconst 2, 1) := of_decide_eq_true (List.all_eq_true.mp bt_law_7 (708, (.iconst 2, 1)) (List.mem_of_getElem? (i := 54) rfl))
theorem dL_law_709 : decode cL_law 709 = .ok (.iadd, 1) := of_decide_eq_true (List.all_eq_true.mp bt_law_7 (709, (.iadd, 1)) (List.mem_of_getElem? (i := 55) rfl))
theorem dL_law_710 : decode cL_law 710 = .ok (.iaload, 1) := of_decide_eq_true (List.all_eq_true.mp bt_law_7 (710, (.iaload, 1)) (List.mem_of_getElem? (i := 56) rfl))
theorem dL_law_711 : decode cL_law 711 = .ok (.aload_n 0, 1) := of_decide_eq_true (List.all_eq_true.mp bt_law_7 (711, (.aload_n 0, 1)) (List.mem_of_getElem? (i := 57) rfl))
theorem dL_law_712 : decode cL_law 712 = .ok (.iload 4, 2) := of_decide_eq_true (List.all_eq_true.mp bt_law_7 (712, (.iload 4, 2)) (List.mem_of_getElem? (i := 58) rfl))
theorem dL_law_714 : decode cL_law 714 = .ok (.iconst 3, 1) := of_decide_eq_true (List.all_eq_true.mp bt_law_7 (714, (.iconst 3, 1)) (List.mem_of_getElem? (i := 59) rfl))
set_option maxRecDepth 100000 in
theorem bt_law_8 : ([(715, (.iadd, 1)), (716, (.iaload, 1)), (717, (.invokevirtual 125, 3)), (720, (.istore 6, 2)), (722, (.aload_n 2, 1)), (723, (.invokevirtual 92, 3)), (726, (.iload 5, 2)), (728, (.if_icmp .eq 5, 3)), (731, (.iconst 0, 1)), (732, (.ireturn, 1)), (733, (.iload 5, 2)), (735, (.ifCond .ne 15, 3)), (738, (.aload_n 3, 1)), (739, (.iconst 0, 1)), (740, (.laload, 1)), (741, (.iload 6, 2)), (743, (.i2l, 1)), (744, (.lcmp, 1)), (745, (.ifCond .eq 5, 3)), (748, (.iconst 0, 1)), (749, (.ireturn, 1)), (750, (.goto 804, 3)), (753, (.aload_n 1, 1)), (754, (.aload_n 0, 1)), (755, (.iload 4, 2)), (757, (.iconst 1, 1)), (758, (.iadd, 1)), (759, (.iaload, 1)), (760, (.aload_n 3, 1)), (761, (.invokestatic 126, 3)), (764, (.istore 5, 2)), (766, (.aload_n 2, 1)), (767, (.aload_n 0, 1)), (768, (.iload 4, 2)), (770, (.iconst 1, 1)), (771, (.iadd, 1)), (772, (.iaload, 1)), (773, (.invokevirtual 128, 3)), (776, (.istore 6, 2)), (778, (.aload_n 2, 1)), (779, (.invokevirtual 92, 3)), (782, (.iload 5, 2)), (784, (.if_icmp .eq 5, 3)), (787, (.iconst 0, 1)), (788, (.ireturn, 1)), (789, (.iload 5, 2)), (791, (.ifCond .ne 15, 3)), (794, (.aload_n 3, 1)), (795, (.iconst 0, 1)), (796, (.laload, 1)), (797, (.iload 6, 2)), (799, (.i2l, 1)), (800, (.lcmp, 1)), (801, (.ifCond .eq 5, 3)), (804, (.iconst 0, 1)), (805, (.ireturn, 1)), (806, (.goto 748, 3)), (809, (.aload_n 1, 1)), (810, (.aload_n 0, 1)), (811, (.iload 4, 2))] : List (Nat × (Instr × Nat))).all (fun q => decide (decode cL_law q.1 = .ok q.2)) = true := by decide +kernel
theorem dL_law_715 : decode cL_law 715 = .ok (.iadd, 1) := of_decide_eq_true (List.all_eq_true.mp bt_law_8 (715, (.iadd, 1)) (List.mem_of_getElem? (i := 0) rfl))
theorem dL_law_716 : decode cL_law 716 = .ok (.iaload, 1) := of_decide_eq_true (List.all_eq_true.mp bt_law_8 (716, (.iaload, 1)) (List.mem_of_getElem? (i := 1) rfl))
theorem dL_law_717 : decode cL_law 717 = .ok (.invokevirtual 125, 3) := of_decide_eq_true (List.all_eq_true.mp bt_law_8 (717, (.invokevirtual 125, 3)) (List.mem_of_getElem? (i := 2) rfl))
theorem dL_law_720 : decode cL_law 720 = .ok (.istore 6, 2) := of_decide_eq_true (List.all_eq_true.mp bt_law_8 (720, (.istore 6, 2)) (List.mem_of_getElem? (i := 3) rfl))
theorem dL_law_722 : decode cL_law 722 = .ok (.aload_n 2, 1) := of_decide_eq_true (List.all_eq_true.mp bt_law_8 (722, (.aload_n 2, 1)) (List.mem_of_getElem? (i := 4) rfl))
theorem dL_law_723 : decode cL_law 723 = .ok (.invokevirtual 92, 3) := of_decide_eq_true (List.all_eq_true.mp bt_law_8 (723, (.invokevirtual 92, 3)) (List.mem_of_getElem? (i := 5) rfl))
theorem dL_law_726 : decode cL_law 726 = .ok (.iload 5, 2) := of_decide_eq_true (List.all_eq_true.mp bt_law_8 (726, (.iload 5, 2)) (List.mem_of_getElem? (i := 6) rfl))
theorem dL_law_728 : decode cL_law 728 = .ok (.if_icmp .eq 5, 3) := of_decide_eq_true (List.all_eq_true.mp bt_law_8 (728, (.if_icmp .eq 5, 3)) (List.mem_of_getElem? (i := 7) rfl))
theorem dL_law_731 : decode cL_law 731 = .ok (.iconst 0, 1) := of_decide_eq_true (List.all_eq_true.mp bt_law_8 (731, (.iconst 0, 1)) (List.mem_of_getElem? (i := 8) rfl))
theorem dL_law_732 : decode cL_law 732 = .ok (.ireturn, 1) := of_decide_eq_true (List.all_eq_true.mp bt_law_8 (732, (.ireturn, 1)) (List.mem_of_getElem? (i := 9) rfl))
theorem dL_law_733 : decode cL_law 733 = .ok (.iload 5, 2) := of_decide_eq_true (List.all_eq_true.mp bt_law_8 (733, (.iload 5, 2)) (List.mem_of_getElem? (i := 10) rfl))
theorem dL_law_735 : decode cL_law 735 = .ok (.ifCond .ne 15, 3) := of_decide_eq_true (List.all_eq_true.mp bt_law_8 (735, (.ifCond .ne 15, 3)) (List.mem_of_getElem? (i := 11) rfl))
theorem dL_law_738 : decode cL_law 738 = .ok (.aload_n 3, 1) := of_decide_eq_true (List.all_eq_true.mp bt_law_8 (738, (.aload_n 3, 1)) (List.mem_of_getElem? (i := 12) rfl))
theorem dL_law_739 : decode cL_law 739 = .ok (.iconst 0, 1) := of_decide_eq_true (List.all_eq_true.mp bt_law_8 (739, (.iconst 0, 1)) (List.mem_of_getElem? (i := 13) rfl))
theorem dL_law_740 : decode cL_law 740 = .ok (.laload, 1) := of_decide_eq_true (List.all_eq_true.mp bt_law_8 (740, (.laload, 1)) (List.mem_of_getElem? (i := 14) rfl))
theorem dL_law_741 : decode cL_law 741 = .ok (.iload 6, 2) := of_decide_eq_true (List.all_eq_true.mp bt_law_8 (741, (.iload 6, 2)) (List.mem_of_getElem? (i := 15) rfl))
theorem dL_law_743 : decode cL_law 743 = .ok (.i2l, 1) := of_decide_eq_true (List.all_eq_true.mp bt_law_8 (743, (.i2l, 1)) (List.mem_of_getElem? (i := 16) rfl))
theorem dL_law_744 : decode cL_law 744 = .ok (.lcmp, 1) := of_decide_eq_true (List.all_eq_true.mp bt_law_8 (744, (.lcmp, 1)) (List.mem_of_getElem? (i := 17) rfl))
theorem dL_law_745 : decode cL_law 745 = .ok (.ifCond .eq 5, 3) := of_decide_eq_true (List.all_eq_true.mp bt_law_8 (745, (.ifCond .eq 5, 3)) (List.mem_of_getElem? (i := 18) rfl))
theorem dL_law_748 : decode cL_law 748 = .ok (.iconst 0, 1) := of_decide_eq_true (List.all_eq_true.mp bt_law_8 (748, (.iconst 0, 1)) (List.mem_of_getElem? (i := 19) rfl))
theorem dL_law_749 : decode cL_law 749 = .ok (.ireturn, 1) := of_decide_eq_true (List.all_eq_true.mp bt_law_8 (749, (.ireturn, 1)) (List.mem_of_getElem? (i := 20) rfl))
theorem dL_law_750 : decode cL_law 750 = .ok (.goto 804, 3) := of_decide_eq_true (List.all_eq_true.mp bt_law_8 (750, (.goto 804, 3)) (List.mem_of_getElem? (i := 21) rfl))
theorem dL_law_753 : decode cL_law 753 = .ok (.aload_n 1, 1) := of_decide_eq_true (List.all_eq_true.mp bt_law_8 (753, (.aload_n 1, 1)) (List.mem_of_getElem? (i := 22) rfl))
theorem dL_law_754 : decode cL_law 754 = .ok (.aload_n 0, 1) := of_decide_eq_true (List.all_eq_true.mp bt_law_8 (754, (.aload_n 0, 1)) (List.mem_of_getElem? (i := 23) rfl))
theorem dL_law_755 : decode cL_law 755 = .ok (.iload 4, 2) := of_decide_eq_true (List.all_eq_true.mp bt_law_8 (755, (.iload 4, 2)) (List.mem_of_getElem? (i := 24) rfl))
theorem dL_law_757 : decode cL_law 757 = .ok (.iconst 1, 1) := of_decide_eq_true (List.all_eq_true.mp bt_law_8 (757, (.iconst 1, 1)) (List.mem_of_getElem? (i := 25) rfl))
theorem dL_law_758 : decode cL_law 758 = .ok (.iadd, 1) := of_decide_eq_true (List.all_eq_true.mp bt_law_8 (758, (.iadd, 1)) (List.mem_of_getElem? (i := 26) rfl))
theorem dL_law_759 : decode cL_law 759 = .ok (.iaload, 1) := of_decide_eq_true (List.all_eq_true.mp bt_law_8 (759, (.iaload, 1)) (List.mem_of_getElem? (i := 27) rfl))
theorem dL_law_760 : decode cL_law 760 = .ok (.aload_n 3, 1) := of_decide_eq_true (List.all_eq_true.mp bt_law_8 (760, (.aload_n 3, 1)) (List.mem_of_getElem? (i := 28) rfl))
theorem dL_law_761 : decode cL_law 761 = .ok (.invokestatic 126, 3) := of_decide_eq_true (List.all_eq_true.mp bt_law_8 (761, (.invokestatic 126, 3)) (List.mem_of_getElem? (i := 29) rfl))
theorem dL_law_764 : decode cL_law 764 = .ok (.istore 5, 2) := of_decide_eq_true (List.all_eq_true.mp bt_law_8 (764, (.istore 5, 2)) (List.mem_of_getElem? (i := 30) rfl))
theorem dL_law_766 : decode cL_law 766 = .ok (.aload_n 2, 1) := of_decide_eq_true (List.all_eq_true.mp bt_law_8 (766, (.aload_n 2, 1)) (List.mem_of_getElem? (i := 31) rfl))
theorem dL_law_767 : decode cL_law 767 = .ok (.aload_n 0, 1) := of_decide_eq_true (List.all_eq_true.mp bt_law_8 (767, (.aload_n 0, 1)) (List.mem_of_getElem? (i := 32) rfl))
theorem dL_law_768 : decode cL_law 768 = .ok (.iload 4, 2) := of_decide_eq_true (List.all_eq_true.mp bt_law_8 (768, (.iload 4, 2)) (List.mem_of_getElem? (i := 33) rfl))
theorem dL_law_770 : decode cL_law 770 = .ok (.iconst 1, 1) := of_decide_eq_true (List.all_eq_true.mp bt_law_8 (770, (.iconst 1, 1)) (List.mem_of_getElem? (i := 34) rfl))
theorem dL_law_771 : decode cL_law 771 = .ok (.iadd, 1) := of_decide_eq_true (List.all_eq_true.mp bt_law_8 (771, (.iadd, 1)) (List.mem_of_getElem? (i := 35) rfl))
theorem dL_law_772 : decode cL_law 772 = .ok (.iaload, 1) := of_decide_eq_true (List.all_eq_true.mp bt_law_8 (772, (.iaload, 1)) (List.mem_of_getElem? (i := 36) rfl))
theorem dL_law_773 : decode cL_law 773 = .ok (.invokevirtual 128, 3) := of_decide_eq_true (List.all_eq_true.mp bt_law_8 (773, (.invokevirtual 128, 3)) (List.mem_of_getElem? (i := 37) rfl))
theorem dL_law_776 : decode cL_law 776 = .ok (.istore 6, 2) := of_decide_eq_true (List.all_eq_true.mp bt_law_8 (776, (.istore 6, 2)) (List.mem_of_getElem? (i := 38) rfl))
theorem dL_law_778 : decode cL_law 778 = .ok (.aload_n 2, 1) := of_decide_eq_true (List.all_eq_true.mp bt_law_8 (778, (.aload_n 2, 1)) (List.mem_of_getElem? (i := 39) rfl))
theorem dL_law_779 : decode cL_law 779 = .ok (.invokevirtual 92, 3) := of_decide_eq_true (List.all_eq_true.mp bt_law_8 (779, (.invokevirtual 92, 3)) (List.mem_of_getElem? (i := 40) rfl))
theorem dL_law_782 : decode cL_law 782 = .ok (.iload 5, 2) := of_decide_eq_true (List.all_eq_true.mp bt_law_8 (782, (.iload 5, 2)) (List.mem_of_getElem? (i := 41) rfl))
theorem dL_law_784 : decode cL_law 784 = .ok (.if_icmp .eq 5, 3) := of_decide_eq_true (List.all_eq_true.mp bt_law_8 (784, (.if_icmp .eq 5, 3)) (List.mem_of_getElem? (i := 42) rfl))
theorem dL_law_787 : decode cL_law 787 = .ok (.iconst 0, 1) := of_decide_eq_true (List.all_eq_true.mp bt_law_8 (787, (.iconst 0, 1)) (List.mem_of_getElem? (i := 43) rfl))
theorem dL_law_788 : decode cL_law 788 = .ok (.ireturn, 1) := of_decide_eq_true (List.all_eq_true.mp bt_law_8 (788, (.ireturn, 1)) (List.mem_of_getElem? (i := 44) rfl))
theorem dL_law_789 : decode cL_law 789 = .ok (.iload 5, 2) := of_decide_eq_true (List.all_eq_true.mp bt_law_8 (789, (.iload 5, 2)) (List.mem_of_getElem? (i := 45) rfl))
theorem dL_law_791 : decode cL_law 791 = .ok (.ifCond .ne 15, 3) := of_decide_eq_true (List.all_eq_true.mp bt_law_8 (791, (.ifCond .ne 15, 3)) (List.mem_of_getElem? (i := 46) rfl))
theorem dL_law_794 : decode cL_law 794 = .ok (.aload_n 3, 1) := of_decide_eq_true (List.all_eq_true.mp bt_law_8 (794, (.aload_n 3, 1)) (List.mem_of_getElem? (i := 47) rfl))
theorem dL_law_795 : decode cL_law 795 = .ok (.iconst 0, 1) := of_decide_eq_true (List.all_eq_true.mp bt_law_8 (795, (.iconst 0, 1)) (List.mem_of_getElem? (i := 48) rfl))
theorem dL_law_796 : decode cL_law 796 = .ok (.laload, 1) := of_decide_eq_true (List.all_eq_true.mp bt_law_8 (796, (.laload, 1)) (List.mem_of_getElem? (i := 49) rfl))
theorem dL_law_797 : decode cL_law 797 = .ok (.iload 6, 2) := of_decide_eq_true (List.all_eq_true.mp bt_law_8 (797, (.iload 6, 2)) (List.mem_of_getElem? (i := 50) rfl))
theorem dL_law_799 : decode cL_law 799 = .ok (.i2l, 1) := of_decide_eq_true (List.all_eq_true.mp bt_law_8 (799, (.i2l, 1)) (List.mem_of_getElem? (i := 51) rfl))
theorem dL_law_800 : decode cL_law 800 = .ok (.lcmp, 1) := of_decide_eq_true (List.all_eq_true.mp bt_law_8 (800, (.lcmp, 1)) (List.mem_of_getElem? (i := 52) rfl))
theorem dL_law_801 : decode cL_law 801 = .ok (.ifCond .eq 5, 3) := of_decide_eq_true (List.all_eq_true.mp bt_law_8 (801, (.ifCond .eq 5, 3)) (List.mem_of_getElem? (i := 53) rfl))
theorem dL_law_804 : decode cL_law 804 = .ok (.iconst 0, 1) := of_decide_eq_true (List.all_eq_true.mp bt_law_8 (804, (.iconst 0, 1)) (List.mem_of_getElem? (i := 54) rfl))
theorem dL_law_805 : decode cL_law 805 = .ok (.ireturn, 1) := of_decide_eq_true (List.all_eq_true.mp bt_law_8 (805, (.ireturn, 1)) (List.mem_of_getElem? (i := 55) rfl))
theorem dL_law_806 : decode cL_law 806 = .ok (.goto 748, 3) := of_decide_eq_true (List.all_eq_true.mp bt_law_8 (806, (.goto 748, 3)) (List.mem_of_getElem? (i := 56) rfl))
theorem dL_law_809 : decode cL_law 809 = .ok (.aload_n 1, 1) := of_decide_eq_true (List.all_eq_true.mp bt_law_8 (809, (.aload_n 1, 1)) (List.mem_of_getElem? (i := 57) rfl))
theorem dL_law_810 : decode cL_law 810 = .ok (.aload_n 0, 1) := of_decide_eq_true (List.all_eq_true.mp bt_law_8 (810, (.aload_n 0, 1)) (List.mem_of_getElem? (i := 58) rfl))
theorem dL_law_811 : decode cL_law 811 = .ok (.iload 4, 2) := of_decide_eq_true (List.all_eq_true.mp bt_law_8 (811, (.iload 4, 2)) (List.mem_of_getElem? (i := 59) rfl))
set_option maxRecDepth 100000 in
theorem bt_law_9 : ([(813, (.iconst 1, 1)), (814, (.iadd, 1)), (815, (.iaload, 1)), (816, (.aload_n 0, 1)), (817, (.iload 4, 2)), (819, (.iconst 2, 1)), (820, (.iadd, 1)), (821, (.iaload, 1)), (822, (.aload_n 3, 1)), (823, (.invokestatic 129, 3)), (826, (.istore 5, 2)), (828, (.aload_n 2, 1)), (829, (.aload_n 0, 1)), (830, (.iload 4, 2)), (832, (.iconst 1, 1)), (833, (.iadd, 1)), (834, (.iaload, 1)), (835, (.aload_n 0, 1)), (836, (.iload 4, 2)), (838, (.iconst 2, 1)), (839, (.iadd, 1)), (840, (.iaload, 1)), (841, (.invokevirtual 131, 3)), (844, (.istore 6, 2)), (846, (.aload_n 2, 1)), (847, (.invokevirtual 92, 3)), (850, (.iload 5, 2)), (852, (.if_icmp .eq 5, 3)), (855, (.iconst 0, 1)), (856, (.ireturn, 1)), (857, (.iload 5, 2)), (859, (.ifCond .ne 15, 3)), (862, (.aload_n 3, 1)), (863, (.iconst 0, 1)), (864, (.laload, 1)), (865, (.iload 6, 2)), (867, (.i2l, 1)), (868, (.lcmp, 1)), (869, (.ifCond .eq 5, 3)), (872, (.iconst 0, 1)), (873, (.ireturn, 1)), (874, (.goto 680, 3)), (877, (.aload_n 1, 1)), (878, (.aload_n 0, 1)), (879, (.iload 4, 2)), (881, (.iconst 1, 1)), (882, (.iadd, 1)), (883, (.iaload, 1)), (884, (.aload_n 3, 1)), (885, (.invokestatic 132, 3)), (888, (.istore 5, 2)), (890, (.aload_n 2, 1)), (891, (.aload_n 0, 1)), (892, (.iload 4, 2)), (894, (.iconst 1, 1)), (895, (.iadd, 1)), (896, (.iaload, 1)), (897, (.invokevirtual 134, 3)), (900, (.istore 6, 2)), (902, (.aload_n 2, 1))] : List (Nat × (Instr × Nat))).all (fun q => decide (decode cL_law q.1 = .ok q.2)) = true := by decide +kernel
theorem dL_law_813 : decode cL_law 813 = .ok (.iconst 1, 1) := of_decide_eq_true (List.all_eq_true.mp bt_law_9 (813, (.iconst 1, 1)) (List.mem_of_getElem? (i := 0) rfl))
theorem dL_law_814 : decode cL_law 814 = .ok (.iadd, 1) := of_decide_eq_true (List.all_eq_true.mp bt_law_9 (814, (.iadd, 1)) (List.mem_of_getElem? (i := 1) rfl))
theorem dL_law_815 : decode cL_law 815 = .ok (.iaload, 1) := of_decide_eq_true (List.all_eq_true.mp bt_law_9 (815, (.iaload, 1)) (List.mem_of_getElem? (i := 2) rfl))
theorem dL_law_816 : decode cL_law 816 = .ok (.aload_n 0, 1) := of_decide_eq_true (List.all_eq_true.mp bt_law_9 (816, (.aload_n 0, 1)) (List.mem_of_getElem? (i := 3) rfl))
theorem dL_law_817 : decode cL_law 817 = .ok (.iload 4, 2) := of_decide_eq_true (List.all_eq_true.mp bt_law_9 (817, (.iload 4, 2)) (List.mem_of_getElem? (i := 4) rfl))
theorem dL_law_819 : decode cL_law 819 = .ok (.iconst 2, 1) := of_decide_eq_true (List.all_eq_true.mp bt_law_9 (819, (.iconst 2, 1)) (List.mem_of_getElem? (i := 5) rfl))
theorem dL_law_820 : decode cL_law 820 = .ok (.iadd, 1) := of_decide_eq_true (List.all_eq_true.mp bt_law_9 (820, (.iadd, 1)) (List.mem_of_getElem? (i := 6) rfl))
theorem dL_law_821 : decode cL_law 821 = .ok (.iaload, 1) := of_decide_eq_true (List.all_eq_true.mp bt_law_9 (821, (.iaload, 1)) (List.mem_of_getElem? (i := 7) rfl))
theorem dL_law_822 : decode cL_law 822 = .ok (.aload_n 3, 1) := of_decide_eq_true (List.all_eq_true.mp bt_law_9 (822, (.aload_n 3, 1)) (List.mem_of_getElem? (i := 8) rfl))
theorem dL_law_823 : decode cL_law 823 = .ok (.invokestatic 129, 3) := of_decide_eq_true (List.all_eq_true.mp bt_law_9 (823, (.invokestatic 129, 3)) (List.mem_of_getElem? (i := 9) rfl))
theorem dL_law_826 : decode cL_law 826 = .ok (.istore 5, 2) := of_decide_eq_true (List.all_eq_true.mp bt_law_9 (826, (.istore 5, 2)) (List.mem_of_getElem? (i := 10) rfl))
theorem dL_law_828 : decode cL_law 828 = .ok (.aload_n 2, 1) := of_decide_eq_true (List.all_eq_true.mp bt_law_9 (828, (.aload_n 2, 1)) (List.mem_of_getElem? (i := 11) rfl))
theorem dL_law_829 : decode cL_law 829 = .ok (.aload_n 0, 1) := of_decide_eq_true (List.all_eq_true.mp bt_law_9 (829, (.aload_n 0, 1)) (List.mem_of_getElem? (i := 12) rfl))
theorem dL_law_830 : decode cL_law 830 = .ok (.iload 4, 2) := of_decide_eq_true (List.all_eq_true.mp bt_law_9 (830, (.iload 4, 2)) (List.mem_of_getElem? (i := 13) rfl))
theorem dL_law_832 : decode cL_law 832 = .ok (.iconst 1, 1) := of_decide_eq_true (List.all_eq_true.mp bt_law_9 (832, (.iconst 1, 1)) (List.mem_of_getElem? (i := 14) rfl))
theorem dL_law_833 : decode cL_law 833 = .ok (.iadd, 1) := of_decide_eq_true (List.all_eq_true.mp bt_law_9 (833, (.iadd, 1)) (List.mem_of_getElem? (i := 15) rfl))
theorem dL_law_834 : decode cL_law 834 = .ok (.iaload, 1) := of_decide_eq_true (List.all_eq_true.mp bt_law_9 (834, (.iaload, 1)) (List.mem_of_getElem? (i := 16) rfl))
theorem dL_law_835 : decode cL_law 835 = .ok (.aload_n 0, 1) := of_decide_eq_true (List.all_eq_true.mp bt_law_9 (835, (.aload_n 0, 1)) (List.mem_of_getElem? (i := 17) rfl))
theorem dL_law_836 : decode cL_law 836 = .ok (.iload 4, 2) := of_decide_eq_true (List.all_eq_true.mp bt_law_9 (836, (.iload 4, 2)) (List.mem_of_getElem? (i := 18) rfl))
theorem dL_law_838 : decode cL_law 838 = .ok (.iconst 2, 1) := of_decide_eq_true (List.all_eq_true.mp bt_law_9 (838, (.iconst 2, 1)) (List.mem_of_getElem? (i := 19) rfl))
theorem dL_law_839 : decode cL_law 839 = .ok (.iadd, 1) := of_decide_eq_true (List.all_eq_true.mp bt_law_9 (839, (.iadd, 1)) (List.mem_of_getElem? (i := 20) rfl))
theorem dL_law_840 : decode cL_law 840 = .ok (.iaload, 1) := of_decide_eq_true (List.all_eq_true.mp bt_law_9 (840, (.iaload, 1)) (List.mem_of_getElem? (i := 21) rfl))
theorem dL_law_841 : decode cL_law 841 = .ok (.invokevirtual 131, 3) := of_decide_eq_true (List.all_eq_true.mp bt_law_9 (841, (.invokevirtual 131, 3)) (List.mem_of_getElem? (i := 22) rfl))
theorem dL_law_844 : decode cL_law 844 = .ok (.istore 6, 2) := of_decide_eq_true (List.all_eq_true.mp bt_law_9 (844, (.istore 6, 2)) (List.mem_of_getElem? (i := 23) rfl))
theorem dL_law_846 : decode cL_law 846 = .ok (.aload_n 2, 1) := of_decide_eq_true (List.all_eq_true.mp bt_law_9 (846, (.aload_n 2, 1)) (List.mem_of_getElem? (i := 24) rfl))
theorem dL_law_847 : decode cL_law 847 = .ok (.invokevirtual 92, 3) := of_decide_eq_true (List.all_eq_true.mp bt_law_9 (847, (.invokevirtual 92, 3)) (List.mem_of_getElem? (i := 25) rfl))
theorem dL_law_850 : decode cL_law 850 = .ok (.iload 5, 2) := of_decide_eq_true (List.all_eq_true.mp bt_law_9 (850, (.iload 5, 2)) (List.mem_of_getElem? (i := 26) rfl))
theorem dL_law_852 : decode cL_law 852 = .ok (.if_icmp .eq 5, 3) := of_decide_eq_true (List.all_eq_true.mp bt_law_9 (852, (.if_icmp .eq 5, 3)) (List.mem_of_getElem? (i := 27) rfl))
theorem dL_law_855 : decode cL_law 855 = .ok (.iconst 0, 1) := of_decide_eq_true (List.all_eq_true.mp bt_law_9 (855, (.iconst 0, 1)) (List.mem_of_getElem? (i := 28) rfl))
theorem dL_law_856 : decode cL_law 856 = .ok (.ireturn, 1) := of_decide_eq_true (List.all_eq_true.mp bt_law_9 (856, (.ireturn, 1)) (List.mem_of_getElem? (i := 29) rfl))
theorem dL_law_857 : decode cL_law 857 = .ok (.iload 5, 2) := of_decide_eq_true (List.all_eq_true.mp bt_law_9 (857, (.iload 5, 2)) (List.mem_of_getElem? (i := 30) rfl))
theorem dL_law_859 : decode cL_law 859 = .ok (.ifCond .ne 15, 3) := of_decide_eq_true (List.all_eq_true.mp bt_law_9 (859, (.ifCond .ne 15, 3)) (List.mem_of_getElem? (i := 31) rfl))
theorem dL_law_862 : decode cL_law 862 = .ok (.aload_n 3, 1) := of_decide_eq_true (List.all_eq_true.mp bt_law_9 (862, (.aload_n 3, 1)) (List.mem_of_getElem? (i := 32) rfl))
theorem dL_law_863 : decode cL_law 863 = .ok (.iconst 0, 1) := of_decide_eq_true (List.all_eq_true.mp bt_law_9 (863, (.iconst 0, 1)) (List.mem_of_getElem? (i := 33) rfl))
theorem dL_law_864 : decode cL_law 864 = .ok (.laload, 1) := of_decide_eq_true (List.all_eq_true.mp bt_law_9 (864, (.laload, 1)) (List.mem_of_getElem? (i := 34) rfl))
theorem dL_law_865 : decode cL_law 865 = .ok (.iload 6, 2) := of_decide_eq_true (List.all_eq_true.mp bt_law_9 (865, (.iload 6, 2)) (List.mem_of_getElem? (i := 35) rfl))
theorem dL_law_867 : decode cL_law 867 = .ok (.i2l, 1) := of_decide_eq_true (List.all_eq_true.mp bt_law_9 (867, (.i2l, 1)) (List.mem_of_getElem? (i := 36) rfl))
theorem dL_law_868 : decode cL_law 868 = .ok (.lcmp, 1) := of_decide_eq_true (List.all_eq_true.mp bt_law_9 (868, (.lcmp, 1)) (List.mem_of_getElem? (i := 37) rfl))
theorem dL_law_869 : decode cL_law 869 = .ok (.ifCond .eq 5, 3) := of_decide_eq_true (List.all_eq_true.mp bt_law_9 (869, (.ifCond .eq 5, 3)) (List.mem_of_getElem? (i := 38) rfl))
theorem dL_law_872 : decode cL_law 872 = .ok (.iconst 0, 1) := of_decide_eq_true (List.all_eq_true.mp bt_law_9 (872, (.iconst 0, 1)) (List.mem_of_getElem? (i := 39) rfl))
theorem dL_law_873 : decode cL_law 873 = .ok (.ireturn, 1) := of_decide_eq_true (List.all_eq_true.mp bt_law_9 (873, (.ireturn, 1)) (List.mem_of_getElem? (i := 40) rfl))
theorem dL_law_874 : decode cL_law 874 = .ok (.goto 680, 3) := of_decide_eq_true (List.all_eq_true.mp bt_law_9 (874, (.goto 680, 3)) (List.mem_of_getElem? (i := 41) rfl))
theorem dL_law_877 : decode cL_law 877 = .ok (.aload_n 1, 1) := of_decide_eq_true (List.all_eq_true.mp bt_law_9 (877, (.aload_n 1, 1)) (List.mem_of_getElem? (i := 42) rfl))
theorem dL_law_878 : decode cL_law 878 = .ok (.aload_n 0, 1) := of_decide_eq_true (List.all_eq_true.mp bt_law_9 (878, (.aload_n 0, 1)) (List.mem_of_getElem? (i := 43) rfl))
theorem dL_law_879 : decode cL_law 879 = .ok (.iload 4, 2) := of_decide_eq_true (List.all_eq_true.mp bt_law_9 (879, (.iload 4, 2)) (List.mem_of_getElem? (i := 44) rfl))
theorem dL_law_881 : decode cL_law 881 = .ok (.iconst 1, 1) := of_decide_eq_true (List.all_eq_true.mp bt_law_9 (881, (.iconst 1, 1)) (List.mem_of_getElem? (i := 45) rfl))
theorem dL_law_882 : decode cL_law 882 = .ok (.iadd, 1) := of_decide_eq_true (List.all_eq_true.mp bt_law_9 (882, (.iadd, 1)) (List.mem_of_getElem? (i := 46) rfl))
theorem dL_law_883 : decode cL_law 883 = .ok (.iaload, 1) := of_decide_eq_true (List.all_eq_true.mp bt_law_9 (883, (.iaload, 1)) (List.mem_of_getElem? (i := 47) rfl))
theorem dL_law_884 : decode cL_law 884 = .ok (.aload_n 3, 1) := of_decide_eq_true (List.all_eq_true.mp bt_law_9 (884, (.aload_n 3, 1)) (List.mem_of_getElem? (i := 48) rfl))
theorem dL_law_885 : decode cL_law 885 = .ok (.invokestatic 132, 3) := of_decide_eq_true (List.all_eq_true.mp bt_law_9 (885, (.invokestatic 132, 3)) (List.mem_of_getElem? (i := 49) rfl))
theorem dL_law_888 : decode cL_law 888 = .ok (.istore 5, 2) := of_decide_eq_true (List.all_eq_true.mp bt_law_9 (888, (.istore 5, 2)) (List.mem_of_getElem? (i := 50) rfl))
theorem dL_law_890 : decode cL_law 890 = .ok (.aload_n 2, 1) := of_decide_eq_true (List.all_eq_true.mp bt_law_9 (890, (.aload_n 2, 1)) (List.mem_of_getElem? (i := 51) rfl))
theorem dL_law_891 : decode cL_law 891 = .ok (.aload_n 0, 1) := of_decide_eq_true (List.all_eq_true.mp bt_law_9 (891, (.aload_n 0, 1)) (List.mem_of_getElem? (i := 52) rfl))
theorem dL_law_892 : decode cL_law 892 = .ok (.iload 4, 2) := of_decide_eq_true (List.all_eq_true.mp bt_law_9 (892, (.iload 4, 2)) (List.mem_of_getElem? (i := 53) rfl))
theorem dL_law_894 : decode cL_law 894 = .ok (.iconst 1, 1) := of_decide_eq_true (List.all_eq_true.mp bt_law_9 (894, (.iconst 1, 1)) (List.mem_of_getElem? (i := 54) rfl))
theorem dL_law_895 : decode cL_law 895 = .ok (.iadd, 1) := of_decide_eq_true (List.all_eq_true.mp bt_law_9 (895, (.iadd, 1)) (List.mem_of_getElem? (i := 55) rfl))
theorem dL_law_896 : decode cL_law 896 = .ok (.iaload, 1) := of_decide_eq_true (List.all_eq_true.mp bt_law_9 (896, (.iaload, 1)) (List.mem_of_getElem? (i := 56) rfl))
theorem dL_law_897 : decode cL_law 897 = .ok (.invokevirtual 134, 3) := of_decide_eq_true (List.all_eq_true.mp bt_law_9 (897, (.invokevirtual 134, 3)) (List.mem_of_getElem? (i := 57) rfl))
theorem dL_law_900 : decode cL_law 900 = .ok (.istore 6, 2) := of_decide_eq_true (List.all_eq_true.mp bt_law_9 (900, (.istore 6, 2)) (List.mem_of_getElem? (i := 58) rfl))
theorem dL_law_902 : decode cL_law 902 = .ok (.aload_n 2, 1) := of_decide_eq_true (List.all_eq_true.mp bt_law_9 (902, (.aload_n 2, 1)) (List.mem_of_getElem? (i := 59) rfl))
set_option maxRecDepth 100000 in
theorem bt_law_10 : ([(903, (.invokevirtual 92, 3)), (906, (.iload 5, 2)), (908, (.if_icmp .eq 5, 3)), (911, (.iconst 0, 1)), (912, (.ireturn, 1)), (913, (.iload 5, 2)), (915, (.ifCond .ne 15, 3)), (918, (.aload_n 3, 1)), (919, (.iconst 0, 1)), (920, (.laload, 1)), (921, (.iload 6, 2)), (923, (.i2l, 1)), (924, (.lcmp, 1)), (925, (.ifCond .eq 5, 3)), (928, (.iconst 0, 1)), (929, (.ireturn, 1)), (930, (.goto 624, 3)), (933, (.aload_n 1, 1)), (934, (.aload_n 0, 1)), (935, (.iload 4, 2)), (937, (.iconst 1, 1)), (938, (.iadd, 1)), (939, (.iaload, 1)), (940, (.aload_n 3, 1)), (941, (.invokestatic 135, 3)), (944, (.istore 5, 2)), (946, (.aload_n 2, 1)), (947, (.aload_n 0, 1)), (948, (.iload 4, 2)), (950, (.iconst 1, 1)), (951, (.iadd, 1)), (952, (.iaload, 1)), (953, (.invokevirtual 137, 3)), (956, (.lstore 6, 2)), (958, (.aload_n 2, 1)), (959, (.invokevirtual 92, 3)), (962, (.iload 5, 2)), (964, (.if_icmp .eq 5, 3)), (967, (.iconst 0, 1)), (968, (.ireturn, 1)), (969, (.iload 5, 2)), (971, (.ifCond .ne 14, 3)), (974, (.aload_n 3, 1)), (975, (.iconst 0, 1)), (976, (.laload, 1)), (977, (.lload 6, 2)), (979, (.lcmp, 1)), (980, (.ifCond .eq 5, 3)), (983, (.iconst 0, 1)), (984, (.ireturn, 1)), (985, (.goto 569, 3)), (988, (.aload_n 1, 1)), (989, (.invokevirtual 138, 3)), (992, (.aload_n 2, 1)), (993, (.invokevirtual 141, 3)), (996, (.if_icmp .eq 558, 3)), (999, (.iconst 0, 1)), (1000, (.ireturn, 1)), (1001, (.aload_n 1, 1)), (1002, (.aload_n 0, 1))] : List (Nat × (Instr × Nat))).all (fun q => decide (decode cL_law q.1 = .ok q.2)) = true := by decide +kernel
theorem dL_law_903 : decode cL_law 903 = .ok (.invokevirtual 92, 3) := of_decide_eq_true (List.all_eq_true.mp bt_law_10 (903, (.invokevirtual 92, 3)) (List.mem_of_getElem? (i := 0) rfl))
theorem dL_law_906 : decode cL_law 906 = .ok (.iload 5, 2) := of_decide_eq_true (List.all_eq_true.mp bt_law_10 (906, (.iload 5, 2)) (List.mem_of_getElem? (i := 1) rfl))
theorem dL_law_908 : decode cL_law 908 = .ok (.if_icmp .eq 5, 3) := of_decide_eq_true (List.all_eq_true.mp bt_law_10 (908, (.if_icmp .eq 5, 3)) (List.mem_of_getElem? (i := 2) rfl))
theorem dL_law_911 : decode cL_law 911 = .ok (.iconst 0, 1) := of_decide_eq_true (List.all_eq_true.mp bt_law_10 (911, (.iconst 0, 1)) (List.mem_of_getElem? (i := 3) rfl))
theorem dL_law_912 : decode cL_law 912 = .ok (.ireturn, 1) := of_decide_eq_true (List.all_eq_true.mp bt_law_10 (912, (.ireturn, 1)) (List.mem_of_getElem? (i := 4) rfl))
theorem dL_law_913 : decode cL_law 913 = .ok (.iload 5, 2) := of_decide_eq_true (List.all_eq_true.mp bt_law_10 (913, (.iload 5, 2)) (List.mem_of_getElem? (i := 5) rfl))
theorem dL_law_915 : decode cL_law 915 = .ok (.ifCond .ne 15, 3) := of_decide_eq_true (List.all_eq_true.mp bt_law_10 (915, (.ifCond .ne 15, 3)) (List.mem_of_getElem? (i := 6) rfl))
theorem dL_law_918 : decode cL_law 918 = .ok (.aload_n 3, 1) := of_decide_eq_true (List.all_eq_true.mp bt_law_10 (918, (.aload_n 3, 1)) (List.mem_of_getElem? (i := 7) rfl))
theorem dL_law_919 : decode cL_law 919 = .ok (.iconst 0, 1) := of_decide_eq_true (List.all_eq_true.mp bt_law_10 (919, (.iconst 0, 1)) (List.mem_of_getElem? (i := 8) rfl))
theorem dL_law_920 : decode cL_law 920 = .ok (.laload, 1) := of_decide_eq_true (List.all_eq_true.mp bt_law_10 (920, (.laload, 1)) (List.mem_of_getElem? (i := 9) rfl))
theorem dL_law_921 : decode cL_law 921 = .ok (.iload 6, 2) := of_decide_eq_true (List.all_eq_true.mp bt_law_10 (921, (.iload 6, 2)) (List.mem_of_getElem? (i := 10) rfl))
theorem dL_law_923 : decode cL_law 923 = .ok (.i2l, 1) := of_decide_eq_true (List.all_eq_true.mp bt_law_10 (923, (.i2l, 1)) (List.mem_of_getElem? (i := 11) rfl))
theorem dL_law_924 : decode cL_law 924 = .ok (.lcmp, 1) := of_decide_eq_true (List.all_eq_true.mp bt_law_10 (924, (.lcmp, 1)) (List.mem_of_getElem? (i := 12) rfl))
theorem dL_law_925 : decode cL_law 925 = .ok (.ifCond .eq 5, 3) := of_decide_eq_true (List.all_eq_true.mp bt_law_10 (925, (.ifCond .eq 5, 3)) (List.mem_of_getElem? (i := 13) rfl))
theorem dL_law_928 : decode cL_law 928 = .ok (.iconst 0, 1) := of_decide_eq_true (List.all_eq_true.mp bt_law_10 (928, (.iconst 0, 1)) (List.mem_of_getElem? (i := 14) rfl))
theorem dL_law_929 : decode cL_law 929 = .ok (.ireturn, 1) := of_decide_eq_true (List.all_eq_true.mp bt_law_10 (929, (.ireturn, 1)) (List.mem_of_getElem? (i := 15) rfl))
theorem dL_law_930 : decode cL_law 930 = .ok (.goto 624, 3) := of_decide_eq_true (List.all_eq_true.mp bt_law_10 (930, (.goto 624, 3)) (List.mem_of_getElem? (i := 16) rfl))
theorem dL_law_933 : decode cL_law 933 = .ok (.aload_n 1, 1) := of_decide_eq_true (List.all_eq_true.mp bt_law_10 (933, (.aload_n 1, 1)) (List.mem_of_getElem? (i := 17) rfl))
theorem dL_law_934 : decode cL_law 934 = .ok (.aload_n 0, 1) := of_decide_eq_true (List.all_eq_true.mp bt_law_10 (934, (.aload_n 0, 1)) (List.mem_of_getElem? (i := 18) rfl))
theorem dL_law_935 : decode cL_law 935 = .ok (.iload 4, 2) := of_decide_eq_true (List.all_eq_true.mp bt_law_10 (935, (.iload 4, 2)) (List.mem_of_getElem? (i := 19) rfl))
theorem dL_law_937 : decode cL_law 937 = .ok (.iconst 1, 1) := of_decide_eq_true (List.all_eq_true.mp bt_law_10 (937, (.iconst 1, 1)) (List.mem_of_getElem? (i := 20) rfl))
theorem dL_law_938 : decode cL_law 938 = .ok (.iadd, 1) := of_decide_eq_true (List.all_eq_true.mp bt_law_10 (938, (.iadd, 1)) (List.mem_of_getElem? (i := 21) rfl))
theorem dL_law_939 : decode cL_law 939 = .ok (.iaload, 1) := of_decide_eq_true (List.all_eq_true.mp bt_law_10 (939, (.iaload, 1)) (List.mem_of_getElem? (i := 22) rfl))
theorem dL_law_940 : decode cL_law 940 = .ok (.aload_n 3, 1) := of_decide_eq_true (List.all_eq_true.mp bt_law_10 (940, (.aload_n 3, 1)) (List.mem_of_getElem? (i := 23) rfl))
theorem dL_law_941 : decode cL_law 941 = .ok (.invokestatic 135, 3) := of_decide_eq_true (List.all_eq_true.mp bt_law_10 (941, (.invokestatic 135, 3)) (List.mem_of_getElem? (i := 24) rfl))
theorem dL_law_944 : decode cL_law 944 = .ok (.istore 5, 2) := of_decide_eq_true (List.all_eq_true.mp bt_law_10 (944, (.istore 5, 2)) (List.mem_of_getElem? (i := 25) rfl))
theorem dL_law_946 : decode cL_law 946 = .ok (.aload_n 2, 1) := of_decide_eq_true (List.all_eq_true.mp bt_law_10 (946, (.aload_n 2, 1)) (List.mem_of_getElem? (i := 26) rfl))
theorem dL_law_947 : decode cL_law 947 = .ok (.aload_n 0, 1) := of_decide_eq_true (List.all_eq_true.mp bt_law_10 (947, (.aload_n 0, 1)) (List.mem_of_getElem? (i := 27) rfl))
theorem dL_law_948 : decode cL_law 948 = .ok (.iload 4, 2) := of_decide_eq_true (List.all_eq_true.mp bt_law_10 (948, (.iload 4, 2)) (List.mem_of_getElem? (i := 28) rfl))
theorem dL_law_950 : decode cL_law 950 = .ok (.iconst 1, 1) := of_decide_eq_true (List.all_eq_true.mp bt_law_10 (950, (.iconst 1, 1)) (List.mem_of_getElem? (i := 29) rfl))
theorem dL_law_951 : decode cL_law 951 = .ok (.iadd, 1) := of_decide_eq_true (List.all_eq_true.mp bt_law_10 (951, (.iadd, 1)) (List.mem_of_getElem? (i := 30) rfl))
theorem dL_law_952 : decode cL_law 952 = .ok (.iaload, 1) := of_decide_eq_true (List.all_eq_true.mp bt_law_10 (952, (.iaload, 1)) (List.mem_of_getElem? (i := 31) rfl))
theorem dL_law_953 : decode cL_law 953 = .ok (.invokevirtual 137, 3) := of_decide_eq_true (List.all_eq_true.mp bt_law_10 (953, (.invokevirtual 137, 3)) (List.mem_of_getElem? (i := 32) rfl))
theorem dL_law_956 : decode cL_law 956 = .ok (.lstore 6, 2) := of_decide_eq_true (List.all_eq_true.mp bt_law_10 (956, (.lstore 6, 2)) (List.mem_of_getElem? (i := 33) rfl))
theorem dL_law_958 : decode cL_law 958 = .ok (.aload_n 2, 1) := of_decide_eq_true (List.all_eq_true.mp bt_law_10 (958, (.aload_n 2, 1)) (List.mem_of_getElem? (i := 34) rfl))
theorem dL_law_959 : decode cL_law 959 = .ok (.invokevirtual 92, 3) := of_decide_eq_true (List.all_eq_true.mp bt_law_10 (959, (.invokevirtual 92, 3)) (List.mem_of_getElem? (i := 35) rfl))
theorem dL_law_962 : decode cL_law 962 = .ok (.iload 5, 2) := of_decide_eq_true (List.all_eq_true.mp bt_law_10 (962, (.iload 5, 2)) (List.mem_of_getElem? (i := 36) rfl))
theorem dL_law_964 : decode cL_law 964 = .ok (.if_icmp .eq 5, 3) := of_decide_eq_true (List.all_eq_true.mp bt_law_10 (964, (.if_icmp .eq 5, 3)) (List.mem_of_getElem? (i := 37) rfl))
theorem dL_law_967 : decode cL_law 967 = .ok (.iconst 0, 1) := of_decide_eq_true (List.all_eq_true.mp bt_law_10 (967, (.iconst 0, 1)) (List.mem_of_getElem? (i := 38) rfl))
theorem dL_law_968 : decode cL_law 968 = .ok (.ireturn, 1) := of_decide_eq_true (List.all_eq_true.mp bt_law_10 (968, (.ireturn, 1)) (List.mem_of_getElem? (i := 39) rfl))
theorem dL_law_969 : decode cL_law 969 = .ok (.iload 5, 2) := of_decide_eq_true (List.all_eq_true.mp bt_law_10 (969, (.iload 5, 2)) (List.mem_of_getElem? (i := 40) rfl))
theorem dL_law_971 : decode cL_law 971 = .ok (.ifCond .ne 14, 3) := of_decide_eq_true (List.all_eq_true.mp bt_law_10 (971, (.ifCond .ne 14, 3)) (List.mem_of_getElem? (i := 41) rfl))
theorem dL_law_974 : decode cL_law 974 = .ok (.aload_n 3, 1) := of_decide_eq_true (List.all_eq_true.mp bt_law_10 (974, (.aload_n 3, 1)) (List.mem_of_getElem? (i := 42) rfl))
theorem dL_law_975 : decode cL_law 975 = .ok (.iconst 0, 1) := of_decide_eq_true (List.all_eq_true.mp bt_law_10 (975, (.iconst 0, 1)) (List.mem_of_getElem? (i := 43) rfl))
theorem dL_law_976 : decode cL_law 976 = .ok (.laload, 1) := of_decide_eq_true (List.all_eq_true.mp bt_law_10 (976, (.laload, 1)) (List.mem_of_getElem? (i := 44) rfl))
theorem dL_law_977 : decode cL_law 977 = .ok (.lload 6, 2) := of_decide_eq_true (List.all_eq_true.mp bt_law_10 (977, (.lload 6, 2)) (List.mem_of_getElem? (i := 45) rfl))
theorem dL_law_979 : decode cL_law 979 = .ok (.lcmp, 1) := of_decide_eq_true (List.all_eq_true.mp bt_law_10 (979, (.lcmp, 1)) (List.mem_of_getElem? (i := 46) rfl))
theorem dL_law_980 : decode cL_law 980 = .ok (.ifCond .eq 5, 3) := of_decide_eq_true (List.all_eq_true.mp bt_law_10 (980, (.ifCond .eq 5, 3)) (List.mem_of_getElem? (i := 47) rfl))
theorem dL_law_983 : decode cL_law 983 = .ok (.iconst 0, 1) := of_decide_eq_true (List.all_eq_true.mp bt_law_10 (983, (.iconst 0, 1)) (List.mem_of_getElem? (i := 48) rfl))
theorem dL_law_984 : decode cL_law 984 = .ok (.ireturn, 1) := of_decide_eq_true (List.all_eq_true.mp bt_law_10 (984, (.ireturn, 1)) (List.mem_of_getElem? (i := 49) rfl))
theorem dL_law_985 : decode cL_law 985 = .ok (.goto 569, 3) := of_decide_eq_true (List.all_eq_true.mp bt_law_10 (985, (.goto 569, 3)) (List.mem_of_getElem? (i := 50) rfl))
theorem dL_law_988 : decode cL_law 988 = .ok (.aload_n 1, 1) := of_decide_eq_true (List.all_eq_true.mp bt_law_10 (988, (.aload_n 1, 1)) (List.mem_of_getElem? (i := 51) rfl))
theorem dL_law_989 : decode cL_law 989 = .ok (.invokevirtual 138, 3) := of_decide_eq_true (List.all_eq_true.mp bt_law_10 (989, (.invokevirtual 138, 3)) (List.mem_of_getElem? (i := 52) rfl))
theorem dL_law_992 : decode cL_law 992 = .ok (.aload_n 2, 1) := of_decide_eq_true (List.all_eq_true.mp bt_law_10 (992, (.aload_n 2, 1)) (List.mem_of_getElem? (i := 53) rfl))
theorem dL_law_993 : decode cL_law 993 = .ok (.invokevirtual 141, 3) := of_decide_eq_true (List.all_eq_true.mp bt_law_10 (993, (.invokevirtual 141, 3)) (List.mem_of_getElem? (i := 54) rfl))
theorem dL_law_996 : decode cL_law 996 = .ok (.if_icmp .eq 558, 3) := of_decide_eq_true (List.all_eq_true.mp bt_law_10 (996, (.if_icmp .eq 558, 3)) (List.mem_of_getElem? (i := 55) rfl))
theorem dL_law_999 : decode cL_law 999 = .ok (.iconst 0, 1) := of_decide_eq_true (List.all_eq_true.mp bt_law_10 (999, (.iconst 0, 1)) (List.mem_of_getElem? (i := 56) rfl))
theorem dL_law_1000 : decode cL_law 1000 = .ok (.ireturn, 1) := of_decide_eq_true (List.all_eq_true.mp bt_law_10 (1000, (.ireturn, 1)) (List.mem_of_getElem? (i := 57) rfl))
theorem dL_law_1001 : decode cL_law 1001 = .ok (.aload_n 1, 1) := of_decide_eq_true (List.all_eq_true.mp bt_law_10 (1001, (.aload_n 1, 1)) (List.mem_of_getElem? (i := 58) rfl))
theorem dL_law_1002 : decode cL_law 1002 = .ok (.aload_n 0, 1) := of_decide_eq_true (List.all_eq_true.mp bt_law_10 (1002, (.aload_n 0, 1)) (List.mem_of_getElem? (i := 59) rfl))
set_option maxRecDepth 100000 in
theorem bt_law_11 : ([(1003, (.iload 4, 2)), (1005, (.iconst 1, 1)), (1006, (.iadd, 1)), (1007, (.iaload, 1)), (1008, (.aload_n 0, 1)), (1009, (.iload 4, 2)), (1011, (.iconst 2, 1)), (1012, (.iadd, 1)), (1013, (.iaload, 1)), (1014, (.aload_n 0, 1)), (1015, (.iload 4, 2)), (1017, (.iconst 3, 1)), (1018, (.iadd, 1)), (1019, (.iaload, 1)), (1020, (.aload_n 0, 1)), (1021, (.iload 4, 2)), (1023, (.iconst 4, 1)), (1024, (.iadd, 1)), (1025, (.iaload, 1)), (1026, (.aload_n 3, 1)), (1027, (.invokestatic 142, 3)), (1030, (.istore 5, 2)), (1032, (.aload_n 2, 1)), (1033, (.aload_n 0, 1)), (1034, (.iload 4, 2)), (1036, (.iconst 1, 1)), (1037, (.iadd, 1)), (1038, (.iaload, 1)), (1039, (.aload_n 0, 1)), (1040, (.iload 4, 2)), (1042, (.iconst 2, 1)), (1043, (.iadd, 1)), (1044, (.iaload, 1)), (1045, (.aload_n 0, 1)), (1046, (.iload 4, 2)), (1048, (.iconst 3, 1)), (1049, (.iadd, 1)), (1050, (.iaload, 1)), (1051, (.aload_n 0, 1)), (1052, (.iload 4, 2)), (1054, (.iconst 4, 1)), (1055, (.iadd, 1)), (1056, (.iaload, 1)), (1057, (.invokevirtual 145, 3)), (1060, (.lstore 6, 2)), (1062, (.aload_n 2, 1)), (1063, (.invokevirtual 92, 3)), (1066, (.iload 5, 2)), (1068, (.if_icmp .eq 5, 3)), (1071, (.iconst 0, 1)), (1072, (.ireturn, 1)), (1073, (.iload 5, 2)), (1075, (.ifCond .ne 14, 3)), (1078, (.aload_n 3, 1)), (1079, (.iconst 0, 1)), (1080, (.laload, 1)), (1081, (.lload 6, 2)), (1083, (.lcmp, 1)), (1084, (.ifCond .eq 5, 3)), (1087, (.iconst 0, 1))] : List (Nat × (Instr × Nat))).all (fun q => decide (decode cL_law q.1 = .ok q.2)) = true := by decide +kernel
theorem dL_law_1003 : decode cL_law 1003 = .ok (.iload 4, 2) := of_decide_eq_true (List.all_eq_true.mp bt_law_11 (1003, (.iload 4, 2)) (List.mem_of_getElem? (i := 0) rfl))
theorem dL_law_1005 : decode cL_law 1005 = .ok (.iconst 1, 1) := of_decide_eq_true (List.all_eq_true.mp bt_law_11 (1005, (.iconst 1, 1)) (List.mem_of_getElem? (i := 1) rfl))
theorem dL_law_1006 : decode cL_law 1006 = .ok (.iadd, 1) := of_decide_eq_true (List.all_eq_true.mp bt_law_11 (1006, (.iadd, 1)) (List.mem_of_getElem? (i := 2) rfl))
theorem dL_law_1007 : decode cL_law 1007 = .ok (.iaload, 1) := of_decide_eq_true (List.all_eq_true.mp bt_law_11 (1007, (.iaload, 1)) (List.mem_of_getElem? (i := 3) rfl))
theorem dL_law_1008 : decode cL_law 1008 = .ok (.aload_n 0, 1) := of_decide_eq_true (List.all_eq_true.mp bt_law_11 (1008, (.aload_n 0, 1)) (List.mem_of_getElem? (i := 4) rfl))
theorem dL_law_1009 : decode cL_law 1009 = .ok (.iload 4, 2) := of_decide_eq_true (List.all_eq_true.mp bt_law_11 (1009, (.iload 4, 2)) (List.mem_of_getElem? (i := 5) rfl))
theorem dL_law_1011 : decode cL_law 1011 = .ok (.iconst 2, 1) := of_decide_eq_true (List.all_eq_true.mp bt_law_11 (1011, (.iconst 2, 1)) (List.mem_of_getElem? (i := 6) rfl))
theorem dL_law_1012 : decode cL_law 1012 = .ok (.iadd, 1) := of_decide_eq_true (List.all_eq_true.mp bt_law_11 (1012, (.iadd, 1)) (List.mem_of_getElem? (i := 7) rfl))
theorem dL_law_1013 : decode cL_law 1013 = .ok (.iaload, 1) := of_decide_eq_true (List.all_eq_true.mp bt_law_11 (1013, (.iaload, 1)) (List.mem_of_getElem? (i := 8) rfl))
theorem dL_law_1014 : decode cL_law 1014 = .ok (.aload_n 0, 1) := of_decide_eq_true (List.all_eq_true.mp bt_law_11 (1014, (.aload_n 0, 1)) (List.mem_of_getElem? (i := 9) rfl))
theorem dL_law_1015 : decode cL_law 1015 = .ok (.iload 4, 2) := of_decide_eq_true (List.all_eq_true.mp bt_law_11 (1015, (.iload 4, 2)) (List.mem_of_getElem? (i := 10) rfl))
theorem dL_law_1017 : decode cL_law 1017 = .ok (.iconst 3, 1) := of_decide_eq_true (List.all_eq_true.mp bt_law_11 (1017, (.iconst 3, 1)) (List.mem_of_getElem? (i := 11) rfl))
theorem dL_law_1018 : decode cL_law 1018 = .ok (.iadd, 1) := of_decide_eq_true (List.all_eq_true.mp bt_law_11 (1018, (.iadd, 1)) (List.mem_of_getElem? (i := 12) rfl))
theorem dL_law_1019 : decode cL_law 1019 = .ok (.iaload, 1) := of_decide_eq_true (List.all_eq_true.mp bt_law_11 (1019, (.iaload, 1)) (List.mem_of_getElem? (i := 13) rfl))
theorem dL_law_1020 : decode cL_law 1020 = .ok (.aload_n 0, 1) := of_decide_eq_true (List.all_eq_true.mp bt_law_11 (1020, (.aload_n 0, 1)) (List.mem_of_getElem? (i := 14) rfl))
theorem dL_law_1021 : decode cL_law 1021 = .ok (.iload 4, 2) := of_decide_eq_true (List.all_eq_true.mp bt_law_11 (1021, (.iload 4, 2)) (List.mem_of_getElem? (i := 15) rfl))
theorem dL_law_1023 : decode cL_law 1023 = .ok (.iconst 4, 1) := of_decide_eq_true (List.all_eq_true.mp bt_law_11 (1023, (.iconst 4, 1)) (List.mem_of_getElem? (i := 16) rfl))
theorem dL_law_1024 : decode cL_law 1024 = .ok (.iadd, 1) := of_decide_eq_true (List.all_eq_true.mp bt_law_11 (1024, (.iadd, 1)) (List.mem_of_getElem? (i := 17) rfl))
theorem dL_law_1025 : decode cL_law 1025 = .ok (.iaload, 1) := of_decide_eq_true (List.all_eq_true.mp bt_law_11 (1025, (.iaload, 1)) (List.mem_of_getElem? (i := 18) rfl))
theorem dL_law_1026 : decode cL_law 1026 = .ok (.aload_n 3, 1) := of_decide_eq_true (List.all_eq_true.mp bt_law_11 (1026, (.aload_n 3, 1)) (List.mem_of_getElem? (i := 19) rfl))
theorem dL_law_1027 : decode cL_law 1027 = .ok (.invokestatic 142, 3) := of_decide_eq_true (List.all_eq_true.mp bt_law_11 (1027, (.invokestatic 142, 3)) (List.mem_of_getElem? (i := 20) rfl))
theorem dL_law_1030 : decode cL_law 1030 = .ok (.istore 5, 2) := of_decide_eq_true (List.all_eq_true.mp bt_law_11 (1030, (.istore 5, 2)) (List.mem_of_getElem? (i := 21) rfl))
theorem dL_law_1032 : decode cL_law 1032 = .ok (.aload_n 2, 1) := of_decide_eq_true (List.all_eq_true.mp bt_law_11 (1032, (.aload_n 2, 1)) (List.mem_of_getElem? (i := 22) rfl))
theorem dL_law_1033 : decode cL_law 1033 = .ok (.aload_n 0, 1) := of_decide_eq_true (List.all_eq_true.mp bt_law_11 (1033, (.aload_n 0, 1)) (List.mem_of_getElem? (i := 23) rfl))
theorem dL_law_1034 : decode cL_law 1034 = .ok (.iload 4, 2) := of_decide_eq_true (List.all_eq_true.mp bt_law_11 (1034, (.iload 4, 2)) (List.mem_of_getElem? (i := 24) rfl))
theorem dL_law_1036 : decode cL_law 1036 = .ok (.iconst 1, 1) := of_decide_eq_true (List.all_eq_true.mp bt_law_11 (1036, (.iconst 1, 1)) (List.mem_of_getElem? (i := 25) rfl))
theorem dL_law_1037 : decode cL_law 1037 = .ok (.iadd, 1) := of_decide_eq_true (List.all_eq_true.mp bt_law_11 (1037, (.iadd, 1)) (List.mem_of_getElem? (i := 26) rfl))
theorem dL_law_1038 : decode cL_law 1038 = .ok (.iaload, 1) := of_decide_eq_true (List.all_eq_true.mp bt_law_11 (1038, (.iaload, 1)) (List.mem_of_getElem? (i := 27) rfl))
theorem dL_law_1039 : decode cL_law 1039 = .ok (.aload_n 0, 1) := of_decide_eq_true (List.all_eq_true.mp bt_law_11 (1039, (.aload_n 0, 1)) (List.mem_of_getElem? (i := 28) rfl))
theorem dL_law_1040 : decode cL_law 1040 = .ok (.iload 4, 2) := of_decide_eq_true (List.all_eq_true.mp bt_law_11 (1040, (.iload 4, 2)) (List.mem_of_getElem? (i := 29) rfl))
theorem dL_law_1042 : decode cL_law 1042 = .ok (.iconst 2, 1) := of_decide_eq_true (List.all_eq_true.mp bt_law_11 (1042, (.iconst 2, 1)) (List.mem_of_getElem? (i := 30) rfl))
theorem dL_law_1043 : decode cL_law 1043 = .ok (.iadd, 1) := of_decide_eq_true (List.all_eq_true.mp bt_law_11 (1043, (.iadd, 1)) (List.mem_of_getElem? (i := 31) rfl))
theorem dL_law_1044 : decode cL_law 1044 = .ok (.iaload, 1) := of_decide_eq_true (List.all_eq_true.mp bt_law_11 (1044, (.iaload, 1)) (List.mem_of_getElem? (i := 32) rfl))
theorem dL_law_1045 : decode cL_law 1045 = .ok (.aload_n 0, 1) := of_decide_eq_true (List.all_eq_true.mp bt_law_11 (1045, (.aload_n 0, 1)) (List.mem_of_getElem? (i := 33) rfl))
theorem dL_law_1046 : decode cL_law 1046 = .ok (.iload 4, 2) := of_decide_eq_true (List.all_eq_true.mp bt_law_11 (1046, (.iload 4, 2)) (List.mem_of_getElem? (i := 34) rfl))
theorem dL_law_1048 : decode cL_law 1048 = .ok (.iconst 3, 1) := of_decide_eq_true (List.all_eq_true.mp bt_law_11 (1048, (.iconst 3, 1)) (List.mem_of_getElem? (i := 35) rfl))
theorem dL_law_1049 : decode cL_law 1049 = .ok (.iadd, 1) := of_decide_eq_true (List.all_eq_true.mp bt_law_11 (1049, (.iadd, 1)) (List.mem_of_getElem? (i := 36) rfl))
theorem dL_law_1050 : decode cL_law 1050 = .ok (.iaload, 1) := of_decide_eq_true (List.all_eq_true.mp bt_law_11 (1050, (.iaload, 1)) (List.mem_of_getElem? (i := 37) rfl))
theorem dL_law_1051 : decode cL_law 1051 = .ok (.aload_n 0, 1) := of_decide_eq_true (List.all_eq_true.mp bt_law_11 (1051, (.aload_n 0, 1)) (List.mem_of_getElem? (i := 38) rfl))
theorem dL_law_1052 : decode cL_law 1052 = .ok (.iload 4, 2) := of_decide_eq_true (List.all_eq_true.mp bt_law_11 (1052, (.iload 4, 2)) (List.mem_of_getElem? (i := 39) rfl))
theorem dL_law_1054 : decode cL_law 1054 = .ok (.iconst 4, 1) := of_decide_eq_true (List.all_eq_true.mp bt_law_11 (1054, (.iconst 4, 1)) (List.mem_of_getElem? (i := 40) rfl))
theorem dL_law_1055 : decode cL_law 1055 = .ok (.iadd, 1) := of_decide_eq_true (List.all_eq_true.mp bt_law_11 (1055, (.iadd, 1)) (List.mem_of_getElem? (i := 41) rfl))
theorem dL_law_1056 : decode cL_law 1056 = .ok (.iaload, 1) := of_decide_eq_true (List.all_eq_true.mp bt_law_11 (1056, (.iaload, 1)) (List.mem_of_getElem? (i := 42) rfl))
theorem dL_law_1057 : decode cL_law 1057 = .ok (.invokevirtual 145, 3) := of_decide_eq_true (List.all_eq_true.mp bt_law_11 (1057, (.invokevirtual 145, 3)) (List.mem_of_getElem? (i := 43) rfl))
theorem dL_law_1060 : decode cL_law 1060 = .ok (.lstore 6, 2) := of_decide_eq_true (List.all_eq_true.mp bt_law_11 (1060, (.lstore 6, 2)) (List.mem_of_getElem? (i := 44) rfl))
theorem dL_law_1062 : decode cL_law 1062 = .ok (.aload_n 2, 1) := of_decide_eq_true (List.all_eq_true.mp bt_law_11 (1062, (.aload_n 2, 1)) (List.mem_of_getElem? (i := 45) rfl))
theorem dL_law_1063 : decode cL_law 1063 = .ok (.invokevirtual 92, 3) := of_decide_eq_true (List.all_eq_true.mp bt_law_11 (1063, (.invokevirtual 92, 3)) (List.mem_of_getElem? (i := 46) rfl))
theorem dL_law_1066 : decode cL_law 1066 = .ok (.iload 5, 2) := of_decide_eq_true (List.all_eq_true.mp bt_law_11 (1066, (.iload 5, 2)) (List.mem_of_getElem? (i := 47) rfl))
theorem dL_law_1068 : decode cL_law 1068 = .ok (.if_icmp .eq 5, 3) := of_decide_eq_true (List.all_eq_true.mp bt_law_11 (1068, (.if_icmp .eq 5, 3)) (List.mem_of_getElem? (i := 48) rfl))
theorem dL_law_1071 : decode cL_law 1071 = .ok (.iconst 0, 1) := of_decide_eq_true (List.all_eq_true.mp bt_law_11 (1071, (.iconst 0, 1)) (List.mem_of_getElem? (i := 49) rfl))
theorem dL_law_1072 : decode cL_law 1072 = .ok (.ireturn, 1) := of_decide_eq_true (List.all_eq_true.mp bt_law_11 (1072, (.ireturn, 1)) (List.mem_of_getElem? (i := 50) rfl))
theorem dL_law_1073 : decode cL_law 1073 = .ok (.iload 5, 2) := of_decide_eq_true (List.all_eq_true.mp bt_law_11 (1073, (.iload 5, 2)) (List.mem_of_getElem? (i := 51) rfl))
theorem dL_law_1075 : decode cL_law 1075 = .ok (.ifCond .ne 14, 3) := of_decide_eq_true (List.all_eq_true.mp bt_law_11 (1075, (.ifCond .ne 14, 3)) (List.mem_of_getElem? (i := 52) rfl))
theorem dL_law_1078 : decode cL_law 1078 = .ok (.aload_n 3, 1) := of_decide_eq_true (List.all_eq_true.mp bt_law_11 (1078, (.aload_n 3, 1)) (List.mem_of_getElem? (i := 53) rfl))
theorem dL_law_1079 : decode cL_law 1079 = .ok (.iconst 0, 1) := of_decide_eq_true (List.all_eq_true.mp bt_law_11 (1079, (.iconst 0, 1)) (List.mem_of_getElem? (i := 54) rfl))
theorem dL_law_1080 : decode cL_law 1080 = .ok (.laload, 1) := of_decide_eq_true (List.all_eq_true.mp bt_law_11 (1080, (.laload, 1)) (List.mem_of_getElem? (i := 55) rfl))
theorem dL_law_1081 : decode cL_law 1081 = .ok (.lload 6, 2) := of_decide_eq_true (List.all_eq_true.mp bt_law_11 (1081, (.lload 6, 2)) (List.mem_of_getElem? (i := 56) rfl))
theorem dL_law_1083 : decode cL_law 1083 = .ok (.lcmp, 1) := of_decide_eq_true (List.all_eq_true.mp bt_law_11 (1083, (.lcmp, 1)) (List.mem_of_getElem? (i := 57) rfl))
theorem dL_law_1084 : decode cL_law 1084 = .ok (.ifCond .eq 5, 3) := of_decide_eq_true (List.all_eq_true.mp bt_law_11 (1084, (.ifCond .eq 5, 3)) (List.mem_of_getElem? (i := 58) rfl))
theorem dL_law_1087 : decode cL_law 1087 = .ok (.iconst 0, 1) := of_decide_eq_true (List.all_eq_true.mp bt_law_11 (1087, (.iconst 0, 1)) (List.mem_of_getElem? (i := 59) rfl))
set_option maxRecDepth 100000 in
theorem bt_law_12 : ([(1088, (.ireturn, 1)), (1089, (.goto 465, 3)), (1092, (.aload_n 1, 1)), (1093, (.aload_n 0, 1)), (1094, (.iload 4, 2)), (1096, (.iconst 1, 1)), (1097, (.iadd, 1)), (1098, (.iaload, 1)), (1099, (.aload_n 3, 1)), (1100, (.invokestatic 146, 3)), (1103, (.istore 5, 2)), (1105, (.aload_n 2, 1)), (1106, (.aload_n 0, 1)), (1107, (.iload 4, 2)), (1109, (.iconst 1, 1)), (1110, (.iadd, 1)), (1111, (.iaload, 1)), (1112, (.invokevirtual 148, 3)), (1115, (.istore 6, 2)), (1117, (.aload_n 2, 1)), (1118, (.invokevirtual 92, 3)), (1121, (.iload 5, 2)), (1123, (.if_icmp .eq 5, 3)), (1126, (.iconst 0, 1)), (1127, (.ireturn, 1)), (1128, (.iload 5, 2)), (1130, (.ifCond .ne 15, 3)), (1133, (.aload_n 3, 1)), (1134, (.iconst 0, 1)), (1135, (.laload, 1)), (1136, (.iload 6, 2)), (1138, (.i2l, 1)), (1139, (.lcmp, 1)), (1140, (.ifCond .eq 5, 3)), (1143, (.iconst 0, 1)), (1144, (.ireturn, 1)), (1145, (.goto 409, 3)), (1148, (.aload_n 1, 1)), (1149, (.aload_n 0, 1)), (1150, (.iload 4, 2)), (1152, (.iconst 1, 1)), (1153, (.iadd, 1)), (1154, (.iaload, 1)), (1155, (.aload_n 0, 1)), (1156, (.iload 4, 2)), (1158, (.iconst 2, 1)), (1159, (.iadd, 1)), (1160, (.iaload, 1)), (1161, (.aload_n 3, 1)), (1162, (.invokestatic 149, 3)), (1165, (.istore 5, 2)), (1167, (.aload_n 2, 1)), (1168, (.aload_n 0, 1)), (1169, (.iload 4, 2)), (1171, (.iconst 1, 1)), (1172, (.iadd, 1)), (1173, (.iaload, 1)), (1174, (.aload_n 0, 1)), (1175, (.iload 4, 2)), (1177, (.iconst 2, 1))] : List (Nat × (Instr × Nat))).all (fun q => decide (decode cL_law q.1 = .ok q.2)) = true := by decide +kernel
theorem dL_law_1088 : decode cL_law 1088 = .ok (.ireturn, 1) := of_decide_eq_true (List.all_eq_true.mp bt_law_12 (1088, (.ireturn, 1)) (List.mem_of_getElem? (i := 0) rfl))
theorem dL_law_1089 : decode cL_law 1089 = .ok (.goto 465, 3) := of_decide_eq_true (List.all_eq_true.mp bt_law_12 (1089, (.goto 465, 3)) (List.mem_of_getElem? (i := 1) rfl))
theorem dL_law_1092 : decode cL_law 1092 = .ok (.aload_n 1, 1) := of_decide_eq_true (List.all_eq_true.mp bt_law_12 (1092, (.aload_n 1, 1)) (List.mem_of_getElem? (i := 2) rfl))
theorem dL_law_1093 : decode cL_law 1093 = .ok (.aload_n 0, 1) := of_decide_eq_true (List.all_eq_true.mp bt_law_12 (1093, (.aload_n 0, 1)) (List.mem_of_getElem? (i := 3) rfl))
theorem dL_law_1094 : decode cL_law 1094 = .ok (.iload 4, 2) := of_decide_eq_true (List.all_eq_true.mp bt_law_12 (1094, (.iload 4, 2)) (List.mem_of_getElem? (i := 4) rfl))
theorem dL_law_1096 : decode cL_law 1096 = .ok (.iconst 1, 1) := of_decide_eq_true (List.all_eq_true.mp bt_law_12 (1096, (.iconst 1, 1)) (List.mem_of_getElem? (i := 5) rfl))
theorem dL_law_1097 : decode cL_law 1097 = .ok (.iadd, 1) := of_decide_eq_true (List.all_eq_true.mp bt_law_12 (1097, (.iadd, 1)) (List.mem_of_getElem? (i := 6) rfl))
theorem dL_law_1098 : decode cL_law 1098 = .ok (.iaload, 1) := of_decide_eq_true (List.all_eq_true.mp bt_law_12 (1098, (.iaload, 1)) (List.mem_of_getElem? (i := 7) rfl))
theorem dL_law_1099 : decode cL_law 1099 = .ok (.aload_n 3, 1) := of_decide_eq_true (List.all_eq_true.mp bt_law_12 (1099, (.aload_n 3, 1)) (List.mem_of_getElem? (i := 8) rfl))
theorem dL_law_1100 : decode cL_law 1100 = .ok (.invokestatic 146, 3) := of_decide_eq_true (List.all_eq_true.mp bt_law_12 (1100, (.invokestatic 146, 3)) (List.mem_of_getElem? (i := 9) rfl))
theorem dL_law_1103 : decode cL_law 1103 = .ok (.istore 5, 2) := of_decide_eq_true (List.all_eq_true.mp bt_law_12 (1103, (.istore 5, 2)) (List.mem_of_getElem? (i := 10) rfl))
theorem dL_law_1105 : decode cL_law 1105 = .ok (.aload_n 2, 1) := of_decide_eq_true (List.all_eq_true.mp bt_law_12 (1105, (.aload_n 2, 1)) (List.mem_of_getElem? (i := 11) rfl))
theorem dL_law_1106 : decode cL_law 1106 = .ok (.aload_n 0, 1) := of_decide_eq_true (List.all_eq_true.mp bt_law_12 (1106, (.aload_n 0, 1)) (List.mem_of_getElem? (i := 12) rfl))
theorem dL_law_1107 : decode cL_law 1107 = .ok (.iload 4, 2) := of_decide_eq_true (List.all_eq_true.mp bt_law_12 (1107, (.iload 4, 2)) (List.mem_of_getElem? (i := 13) rfl))
theorem dL_law_1109 : decode cL_law 1109 = .ok (.iconst 1, 1) := of_decide_eq_true (List.all_eq_true.mp bt_law_12 (1109, (.iconst 1, 1)) (List.mem_of_getElem? (i := 14) rfl))
theorem dL_law_1110 : decode cL_law 1110 = .ok (.iadd, 1) := of_decide_eq_true (List.all_eq_true.mp bt_law_12 (1110, (.iadd, 1)) (List.mem_of_getElem? (i := 15) rfl))
theorem dL_law_1111 : decode cL_law 1111 = .ok (.iaload, 1) := of_decide_eq_true (List.all_eq_true.mp bt_law_12 (1111, (.iaload, 1)) (List.mem_of_getElem? (i := 16) rfl))
theorem dL_law_1112 : decode cL_law 1112 = .ok (.invokevirtual 148, 3) := of_decide_eq_true (List.all_eq_true.mp bt_law_12 (1112, (.invokevirtual 148, 3)) (List.mem_of_getElem? (i := 17) rfl))
theorem dL_law_1115 : decode cL_law 1115 = .ok (.istore 6, 2) := of_decide_eq_true (List.all_eq_true.mp bt_law_12 (1115, (.istore 6, 2)) (List.mem_of_getElem? (i := 18) rfl))
theorem dL_law_1117 : decode cL_law 1117 = .ok (.aload_n 2, 1) := of_decide_eq_true (List.all_eq_true.mp bt_law_12 (1117, (.aload_n 2, 1)) (List.mem_of_getElem? (i := 19) rfl))
theorem dL_law_1118 : decode cL_law 1118 = .ok (.invokevirtual 92, 3) := of_decide_eq_true (List.all_eq_true.mp bt_law_12 (1118, (.invokevirtual 92, 3)) (List.mem_of_getElem? (i := 20) rfl))
theorem dL_law_1121 : decode cL_law 1121 = .ok (.iload 5, 2) := of_decide_eq_true (List.all_eq_true.mp bt_law_12 (1121, (.iload 5, 2)) (List.mem_of_getElem? (i := 21) rfl))
theorem dL_law_1123 : decode cL_law 1123 = .ok (.if_icmp .eq 5, 3) := of_decide_eq_true (List.all_eq_true.mp bt_law_12 (1123, (.if_icmp .eq 5, 3)) (List.mem_of_getElem? (i := 22) rfl))
theorem dL_law_1126 : decode cL_law 1126 = .ok (.iconst 0, 1) := of_decide_eq_true (List.all_eq_true.mp bt_law_12 (1126, (.iconst 0, 1)) (List.mem_of_getElem? (i := 23) rfl))
theorem dL_law_1127 : decode cL_law 1127 = .ok (.ireturn, 1) := of_decide_eq_true (List.all_eq_true.mp bt_law_12 (1127, (.ireturn, 1)) (List.mem_of_getElem? (i := 24) rfl))
theorem dL_law_1128 : decode cL_law 1128 = .ok (.iload 5, 2) := of_decide_eq_true (List.all_eq_true.mp bt_law_12 (1128, (.iload 5, 2)) (List.mem_of_getElem? (i := 25) rfl))
theorem dL_law_1130 : decode cL_law 1130 = .ok (.ifCond .ne 15, 3) := of_decide_eq_true (List.all_eq_true.mp bt_law_12 (1130, (.ifCond .ne 15, 3)) (List.mem_of_getElem? (i := 26) rfl))
theorem dL_law_1133 : decode cL_law 1133 = .ok (.aload_n 3, 1) := of_decide_eq_true (List.all_eq_true.mp bt_law_12 (1133, (.aload_n 3, 1)) (List.mem_of_getElem? (i := 27) rfl))
theorem dL_law_1134 : decode cL_law 1134 = .ok (.iconst 0, 1) := of_decide_eq_true (List.all_eq_true.mp bt_law_12 (1134, (.iconst 0, 1)) (List.mem_of_getElem? (i := 28) rfl))
theorem dL_law_1135 : decode cL_law 1135 = .ok (.laload, 1) := of_decide_eq_true (List.all_eq_true.mp bt_law_12 (1135, (.laload, 1)) (List.mem_of_getElem? (i := 29) rfl))
theorem dL_law_1136 : decode cL_law 1136 = .ok (.iload 6, 2) := of_decide_eq_true (List.all_eq_true.mp bt_law_12 (1136, (.iload 6, 2)) (List.mem_of_getElem? (i := 30) rfl))
theorem dL_law_1138 : decode cL_law 1138 = .ok (.i2l, 1) := of_decide_eq_true (List.all_eq_true.mp bt_law_12 (1138, (.i2l, 1)) (List.mem_of_getElem? (i := 31) rfl))
theorem dL_law_1139 : decode cL_law 1139 = .ok (.lcmp, 1) := of_decide_eq_true (List.all_eq_true.mp bt_law_12 (1139, (.lcmp, 1)) (List.mem_of_getElem? (i := 32) rfl))
theorem dL_law_1140 : decode cL_law 1140 = .ok (.ifCond .eq 5, 3) := of_decide_eq_true (List.all_eq_true.mp bt_law_12 (1140, (.ifCond .eq 5, 3)) (List.mem_of_getElem? (i := 33) rfl))
theorem dL_law_1143 : decode cL_law 1143 = .ok (.iconst 0, 1) := of_decide_eq_true (List.all_eq_true.mp bt_law_12 (1143, (.iconst 0, 1)) (List.mem_of_getElem? (i := 34) rfl))
theorem dL_law_1144 : decode cL_law 1144 = .ok (.ireturn, 1) := of_decide_eq_true (List.all_eq_true.mp bt_law_12 (1144, (.ireturn, 1)) (List.mem_of_getElem? (i := 35) rfl))
theorem dL_law_1145 : decode cL_law 1145 = .ok (.goto 409, 3) := of_decide_eq_true (List.all_eq_true.mp bt_law_12 (1145, (.goto 409, 3)) (List.mem_of_getElem? (i := 36) rfl))
theorem dL_law_1148 : decode cL_law 1148 = .ok (.aload_n 1, 1) := of_decide_eq_true (List.all_eq_true.mp bt_law_12 (1148, (.aload_n 1, 1)) (List.mem_of_getElem? (i := 37) rfl))
theorem dL_law_1149 : decode cL_law 1149 = .ok (.aload_n 0, 1) := of_decide_eq_true (List.all_eq_true.mp bt_law_12 (1149, (.aload_n 0, 1)) (List.mem_of_getElem? (i := 38) rfl))
theorem dL_law_1150 : decode cL_law 1150 = .ok (.iload 4, 2) := of_decide_eq_true (List.all_eq_true.mp bt_law_12 (1150, (.iload 4, 2)) (List.mem_of_getElem? (i := 39) rfl))
theorem dL_law_1152 : decode cL_law 1152 = .ok (.iconst 1, 1) := of_decide_eq_true (List.all_eq_true.mp bt_law_12 (1152, (.iconst 1, 1)) (List.mem_of_getElem? (i := 40) rfl))
theorem dL_law_1153 : decode cL_law 1153 = .ok (.iadd, 1) := of_decide_eq_true (List.all_eq_true.mp bt_law_12 (1153, (.iadd, 1)) (List.mem_of_getElem? (i := 41) rfl))
theorem dL_law_1154 : decode cL_law 1154 = .ok (.iaload, 1) := of_decide_eq_true (List.all_eq_true.mp bt_law_12 (1154, (.iaload, 1)) (List.mem_of_getElem? (i := 42) rfl))
theorem dL_law_1155 : decode cL_law 1155 = .ok (.aload_n 0, 1) := of_decide_eq_true (List.all_eq_true.mp bt_law_12 (1155, (.aload_n 0, 1)) (List.mem_of_getElem? (i := 43) rfl))
theorem dL_law_1156 : decode cL_law 1156 = .ok (.iload 4, 2) := of_decide_eq_true (List.all_eq_true.mp bt_law_12 (1156, (.iload 4, 2)) (List.mem_of_getElem? (i := 44) rfl))
theorem dL_law_1158 : decode cL_law 1158 = .ok (.iconst 2, 1) := of_decide_eq_true (List.all_eq_true.mp bt_law_12 (1158, (.iconst 2, 1)) (List.mem_of_getElem? (i := 45) rfl))
theorem dL_law_1159 : decode cL_law 1159 = .ok (.iadd, 1) := of_decide_eq_true (List.all_eq_true.mp bt_law_12 (1159, (.iadd, 1)) (List.mem_of_getElem? (i := 46) rfl))
theorem dL_law_1160 : decode cL_law 1160 = .ok (.iaload, 1) := of_decide_eq_true (List.all_eq_true.mp bt_law_12 (1160, (.iaload, 1)) (List.mem_of_getElem? (i := 47) rfl))
theorem dL_law_1161 : decode cL_law 1161 = .ok (.aload_n 3, 1) := of_decide_eq_true (List.all_eq_true.mp bt_law_12 (1161, (.aload_n 3, 1)) (List.mem_of_getElem? (i := 48) rfl))
theorem dL_law_1162 : decode cL_law 1162 = .ok (.invokestatic 149, 3) := of_decide_eq_true (List.all_eq_true.mp bt_law_12 (1162, (.invokestatic 149, 3)) (List.mem_of_getElem? (i := 49) rfl))
theorem dL_law_1165 : decode cL_law 1165 = .ok (.istore 5, 2) := of_decide_eq_true (List.all_eq_true.mp bt_law_12 (1165, (.istore 5, 2)) (List.mem_of_getElem? (i := 50) rfl))
theorem dL_law_1167 : decode cL_law 1167 = .ok (.aload_n 2, 1) := of_decide_eq_true (List.all_eq_true.mp bt_law_12 (1167, (.aload_n 2, 1)) (List.mem_of_getElem? (i := 51) rfl))
theorem dL_law_1168 : decode cL_law 1168 = .ok (.aload_n 0, 1) := of_decide_eq_true (List.all_eq_true.mp bt_law_12 (1168, (.aload_n 0, 1)) (List.mem_of_getElem? (i := 52) rfl))
theorem dL_law_1169 : decode cL_law 1169 = .ok (.iload 4, 2) := of_decide_eq_true (List.all_eq_true.mp bt_law_12 (1169, (.iload 4, 2)) (List.mem_of_getElem? (i := 53) rfl))
theorem dL_law_1171 : decode cL_law 1171 = .ok (.iconst 1, 1) := of_decide_eq_true (List.all_eq_true.mp bt_law_12 (1171, (.iconst 1, 1)) (List.mem_of_getElem? (i := 54) rfl))
theorem dL_law_1172 : decode cL_law 1172 = .ok (.iadd, 1) := of_decide_eq_true (List.all_eq_true.mp bt_law_12 (1172, (.iadd, 1)) (List.mem_of_getElem? (i := 55) rfl))
theorem dL_law_1173 : decode cL_law 1173 = .ok (.iaload, 1) := of_decide_eq_true (List.all_eq_true.mp bt_law_12 (1173, (.iaload, 1)) (List.mem_of_getElem? (i := 56) rfl))
theorem dL_law_1174 : decode cL_law 1174 = .ok (.aload_n 0, 1) := of_decide_eq_true (List.all_eq_true.mp bt_law_12 (1174, (.aload_n 0, 1)) (List.mem_of_getElem? (i := 57) rfl))
theorem dL_law_1175 : decode cL_law 1175 = .ok (.iload 4, 2) := of_decide_eq_true (List.all_eq_true.mp bt_law_12 (1175, (.iload 4, 2)) (List.mem_of_getElem? (i := 58) rfl))
theorem dL_law_1177 : decode cL_law 1177 = .ok (.iconst 2, 1) := of_decide_eq_true (List.all_eq_true.mp bt_law_12 (1177, (.iconst 2, 1)) (List.mem_of_getElem? (i := 59) rfl))
set_option maxRecDepth 100000 in
theorem bt_law_13 : ([(1178, (.iadd, 1)), (1179, (.iaload, 1)), (1180, (.invokevirtual 151, 3)), (1183, (.istore 6, 2)), (1185, (.aload_n 2, 1)), (1186, (.invokevirtual 92, 3)), (1189, (.iload 5, 2)), (1191, (.if_icmp .eq 5, 3)), (1194, (.iconst 0, 1)), (1195, (.ireturn, 1)), (1196, (.iload 5, 2)), (1198, (.ifCond .ne 22, 3)), (1201, (.aload_n 3, 1)), (1202, (.iconst 0, 1)), (1203, (.laload, 1)), (1204, (.iload 6, 2)), (1206, (.ifCond .eq 7, 3)), (1209, (.lconst 1, 1)), (1210, (.goto 4, 3)), (1213, (.lconst 0, 1)), (1214, (.lcmp, 1)), (1215, (.ifCond .eq 5, 3)), (1218, (.iconst 0, 1)), (1219, (.ireturn, 1)), (1220, (.goto 334, 3)), (1223, (.aload_n 1, 1)), (1224, (.aload_n 0, 1)), (1225, (.iload 4, 2)), (1227, (.iconst 1, 1)), (1228, (.iadd, 1)), (1229, (.iaload, 1)), (1230, (.aload_n 0, 1)), (1231, (.iload 4, 2)), (1233, (.iconst 2, 1)), (1234, (.iadd, 1)), (1235, (.iaload, 1)), (1236, (.aload_n 3, 1)), (1237, (.invokestatic 152, 3)), (1240, (.istore 5, 2)), (1242, (.aload_n 2, 1)), (1243, (.aload_n 0, 1)), (1244, (.iload 4, 2)), (1246, (.iconst 1, 1)), (1247, (.iadd, 1)), (1248, (.iaload, 1)), (1249, (.aload_n 0, 1)), (1250, (.iload 4, 2)), (1252, (.iconst 2, 1)), (1253, (.iadd, 1)), (1254, (.iaload, 1)), (1255, (.invokevirtual 154, 3)), (1258, (.istore 6, 2)), (1260, (.aload_n 2, 1)), (1261, (.invokevirtual 92, 3)), (1264, (.iload 5, 2)), (1266, (.if_icmp .eq 5, 3)), (1269, (.iconst 0, 1)), (1270, (.ireturn, 1)), (1271, (.iload 5, 2)), (1273, (.ifCond .ne 15, 3))] : List (Nat × (Instr × Nat))).all (fun q => decide (decode cL_law q.1 = .ok q.2)) = true := by decide +kernel
theorem dL_law_1178 : decode cL_law 1178 = .ok (.iadd, 1) := of_decide_eq_true (List.all_eq_true.mp bt_law_13 (1178, (.iadd, 1)) (List.mem_of_getElem? (i := 0) rfl))
theorem dL_law_1179 : decode cL_law 1179 = .ok (.iaload, 1) := of_decide_eq_true (List.all_eq_true.mp bt_law_13 (1179, (.iaload, 1)) (List.mem_of_getElem? (i := 1) rfl))
theorem dL_law_1180 : decode cL_law 1180 = .ok (.invokevirtual 151, 3) := of_decide_eq_true (List.all_eq_true.mp bt_law_13 (1180, (.invokevirtual 151, 3)) (List.mem_of_getElem? (i := 2) rfl))
theorem dL_law_1183 : decode cL_law 1183 = .ok (.istore 6, 2) := of_decide_eq_true (List.all_eq_true.mp bt_law_13 (1183, (.istore 6, 2)) (List.mem_of_getElem? (i := 3) rfl))
theorem dL_law_1185 : decode cL_law 1185 = .ok (.aload_n 2, 1) := of_decide_eq_true (List.all_eq_true.mp bt_law_13 (1185, (.aload_n 2, 1)) (List.mem_of_getElem? (i := 4) rfl))
theorem dL_law_1186 : decode cL_law 1186 = .ok (.invokevirtual 92, 3) := of_decide_eq_true (List.all_eq_true.mp bt_law_13 (1186, (.invokevirtual 92, 3)) (List.mem_of_getElem? (i := 5) rfl))
theorem dL_law_1189 : decode cL_law 1189 = .ok (.iload 5, 2) := of_decide_eq_true (List.all_eq_true.mp bt_law_13 (1189, (.iload 5, 2)) (List.mem_of_getElem? (i := 6) rfl))
theorem dL_law_1191 : decode cL_law 1191 = .ok (.if_icmp .eq 5, 3) := of_decide_eq_true (List.all_eq_true.mp bt_law_13 (1191, (.if_icmp .eq 5, 3)) (List.mem_of_getElem? (i := 7) rfl))
theorem dL_law_1194 : decode cL_law 1194 = .ok (.iconst 0, 1) := of_decide_eq_true (List.all_eq_true.mp bt_law_13 (1194, (.iconst 0, 1)) (List.mem_of_getElem? (i := 8) rfl))
theorem dL_law_1195 : decode cL_law 1195 = .ok (.ireturn, 1) := of_decide_eq_true (List.all_eq_true.mp bt_law_13 (1195, (.ireturn, 1)) (List.mem_of_getElem? (i := 9) rfl))
theorem dL_law_1196 : decode cL_law 1196 = .ok (.iload 5, 2) := of_decide_eq_true (List.all_eq_true.mp bt_law_13 (1196, (.iload 5, 2)) (List.mem_of_getElem? (i := 10) rfl))
theorem dL_law_1198 : decode cL_law 1198 = .ok (.ifCond .ne 22, 3) := of_decide_eq_true (List.all_eq_true.mp bt_law_13 (1198, (.ifCond .ne 22, 3)) (List.mem_of_getElem? (i := 11) rfl))
theorem dL_law_1201 : decode cL_law 1201 = .ok (.aload_n 3, 1) := of_decide_eq_true (List.all_eq_true.mp bt_law_13 (1201, (.aload_n 3, 1)) (List.mem_of_getElem? (i := 12) rfl))
theorem dL_law_1202 : decode cL_law 1202 = .ok (.iconst 0, 1) := of_decide_eq_true (List.all_eq_true.mp bt_law_13 (1202, (.iconst 0, 1)) (List.mem_of_getElem? (i := 13) rfl))
theorem dL_law_1203 : decode cL_law 1203 = .ok (.laload, 1) := of_decide_eq_true (List.all_eq_true.mp bt_law_13 (1203, (.laload, 1)) (List.mem_of_getElem? (i := 14) rfl))
theorem dL_law_1204 : decode cL_law 1204 = .ok (.iload 6, 2) := of_decide_eq_true (List.all_eq_true.mp bt_law_13 (1204, (.iload 6, 2)) (List.mem_of_getElem? (i := 15) rfl))
theorem dL_law_1206 : decode cL_law 1206 = .ok (.ifCond .eq 7, 3) := of_decide_eq_true (List.all_eq_true.mp bt_law_13 (1206, (.ifCond .eq 7, 3)) (List.mem_of_getElem? (i := 16) rfl))
theorem dL_law_1209 : decode cL_law 1209 = .ok (.lconst 1, 1) := of_decide_eq_true (List.all_eq_true.mp bt_law_13 (1209, (.lconst 1, 1)) (List.mem_of_getElem? (i := 17) rfl))
theorem dL_law_1210 : decode cL_law 1210 = .ok (.goto 4, 3) := of_decide_eq_true (List.all_eq_true.mp bt_law_13 (1210, (.goto 4, 3)) (List.mem_of_getElem? (i := 18) rfl))
theorem dL_law_1213 : decode cL_law 1213 = .ok (.lconst 0, 1) := of_decide_eq_true (List.all_eq_true.mp bt_law_13 (1213, (.lconst 0, 1)) (List.mem_of_getElem? (i := 19) rfl))
theorem dL_law_1214 : decode cL_law 1214 = .ok (.lcmp, 1) := of_decide_eq_true (List.all_eq_true.mp bt_law_13 (1214, (.lcmp, 1)) (List.mem_of_getElem? (i := 20) rfl))
theorem dL_law_1215 : decode cL_law 1215 = .ok (.ifCond .eq 5, 3) := of_decide_eq_true (List.all_eq_true.mp bt_law_13 (1215, (.ifCond .eq 5, 3)) (List.mem_of_getElem? (i := 21) rfl))
theorem dL_law_1218 : decode cL_law 1218 = .ok (.iconst 0, 1) := of_decide_eq_true (List.all_eq_true.mp bt_law_13 (1218, (.iconst 0, 1)) (List.mem_of_getElem? (i := 22) rfl))
theorem dL_law_1219 : decode cL_law 1219 = .ok (.ireturn, 1) := of_decide_eq_true (List.all_eq_true.mp bt_law_13 (1219, (.ireturn, 1)) (List.mem_of_getElem? (i := 23) rfl))
theorem dL_law_1220 : decode cL_law 1220 = .ok (.goto 334, 3) := of_decide_eq_true (List.all_eq_true.mp bt_law_13 (1220, (.goto 334, 3)) (List.mem_of_getElem? (i := 24) rfl))
theorem dL_law_1223 : decode cL_law 1223 = .ok (.aload_n 1, 1) := of_decide_eq_true (List.all_eq_true.mp bt_law_13 (1223, (.aload_n 1, 1)) (List.mem_of_getElem? (i := 25) rfl))
theorem dL_law_1224 : decode cL_law 1224 = .ok (.aload_n 0, 1) := of_decide_eq_true (List.all_eq_true.mp bt_law_13 (1224, (.aload_n 0, 1)) (List.mem_of_getElem? (i := 26) rfl))
theorem dL_law_1225 : decode cL_law 1225 = .ok (.iload 4, 2) := of_decide_eq_true (List.all_eq_true.mp bt_law_13 (1225, (.iload 4, 2)) (List.mem_of_getElem? (i := 27) rfl))
theorem dL_law_1227 : decode cL_law 1227 = .ok (.iconst 1, 1) := of_decide_eq_true (List.all_eq_true.mp bt_law_13 (1227, (.iconst 1, 1)) (List.mem_of_getElem? (i := 28) rfl))
theorem dL_law_1228 : decode cL_law 1228 = .ok (.iadd, 1) := of_decide_eq_true (List.all_eq_true.mp bt_law_13 (1228, (.iadd, 1)) (List.mem_of_getElem? (i := 29) rfl))
theorem dL_law_1229 : decode cL_law 1229 = .ok (.iaload, 1) := of_decide_eq_true (List.all_eq_true.mp bt_law_13 (1229, (.iaload, 1)) (List.mem_of_getElem? (i := 30) rfl))
theorem dL_law_1230 : decode cL_law 1230 = .ok (.aload_n 0, 1) := of_decide_eq_true (List.all_eq_true.mp bt_law_13 (1230, (.aload_n 0, 1)) (List.mem_of_getElem? (i := 31) rfl))
theorem dL_law_1231 : decode cL_law 1231 = .ok (.iload 4, 2) := of_decide_eq_true (List.all_eq_true.mp bt_law_13 (1231, (.iload 4, 2)) (List.mem_of_getElem? (i := 32) rfl))
theorem dL_law_1233 : decode cL_law 1233 = .ok (.iconst 2, 1) := of_decide_eq_true (List.all_eq_true.mp bt_law_13 (1233, (.iconst 2, 1)) (List.mem_of_getElem? (i := 33) rfl))
theorem dL_law_1234 : decode cL_law 1234 = .ok (.iadd, 1) := of_decide_eq_true (List.all_eq_true.mp bt_law_13 (1234, (.iadd, 1)) (List.mem_of_getElem? (i := 34) rfl))
theorem dL_law_1235 : decode cL_law 1235 = .ok (.iaload, 1) := of_decide_eq_true (List.all_eq_true.mp bt_law_13 (1235, (.iaload, 1)) (List.mem_of_getElem? (i := 35) rfl))
theorem dL_law_1236 : decode cL_law 1236 = .ok (.aload_n 3, 1) := of_decide_eq_true (List.all_eq_true.mp bt_law_13 (1236, (.aload_n 3, 1)) (List.mem_of_getElem? (i := 36) rfl))
theorem dL_law_1237 : decode cL_law 1237 = .ok (.invokestatic 152, 3) := of_decide_eq_true (List.all_eq_true.mp bt_law_13 (1237, (.invokestatic 152, 3)) (List.mem_of_getElem? (i := 37) rfl))
theorem dL_law_1240 : decode cL_law 1240 = .ok (.istore 5, 2) := of_decide_eq_true (List.all_eq_true.mp bt_law_13 (1240, (.istore 5, 2)) (List.mem_of_getElem? (i := 38) rfl))
theorem dL_law_1242 : decode cL_law 1242 = .ok (.aload_n 2, 1) := of_decide_eq_true (List.all_eq_true.mp bt_law_13 (1242, (.aload_n 2, 1)) (List.mem_of_getElem? (i := 39) rfl))
theorem dL_law_1243 : decode cL_law 1243 = .ok (.aload_n 0, 1) := of_decide_eq_true (List.all_eq_true.mp bt_law_13 (1243, (.aload_n 0, 1)) (List.mem_of_getElem? (i := 40) rfl))
theorem dL_law_1244 : decode cL_law 1244 = .ok (.iload 4, 2) := of_decide_eq_true (List.all_eq_true.mp bt_law_13 (1244, (.iload 4, 2)) (List.mem_of_getElem? (i := 41) rfl))
theorem dL_law_1246 : decode cL_law 1246 = .ok (.iconst 1, 1) := of_decide_eq_true (List.all_eq_true.mp bt_law_13 (1246, (.iconst 1, 1)) (List.mem_of_getElem? (i := 42) rfl))
theorem dL_law_1247 : decode cL_law 1247 = .ok (.iadd, 1) := of_decide_eq_true (List.all_eq_true.mp bt_law_13 (1247, (.iadd, 1)) (List.mem_of_getElem? (i := 43) rfl))
theorem dL_law_1248 : decode cL_law 1248 = .ok (.iaload, 1) := of_decide_eq_true (List.all_eq_true.mp bt_law_13 (1248, (.iaload, 1)) (List.mem_of_getElem? (i := 44) rfl))
theorem dL_law_1249 : decode cL_law 1249 = .ok (.aload_n 0, 1) := of_decide_eq_true (List.all_eq_true.mp bt_law_13 (1249, (.aload_n 0, 1)) (List.mem_of_getElem? (i := 45) rfl))
theorem dL_law_1250 : decode cL_law 1250 = .ok (.iload 4, 2) := of_decide_eq_true (List.all_eq_true.mp bt_law_13 (1250, (.iload 4, 2)) (List.mem_of_getElem? (i := 46) rfl))
theorem dL_law_1252 : decode cL_law 1252 = .ok (.iconst 2, 1) := of_decide_eq_true (List.all_eq_true.mp bt_law_13 (1252, (.iconst 2, 1)) (List.mem_of_getElem? (i := 47) rfl))
theorem dL_law_1253 : decode cL_law 1253 = .ok (.iadd, 1) := of_decide_eq_true (List.all_eq_true.mp bt_law_13 (1253, (.iadd, 1)) (List.mem_of_getElem? (i := 48) rfl))
theorem dL_law_1254 : decode cL_law 1254 = .ok (.iaload, 1) := of_decide_eq_true (List.all_eq_true.mp bt_law_13 (1254, (.iaload, 1)) (List.mem_of_getElem? (i := 49) rfl))
theorem dL_law_1255 : decode cL_law 1255 = .ok (.invokevirtual 154, 3) := of_decide_eq_true (List.all_eq_true.mp bt_law_13 (1255, (.invokevirtual 154, 3)) (List.mem_of_getElem? (i := 50) rfl))
theorem dL_law_1258 : decode cL_law 1258 = .ok (.istore 6, 2) := of_decide_eq_true (List.all_eq_true.mp bt_law_13 (1258, (.istore 6, 2)) (List.mem_of_getElem? (i := 51) rfl))
theorem dL_law_1260 : decode cL_law 1260 = .ok (.aload_n 2, 1) := of_decide_eq_true (List.all_eq_true.mp bt_law_13 (1260, (.aload_n 2, 1)) (List.mem_of_getElem? (i := 52) rfl))
theorem dL_law_1261 : decode cL_law 1261 = .ok (.invokevirtual 92, 3) := of_decide_eq_true (List.all_eq_true.mp bt_law_13 (1261, (.invokevirtual 92, 3)) (List.mem_of_getElem? (i := 53) rfl))
theorem dL_law_1264 : decode cL_law 1264 = .ok (.iload 5, 2) := of_decide_eq_true (List.all_eq_true.mp bt_law_13 (1264, (.iload 5, 2)) (List.mem_of_getElem? (i := 54) rfl))
theorem dL_law_1266 : decode cL_law 1266 = .ok (.if_icmp .eq 5, 3) := of_decide_eq_true (List.all_eq_true.mp bt_law_13 (1266, (.if_icmp .eq 5, 3)) (List.mem_of_getElem? (i := 55) rfl))
theorem dL_law_1269 : decode cL_law 1269 = .ok (.iconst 0, 1) := of_decide_eq_true (List.all_eq_true.mp bt_law_13 (1269, (.iconst 0, 1)) (List.mem_of_getElem? (i := 56) rfl))
theorem dL_law_1270 : decode cL_law 1270 = .ok (.ireturn, 1) := of_decide_eq_true (List.all_eq_true.mp bt_law_13 (1270, (.ireturn, 1)) (List.mem_of_getElem? (i := 57) rfl))
theorem dL_law_1271 : decode cL_law 1271 = .ok (.iload 5, 2) := of_decide_eq_true (List.all_eq_true.mp bt_law_13 (1271, (.iload 5, 2)) (List.mem_of_getElem? (i := 58) rfl))
theorem dL_law_1273 : decode cL_law 1273 = .ok (.ifCond .ne 15, 3) := of_decide_eq_true (List.all_eq_true.mp bt_law_13 (1273, (.ifCond .ne 15, 3)) (List.mem_of_getElem? (i := 59) rfl))
set_option maxRecDepth 100000 in
theorem bt_law_14 : ([(1276, (.aload_n 3, 1)), (1277, (.iconst 0, 1)), (1278, (.laload, 1)), (1279, (.iload 6, 2)), (1281, (.i2l, 1)), (1282, (.lcmp, 1)), (1283, (.ifCond .eq 5, 3)), (1286, (.iconst 0, 1)), (1287, (.ireturn, 1)), (1288, (.goto 266, 3)), (1291, (.aload_n 1, 1)), (1292, (.invokevirtual 155, 3)), (1295, (.aload_n 2, 1)), (1296, (.invokevirtual 158, 3)), (1299, (.if_icmp .eq 255, 3)), (1302, (.iconst 0, 1)), (1303, (.ireturn, 1)), (1304, (.aload_n 1, 1)), (1305, (.invokevirtual 159, 3)), (1308, (.aload_n 2, 1)), (1309, (.invokevirtual 162, 3)), (1312, (.if_icmp .eq 242, 3)), (1315, (.iconst 0, 1)), (1316, (.ireturn, 1)), (1317, (.aload_n 1, 1)), (1318, (.aload_n 0, 1)), (1319, (.iload 4, 2)), (1321, (.iconst 1, 1)), (1322, (.iadd, 1)), (1323, (.iaload, 1)), (1324, (.aload_n 3, 1)), (1325, (.invokestatic 163, 3)), (1328, (.istore 5, 2)), (1330, (.aload_n 2, 1)), (1331, (.aload_n 0, 1)), (1332, (.iload 4, 2)), (1334, (.iconst 1, 1)), (1335, (.iadd, 1)), (1336, (.iaload, 1)), (1337, (.invokevirtual 165, 3)), (1340, (.istore 6, 2)), (1342, (.aload_n 2, 1)), (1343, (.invokevirtual 92, 3)), (1346, (.iload 5, 2)), (1348, (.if_icmp .eq 5, 3)), (1351, (.iconst 0, 1)), (1352, (.ireturn, 1)), (1353, (.iload 5, 2)), (1355, (.ifCond .ne 15, 3)), (1358, (.aload_n 3, 1)), (1359, (.iconst 0, 1)), (1360, (.laload, 1)), (1361, (.iload 6, 2)), (1363, (.i2l, 1)), (1364, (.lcmp, 1)), (1365, (.ifCond .eq 5, 3)), (1368, (.iconst 0, 1)), (1369, (.ireturn, 1)), (1370, (.goto 184, 3)), (1373, (.aload_n 1, 1))] : List (Nat × (Instr × Nat))).all (fun q => decide (decode cL_law q.1 = .ok q.2)) = true := by decide +kernel
theorem dL_law_1276 : decode cL_law 1276 = .ok (.aload_n 3, 1) := of_decide_eq_true (List.all_eq_true.mp bt_law_14 (1276, (.aload_n 3, 1)) (List.mem_of_getElem? (i := 0) rfl))
theorem dL_law_1277 : decode cL_law 1277 = .ok (.iconst 0, 1) := of_decide_eq_true (List.all_eq_true.mp bt_law_14 (1277, (.iconst 0, 1)) (List.mem_of_getElem? (i := 1) rfl))
theorem dL_law_1278 : decode cL_law 1278 = .ok (.laload, 1) := of_decide_eq_true (List.all_eq_true.mp bt_law_14 (1278, (.laload, 1)) (List.mem_of_getElem? (i := 2) rfl))
theorem dL_law_1279 : decode cL_law 1279 = .ok (.iload 6, 2) := of_decide_eq_true (List.all_eq_true.mp bt_law_14 (1279, (.iload 6, 2)) (List.mem_of_getElem? (i := 3) rfl))
theorem dL_law_1281 : decode cL_law 1281 = .ok (.i2l, 1) := of_decide_eq_true (List.all_eq_true.mp bt_law_14 (1281, (.i2l, 1)) (List.mem_of_getElem? (i := 4) rfl))
theorem dL_law_1282 : decode cL_law 1282 = .ok (.lcmp, 1) := of_decide_eq_true (List.all_eq_true.mp bt_law_14 (1282, (.lcmp, 1)) (List.mem_of_getElem? (i := 5) rfl))
theorem dL_law_1283 : decode cL_law 1283 = .ok (.ifCond .eq 5, 3) := of_decide_eq_true (List.all_eq_true.mp bt_law_14 (1283, (.ifCond .eq 5, 3)) (List.mem_of_getElem? (i := 6) rfl))
theorem dL_law_1286 : decode cL_law 1286 = .ok (.iconst 0, 1) := of_decide_eq_true (List.all_eq_true.mp bt_law_14 (1286, (.iconst 0, 1)) (List.mem_of_getElem? (i := 7) rfl))
theorem dL_law_1287 : decode cL_law 1287 = .ok (.ireturn, 1) := of_decide_eq_true (List.all_eq_true.mp bt_law_14 (1287, (.ireturn, 1)) (List.mem_of_getElem? (i := 8) rfl))
theorem dL_law_1288 : decode cL_law 1288 = .ok (.goto 266, 3) := of_decide_eq_true (List.all_eq_true.mp bt_law_14 (1288, (.goto 266, 3)) (List.mem_of_getElem? (i := 9) rfl))
theorem dL_law_1291 : decode cL_law 1291 = .ok (.aload_n 1, 1) := of_decide_eq_true (List.all_eq_true.mp bt_law_14 (1291, (.aload_n 1, 1)) (List.mem_of_getElem? (i := 10) rfl))
theorem dL_law_1292 : decode cL_law 1292 = .ok (.invokevirtual 155, 3) := of_decide_eq_true (List.all_eq_true.mp bt_law_14 (1292, (.invokevirtual 155, 3)) (List.mem_of_getElem? (i := 11) rfl))
theorem dL_law_1295 : decode cL_law 1295 = .ok (.aload_n 2, 1) := of_decide_eq_true (List.all_eq_true.mp bt_law_14 (1295, (.aload_n 2, 1)) (List.mem_of_getElem? (i := 12) rfl))
theorem dL_law_1296 : decode cL_law 1296 = .ok (.invokevirtual 158, 3) := of_decide_eq_true (List.all_eq_true.mp bt_law_14 (1296, (.invokevirtual 158, 3)) (List.mem_of_getElem? (i := 13) rfl))
theorem dL_law_1299 : decode cL_law 1299 = .ok (.if_icmp .eq 255, 3) := of_decide_eq_true (List.all_eq_true.mp bt_law_14 (1299, (.if_icmp .eq 255, 3)) (List.mem_of_getElem? (i := 14) rfl))
theorem dL_law_1302 : decode cL_law 1302 = .ok (.iconst 0, 1) := of_decide_eq_true (List.all_eq_true.mp bt_law_14 (1302, (.iconst 0, 1)) (List.mem_of_getElem? (i := 15) rfl))
theorem dL_law_1303 : decode cL_law 1303 = .ok (.ireturn, 1) := of_decide_eq_true (List.all_eq_true.mp bt_law_14 (1303, (.ireturn, 1)) (List.mem_of_getElem? (i := 16) rfl))
theorem dL_law_1304 : decode cL_law 1304 = .ok (.aload_n 1, 1) := of_decide_eq_true (List.all_eq_true.mp bt_law_14 (1304, (.aload_n 1, 1)) (List.mem_of_getElem? (i := 17) rfl))
theorem dL_law_1305 : decode cL_law 1305 = .ok (.invokevirtual 159, 3) := of_decide_eq_true (List.all_eq_true.mp bt_law_14 (1305, (.invokevirtual 159, 3)) (List.mem_of_getElem? (i := 18) rfl))
theorem dL_law_1308 : decode cL_law 1308 = .ok (.aload_n 2, 1) := of_decide_eq_true (List.all_eq_true.mp bt_law_14 (1308, (.aload_n 2, 1)) (List.mem_of_getElem? (i := 19) rfl))
theorem dL_law_1309 : decode cL_law 1309 = .ok (.invokevirtual 162, 3) := of_decide_eq_true (List.all_eq_true.mp bt_law_14 (1309, (.invokevirtual 162, 3)) (List.mem_of_getElem? (i := 20) rfl))
theorem dL_law_1312 : decode cL_law 1312 = .ok (.if_icmp .eq 242, 3) := of_decide_eq_true (List.all_eq_true.mp bt_law_14 (1312, (.if_icmp .eq 242, 3)) (List.mem_of_getElem? (i := 21) rfl))
theorem dL_law_1315 : decode cL_law 1315 = .ok (.iconst 0, 1) := of_decide_eq_true (List.all_eq_true.mp bt_law_14 (1315, (.iconst 0, 1)) (List.mem_of_getElem? (i := 22) rfl))
theorem dL_law_1316 : decode cL_law 1316 = .ok (.ireturn, 1) := of_decide_eq_true (List.all_eq_true.mp bt_law_14 (1316, (.ireturn, 1)) (List.mem_of_getElem? (i := 23) rfl))
theorem dL_law_1317 : decode cL_law 1317 = .ok (.aload_n 1, 1) := of_decide_eq_true (List.all_eq_true.mp bt_law_14 (1317, (.aload_n 1, 1)) (List.mem_of_getElem? (i := 24) rfl))
theorem dL_law_1318 : decode cL_law 1318 = .ok (.aload_n 0, 1) := of_decide_eq_true (List.all_eq_true.mp bt_law_14 (1318, (.aload_n 0, 1)) (List.mem_of_getElem? (i := 25) rfl))
theorem dL_law_1319 : decode cL_law 1319 = .ok (.iload 4, 2) := of_decide_eq_true (List.all_eq_true.mp bt_law_14 (1319, (.iload 4, 2)) (List.mem_of_getElem? (i := 26) rfl))
theorem dL_law_1321 : decode cL_law 1321 = .ok (.iconst 1, 1) := of_decide_eq_true (List.all_eq_true.mp bt_law_14 (1321, (.iconst 1, 1)) (List.mem_of_getElem? (i := 27) rfl))
theorem dL_law_1322 : decode cL_law 1322 = .ok (.iadd, 1) := of_decide_eq_true (List.all_eq_true.mp bt_law_14 (1322, (.iadd, 1)) (List.mem_of_getElem? (i := 28) rfl))
theorem dL_law_1323 : decode cL_law 1323 = .ok (.iaload, 1) := of_decide_eq_true (List.all_eq_true.mp bt_law_14 (1323, (.iaload, 1)) (List.mem_of_getElem? (i := 29) rfl))
theorem dL_law_1324 : decode cL_law 1324 = .ok (.aload_n 3, 1) := of_decide_eq_true (List.all_eq_true.mp bt_law_14 (1324, (.aload_n 3, 1)) (List.mem_of_getElem? (i := 30) rfl))
theorem dL_law_1325 : decode cL_law 1325 = .ok (.invokestatic 163, 3) := of_decide_eq_true (List.all_eq_true.mp bt_law_14 (1325, (.invokestatic 163, 3)) (List.mem_of_getElem? (i := 31) rfl))
theorem dL_law_1328 : decode cL_law 1328 = .ok (.istore 5, 2) := of_decide_eq_true (List.all_eq_true.mp bt_law_14 (1328, (.istore 5, 2)) (List.mem_of_getElem? (i := 32) rfl))
theorem dL_law_1330 : decode cL_law 1330 = .ok (.aload_n 2, 1) := of_decide_eq_true (List.all_eq_true.mp bt_law_14 (1330, (.aload_n 2, 1)) (List.mem_of_getElem? (i := 33) rfl))
theorem dL_law_1331 : decode cL_law 1331 = .ok (.aload_n 0, 1) := of_decide_eq_true (List.all_eq_true.mp bt_law_14 (1331, (.aload_n 0, 1)) (List.mem_of_getElem? (i := 34) rfl))
theorem dL_law_1332 : decode cL_law 1332 = .ok (.iload 4, 2) := of_decide_eq_true (List.all_eq_true.mp bt_law_14 (1332, (.iload 4, 2)) (List.mem_of_getElem? (i := 35) rfl))
theorem dL_law_1334 : decode cL_law 1334 = .ok (.iconst 1, 1) := of_decide_eq_true (List.all_eq_true.mp bt_law_14 (1334, (.iconst 1, 1)) (List.mem_of_getElem? (i := 36) rfl))
theorem dL_law_1335 : decode cL_law 1335 = .ok (.iadd, 1) := of_decide_eq_true (List.all_eq_true.mp bt_law_14 (1335, (.iadd, 1)) (List.mem_of_getElem? (i := 37) rfl))
theorem dL_law_1336 : decode cL_law 1336 = .ok (.iaload, 1) := of_decide_eq_true (List.all_eq_true.mp bt_law_14 (1336, (.iaload, 1)) (List.mem_of_getElem? (i := 38) rfl))
theorem dL_law_1337 : decode cL_law 1337 = .ok (.invokevirtual 165, 3) := of_decide_eq_true (List.all_eq_true.mp bt_law_14 (1337, (.invokevirtual 165, 3)) (List.mem_of_getElem? (i := 39) rfl))
theorem dL_law_1340 : decode cL_law 1340 = .ok (.istore 6, 2) := of_decide_eq_true (List.all_eq_true.mp bt_law_14 (1340, (.istore 6, 2)) (List.mem_of_getElem? (i := 40) rfl))
theorem dL_law_1342 : decode cL_law 1342 = .ok (.aload_n 2, 1) := of_decide_eq_true (List.all_eq_true.mp bt_law_14 (1342, (.aload_n 2, 1)) (List.mem_of_getElem? (i := 41) rfl))
theorem dL_law_1343 : decode cL_law 1343 = .ok (.invokevirtual 92, 3) := of_decide_eq_true (List.all_eq_true.mp bt_law_14 (1343, (.invokevirtual 92, 3)) (List.mem_of_getElem? (i := 42) rfl))
theorem dL_law_1346 : decode cL_law 1346 = .ok (.iload 5, 2) := of_decide_eq_true (List.all_eq_true.mp bt_law_14 (1346, (.iload 5, 2)) (List.mem_of_getElem? (i := 43) rfl))
theorem dL_law_1348 : decode cL_law 1348 = .ok (.if_icmp .eq 5, 3) := of_decide_eq_true (List.all_eq_true.mp bt_law_14 (1348, (.if_icmp .eq 5, 3)) (List.mem_of_getElem? (i := 44) rfl))
theorem dL_law_1351 : decode cL_law 1351 = .ok (.iconst 0, 1) := of_decide_eq_true (List.all_eq_true.mp bt_law_14 (1351, (.iconst 0, 1)) (List.mem_of_getElem? (i := 45) rfl))
theorem dL_law_1352 : decode cL_law 1352 = .ok (.ireturn, 1) := of_decide_eq_true (List.all_eq_true.mp bt_law_14 (1352, (.ireturn, 1)) (List.mem_of_getElem? (i := 46) rfl))
theorem dL_law_1353 : decode cL_law 1353 = .ok (.iload 5, 2) := of_decide_eq_true (List.all_eq_true.mp bt_law_14 (1353, (.iload 5, 2)) (List.mem_of_getElem? (i := 47) rfl))
theorem dL_law_1355 : decode cL_law 1355 = .ok (.ifCond .ne 15, 3) := of_decide_eq_true (List.all_eq_true.mp bt_law_14 (1355, (.ifCond .ne 15, 3)) (List.mem_of_getElem? (i := 48) rfl))
theorem dL_law_1358 : decode cL_law 1358 = .ok (.aload_n 3, 1) := of_decide_eq_true (List.all_eq_true.mp bt_law_14 (1358, (.aload_n 3, 1)) (List.mem_of_getElem? (i := 49) rfl))
theorem dL_law_1359 : decode cL_law 1359 = .ok (.iconst 0, 1) := of_decide_eq_true (List.all_eq_true.mp bt_law_14 (1359, (.iconst 0, 1)) (List.mem_of_getElem? (i := 50) rfl))
theorem dL_law_1360 : decode cL_law 1360 = .ok (.laload, 1) := of_decide_eq_true (List.all_eq_true.mp bt_law_14 (1360, (.laload, 1)) (List.mem_of_getElem? (i := 51) rfl))
theorem dL_law_1361 : decode cL_law 1361 = .ok (.iload 6, 2) := of_decide_eq_true (List.all_eq_true.mp bt_law_14 (1361, (.iload 6, 2)) (List.mem_of_getElem? (i := 52) rfl))
theorem dL_law_1363 : decode cL_law 1363 = .ok (.i2l, 1) := of_decide_eq_true (List.all_eq_true.mp bt_law_14 (1363, (.i2l, 1)) (List.mem_of_getElem? (i := 53) rfl))
theorem dL_law_1364 : decode cL_law 1364 = .ok (.lcmp, 1) := of_decide_eq_true (List.all_eq_true.mp bt_law_14 (1364, (.lcmp, 1)) (List.mem_of_getElem? (i := 54) rfl))
theorem dL_law_1365 : decode cL_law 1365 = .ok (.ifCond .eq 5, 3) := of_decide_eq_true (List.all_eq_true.mp bt_law_14 (1365, (.ifCond .eq 5, 3)) (List.mem_of_getElem? (i := 55) rfl))
theorem dL_law_1368 : decode cL_law 1368 = .ok (.iconst 0, 1) := of_decide_eq_true (List.all_eq_true.mp bt_law_14 (1368, (.iconst 0, 1)) (List.mem_of_getElem? (i := 56) rfl))
theorem dL_law_1369 : decode cL_law 1369 = .ok (.ireturn, 1) := of_decide_eq_true (List.all_eq_true.mp bt_law_14 (1369, (.ireturn, 1)) (List.mem_of_getElem? (i := 57) rfl))
theorem dL_law_1370 : decode cL_law 1370 = .ok (.goto 184, 3) := of_decide_eq_true (List.all_eq_true.mp bt_law_14 (1370, (.goto 184, 3)) (List.mem_of_getElem? (i := 58) rfl))
theorem dL_law_1373 : decode cL_law 1373 = .ok (.aload_n 1, 1) := of_decide_eq_true (List.all_eq_true.mp bt_law_14 (1373, (.aload_n 1, 1)) (List.mem_of_getElem? (i := 59) rfl))
set_option maxRecDepth 100000 in
theorem bt_law_15 : ([(1374, (.invokevirtual 166, 3)), (1377, (.dstore 5, 2)), (1379, (.aload_n 2, 1)), (1380, (.invokevirtual 170, 3)), (1383, (.dstore 7, 2)), (1385, (.dload 5, 2)), (1387, (.dload 7, 2)), (1389, (.dcmp .l, 1)), (1390, (.ifCond .eq 21, 3)), (1393, (.dload 5, 2)), (1395, (.dload 5, 2)), (1397, (.dcmp .l, 1)), (1398, (.ifCond .eq 11, 3)), (1401, (.dload 7, 2)), (1403, (.dload 7, 2)), (1405, (.dcmp .l, 1)), (1406, (.ifCond .ne 5, 3)), (1409, (.iconst 0, 1)), (1410, (.ireturn, 1)), (1411, (.goto 143, 3)), (1414, (.aload_n 1, 1)), (1415, (.aload_n 0, 1)), (1416, (.iload 4, 2)), (1418, (.iconst 1, 1)), (1419, (.iadd, 1)), (1420, (.iaload, 1)), (1421, (.aload_n 3, 1)), (1422, (.invokestatic 171, 3)), (1425, (.istore 5, 2)), (1427, (.aload_n 2, 1)), (1428, (.aload_n 0, 1)), (1429, (.iload 4, 2)), (1431, (.iconst 1, 1)), (1432, (.iadd, 1)), (1433, (.iaload, 1)), (1434, (.invokevirtual 173, 3)), (1437, (.istore 6, 2)), (1439, (.aload_n 2, 1)), (1440, (.invokevirtual 92, 3)), (1443, (.iload 5, 2)), (1445, (.if_icmp .eq 5, 3)), (1448, (.iconst 0, 1)), (1449, (.ireturn, 1)), (1450, (.iload 5, 2)), (1452, (.ifCond .ne 15, 3)), (1455, (.aload_n 3, 1)), (1456, (.iconst 0, 1)), (1457, (.laload, 1)), (1458, (.iload 6, 2)), (1460, (.i2l, 1)), (1461, (.lcmp, 1)), (1462, (.ifCond .eq 5, 3)), (1465, (.iconst 0, 1)), (1466, (.ireturn, 1)), (1467, (.goto 87, 3)), (1470, (.aload_n 1, 1)), (1471, (.invokevirtual 174, 3)), (1474, (.aload_n 2, 1)), (1475, (.invokevirtual 177, 3)), (1478, (.if_icmp .eq 76, 3))] : List (Nat × (Instr × Nat))).all (fun q => decide (decode cL_law q.1 = .ok q.2)) = true := by decide +kernel
theorem dL_law_1374 : decode cL_law 1374 = .ok (.invokevirtual 166, 3) := of_decide_eq_true (List.all_eq_true.mp bt_law_15 (1374, (.invokevirtual 166, 3)) (List.mem_of_getElem? (i := 0) rfl))
theorem dL_law_1377 : decode cL_law 1377 = .ok (.dstore 5, 2) := of_decide_eq_true (List.all_eq_true.mp bt_law_15 (1377, (.dstore 5, 2)) (List.mem_of_getElem? (i := 1) rfl))
theorem dL_law_1379 : decode cL_law 1379 = .ok (.aload_n 2, 1) := of_decide_eq_true (List.all_eq_true.mp bt_law_15 (1379, (.aload_n 2, 1)) (List.mem_of_getElem? (i := 2) rfl))
theorem dL_law_1380 : decode cL_law 1380 = .ok (.invokevirtual 170, 3) := of_decide_eq_true (List.all_eq_true.mp bt_law_15 (1380, (.invokevirtual 170, 3)) (List.mem_of_getElem? (i := 3) rfl))
theorem dL_law_1383 : decode cL_law 1383 = .ok (.dstore 7, 2) := of_decide_eq_true (List.all_eq_true.mp bt_law_15 (1383, (.dstore 7, 2)) (List.mem_of_getElem? (i := 4) rfl))
theorem dL_law_1385 : decode cL_law 1385 = .ok (.dload 5, 2) := of_decide_eq_true (List.all_eq_true.mp bt_law_15 (1385, (.dload 5, 2)) (List.mem_of_getElem? (i := 5) rfl))
theorem dL_law_1387 : decode cL_law 1387 = .ok (.dload 7, 2) := of_decide_eq_true (List.all_eq_true.mp bt_law_15 (1387, (.dload 7, 2)) (List.mem_of_getElem? (i := 6) rfl))
theorem dL_law_1389 : decode cL_law 1389 = .ok (.dcmp .l, 1) := of_decide_eq_true (List.all_eq_true.mp bt_law_15 (1389, (.dcmp .l, 1)) (List.mem_of_getElem? (i := 7) rfl))
theorem dL_law_1390 : decode cL_law 1390 = .ok (.ifCond .eq 21, 3) := of_decide_eq_true (List.all_eq_true.mp bt_law_15 (1390, (.ifCond .eq 21, 3)) (List.mem_of_getElem? (i := 8) rfl))
theorem dL_law_1393 : decode cL_law 1393 = .ok (.dload 5, 2) := of_decide_eq_true (List.all_eq_true.mp bt_law_15 (1393, (.dload 5, 2)) (List.mem_of_getElem? (i := 9) rfl))
theorem dL_law_1395 : decode cL_law 1395 = .ok (.dload 5, 2) := of_decide_eq_true (List.all_eq_true.mp bt_law_15 (1395, (.dload 5, 2)) (List.mem_of_getElem? (i := 10) rfl))
theorem dL_law_1397 : decode cL_law 1397 = .ok (.dcmp .l, 1) := of_decide_eq_true (List.all_eq_true.mp bt_law_15 (1397, (.dcmp .l, 1)) (List.mem_of_getElem? (i := 11) rfl))
theorem dL_law_1398 : decode cL_law 1398 = .ok (.ifCond .eq 11, 3) := of_decide_eq_true (List.all_eq_true.mp bt_law_15 (1398, (.ifCond .eq 11, 3)) (List.mem_of_getElem? (i := 12) rfl))
theorem dL_law_1401 : decode cL_law 1401 = .ok (.dload 7, 2) := of_decide_eq_true (List.all_eq_true.mp bt_law_15 (1401, (.dload 7, 2)) (List.mem_of_getElem? (i := 13) rfl))
theorem dL_law_1403 : decode cL_law 1403 = .ok (.dload 7, 2) := of_decide_eq_true (List.all_eq_true.mp bt_law_15 (1403, (.dload 7, 2)) (List.mem_of_getElem? (i := 14) rfl))
theorem dL_law_1405 : decode cL_law 1405 = .ok (.dcmp .l, 1) := of_decide_eq_true (List.all_eq_true.mp bt_law_15 (1405, (.dcmp .l, 1)) (List.mem_of_getElem? (i := 15) rfl))
theorem dL_law_1406 : decode cL_law 1406 = .ok (.ifCond .ne 5, 3) := of_decide_eq_true (List.all_eq_true.mp bt_law_15 (1406, (.ifCond .ne 5, 3)) (List.mem_of_getElem? (i := 16) rfl))
theorem dL_law_1409 : decode cL_law 1409 = .ok (.iconst 0, 1) := of_decide_eq_true (List.all_eq_true.mp bt_law_15 (1409, (.iconst 0, 1)) (List.mem_of_getElem? (i := 17) rfl))
theorem dL_law_1410 : decode cL_law 1410 = .ok (.ireturn, 1) := of_decide_eq_true (List.all_eq_true.mp bt_law_15 (1410, (.ireturn, 1)) (List.mem_of_getElem? (i := 18) rfl))
theorem dL_law_1411 : decode cL_law 1411 = .ok (.goto 143, 3) := of_decide_eq_true (List.all_eq_true.mp bt_law_15 (1411, (.goto 143, 3)) (List.mem_of_getElem? (i := 19) rfl))
theorem dL_law_1414 : decode cL_law 1414 = .ok (.aload_n 1, 1) := of_decide_eq_true (List.all_eq_true.mp bt_law_15 (1414, (.aload_n 1, 1)) (List.mem_of_getElem? (i := 20) rfl))
theorem dL_law_1415 : decode cL_law 1415 = .ok (.aload_n 0, 1) := of_decide_eq_true (List.all_eq_true.mp bt_law_15 (1415, (.aload_n 0, 1)) (List.mem_of_getElem? (i := 21) rfl))
theorem dL_law_1416 : decode cL_law 1416 = .ok (.iload 4, 2) := of_decide_eq_true (List.all_eq_true.mp bt_law_15 (1416, (.iload 4, 2)) (List.mem_of_getElem? (i := 22) rfl))
theorem dL_law_1418 : decode cL_law 1418 = .ok (.iconst 1, 1) := of_decide_eq_true (List.all_eq_true.mp bt_law_15 (1418, (.iconst 1, 1)) (List.mem_of_getElem? (i := 23) rfl))
theorem dL_law_1419 : decode cL_law 1419 = .ok (.iadd, 1) := of_decide_eq_true (List.all_eq_true.mp bt_law_15 (1419, (.iadd, 1)) (List.mem_of_getElem? (i := 24) rfl))
theorem dL_law_1420 : decode cL_law 1420 = .ok (.iaload, 1) := of_decide_eq_true (List.all_eq_true.mp bt_law_15 (1420, (.iaload, 1)) (List.mem_of_getElem? (i := 25) rfl))
theorem dL_law_1421 : decode cL_law 1421 = .ok (.aload_n 3, 1) := of_decide_eq_true (List.all_eq_true.mp bt_law_15 (1421, (.aload_n 3, 1)) (List.mem_of_getElem? (i := 26) rfl))
theorem dL_law_1422 : decode cL_law 1422 = .ok (.invokestatic 171, 3) := of_decide_eq_true (List.all_eq_true.mp bt_law_15 (1422, (.invokestatic 171, 3)) (List.mem_of_getElem? (i := 27) rfl))
theorem dL_law_1425 : decode cL_law 1425 = .ok (.istore 5, 2) := of_decide_eq_true (List.all_eq_true.mp bt_law_15 (1425, (.istore 5, 2)) (List.mem_of_getElem? (i := 28) rfl))
theorem dL_law_1427 : decode cL_law 1427 = .ok (.aload_n 2, 1) := of_decide_eq_true (List.all_eq_true.mp bt_law_15 (1427, (.aload_n 2, 1)) (List.mem_of_getElem? (i := 29) rfl))
theorem dL_law_1428 : decode cL_law 1428 = .ok (.aload_n 0, 1) := of_decide_eq_true (List.all_eq_true.mp bt_law_15 (1428, (.aload_n 0, 1)) (List.mem_of_getElem? (i := 30) rfl))
theorem dL_law_1429 : decode cL_law 1429 = .ok (.iload 4, 2) := of_decide_eq_true (List.all_eq_true.mp bt_law_15 (1429, (.iload 4, 2)) (List.mem_of_getElem? (i := 31) rfl))
theorem dL_law_1431 : decode cL_law 1431 = .ok (.iconst 1, 1) := of_decide_eq_true (List.all_eq_true.mp bt_law_15 (1431, (.iconst 1, 1)) (List.mem_of_getElem? (i := 32) rfl))
theorem dL_law_1432 : decode cL_law 1432 = .ok (.iadd, 1) := of_decide_eq_true (List.all_eq_true.mp bt_law_15 (1432, (.iadd, 1)) (List.mem_of_getElem? (i := 33) rfl))
theorem dL_law_1433 : decode cL_law 1433 = .ok (.iaload, 1) := of_decide_eq_true (List.all_eq_true.mp bt_law_15 (1433, (.iaload, 1)) (List.mem_of_getElem? (i := 34) rfl))
theorem dL_law_1434 : decode cL_law 1434 = .ok (.invokevirtual 173, 3) := of_decide_eq_true (List.all_eq_true.mp bt_law_15 (1434, (.invokevirtual 173, 3)) (List.mem_of_getElem? (i := 35) rfl))
theorem dL_law_1437 : decode cL_law 1437 = .ok (.istore 6, 2) := of_decide_eq_true (List.all_eq_true.mp bt_law_15 (1437, (.istore 6, 2)) (List.mem_of_getElem? (i := 36) rfl))
theorem dL_law_1439 : decode cL_law 1439 = .ok (.aload_n 2, 1) := of_decide_eq_true (List.all_eq_true.mp bt_law_15 (1439, (.aload_n 2, 1)) (List.mem_of_getElem? (i := 37) rfl))
theorem dL_law_1440 : decode cL_law 1440 = .ok (.invokevirtual 92, 3) := of_decide_eq_true (List.all_eq_true.mp bt_law_15 (1440, (.invokevirtual 92, 3)) (List.mem_of_getElem? (i := 38) rfl))
theorem dL_law_1443 : decode cL_law 1443 = .ok (.iload 5, 2) := of_decide_eq_true (List.all_eq_true.mp bt_law_15 (1443, (.iload 5, 2)) (List.mem_of_getElem? (i := 39) rfl))
theorem dL_law_1445 : decode cL_law 1445 = .ok (.if_icmp .eq 5, 3) := of_decide_eq_true (List.all_eq_true.mp bt_law_15 (1445, (.if_icmp .eq 5, 3)) (List.mem_of_getElem? (i := 40) rfl))
theorem dL_law_1448 : decode cL_law 1448 = .ok (.iconst 0, 1) := of_decide_eq_true (List.all_eq_true.mp bt_law_15 (1448, (.iconst 0, 1)) (List.mem_of_getElem? (i := 41) rfl))
theorem dL_law_1449 : decode cL_law 1449 = .ok (.ireturn, 1) := of_decide_eq_true (List.all_eq_true.mp bt_law_15 (1449, (.ireturn, 1)) (List.mem_of_getElem? (i := 42) rfl))
theorem dL_law_1450 : decode cL_law 1450 = .ok (.iload 5, 2) := of_decide_eq_true (List.all_eq_true.mp bt_law_15 (1450, (.iload 5, 2)) (List.mem_of_getElem? (i := 43) rfl))
theorem dL_law_1452 : decode cL_law 1452 = .ok (.ifCond .ne 15, 3) := of_decide_eq_true (List.all_eq_true.mp bt_law_15 (1452, (.ifCond .ne 15, 3)) (List.mem_of_getElem? (i := 44) rfl))
theorem dL_law_1455 : decode cL_law 1455 = .ok (.aload_n 3, 1) := of_decide_eq_true (List.all_eq_true.mp bt_law_15 (1455, (.aload_n 3, 1)) (List.mem_of_getElem? (i := 45) rfl))
theorem dL_law_1456 : decode cL_law 1456 = .ok (.iconst 0, 1) := of_decide_eq_true (List.all_eq_true.mp bt_law_15 (1456, (.iconst 0, 1)) (List.mem_of_getElem? (i := 46) rfl))
theorem dL_law_1457 : decode cL_law 1457 = .ok (.laload, 1) := of_decide_eq_true (List.all_eq_true.mp bt_law_15 (1457, (.laload, 1)) (List.mem_of_getElem? (i := 47) rfl))
theorem dL_law_1458 : decode cL_law 1458 = .ok (.iload 6, 2) := of_decide_eq_true (List.all_eq_true.mp bt_law_15 (1458, (.iload 6, 2)) (List.mem_of_getElem? (i := 48) rfl))
theorem dL_law_1460 : decode cL_law 1460 = .ok (.i2l, 1) := of_decide_eq_true (List.all_eq_true.mp bt_law_15 (1460, (.i2l, 1)) (List.mem_of_getElem? (i := 49) rfl))
theorem dL_law_1461 : decode cL_law 1461 = .ok (.lcmp, 1) := of_decide_eq_true (List.all_eq_true.mp bt_law_15 (1461, (.lcmp, 1)) (List.mem_of_getElem? (i := 50) rfl))
theorem dL_law_1462 : decode cL_law 1462 = .ok (.ifCond .eq 5, 3) := of_decide_eq_true (List.all_eq_true.mp bt_law_15 (1462, (.ifCond .eq 5, 3)) (List.mem_of_getElem? (i := 51) rfl))
theorem dL_law_1465 : decode cL_law 1465 = .ok (.iconst 0, 1) := of_decide_eq_true (List.all_eq_true.mp bt_law_15 (1465, (.iconst 0, 1)) (List.mem_of_getElem? (i := 52) rfl))
theorem dL_law_1466 : decode cL_law 1466 = .ok (.ireturn, 1) := of_decide_eq_true (List.all_eq_true.mp bt_law_15 (1466, (.ireturn, 1)) (List.mem_of_getElem? (i := 53) rfl))
theorem dL_law_1467 : decode cL_law 1467 = .ok (.goto 87, 3) := of_decide_eq_true (List.all_eq_true.mp bt_law_15 (1467, (.goto 87, 3)) (List.mem_of_getElem? (i := 54) rfl))
theorem dL_law_1470 : decode cL_law 1470 = .ok (.aload_n 1, 1) := of_decide_eq_true (List.all_eq_true.mp bt_law_15 (1470, (.aload_n 1, 1)) (List.mem_of_getElem? (i := 55) rfl))
theorem dL_law_1471 : decode cL_law 1471 = .ok (.invokevirtual 174, 3) := of_decide_eq_true (List.all_eq_true.mp bt_law_15 (1471, (.invokevirtual 174, 3)) (List.mem_of_getElem? (i := 56) rfl))
theorem dL_law_1474 : decode cL_law 1474 = .ok (.aload_n 2, 1) := of_decide_eq_true (List.all_eq_true.mp bt_law_15 (1474, (.aload_n 2, 1)) (List.mem_of_getElem? (i := 57) rfl))
theorem dL_law_1475 : decode cL_law 1475 = .ok (.invokevirtual 177, 3) := of_decide_eq_true (List.all_eq_true.mp bt_law_15 (1475, (.invokevirtual 177, 3)) (List.mem_of_getElem? (i := 58) rfl))
theorem dL_law_1478 : decode cL_law 1478 = .ok (.if_icmp .eq 76, 3) := of_decide_eq_true (List.all_eq_true.mp bt_law_15 (1478, (.if_icmp .eq 76, 3)) (List.mem_of_getElem? (i := 59) rfl))

set_option maxRecDepth 100000 in
theorem bt_law_16 : ([(1481, (.iconst 0, 1)), (1482, (.ireturn, 1)), (1483, (.aload_n 1, 1)), (1484, (.invokevirtual 178, 3)), (1487, (.aload_n 2, 1)), (1488, (.invokevirtual 181, 3)), (1491, (.if_icmp .eq 63, 3)), (1494, (.iconst 0, 1)), (1495, (.ireturn, 1)), (1496, (.aload_n 1, 1)), (1497, (.aload_n 3, 1)), (1498, (.invokestatic 182, 3)), (1501, (.istore 5, 2)), (1503, (.aload_n 2, 1)), (1504, (.invokevirtual 184, 3)), (1507, (.istore 6, 2)), (1509, (.aload_n 2, 1)), (1510, (.invokevirtual 92, 3)), (1513, (.iload 5, 2)), (1515, (.if_icmp .eq 5, 3)), (1518, (.iconst 0, 1)), (1519, (.ireturn, 1)), (1520, (.iload 5, 2)), (1522, (.ifCond .ne 15, 3)), (1525, (.aload_n 3, 1)), (1526, (.iconst 0, 1)), (1527, (.laload, 1)), (1528, (.iload 6, 2)), (1530, (.i2l, 1)), (1531, (.lcmp, 1)), (1532, (.ifCond .eq 5, 3)), (1535, (.iconst 0, 1)), (1536, (.ireturn, 1)), (1537, (.goto 17, 3)), (1540, (.aload_n 1, 1)), (1541, (.invokevirtual 185, 3)), (1544, (.aload_n 2, 1)), (1545, (.invokevirtual 189, 3)), (1548, (.lcmp, 1)), (1549, (.ifCond .eq 5, 3)), (1552, (.iconst 0, 1)), (1553, (.ireturn, 1)), (1554, (.iinc 4 5, 3)), (1557, (.goto (-1534), 3)), (1560, (.iconst 1, 1)), (1561, (.ireturn, 1))] : List (Nat × (Instr × Nat))).all (fun q => decide (decode cL_law q.1 = .ok q.2)) = true := by decide +kernel
theorem dL_law_1481 : decode cL_law 1481 = .ok (.iconst 0, 1) := of_decide_eq_true (List.all_eq_true.mp bt_law_16 (1481, (.iconst 0, 1)) (List.mem_of_getElem? (i := 0) rfl))
theorem dL_law_1482 : decode cL_law 1482 = .ok (.ireturn, 1) := of_decide_eq_true (List.all_eq_true.mp bt_law_16 (1482, (.ireturn, 1)) (List.mem_of_getElem? (i := 1) rfl))
theorem dL_law_1483 : decode cL_law 1483 = .ok (.aload_n 1, 1) := of_decide_eq_true (List.all_eq_true.mp bt_law_16 (1483, (.aload_n 1, 1)) (List.mem_of_getElem? (i := 2) rfl))
theorem dL_law_1484 : decode cL_law 1484 = .ok (.invokevirtual 178, 3) := of_decide_eq_true (List.all_eq_true.mp bt_law_16 (1484, (.invokevirtual 178, 3)) (List.mem_of_getElem? (i := 3) rfl))
theorem dL_law_1487 : decode cL_law 1487 = .ok (.aload_n 2, 1) := of_decide_eq_true (List.all_eq_true.mp bt_law_16 (1487, (.aload_n 2, 1)) (List.mem_of_getElem? (i := 4) rfl))
theorem dL_law_1488 : decode cL_law 1488 = .ok (.invokevirtual 181, 3) := of_decide_eq_true (List.all_eq_true.mp bt_law_16 (1488, (.invokevirtual 181, 3)) (List.mem_of_getElem? (i := 5) rfl))
theorem dL_law_1491 : decode cL_law 1491 = .ok (.if_icmp .eq 63, 3) := of_decide_eq_true (List.all_eq_true.mp bt_law_16 (1491, (.if_icmp .eq 63, 3)) (List.mem_of_getElem? (i := 6) rfl))
theorem dL_law_1494 : decode cL_law 1494 = .ok (.iconst 0, 1) := of_decide_eq_true (List.all_eq_true.mp bt_law_16 (1494, (.iconst 0, 1)) (List.mem_of_getElem? (i := 7) rfl))
theorem dL_law_1495 : decode cL_law 1495 = .ok (.ireturn, 1) := of_decide_eq_true (List.all_eq_true.mp bt_law_16 (1495, (.ireturn, 1)) (List.mem_of_getElem? (i := 8) rfl))
theorem dL_law_1496 : decode cL_law 1496 = .ok (.aload_n 1, 1) := of_decide_eq_true (List.all_eq_true.mp bt_law_16 (1496, (.aload_n 1, 1)) (List.mem_of_getElem? (i := 9) rfl))
theorem dL_law_1497 : decode cL_law 1497 = .ok (.aload_n 3, 1) := of_decide_eq_true (List.all_eq_true.mp bt_law_16 (1497, (.aload_n 3, 1)) (List.mem_of_getElem? (i := 10) rfl))
theorem dL_law_1498 : decode cL_law 1498 = .ok (.invokestatic 182, 3) := of_decide_eq_true (List.all_eq_true.mp bt_law_16 (1498, (.invokestatic 182, 3)) (List.mem_of_getElem? (i := 11) rfl))
theorem dL_law_1501 : decode cL_law 1501 = .ok (.istore 5, 2) := of_decide_eq_true (List.all_eq_true.mp bt_law_16 (1501, (.istore 5, 2)) (List.mem_of_getElem? (i := 12) rfl))
theorem dL_law_1503 : decode cL_law 1503 = .ok (.aload_n 2, 1) := of_decide_eq_true (List.all_eq_true.mp bt_law_16 (1503, (.aload_n 2, 1)) (List.mem_of_getElem? (i := 13) rfl))
theorem dL_law_1504 : decode cL_law 1504 = .ok (.invokevirtual 184, 3) := of_decide_eq_true (List.all_eq_true.mp bt_law_16 (1504, (.invokevirtual 184, 3)) (List.mem_of_getElem? (i := 14) rfl))
theorem dL_law_1507 : decode cL_law 1507 = .ok (.istore 6, 2) := of_decide_eq_true (List.all_eq_true.mp bt_law_16 (1507, (.istore 6, 2)) (List.mem_of_getElem? (i := 15) rfl))
theorem dL_law_1509 : decode cL_law 1509 = .ok (.aload_n 2, 1) := of_decide_eq_true (List.all_eq_true.mp bt_law_16 (1509, (.aload_n 2, 1)) (List.mem_of_getElem? (i := 16) rfl))
theorem dL_law_1510 : decode cL_law 1510 = .ok (.invokevirtual 92, 3) := of_decide_eq_true (List.all_eq_true.mp bt_law_16 (1510, (.invokevirtual 92, 3)) (List.mem_of_getElem? (i := 17) rfl))
theorem dL_law_1513 : decode cL_law 1513 = .ok (.iload 5, 2) := of_decide_eq_true (List.all_eq_true.mp bt_law_16 (1513, (.iload 5, 2)) (List.mem_of_getElem? (i := 18) rfl))
theorem dL_law_1515 : decode cL_law 1515 = .ok (.if_icmp .eq 5, 3) := of_decide_eq_true (List.all_eq_true.mp bt_law_16 (1515, (.if_icmp .eq 5, 3)) (List.mem_of_getElem? (i := 19) rfl))
theorem dL_law_1518 : decode cL_law 1518 = .ok (.iconst 0, 1) := of_decide_eq_true (List.all_eq_true.mp bt_law_16 (1518, (.iconst 0, 1)) (List.mem_of_getElem? (i := 20) rfl))
theorem dL_law_1519 : decode cL_law 1519 = .ok (.ireturn, 1) := of_decide_eq_true (List.all_eq_true.mp bt_law_16 (1519, (.ireturn, 1)) (List.mem_of_getElem? (i := 21) rfl))
theorem dL_law_1520 : decode cL_law 1520 = .ok (.iload 5, 2) := of_decide_eq_true (List.all_eq_true.mp bt_law_16 (1520, (.iload 5, 2)) (List.mem_of_getElem? (i := 22) rfl))
theorem dL_law_1522 : decode cL_law 1522 = .ok (.ifCond .ne 15, 3) := of_decide_eq_true (List.all_eq_true.mp bt_law_16 (1522, (.ifCond .ne 15, 3)) (List.mem_of_getElem? (i := 23) rfl))
theorem dL_law_1525 : decode cL_law 1525 = .ok (.aload_n 3, 1) := of_decide_eq_true (List.all_eq_true.mp bt_law_16 (1525, (.aload_n 3, 1)) (List.mem_of_getElem? (i := 24) rfl))
theorem dL_law_1526 : decode cL_law 1526 = .ok (.iconst 0, 1) := of_decide_eq_true (List.all_eq_true.mp bt_law_16 (1526, (.iconst 0, 1)) (List.mem_of_getElem? (i := 25) rfl))
theorem dL_law_1527 : decode cL_law 1527 = .ok (.laload, 1) := of_decide_eq_true (List.all_eq_true.mp bt_law_16 (1527, (.laload, 1)) (List.mem_of_getElem? (i := 26) rfl))
theorem dL_law_1528 : decode cL_law 1528 = .ok (.iload 6, 2) := of_decide_eq_true (List.all_eq_true.mp bt_law_16 (1528, (.iload 6, 2)) (List.mem_of_getElem? (i := 27) rfl))
theorem dL_law_1530 : decode cL_law 1530 = .ok (.i2l, 1) := of_decide_eq_true (List.all_eq_true.mp bt_law_16 (1530, (.i2l, 1)) (List.mem_of_getElem? (i := 28) rfl))
theorem dL_law_1531 : decode cL_law 1531 = .ok (.lcmp, 1) := of_decide_eq_true (List.all_eq_true.mp bt_law_16 (1531, (.lcmp, 1)) (List.mem_of_getElem? (i := 29) rfl))
theorem dL_law_1532 : decode cL_law 1532 = .ok (.ifCond .eq 5, 3) := of_decide_eq_true (List.all_eq_true.mp bt_law_16 (1532, (.ifCond .eq 5, 3)) (List.mem_of_getElem? (i := 30) rfl))
theorem dL_law_1535 : decode cL_law 1535 = .ok (.iconst 0, 1) := of_decide_eq_true (List.all_eq_true.mp bt_law_16 (1535, (.iconst 0, 1)) (List.mem_of_getElem? (i := 31) rfl))
theorem dL_law_1536 : decode cL_law 1536 = .ok (.ireturn, 1) := of_decide_eq_true (List.all_eq_true.mp bt_law_16 (1536, (.ireturn, 1)) (List.mem_of_getElem? (i := 32) rfl))
theorem dL_law_1537 : decode cL_law 1537 = .ok (.goto 17, 3) := of_decide_eq_true (List.all_eq_true.mp bt_law_16 (1537, (.goto 17, 3)) (List.mem_of_getElem? (i := 33) rfl))
theorem dL_law_1540 : decode cL_law 1540 = .ok (.aload_n 1, 1) := of_decide_eq_true (List.all_eq_true.mp bt_law_16 (1540, (.aload_n 1, 1)) (List.mem_of_getElem? (i := 34) rfl))
theorem dL_law_1541 : decode cL_law 1541 = .ok (.invokevirtual 185, 3) := of_decide_eq_true (List.all_eq_true.mp bt_law_16 (1541, (.invokevirtual 185, 3)) (List.mem_of_getElem? (i := 35) rfl))
theorem dL_law_1544 : decode cL_law 1544 = .ok (.aload_n 2, 1) := of_decide_eq_true (List.all_eq_true.mp bt_law_16 (1544, (.aload_n 2, 1)) (List.mem_of_getElem? (i := 36) rfl))
theorem dL_law_1545 : decode cL_law 1545 = .ok (.invokevirtual 189, 3) := of_decide_eq_true (List.all_eq_true.mp bt_law_16 (1545, (.invokevirtual 189, 3)) (List.mem_of_getElem? (i := 37) rfl))
theorem dL_law_1548 : decode cL_law 1548 = .ok (.lcmp, 1) := of_decide_eq_true (List.all_eq_true.mp bt_law_16 (1548, (.lcmp, 1)) (List.mem_of_getElem? (i := 38) rfl))
theorem dL_law_1549 : decode cL_law 1549 = .ok (.ifCond .eq 5, 3) := of_decide_eq_true (List.all_eq_true.mp bt_law_16 (1549, (.ifCond .eq 5, 3)) (List.mem_of_getElem? (i := 39) rfl))
theorem dL_law_1552 : decode cL_law 1552 = .ok (.iconst 0, 1) := of_decide_eq_true (List.all_eq_true.mp bt_law_16 (1552, (.iconst 0, 1)) (List.mem_of_getElem? (i := 40) rfl))
theorem dL_law_1553 : decode cL_law 1553 = .ok (.ireturn, 1) := of_decide_eq_true (List.all_eq_true.mp bt_law_16 (1553, (.ireturn, 1)) (List.mem_of_getElem? (i := 41) rfl))
theorem dL_law_1554 : decode cL_law 1554 = .ok (.iinc 4 5, 3) := of_decide_eq_true (List.all_eq_true.mp bt_law_16 (1554, (.iinc 4 5, 3)) (List.mem_of_getElem? (i := 42) rfl))
theorem dL_law_1557 : decode cL_law 1557 = .ok (.goto (-1534), 3) := of_decide_eq_true (List.all_eq_true.mp bt_law_16 (1557, (.goto (-1534), 3)) (List.mem_of_getElem? (i := 43) rfl))
theorem dL_law_1560 : decode cL_law 1560 = .ok (.iconst 1, 1) := of_decide_eq_true (List.all_eq_true.mp bt_law_16 (1560, (.iconst 1, 1)) (List.mem_of_getElem? (i := 44) rfl))
theorem dL_law_1561 : decode cL_law 1561 = .ok (.ireturn, 1) := of_decide_eq_true (List.all_eq_true.mp bt_law_16 (1561, (.ireturn, 1)) (List.mem_of_getElem? (i := 45) rfl))