set_option maxRecDepth 20000 in
theorem ggX4_init_X2_init : GoodIn wsX4_init wsX2_init := goodIn_r _ [18, 19, 2, 3, 20, 21, 22, 23, 24, 25, 26, 27, 28, 29, 30, 31, 32, 33, 34, 35, 36, 37, 38, 39, 40, 41, 6, 42, 43, 44, 45, 46, 47, 48, 49, 50, 51, 52, 53, 54, 55, 56, 57, 58, 97, 98, 99, 100, 74, 75, 76, 77, 78, 79, 80, 81, 82] (by decide +kernel) (by decide +kernel)
set_option maxRecDepth 20000 in
theorem gX4_init_X2_init : GoodIn wsX4_init (wsX2_init) := ggX4_init_X2_init
set_option maxRecDepth 20000 in
theorem ggX4_init_X0_init : GoodIn wsX4_init wsX0_init := goodIn_r _ [61, 62, 2, 3, 63, 64, 5, 6, 65, 17, 18, 19, 20, 21, 22, 23, 24, 25, 26, 27, 28, 29, 30, 31, 32, 33, 34, 35, 36, 37, 38, 39, 40, 41, 42, 43, 44, 45, 46, 47, 48, 49, 50, 51, 52, 53, 54, 55, 56, 57, 58, 86, 87, 74, 75, 76, 77, 78, 79, 80, 81, 82, 97, 98, 99, 100] (by decide +kernel) (by decide +kernel)
set_option maxRecDepth 20000 in
theorem gX4_init_X0_init : GoodIn wsX4_init (wsX0_init) := ggX4_init_X0_init
set_option maxRecDepth 20000 in
theorem ggX4_init_X1_init : GoodIn wsX4_init wsX1_init := goodIn_r _ [68, 69, 2, 3, 25, 70, 71, 72, 73, 88, 89, 90, 91, 92, 93, 94, 95, 96] (by decide +kernel) (by decide +kernel)
set_option maxRecDepth 20000 in
theorem gX4_init_X1_init : GoodIn wsX4_init (wsX1_init) := ggX4_init_X1_init
theorem dX4_init_0 : decode cX4_init 0 = .ok (.aload_n 0, 1) := by decide +kernel
theorem dX4_init_1 : decode cX4_init 1 = .ok (.invokespecial 3, 3) := by decide +kernel
theorem dX4_init_4 : decode cX4_init 4 = .ok (.aload_n 0, 1) := by decide +kernel
theorem dX4_init_5 : decode cX4_init 5 = .ok (.new 9, 3) := by decide +kernel
theorem dX4_init_8 : decode cX4_init 8 = .ok (.dup, 1) := by decide +kernel
theorem dX4_init_9 : decode cX4_init 9 = .ok (.invokespecial 11, 3) := by decide +kernel
theorem dX4_init_12 : decode cX4_init 12 = .ok (.putfield 12, 3) := by decide +kernel
theorem dX4_init_15 : decode cX4_init 15 = .ok (.aload_n 0, 1) := by decide +kernel
theorem dX4_init_16 : decode cX4_init 16 = .ok (.new 16, 3) := by decide +kernel
theorem dX4_init_19 : decode cX4_init 19 = .ok (.dup, 1) := by decide +kernel
theorem dX4_init_20 : decode cX4_init 20 = .ok (.invokespecial 18, 3) := by decide +kernel
theorem dX4_init_23 : decode cX4_init 23 = .ok (.putfield 19, 3) := by decide +kernel
theorem dX4_init_26 : decode cX4_init 26 = .ok (.aload_n 0, 1) := by decide +kernel
theorem dX4_init_27 : decode cX4_init 27 = .ok (.new 23, 3) := by decide +kernel
theorem dX4_init_30 : decode cX4_init 30 = .ok (.dup, 1) := by decide +kernel
theorem dX4_init_31 : decode cX4_init 31 = .ok (.invokespecial 25, 3) := by decide +kernel
theorem dX4_init_34 : decode cX4_init 34 = .ok (.putfield 26, 3) := by decide +kernel
theorem dX4_init_37 : decode cX4_init 37 = .ok (.return_, 1) := by decide +kernel
set_option maxRecDepth 20000 in
theorem ggX4_begin_X0_save : GoodIn wsX4_begin wsX0_save := goodIn_r _ [9, 10, 11, 12, 13, 14, 8, 15, 16, 17, 18, 19, 20, 21, 22, 23, 24, 25, 26, 27, 28, 29, 30, 31, 32, 33, 34, 35, 36, 37, 38, 39, 40, 41, 42, 43, 44, 45, 46, 47, 48, 49, 50, 51, 52, 83, 84, 70, 71, 72, 73, 74, 75, 76, 77, 78, 79, 80, 81, 82] (by decide +kernel) (by decide +kernel)
set_option maxRecDepth 20000 in
theorem gX4_begin_X0_save : GoodIn wsX4_begin (wsV RX4 37 RX0 yX0_save wsX0_save) := goodIn_app (goodIn_of _ (by decide +kernel)) ggX4_begin_X0_save
set_option maxRecDepth 20000 in
theorem ggX4_begin_X2_start : GoodIn wsX4_begin wsX2_start := goodIn_r _ [56, 28, 29, 26, 57, 58, 59, 23, 60, 30, 31, 32, 61, 62, 63, 64, 25, 27, 65, 43, 66, 70, 71, 72, 73, 74, 75, 76, 77, 78, 79, 80, 81, 82] (by decide +kernel) (by decide +kernel)
set_option maxRecDepth 20000 in
theorem gX4_begin_X2_start : GoodIn wsX4_begin (wsV RX4 51 RX2 yX2_start wsX2_start) := goodIn_app (goodIn_of _ (by decide +kernel)) ggX4_begin_X2_start
theorem dX4_begin_0 : decode cX4_begin 0 = .ok (.iload_n 1, 1) := by decide +kernel
theorem dX4_begin_1 : decode cX4_begin 1 = .ok (.iconst 2, 1) := by decide +kernel
theorem dX4_begin_2 : decode cX4_begin 2 = .ok (.if_icmp .lt 9, 3) := by decide +kernel
theorem dX4_begin_5 : decode cX4_begin 5 = .ok (.iload_n 1, 1) := by decide +kernel
theorem dX4_begin_6 : decode cX4_begin 6 = .ok (.bipush 16, 2) := by decide +kernel
theorem dX4_begin_8 : decode cX4_begin 8 = .ok (.if_icmp .le 13, 3) := by decide +kernel
theorem dX4_begin_11 : decode cX4_begin 11 = .ok (.new 30, 3) := by decide +kernel
theorem dX4_begin_14 : decode cX4_begin 14 = .ok (.dup, 1) := by decide +kernel
theorem dX4_begin_15 : decode cX4_begin 15 = .ok (.ldc 32, 2) := by decide +kernel
theorem dX4_begin_17 : decode cX4_begin 17 = .ok (.invokespecial 34, 3) := by decide +kernel
theorem dX4_begin_20 : decode cX4_begin 20 = .ok (.athrow, 1) := by decide +kernel
theorem dX4_begin_21 : decode cX4_begin 21 = .ok (.aload_n 0, 1) := by decide +kernel
theorem dX4_begin_22 : decode cX4_begin 22 = .ok (.getfield 19, 3) := by decide +kernel
theorem dX4_begin_25 : decode cX4_begin 25 = .ok (.aload_n 0, 1) := by decide +kernel
theorem dX4_begin_26 : decode cX4_begin 26 = .ok (.getfield 12, 3) := by decide +kernel
theorem dX4_begin_29 : decode cX4_begin 29 = .ok (.invokevirtual 37, 3) := by decide +kernel
theorem dX4_begin_32 : decode cX4_begin 32 = .ok (.aload_n 0, 1) := by decide +kernel
theorem dX4_begin_33 : decode cX4_begin 33 = .ok (.getfield 12, 3) := by decide +kernel
theorem dX4_begin_36 : decode cX4_begin 36 = .ok (.getfield 41, 3) := by decide +kernel
theorem dX4_begin_39 : decode cX4_begin 39 = .ok (.getfield 45, 3) := by decide +kernel
theorem dX4_begin_42 : decode cX4_begin 42 = .ok (.istore_n 2, 1) := by decide +kernel
theorem dX4_begin_43 : decode cX4_begin 43 = .ok (.aload_n 0, 1) := by decide +kernel
theorem dX4_begin_44 : decode cX4_begin 44 = .ok (.getfield 12, 3) := by decide +kernel
theorem dX4_begin_47 : decode cX4_begin 47 = .ok (.iload_n 1, 1) := by decide +kernel
theorem dX4_begin_48 : decode cX4_begin 48 = .ok (.invokevirtual 51, 3) := by decide +kernel
theorem dX4_begin_51 : decode cX4_begin 51 = .ok (.iload_n 2, 1) := by decide +kernel
theorem dX4_begin_52 : decode cX4_begin 52 = .ok (.ireturn, 1) := by decide +kernel
set_option maxRecDepth 20000 in
theorem ggX4_setLimit_X0_save : GoodIn wsX4_setLimit wsX0_save := goodIn_r _ [9, 10, 11, 12, 13, 14, 8, 15, 16, 17, 18, 19, 20, 21, 22, 23, 24, 25, 26, 27, 28, 29, 30, 31, 32, 33, 34, 35, 36, 37, 38, 39, 40, 41, 42, 43, 44, 45, 46, 47, 48, 49, 50, 51, 52, 79, 80, 70, 71, 72, 73, 74, 75, 76, 77, 78, 81, 82, 83, 84] (by decide +kernel) (by decide +kernel)
set_option maxRecDepth 20000 in
theorem gX4_setLimit_X0_save : GoodIn wsX4_setLimit (wsV RX4 37 RX0 yX0_save wsX0_save) := goodIn_app (goodIn_of _ (by decide +kernel)) ggX4_setLimit_X0_save
set_option maxRecDepth 20000 in
theorem ggX4_setLimit_X2_countLeft : GoodIn wsX4_setLimit wsX2_countLeft := goodIn_r _ [56, 57, 58, 59, 23, 60, 28, 61, 62, 63, 64, 27, 29, 65, 43, 66, 70, 71, 72, 73, 74, 75, 76, 77, 78] (by decide +kernel) (by decide +kernel)
set_option maxRecDepth 20000 in
theorem gX4_setLimit_X2_countLeft : GoodIn wsX4_setLimit (wsV RX4 60 RX2 yX2_countLeft wsX2_countLeft) := goodIn_app (goodIn_of _ (by decide +kernel)) ggX4_setLimit_X2_countLeft
theorem dX4_setLimit_0 : decode cX4_setLimit 0 = .ok (.iload_n 1, 1) := by decide +kernel
theorem dX4_setLimit_1 : decode cX4_setLimit 1 = .ok (.ifCond .lt 8, 3) := by decide +kernel
theorem dX4_setLimit_4 : decode cX4_setLimit 4 = .ok (.iload_n 1, 1) := by decide +kernel
theorem dX4_setLimit_5 : decode cX4_setLimit 5 = .ok (.iconst 2, 1) := by decide +kernel
theorem dX4_setLimit_6 : decode cX4_setLimit 6 = .ok (.if_icmp .le 13, 3) := by decide +kernel
theorem dX4_setLimit_9 : decode cX4_setLimit 9 = .ok (.new 30, 3) := by decide +kernel
theorem dX4_setLimit_12 : decode cX4_setLimit 12 = .ok (.dup, 1) := by decide +kernel
theorem dX4_setLimit_13 : decode cX4_setLimit 13 = .ok (.ldc 55, 2) := by decide +kernel
theorem dX4_setLimit_15 : decode cX4_setLimit 15 = .ok (.invokespecial 34, 3) := by decide +kernel
theorem dX4_setLimit_18 : decode cX4_setLimit 18 = .ok (.athrow, 1) := by decide +kernel
theorem dX4_setLimit_19 : decode cX4_setLimit 19 = .ok (.aload_n 0, 1) := by decide +kernel
theorem dX4_setLimit_20 : decode cX4_setLimit 20 = .ok (.getfield 19, 3) := by decide +kernel
theorem dX4_setLimit_23 : decode cX4_setLimit 23 = .ok (.aload_n 0, 1) := by decide +kernel
theorem dX4_setLimit_24 : decode cX4_setLimit 24 = .ok (.getfield 12, 3) := by decide +kernel
theorem dX4_setLimit_27 : decode cX4_setLimit 27 = .ok (.invokevirtual 37, 3) := by decide +kernel
theorem dX4_setLimit_30 : decode cX4_setLimit 30 = .ok (.aload_n 0, 1) := by decide +kernel
theorem dX4_setLimit_31 : decode cX4_setLimit 31 = .ok (.getfield 12, 3) := by decide +kernel
theorem dX4_setLimit_34 : decode cX4_setLimit 34 = .ok (.iload_n 1, 1) := by decide +kernel
theorem dX4_setLimit_35 : decode cX4_setLimit 35 = .ok (.putfield 57, 3) := by decide +kernel
theorem dX4_setLimit_38 : decode cX4_setLimit 38 = .ok (.aload_n 0, 1) := by decide +kernel
theorem dX4_setLimit_39 : decode cX4_setLimit 39 = .ok (.getfield 12, 3) := by decide +kernel
theorem dX4_setLimit_42 : decode cX4_setLimit 42 = .ok (.invokevirtual 60, 3) := by decide +kernel
theorem dX4_setLimit_45 : decode cX4_setLimit 45 = .ok (.ireturn, 1) := by decide +kernel
set_option maxRecDepth 20000 in
theorem ggX4_tell_X2_isWeighing : GoodIn wsX4_tell wsX2_isWeighing := goodIn_r _ [11, 12, 13, 14, 15, 16, 17, 18, 19, 109, 110, 111, 112, 113, 114, 115, 116, 117] (by decide +kernel) (by decide +kernel)
set_option maxRecDepth 20000 in
theorem gX4_tell_X2_isWeighing : GoodIn wsX4_tell (wsV RX4 64 RX2 yX2_isWeighing wsX2_isWeighing) := goodIn_app (goodIn_of _ (by decide +kernel)) ggX4_tell_X2_isWeighing
set_option maxRecDepth 20000 in
theorem ggX4_tell_X4_isAnswer : GoodIn wsX4_tell wsX4_isAnswer := goodIn_r _ [23] (by decide +kernel) (by decide +kernel)
set_option maxRecDepth 20000 in
theorem gX4_tell_X4_isAnswer : GoodIn wsX4_tell (va_wsS RX4 68 yX4_isAnswer wsX4_isAnswer) := goodIn_app (goodIn_of _ (by decide +kernel)) ggX4_tell_X4_isAnswer
set_option maxRecDepth 20000 in
theorem ggX4_tell_X2_canLearn : GoodIn wsX4_tell wsX2_canLearn := goodIn_r _ [27, 28, 109, 110, 111, 112, 113, 114, 115, 116, 117, 118, 119, 120, 121] (by decide +kernel) (by decide +kernel)
set_option maxRecDepth 20000 in
theorem gX4_tell_X2_canLearn : GoodIn wsX4_tell (wsV RX4 74 RX2 yX2_canLearn wsX2_canLearn) := goodIn_app (goodIn_of _ (by decide +kernel)) ggX4_tell_X2_canLearn
set_option maxRecDepth 20000 in
theorem ggX4_tell_X0_save : GoodIn wsX4_tell wsX0_save := goodIn_r _ [33, 34, 35, 36, 37, 38, 32, 39, 40, 41, 42, 43, 44, 45, 46, 10, 47, 28, 48, 49, 12, 50, 51, 52, 53, 54, 55, 56, 57, 58, 59, 60, 61, 62, 63, 22, 64, 65, 66, 67, 68, 69, 70, 71, 72, 122, 123, 109, 110, 111, 112, 113, 114, 115, 116, 117, 118, 119, 120, 121] (by decide +kernel) (by decide +kernel)
set_option maxRecDepth 20000 in
theorem gX4_tell_X0_save : GoodIn wsX4_tell (wsV RX4 37 RX0 yX0_save wsX0_save) := goodIn_app (goodIn_of _ (by decide +kernel)) ggX4_tell_X0_save
set_option maxRecDepth 20000 in
theorem ggX4_tell_X2_learn : GoodIn wsX4_tell wsX2_learn := goodIn_r _ [76, 28, 49, 77, 78, 79, 57, 80, 62, 59, 60, 61, 81, 22, 82, 83, 84, 85, 10, 86, 12, 87, 88, 89, 90, 91, 92, 93, 94, 95, 96, 97, 109, 110, 111, 112, 113, 114, 115, 116, 117, 118, 119, 120, 121] (by decide +kernel) (by decide +kernel)
set_option maxRecDepth 20000 in
theorem gX4_tell_X2_learn : GoodIn wsX4_tell (wsV RX4 83 RX2 yX2_learn wsX2_learn) := goodIn_app (goodIn_of _ (by decide +kernel)) ggX4_tell_X2_learn
set_option maxRecDepth 20000 in
theorem ggX4_tell_X2_countLeft : GoodIn wsX4_tell wsX2_countLeft := goodIn_r _ [101, 83, 84, 85, 10, 86, 12, 102, 103, 104, 105, 49, 50, 91, 22, 92, 109, 110, 111, 112, 113, 114, 115, 116, 117] (by decide +kernel) (by decide +kernel)
set_option maxRecDepth 20000 in
theorem gX4_tell_X2_countLeft : GoodIn wsX4_tell (wsV RX4 60 RX2 yX2_countLeft wsX2_countLeft) := goodIn_app (goodIn_of _ (by decide +kernel)) ggX4_tell_X2_countLeft
theorem dX4_tell_0 : decode cX4_tell 0 = .ok (.aload_n 0, 1) := by decide +kernel
theorem dX4_tell_1 : decode cX4_tell 1 = .ok (.getfield 12, 3) := by decide +kernel
theorem dX4_tell_4 : decode cX4_tell 4 = .ok (.iload_n 1, 1) := by decide +kernel
theorem dX4_tell_5 : decode cX4_tell 5 = .ok (.iload_n 2, 1) := by decide +kernel
theorem dX4_tell_6 : decode cX4_tell 6 = .ok (.invokevirtual 64, 3) := by decide +kernel
theorem dX4_tell_9 : decode cX4_tell 9 = .ok (.ifCond .eq 10, 3) := by decide +kernel
theorem dX4_tell_12 : decode cX4_tell 12 = .ok (.iload_n 3, 1) := by decide +kernel
theorem dX4_tell_13 : decode cX4_tell 13 = .ok (.invokestatic 68, 3) := by decide +kernel
theorem dX4_tell_16 : decode cX4_tell 16 = .ok (.ifCond .ne 13, 3) := by decide +kernel
theorem dX4_tell_19 : decode cX4_tell 19 = .ok (.new 30, 3) := by decide +kernel
theorem dX4_tell_22 : decode cX4_tell 22 = .ok (.dup, 1) := by decide +kernel
theorem dX4_tell_23 : decode cX4_tell 23 = .ok (.ldc 72, 2) := by decide +kernel
theorem dX4_tell_25 : decode cX4_tell 25 = .ok (.invokespecial 34, 3) := by decide +kernel
theorem dX4_tell_28 : decode cX4_tell 28 = .ok (.athrow, 1) := by decide +kernel
theorem dX4_tell_29 : decode cX4_tell 29 = .ok (.aload_n 0, 1) := by decide +kernel
theorem dX4_tell_30 : decode cX4_tell 30 = .ok (.getfield 12, 3) := by decide +kernel
theorem dX4_tell_33 : decode cX4_tell 33 = .ok (.invokevirtual 74, 3) := by decide +kernel
theorem dX4_tell_36 : decode cX4_tell 36 = .ok (.ifCond .ne 13, 3) := by decide +kernel
theorem dX4_tell_39 : decode cX4_tell 39 = .ok (.new 78, 3) := by decide +kernel
theorem dX4_tell_42 : decode cX4_tell 42 = .ok (.dup, 1) := by decide +kernel
theorem dX4_tell_43 : decode cX4_tell 43 = .ok (.ldc 80, 2) := by decide +kernel
theorem dX4_tell_45 : decode cX4_tell 45 = .ok (.invokespecial 82, 3) := by decide +kernel
theorem dX4_tell_48 : decode cX4_tell 48 = .ok (.athrow, 1) := by decide +kernel
theorem dX4_tell_49 : decode cX4_tell 49 = .ok (.aload_n 0, 1) := by decide +kernel
theorem dX4_tell_50 : decode cX4_tell 50 = .ok (.getfield 19, 3) := by decide +kernel
theorem dX4_tell_53 : decode cX4_tell 53 = .ok (.aload_n 0, 1) := by decide +kernel
theorem dX4_tell_54 : decode cX4_tell 54 = .ok (.getfield 12, 3) := by decide +kernel
theorem dX4_tell_57 : decode cX4_tell 57 = .ok (.invokevirtual 37, 3) := by decide +kernel
theorem dX4_tell_60 : decode cX4_tell 60 = .ok (.aload_n 0, 1) := by decide +kernel
theorem dX4_tell_61 : decode cX4_tell 61 = .ok (.getfield 12, 3) := by decide +kernel
theorem dX4_tell_64 : decode cX4_tell 64 = .ok (.iload_n 1, 1) := by decide +kernel
theorem dX4_tell_65 : decode cX4_tell 65 = .ok (.iload_n 2, 1) := by decide +kernel
theorem dX4_tell_66 : decode cX4_tell 66 = .ok (.iload_n 3, 1) := by decide +kernel
theorem dX4_tell_67 : decode cX4_tell 67 = .ok (.invokevirtual 83, 3) := by decide +kernel
theorem dX4_tell_70 : decode cX4_tell 70 = .ok (.aload_n 0, 1) := by decide +kernel
theorem dX4_tell_71 : decode cX4_tell 71 = .ok (.getfield 12, 3) := by decide +kernel
theorem dX4_tell_74 : decode cX4_tell 74 = .ok (.invokevirtual 60, 3) := by decide +kernel
theorem dX4_tell_77 : decode cX4_tell 77 = .ok (.ireturn, 1) := by decide +kernel
set_option maxRecDepth 20000 in
theorem ggX4_forget_X0_save : GoodIn wsX4_forget wsX0_save := goodIn_r _ [7, 8, 9, 10, 11, 12, 6, 13, 14, 15, 16, 17, 18, 19, 20, 21, 22, 23, 24, 25, 26, 27, 28, 29, 30, 31, 32, 33, 34, 35, 36, 37, 38, 39, 40, 41, 42, 43, 44, 45, 46, 47, 48, 49, 50, 73, 74, 60, 61, 62, 63, 64, 65, 66, 67, 68, 69, 70, 71, 72] (by decide +kernel) (by decide +kernel)
set_option maxRecDepth 20000 in
theorem gX4_forget_X0_save : GoodIn wsX4_forget (wsV RX4 37 RX0 yX0_save wsX0_save) := goodIn_app (goodIn_of _ (by decide +kernel)) ggX4_forget_X0_save
set_option maxRecDepth 20000 in
theorem ggX4_forget_X2_forgetTold : GoodIn wsX4_forget wsX2_forgetTold := goodIn_r _ [54, 23, 25, 55, 41, 56, 60, 61, 62, 63, 64, 65, 66, 67, 68, 69, 70, 71, 72] (by decide +kernel) (by decide +kernel)
set_option maxRecDepth 20000 in
theorem gX4_forget_X2_forgetTold : GoodIn wsX4_forget (wsV RX4 87 RX2 yX2_forgetTold wsX2_forgetTold) := goodIn_app (goodIn_of _ (by decide +kernel)) ggX4_forget_X2_forgetTold
theorem dX4_forget_0 : decode cX4_forget 0 = .ok (.aload_n 0, 1) := by decide +kernel
theorem dX4_forget_1 : decode cX4_forget 1 = .ok (.getfield 19, 3) := by decide +kernel
theorem dX4_forget_4 : decode cX4_forget 4 = .ok (.aload_n 0, 1) := by decide +kernel
theorem dX4_forget_5 : decode cX4_forget 5 = .ok (.getfield 12, 3) := by decide +kernel
theorem dX4_forget_8 : decode cX4_forget 8 = .ok (.invokevirtual 37, 3) := by decide +kernel
theorem dX4_forget_11 : decode cX4_forget 11 = .ok (.aload_n 0, 1) := by decide +kernel
theorem dX4_forget_12 : decode cX4_forget 12 = .ok (.getfield 12, 3) := by decide +kernel
theorem dX4_forget_15 : decode cX4_forget 15 = .ok (.getfield 41, 3) := by decide +kernel
theorem dX4_forget_18 : decode cX4_forget 18 = .ok (.getfield 45, 3) := by decide +kernel
theorem dX4_forget_21 : decode cX4_forget 21 = .ok (.istore_n 1, 1) := by decide +kernel
theorem dX4_forget_22 : decode cX4_forget 22 = .ok (.aload_n 0, 1) := by decide +kernel
theorem dX4_forget_23 : decode cX4_forget 23 = .ok (.getfield 12, 3) := by decide +kernel
theorem dX4_forget_26 : decode cX4_forget 26 = .ok (.invokevirtual 87, 3) := by decide +kernel
theorem dX4_forget_29 : decode cX4_forget 29 = .ok (.iload_n 1, 1) := by decide +kernel
theorem dX4_forget_30 : decode cX4_forget 30 = .ok (.ireturn, 1) := by decide +kernel
set_option maxRecDepth 20000 in
theorem ggX4_hide_X2_isCase : GoodIn wsX4_hide wsX2_isCase := goodIn_r _ [12, 13, 14, 15, 11, 16, 17, 71, 72, 73, 74, 75, 76, 77, 78, 79] (by decide +kernel) (by decide +kernel)
set_option maxRecDepth 20000 in
theorem gX4_hide_X2_isCase : GoodIn wsX4_hide (wsV RX4 90 RX2 yX2_isCase wsX2_isCase) := goodIn_app (goodIn_of _ (by decide +kernel)) ggX4_hide_X2_isCase
set_option maxRecDepth 20000 in
theorem ggX4_hide_X0_save : GoodIn wsX4_hide wsX0_save := goodIn_r _ [22, 23, 24, 25, 26, 27, 21, 28, 29, 30, 31, 32, 33, 34, 35, 11, 36, 37, 38, 39, 17, 40, 41, 42, 43, 44, 45, 46, 47, 48, 49, 50, 51, 52, 53, 54, 55, 56, 57, 58, 59, 60, 61, 62, 63, 80, 81, 71, 72, 73, 74, 75, 76, 77, 78, 79, 82, 83, 84, 85] (by decide +kernel) (by decide +kernel)
set_option maxRecDepth 20000 in
theorem gX4_hide_X0_save : GoodIn wsX4_hide (wsV RX4 37 RX0 yX0_save wsX0_save) := goodIn_app (goodIn_of _ (by decide +kernel)) ggX4_hide_X0_save
set_option maxRecDepth 20000 in
theorem ggX4_hide_X2_hideCase : GoodIn wsX4_hide wsX2_hideCase := goodIn_r _ [67, 41, 42, 43, 71, 72, 73, 74, 75, 76, 77, 78, 79] (by decide +kernel) (by decide +kernel)
set_option maxRecDepth 20000 in
theorem gX4_hide_X2_hideCase : GoodIn wsX4_hide (wsV RX4 102 RX2 yX2_hideCase wsX2_hideCase) := goodIn_app (goodIn_of _ (by decide +kernel)) ggX4_hide_X2_hideCase
theorem dX4_hide_0 : decode cX4_hide 0 = .ok (.aload_n 0, 1) := by decide +kernel
theorem dX4_hide_1 : decode cX4_hide 1 = .ok (.getfield 12, 3) := by decide +kernel
theorem dX4_hide_4 : decode cX4_hide 4 = .ok (.iload_n 1, 1) := by decide +kernel
theorem dX4_hide_5 : decode cX4_hide 5 = .ok (.invokevirtual 90, 3) := by decide +kernel
theorem dX4_hide_8 : decode cX4_hide 8 = .ok (.ifCond .ne 13, 3) := by decide +kernel
theorem dX4_hide_11 : decode cX4_hide 11 = .ok (.new 93, 3) := by decide +kernel
theorem dX4_hide_14 : decode cX4_hide 14 = .ok (.dup, 1) := by decide +kernel
theorem dX4_hide_15 : decode cX4_hide 15 = .ok (.ldc 95, 2) := by decide +kernel
theorem dX4_hide_17 : decode cX4_hide 17 = .ok (.invokespecial 97, 3) := by decide +kernel
theorem dX4_hide_20 : decode cX4_hide 20 = .ok (.athrow, 1) := by decide +kernel
theorem dX4_hide_21 : decode cX4_hide 21 = .ok (.iload_n 2, 1) := by decide +kernel
theorem dX4_hide_22 : decode cX4_hide 22 = .ok (.ifCond .lt 9, 3) := by decide +kernel
theorem dX4_hide_25 : decode cX4_hide 25 = .ok (.iload_n 2, 1) := by decide +kernel
theorem dX4_hide_26 : decode cX4_hide 26 = .ok (.ldc 98, 2) := by decide +kernel
theorem dX4_hide_28 : decode cX4_hide 28 = .ok (.if_icmp .le 13, 3) := by decide +kernel
theorem dX4_hide_31 : decode cX4_hide 31 = .ok (.new 30, 3) := by decide +kernel
theorem dX4_hide_34 : decode cX4_hide 34 = .ok (.dup, 1) := by decide +kernel
theorem dX4_hide_35 : decode cX4_hide 35 = .ok (.ldc 55, 2) := by decide +kernel
theorem dX4_hide_37 : decode cX4_hide 37 = .ok (.invokespecial 34, 3) := by decide +kernel
theorem dX4_hide_40 : decode cX4_hide 40 = .ok (.athrow, 1) := by decide +kernel
theorem dX4_hide_41 : decode cX4_hide 41 = .ok (.aload_n 0, 1) := by decide +kernel
theorem dX4_hide_42 : decode cX4_hide 42 = .ok (.getfield 19, 3) := by decide +kernel
theorem dX4_hide_45 : decode cX4_hide 45 = .ok (.aload_n 0, 1) := by decide +kernel
theorem dX4_hide_46 : decode cX4_hide 46 = .ok (.getfield 12, 3) := by decide +kernel
theorem dX4_hide_49 : decode cX4_hide 49 = .ok (.invokevirtual 37, 3) := by decide +kernel
theorem dX4_hide_52 : decode cX4_hide 52 = .ok (.aload_n 0, 1) := by decide +kernel
theorem dX4_hide_53 : decode cX4_hide 53 = .ok (.getfield 12, 3) := by decide +kernel
theorem dX4_hide_56 : decode cX4_hide 56 = .ok (.getfield 99, 3) := by decide +kernel
theorem dX4_hide_59 : decode cX4_hide 59 = .ok (.istore_n 3, 1) := by decide +kernel
theorem dX4_hide_60 : decode cX4_hide 60 = .ok (.aload_n 0, 1) := by decide +kernel
theorem dX4_hide_61 : decode cX4_hide 61 = .ok (.getfield 12, 3) := by decide +kernel
theorem dX4_hide_64 : decode cX4_hide 64 = .ok (.iload_n 1, 1) := by decide +kernel
theorem dX4_hide_65 : decode cX4_hide 65 = .ok (.iload_n 2, 1) := by decide +kernel
theorem dX4_hide_66 : decode cX4_hide 66 = .ok (.invokevirtual 102, 3) := by decide +kernel
theorem dX4_hide_69 : decode cX4_hide 69 = .ok (.iload_n 3, 1) := by decide +kernel
theorem dX4_hide_70 : decode cX4_hide 70 = .ok (.ireturn, 1) := by decide +kernel
set_option maxRecDepth 20000 in
theorem ggX4_ask_X2_isWeighing : GoodIn wsX4_ask wsX2_isWeighing := goodIn_r _ [11, 12, 13, 14, 15, 16, 17, 18, 19, 106, 107, 108, 109, 110, 111, 112, 113, 114] (by decide +kernel) (by decide +kernel)
set_option maxRecDepth 20000 in
theorem gX4_ask_X2_isWeighing : GoodIn wsX4_ask (wsV RX4 64 RX2 yX2_isWeighing wsX2_isWeighing) := goodIn_app (goodIn_of _ (by decide +kernel)) ggX4_ask_X2_isWeighing
set_option maxRecDepth 20000 in
theorem ggX4_ask_X2_canReply : GoodIn wsX4_ask wsX2_canReply := goodIn_r _ [23, 24, 25, 26, 27, 28, 10, 29, 30, 106, 107, 108, 109, 110, 111, 112, 113, 114, 115, 116, 117, 118] (by decide +kernel) (by decide +kernel)
set_option maxRecDepth 20000 in
theorem gX4_ask_X2_canReply : GoodIn wsX4_ask (wsV RX4 108 RX2 yX2_canReply wsX2_canReply) := goodIn_app (goodIn_of _ (by decide +kernel)) ggX4_ask_X2_canReply
set_option maxRecDepth 20000 in
theorem ggX4_ask_X0_save : GoodIn wsX4_ask wsX0_save := goodIn_r _ [35, 36, 37, 38, 39, 40, 34, 41, 42, 43, 44, 45, 46, 47, 48, 10, 49, 30, 50, 51, 12, 52, 24, 53, 25, 54, 55, 56, 57, 58, 59, 60, 61, 62, 63, 64, 65, 66, 67, 68, 69, 70, 71, 72, 73, 119, 120, 106, 107, 108, 109, 110, 111, 112, 113, 114, 115, 116, 117, 118] (by decide +kernel) (by decide +kernel)
set_option maxRecDepth 20000 in
theorem gX4_ask_X0_save : GoodIn wsX4_ask (wsV RX4 37 RX0 yX0_save wsX0_save) := goodIn_app (goodIn_of _ (by decide +kernel)) ggX4_ask_X0_save
set_option maxRecDepth 20000 in
theorem ggX4_ask_X2_reply : GoodIn wsX4_ask wsX2_reply := goodIn_r _ [77, 24, 53, 25, 78, 64, 79, 80, 81, 82, 83, 84, 85, 10, 86, 30, 51, 87, 88, 89, 57, 90, 62, 59, 60, 61, 91, 92, 93, 94, 95, 96, 12, 97, 98, 99, 100, 101, 102, 106, 107, 108, 109, 110, 111, 112, 113, 114, 115, 116, 117, 118] (by decide +kernel) (by decide +kernel)
set_option maxRecDepth 20000 in
theorem gX4_ask_X2_reply : GoodIn wsX4_ask (wsV RX4 113 RX2 yX2_reply wsX2_reply) := goodIn_app (goodIn_of _ (by decide +kernel)) ggX4_ask_X2_reply
theorem dX4_ask_0 : decode cX4_ask 0 = .ok (.aload_n 0, 1) := by decide +kernel
theorem dX4_ask_1 : decode cX4_ask 1 = .ok (.getfield 12, 3) := by decide +kernel
theorem dX4_ask_4 : decode cX4_ask 4 = .ok (.iload_n 1, 1) := by decide +kernel
theorem dX4_ask_5 : decode cX4_ask 5 = .ok (.iload_n 2, 1) := by decide +kernel
theorem dX4_ask_6 : decode cX4_ask 6 = .ok (.invokevirtual 64, 3) := by decide +kernel
theorem dX4_ask_9 : decode cX4_ask 9 = .ok (.ifCond .ne 13, 3) := by decide +kernel
theorem dX4_ask_12 : decode cX4_ask 12 = .ok (.new 30, 3) := by decide +kernel
theorem dX4_ask_15 : decode cX4_ask 15 = .ok (.dup, 1) := by decide +kernel
theorem dX4_ask_16 : decode cX4_ask 16 = .ok (.ldc 106, 2) := by decide +kernel
theorem dX4_ask_18 : decode cX4_ask 18 = .ok (.invokespecial 34, 3) := by decide +kernel
theorem dX4_ask_21 : decode cX4_ask 21 = .ok (.athrow, 1) := by decide +kernel
theorem dX4_ask_22 : decode cX4_ask 22 = .ok (.aload_n 0, 1) := by decide +kernel
theorem dX4_ask_23 : decode cX4_ask 23 = .ok (.getfield 12, 3) := by decide +kernel
theorem dX4_ask_26 : decode cX4_ask 26 = .ok (.invokevirtual 108, 3) := by decide +kernel
theorem dX4_ask_29 : decode cX4_ask 29 = .ok (.ifCond .ne 13, 3) := by decide +kernel
theorem dX4_ask_32 : decode cX4_ask 32 = .ok (.new 78, 3) := by decide +kernel
theorem dX4_ask_35 : decode cX4_ask 35 = .ok (.dup, 1) := by decide +kernel
theorem dX4_ask_36 : decode cX4_ask 36 = .ok (.ldc 111, 2) := by decide +kernel
theorem dX4_ask_38 : decode cX4_ask 38 = .ok (.invokespecial 82, 3) := by decide +kernel
theorem dX4_ask_41 : decode cX4_ask 41 = .ok (.athrow, 1) := by decide +kernel
theorem dX4_ask_42 : decode cX4_ask 42 = .ok (.aload_n 0, 1) := by decide +kernel
theorem dX4_ask_43 : decode cX4_ask 43 = .ok (.getfield 19, 3) := by decide +kernel
theorem dX4_ask_46 : decode cX4_ask 46 = .ok (.aload_n 0, 1) := by decide +kernel
theorem dX4_ask_47 : decode cX4_ask 47 = .ok (.getfield 12, 3) := by decide +kernel
theorem dX4_ask_50 : decode cX4_ask 50 = .ok (.invokevirtual 37, 3) := by decide +kernel
theorem dX4_ask_53 : decode cX4_ask 53 = .ok (.aload_n 0, 1) := by decide +kernel
theorem dX4_ask_54 : decode cX4_ask 54 = .ok (.getfield 12, 3) := by decide +kernel
theorem dX4_ask_57 : decode cX4_ask 57 = .ok (.iload_n 1, 1) := by decide +kernel
theorem dX4_ask_58 : decode cX4_ask 58 = .ok (.iload_n 2, 1) := by decide +kernel
theorem dX4_ask_59 : decode cX4_ask 59 = .ok (.invokevirtual 113, 3) := by decide +kernel
theorem dX4_ask_62 : decode cX4_ask 62 = .ok (.ireturn, 1) := by decide +kernel
set_option maxRecDepth 20000 in
theorem ggX4_add_X2_isWeighing : GoodIn wsX4_add wsX2_isWeighing := goodIn_r _ [11, 12, 13, 14, 15, 16, 17, 18, 19, 83, 84, 85, 86, 87, 88, 89, 90, 91] (by decide +kernel) (by decide +kernel)
set_option maxRecDepth 20000 in
theorem gX4_add_X2_isWeighing : GoodIn wsX4_add (wsV RX4 64 RX2 yX2_isWeighing wsX2_isWeighing) := goodIn_app (goodIn_of _ (by decide +kernel)) ggX4_add_X2_isWeighing
set_option maxRecDepth 20000 in
theorem ggX4_add_X2_canPlan : GoodIn wsX4_add wsX2_canPlan := goodIn_r _ [23, 24, 83, 84, 85, 86, 87, 88, 89, 90, 91, 92, 93, 94, 95] (by decide +kernel) (by decide +kernel)
set_option maxRecDepth 20000 in
theorem gX4_add_X2_canPlan : GoodIn wsX4_add (wsV RX4 117 RX2 yX2_canPlan wsX2_canPlan) := goodIn_app (goodIn_of _ (by decide +kernel)) ggX4_add_X2_canPlan
set_option maxRecDepth 20000 in
theorem ggX4_add_X0_save : GoodIn wsX4_add wsX0_save := goodIn_r _ [29, 30, 31, 32, 33, 34, 28, 35, 36, 37, 38, 39, 40, 41, 42, 10, 43, 44, 24, 45, 12, 46, 47, 48, 49, 50, 51, 52, 53, 54, 55, 56, 57, 58, 59, 60, 61, 62, 63, 64, 65, 66, 67, 68, 69, 96, 97, 83, 84, 85, 86, 87, 88, 89, 90, 91, 92, 93, 94, 95] (by decide +kernel) (by decide +kernel)
set_option maxRecDepth 20000 in
theorem gX4_add_X0_save : GoodIn wsX4_add (wsV RX4 37 RX0 yX0_save wsX0_save) := goodIn_app (goodIn_of _ (by decide +kernel)) ggX4_add_X0_save
set_option maxRecDepth 20000 in
theorem ggX4_add_X2_planWeighing : GoodIn wsX4_add wsX2_planWeighing := goodIn_r _ [73, 24, 74, 75, 76, 53, 77, 58, 55, 56, 57, 78, 60, 79, 83, 84, 85, 86, 87, 88, 89, 90, 91, 92, 93, 94, 95] (by decide +kernel) (by decide +kernel)
set_option maxRecDepth 20000 in
theorem gX4_add_X2_planWeighing : GoodIn wsX4_add (wsV RX4 125 RX2 yX2_planWeighing wsX2_planWeighing) := goodIn_app (goodIn_of _ (by decide +kernel)) ggX4_add_X2_planWeighing
theorem dX4_add_0 : decode cX4_add 0 = .ok (.aload_n 0, 1) := by decide +kernel
theorem dX4_add_1 : decode cX4_add 1 = .ok (.getfield 12, 3) := by decide +kernel
theorem dX4_add_4 : decode cX4_add 4 = .ok (.iload_n 1, 1) := by decide +kernel
theorem dX4_add_5 : decode cX4_add 5 = .ok (.iload_n 2, 1) := by decide +kernel
theorem dX4_add_6 : decode cX4_add 6 = .ok (.invokevirtual 64, 3) := by decide +kernel
theorem dX4_add_9 : decode cX4_add 9 = .ok (.ifCond .ne 13, 3) := by decide +kernel
theorem dX4_add_12 : decode cX4_add 12 = .ok (.new 30, 3) := by decide +kernel
theorem dX4_add_15 : decode cX4_add 15 = .ok (.dup, 1) := by decide +kernel
theorem dX4_add_16 : decode cX4_add 16 = .ok (.ldc 106, 2) := by decide +kernel
theorem dX4_add_18 : decode cX4_add 18 = .ok (.invokespecial 34, 3) := by decide +kernel
theorem dX4_add_21 : decode cX4_add 21 = .ok (.athrow, 1) := by decide +kernel
theorem dX4_add_22 : decode cX4_add 22 = .ok (.aload_n 0, 1) := by decide +kernel
theorem dX4_add_23 : decode cX4_add 23 = .ok (.getfield 12, 3) := by decide +kernel
theorem dX4_add_26 : decode cX4_add 26 = .ok (.invokevirtual 117, 3) := by decide +kernel
theorem dX4_add_29 : decode cX4_add 29 = .ok (.ifCond .ne 13, 3) := by decide +kernel
theorem dX4_add_32 : decode cX4_add 32 = .ok (.new 78, 3) := by decide +kernel
theorem dX4_add_35 : decode cX4_add 35 = .ok (.dup, 1) := by decide +kernel
theorem dX4_add_36 : decode cX4_add 36 = .ok (.ldc 120, 2) := by decide +kernel
theorem dX4_add_38 : decode cX4_add 38 = .ok (.invokespecial 82, 3) := by decide +kernel
theorem dX4_add_41 : decode cX4_add 41 = .ok (.athrow, 1) := by decide +kernel
theorem dX4_add_42 : decode cX4_add 42 = .ok (.aload_n 0, 1) := by decide +kernel
theorem dX4_add_43 : decode cX4_add 43 = .ok (.getfield 19, 3) := by decide +kernel
theorem dX4_add_46 : decode cX4_add 46 = .ok (.aload_n 0, 1) := by decide +kernel
theorem dX4_add_47 : decode cX4_add 47 = .ok (.getfield 12, 3) := by decide +kernel
theorem dX4_add_50 : decode cX4_add 50 = .ok (.invokevirtual 37, 3) := by decide +kernel
theorem dX4_add_53 : decode cX4_add 53 = .ok (.aload_n 0, 1) := by decide +kernel
theorem dX4_add_54 : decode cX4_add 54 = .ok (.getfield 12, 3) := by decide +kernel
theorem dX4_add_57 : decode cX4_add 57 = .ok (.getfield 122, 3) := by decide +kernel
theorem dX4_add_60 : decode cX4_add 60 = .ok (.getfield 45, 3) := by decide +kernel
theorem dX4_add_63 : decode cX4_add 63 = .ok (.istore_n 3, 1) := by decide +kernel
theorem dX4_add_64 : decode cX4_add 64 = .ok (.aload_n 0, 1) := by decide +kernel
theorem dX4_add_65 : decode cX4_add 65 = .ok (.getfield 12, 3) := by decide +kernel
theorem dX4_add_68 : decode cX4_add 68 = .ok (.iload_n 1, 1) := by decide +kernel
theorem dX4_add_69 : decode cX4_add 69 = .ok (.iload_n 2, 1) := by decide +kernel
theorem dX4_add_70 : decode cX4_add 70 = .ok (.invokevirtual 125, 3) := by decide +kernel
theorem dX4_add_73 : decode cX4_add 73 = .ok (.iload_n 3, 1) := by decide +kernel
theorem dX4_add_74 : decode cX4_add 74 = .ok (.ireturn, 1) := by decide +kernel
set_option maxRecDepth 20000 in
theorem ggX4_removeLast_X0_save : GoodIn wsX4_removeLast wsX0_save := goodIn_r _ [9, 10, 11, 12, 13, 14, 8, 15, 16, 17, 18, 19, 20, 21, 22, 23, 24, 25, 26, 27, 28, 29, 30, 31, 32, 33, 34, 35, 36, 37, 38, 39, 40, 41, 42, 43, 44, 45, 46, 47, 48, 49, 50, 51, 52, 73, 74, 60, 61, 62, 63, 64, 65, 66, 67, 68, 69, 70, 71, 72] (by decide +kernel) (by decide +kernel)
set_option maxRecDepth 20000 in
theorem gX4_removeLast_X0_save : GoodIn wsX4_removeLast (wsV RX4 37 RX0 yX0_save wsX0_save) := goodIn_app (goodIn_of _ (by decide +kernel)) ggX4_removeLast_X0_save
set_option maxRecDepth 20000 in
theorem ggX4_removeLast_X3_dropLast : GoodIn wsX4_removeLast wsX3_dropLast := goodIn_r _ [56, 41, 69, 70, 71, 72] (by decide +kernel) (by decide +kernel)
set_option maxRecDepth 20000 in
theorem gX4_removeLast_X3_dropLast : GoodIn wsX4_removeLast (wsV RX4 130 RX3 yX3_dropLast wsX3_dropLast) := goodIn_app (goodIn_of _ (by decide +kernel)) ggX4_removeLast_X3_dropLast
theorem dX4_removeLast_0 : decode cX4_removeLast 0 = .ok (.aload_n 0, 1) := by decide +kernel
theorem dX4_removeLast_1 : decode cX4_removeLast 1 = .ok (.getfield 12, 3) := by decide +kernel
theorem dX4_removeLast_4 : decode cX4_removeLast 4 = .ok (.getfield 122, 3) := by decide +kernel
theorem dX4_removeLast_7 : decode cX4_removeLast 7 = .ok (.getfield 45, 3) := by decide +kernel
theorem dX4_removeLast_10 : decode cX4_removeLast 10 = .ok (.ifCond .ne 13, 3) := by decide +kernel
theorem dX4_removeLast_13 : decode cX4_removeLast 13 = .ok (.new 78, 3) := by decide +kernel
theorem dX4_removeLast_16 : decode cX4_removeLast 16 = .ok (.dup, 1) := by decide +kernel
theorem dX4_removeLast_17 : decode cX4_removeLast 17 = .ok (.ldc 128, 2) := by decide +kernel
theorem dX4_removeLast_19 : decode cX4_removeLast 19 = .ok (.invokespecial 82, 3) := by decide +kernel
theorem dX4_removeLast_22 : decode cX4_removeLast 22 = .ok (.athrow, 1) := by decide +kernel
theorem dX4_removeLast_23 : decode cX4_removeLast 23 = .ok (.aload_n 0, 1) := by decide +kernel
theorem dX4_removeLast_24 : decode cX4_removeLast 24 = .ok (.getfield 19, 3) := by decide +kernel
theorem dX4_removeLast_27 : decode cX4_removeLast 27 = .ok (.aload_n 0, 1) := by decide +kernel
theorem dX4_removeLast_28 : decode cX4_removeLast 28 = .ok (.getfield 12, 3) := by decide +kernel
theorem dX4_removeLast_31 : decode cX4_removeLast 31 = .ok (.invokevirtual 37, 3) := by decide +kernel
theorem dX4_removeLast_34 : decode cX4_removeLast 34 = .ok (.aload_n 0, 1) := by decide +kernel
theorem dX4_removeLast_35 : decode cX4_removeLast 35 = .ok (.getfield 12, 3) := by decide +kernel
theorem dX4_removeLast_38 : decode cX4_removeLast 38 = .ok (.getfield 122, 3) := by decide +kernel
theorem dX4_removeLast_41 : decode cX4_removeLast 41 = .ok (.invokevirtual 130, 3) := by decide +kernel
theorem dX4_removeLast_44 : decode cX4_removeLast 44 = .ok (.aload_n 0, 1) := by decide +kernel
theorem dX4_removeLast_45 : decode cX4_removeLast 45 = .ok (.getfield 12, 3) := by decide +kernel
theorem dX4_removeLast_48 : decode cX4_removeLast 48 = .ok (.getfield 122, 3) := by decide +kernel
theorem dX4_removeLast_51 : decode cX4_removeLast 51 = .ok (.getfield 45, 3) := by decide +kernel
theorem dX4_removeLast_54 : decode cX4_removeLast 54 = .ok (.ireturn, 1) := by decide +kernel
set_option maxRecDepth 20000 in
theorem ggX4_lies_X2_isCase : GoodIn wsX4_lies wsX2_isCase := goodIn_r _ [8, 9, 10, 11, 7, 12, 13, 21, 22, 23, 24, 25, 26, 27, 28, 29] (by decide +kernel) (by decide +kernel)
set_option maxRecDepth 20000 in
theorem gX4_lies_X2_isCase : GoodIn wsX4_lies (wsV RX4 90 RX2 yX2_isCase wsX2_isCase) := goodIn_app (goodIn_of _ (by decide +kernel)) ggX4_lies_X2_isCase
set_option maxRecDepth 20000 in
theorem ggX4_lies_X4_at : GoodIn wsX4_lies wsX4_at := goodIn_r _ [17] (by decide +kernel) (by decide +kernel)
set_option maxRecDepth 20000 in
theorem gX4_lies_X4_at : GoodIn wsX4_lies (va_wsS RX4 137 yX4_at wsX4_at) := goodIn_app (goodIn_of _ (by decide +kernel)) ggX4_lies_X4_at
theorem dX4_lies_0 : decode cX4_lies 0 = .ok (.aload_n 0, 1) := by decide +kernel
theorem dX4_lies_1 : decode cX4_lies 1 = .ok (.getfield 12, 3) := by decide +kernel
theorem dX4_lies_4 : decode cX4_lies 4 = .ok (.iload_n 1, 1) := by decide +kernel
theorem dX4_lies_5 : decode cX4_lies 5 = .ok (.invokevirtual 90, 3) := by decide +kernel
theorem dX4_lies_8 : decode cX4_lies 8 = .ok (.ifCond .ne 13, 3) := by decide +kernel
theorem dX4_lies_11 : decode cX4_lies 11 = .ok (.new 93, 3) := by decide +kernel
theorem dX4_lies_14 : decode cX4_lies 14 = .ok (.dup, 1) := by decide +kernel
theorem dX4_lies_15 : decode cX4_lies 15 = .ok (.ldc 95, 2) := by decide +kernel
theorem dX4_lies_17 : decode cX4_lies 17 = .ok (.invokespecial 97, 3) := by decide +kernel
theorem dX4_lies_20 : decode cX4_lies 20 = .ok (.athrow, 1) := by decide +kernel
theorem dX4_lies_21 : decode cX4_lies 21 = .ok (.aload_n 0, 1) := by decide +kernel
theorem dX4_lies_22 : decode cX4_lies 22 = .ok (.getfield 12, 3) := by decide +kernel
theorem dX4_lies_25 : decode cX4_lies 25 = .ok (.getfield 133, 3) := by decide +kernel
theorem dX4_lies_28 : decode cX4_lies 28 = .ok (.iload_n 1, 1) := by decide +kernel
theorem dX4_lies_29 : decode cX4_lies 29 = .ok (.invokestatic 137, 3) := by decide +kernel
theorem dX4_lies_32 : decode cX4_lies 32 = .ok (.ireturn, 1) := by decide +kernel
set_option maxRecDepth 20000 in
theorem ggX4_answer_X2_isCase : GoodIn wsX4_answer wsX2_isCase := goodIn_r _ [10, 11, 12, 13, 9, 14, 15, 37, 38, 39, 40, 41, 42, 43, 44, 45] (by decide +kernel) (by decide +kernel)
set_option maxRecDepth 20000 in
theorem gX4_answer_X2_isCase : GoodIn wsX4_answer (wsV RX4 90 RX2 yX2_isCase wsX2_isCase) := goodIn_app (goodIn_of _ (by decide +kernel)) ggX4_answer_X2_isCase
set_option maxRecDepth 20000 in
theorem ggX4_answer_X2_isWeighing : GoodIn wsX4_answer wsX2_isWeighing := goodIn_r _ [19, 15, 20, 21, 22, 23, 24, 25, 26, 37, 38, 39, 40, 41, 42, 43, 44, 45] (by decide +kernel) (by decide +kernel)
set_option maxRecDepth 20000 in
theorem gX4_answer_X2_isWeighing : GoodIn wsX4_answer (wsV RX4 64 RX2 yX2_isWeighing wsX2_isWeighing) := goodIn_app (goodIn_of _ (by decide +kernel)) ggX4_answer_X2_isWeighing
set_option maxRecDepth 20000 in
theorem ggX4_answer_X4_trueAnswer : GoodIn wsX4_answer wsX4_trueAnswer := goodIn_r _ [30, 31, 32, 29, 33] (by decide +kernel) (by decide +kernel)
set_option maxRecDepth 20000 in
theorem gX4_answer_X4_trueAnswer : GoodIn wsX4_answer (va_wsS RX4 141 yX4_trueAnswer wsX4_trueAnswer) := goodIn_app (goodIn_of _ (by decide +kernel)) ggX4_answer_X4_trueAnswer
theorem dX4_answer_0 : decode cX4_answer 0 = .ok (.aload_n 0, 1) := by decide +kernel
theorem dX4_answer_1 : decode cX4_answer 1 = .ok (.getfield 12, 3) := by decide +kernel
theorem dX4_answer_4 : decode cX4_answer 4 = .ok (.iload_n 1, 1) := by decide +kernel
theorem dX4_answer_5 : decode cX4_answer 5 = .ok (.invokevirtual 90, 3) := by decide +kernel
theorem dX4_answer_8 : decode cX4_answer 8 = .ok (.ifCond .ne 13, 3) := by decide +kernel
theorem dX4_answer_11 : decode cX4_answer 11 = .ok (.new 93, 3) := by decide +kernel
theorem dX4_answer_14 : decode cX4_answer 14 = .ok (.dup, 1) := by decide +kernel
theorem dX4_answer_15 : decode cX4_answer 15 = .ok (.ldc 95, 2) := by decide +kernel
theorem dX4_answer_17 : decode cX4_answer 17 = .ok (.invokespecial 97, 3) := by decide +kernel
theorem dX4_answer_20 : decode cX4_answer 20 = .ok (.athrow, 1) := by decide +kernel
theorem dX4_answer_21 : decode cX4_answer 21 = .ok (.aload_n 0, 1) := by decide +kernel
theorem dX4_answer_22 : decode cX4_answer 22 = .ok (.getfield 12, 3) := by decide +kernel
theorem dX4_answer_25 : decode cX4_answer 25 = .ok (.iload_n 2, 1) := by decide +kernel
theorem dX4_answer_26 : decode cX4_answer 26 = .ok (.iload_n 3, 1) := by decide +kernel
theorem dX4_answer_27 : decode cX4_answer 27 = .ok (.invokevirtual 64, 3) := by decide +kernel
theorem dX4_answer_30 : decode cX4_answer 30 = .ok (.ifCond .ne 13, 3) := by decide +kernel
theorem dX4_answer_33 : decode cX4_answer 33 = .ok (.new 30, 3) := by decide +kernel
theorem dX4_answer_36 : decode cX4_answer 36 = .ok (.dup, 1) := by decide +kernel
theorem dX4_answer_37 : decode cX4_answer 37 = .ok (.ldc 106, 2) := by decide +kernel
theorem dX4_answer_39 : decode cX4_answer 39 = .ok (.invokespecial 34, 3) := by decide +kernel
theorem dX4_answer_42 : decode cX4_answer 42 = .ok (.athrow, 1) := by decide +kernel
theorem dX4_answer_43 : decode cX4_answer 43 = .ok (.iload_n 1, 1) := by decide +kernel
theorem dX4_answer_44 : decode cX4_answer 44 = .ok (.iload_n 2, 1) := by decide +kernel
theorem dX4_answer_45 : decode cX4_answer 45 = .ok (.iload_n 3, 1) := by decide +kernel
theorem dX4_answer_46 : decode cX4_answer 46 = .ok (.invokestatic 141, 3) := by decide +kernel
theorem dX4_answer_49 : decode cX4_answer 49 = .ok (.ireturn, 1) := by decide +kernel
set_option maxRecDepth 20000 in
theorem ggX4_leftCase_X2_findLeft : GoodIn wsX4_leftCase wsX2_findLeft := goodIn_r _ [8, 9, 10, 11, 7, 12, 13, 14, 15, 16, 17, 18, 19, 20, 21, 22, 26, 27, 28, 29, 30, 31, 32, 33, 34] (by decide +kernel) (by decide +kernel)
set_option maxRecDepth 20000 in
theorem gX4_leftCase_X2_findLeft : GoodIn wsX4_leftCase (wsV RX4 145 RX2 yX2_findLeft wsX2_findLeft) := goodIn_app (goodIn_of _ (by decide +kernel)) ggX4_leftCase_X2_findLeft
theorem dX4_leftCase_0 : decode cX4_leftCase 0 = .ok (.aload_n 0, 1) := by decide +kernel
theorem dX4_leftCase_1 : decode cX4_leftCase 1 = .ok (.getfield 12, 3) := by decide +kernel
theorem dX4_leftCase_4 : decode cX4_leftCase 4 = .ok (.iload_n 1, 1) := by decide +kernel
theorem dX4_leftCase_5 : decode cX4_leftCase 5 = .ok (.invokevirtual 145, 3) := by decide +kernel
theorem dX4_leftCase_8 : decode cX4_leftCase 8 = .ok (.istore_n 2, 1) := by decide +kernel
theorem dX4_leftCase_9 : decode cX4_leftCase 9 = .ok (.iload_n 2, 1) := by decide +kernel
theorem dX4_leftCase_10 : decode cX4_leftCase 10 = .ok (.iconst (-1), 1) := by decide +kernel
theorem dX4_leftCase_11 : decode cX4_leftCase 11 = .ok (.if_icmp .ne 13, 3) := by decide +kernel
theorem dX4_leftCase_14 : decode cX4_leftCase 14 = .ok (.new 93, 3) := by decide +kernel
theorem dX4_leftCase_17 : decode cX4_leftCase 17 = .ok (.dup, 1) := by decide +kernel
theorem dX4_leftCase_18 : decode cX4_leftCase 18 = .ok (.ldc 149, 2) := by decide +kernel
theorem dX4_leftCase_20 : decode cX4_leftCase 20 = .ok (.invokespecial 97, 3) := by decide +kernel
theorem dX4_leftCase_23 : decode cX4_leftCase 23 = .ok (.athrow, 1) := by decide +kernel
theorem dX4_leftCase_24 : decode cX4_leftCase 24 = .ok (.iload_n 2, 1) := by decide +kernel
theorem dX4_leftCase_25 : decode cX4_leftCase 25 = .ok (.ireturn, 1) := by decide +kernel
set_option maxRecDepth 20000 in
theorem ggX4_weighing_X3_part : GoodIn wsX4_weighing wsX3_part := goodIn_r _ [10, 11, 12, 13, 14, 15, 16, 29, 30, 31, 32] (by decide +kernel) (by decide +kernel)
set_option maxRecDepth 20000 in
theorem gX4_weighing_X3_part : GoodIn wsX4_weighing (wsV RX4 155 RX3 yX3_part wsX3_part) := goodIn_app (goodIn_of _ (by decide +kernel)) ggX4_weighing_X3_part
theorem dX4_weighing_0 : decode cX4_weighing 0 = .ok (.iload_n 1, 1) := by decide +kernel
theorem dX4_weighing_1 : decode cX4_weighing 1 = .ok (.ifCond .lt 17, 3) := by decide +kernel
theorem dX4_weighing_4 : decode cX4_weighing 4 = .ok (.iload_n 1, 1) := by decide +kernel
theorem dX4_weighing_5 : decode cX4_weighing 5 = .ok (.aload_n 0, 1) := by decide +kernel
theorem dX4_weighing_6 : decode cX4_weighing 6 = .ok (.getfield 12, 3) := by decide +kernel
theorem dX4_weighing_9 : decode cX4_weighing 9 = .ok (.getfield 41, 3) := by decide +kernel
theorem dX4_weighing_12 : decode cX4_weighing 12 = .ok (.getfield 45, 3) := by decide +kernel
theorem dX4_weighing_15 : decode cX4_weighing 15 = .ok (.if_icmp .lt 13, 3) := by decide +kernel
theorem dX4_weighing_18 : decode cX4_weighing 18 = .ok (.new 93, 3) := by decide +kernel
theorem dX4_weighing_21 : decode cX4_weighing 21 = .ok (.dup, 1) := by decide +kernel
theorem dX4_weighing_22 : decode cX4_weighing 22 = .ok (.ldc 151, 2) := by decide +kernel
theorem dX4_weighing_24 : decode cX4_weighing 24 = .ok (.invokespecial 97, 3) := by decide +kernel
theorem dX4_weighing_27 : decode cX4_weighing 27 = .ok (.athrow, 1) := by decide +kernel
theorem dX4_weighing_28 : decode cX4_weighing 28 = .ok (.iload_n 2, 1) := by decide +kernel
theorem dX4_weighing_29 : decode cX4_weighing 29 = .ok (.ifCond .lt 8, 3) := by decide +kernel
theorem dX4_weighing_32 : decode cX4_weighing 32 = .ok (.iload_n 2, 1) := by decide +kernel
theorem dX4_weighing_33 : decode cX4_weighing 33 = .ok (.iconst 3, 1) := by decide +kernel
theorem dX4_weighing_34 : decode cX4_weighing 34 = .ok (.if_icmp .lt 13, 3) := by decide +kernel
theorem dX4_weighing_37 : decode cX4_weighing 37 = .ok (.new 30, 3) := by decide +kernel
theorem dX4_weighing_40 : decode cX4_weighing 40 = .ok (.dup, 1) := by decide +kernel
theorem dX4_weighing_41 : decode cX4_weighing 41 = .ok (.ldc 153, 2) := by decide +kernel
theorem dX4_weighing_43 : decode cX4_weighing 43 = .ok (.invokespecial 34, 3) := by decide +kernel
theorem dX4_weighing_46 : decode cX4_weighing 46 = .ok (.athrow, 1) := by decide +kernel
theorem dX4_weighing_47 : decode cX4_weighing 47 = .ok (.aload_n 0, 1) := by decide +kernel
theorem dX4_weighing_48 : decode cX4_weighing 48 = .ok (.getfield 12, 3) := by decide +kernel
theorem dX4_weighing_51 : decode cX4_weighing 51 = .ok (.getfield 41, 3) := by decide +kernel
theorem dX4_weighing_54 : decode cX4_weighing 54 = .ok (.iload_n 1, 1) := by decide +kernel
theorem dX4_weighing_55 : decode cX4_weighing 55 = .ok (.iload_n 2, 1) := by decide +kernel
theorem dX4_weighing_56 : decode cX4_weighing 56 = .ok (.invokevirtual 155, 3) := by decide +kernel
theorem dX4_weighing_59 : decode cX4_weighing 59 = .ok (.ireturn, 1) := by decide +kernel
set_option maxRecDepth 20000 in
theorem ggX4_value_X2_number : GoodIn wsX4_value wsX2_number := goodIn_r _ [8, 9, 10, 11, 12, 13, 14, 15, 16, 17, 7, 18, 19, 20, 21, 22, 23, 24, 25, 26, 27, 28, 29, 30, 31, 32, 33, 34, 35, 36, 40, 41, 42, 43, 44, 45, 46, 47, 48, 49, 50, 51, 52] (by decide +kernel) (by decide +kernel)
set_option maxRecDepth 20000 in
theorem gX4_value_X2_number : GoodIn wsX4_value (wsV RX4 158 RX2 yX2_number wsX2_number) := goodIn_app (goodIn_of _ (by decide +kernel)) ggX4_value_X2_number
theorem dX4_value_0 : decode cX4_value 0 = .ok (.iload_n 1, 1) := by decide +kernel
theorem dX4_value_1 : decode cX4_value 1 = .ok (.ifCond .lt 9, 3) := by decide +kernel
theorem dX4_value_4 : decode cX4_value 4 = .ok (.iload_n 1, 1) := by decide +kernel
theorem dX4_value_5 : decode cX4_value 5 = .ok (.bipush 9, 2) := by decide +kernel
theorem dX4_value_7 : decode cX4_value 7 = .ok (.if_icmp .lt 13, 3) := by decide +kernel
theorem dX4_value_10 : decode cX4_value 10 = .ok (.new 30, 3) := by decide +kernel
theorem dX4_value_13 : decode cX4_value 13 = .ok (.dup, 1) := by decide +kernel
theorem dX4_value_14 : decode cX4_value 14 = .ok (.ldc 153, 2) := by decide +kernel
theorem dX4_value_16 : decode cX4_value 16 = .ok (.invokespecial 34, 3) := by decide +kernel
theorem dX4_value_19 : decode cX4_value 19 = .ok (.athrow, 1) := by decide +kernel
theorem dX4_value_20 : decode cX4_value 20 = .ok (.aload_n 0, 1) := by decide +kernel
theorem dX4_value_21 : decode cX4_value 21 = .ok (.getfield 12, 3) := by decide +kernel
theorem dX4_value_24 : decode cX4_value 24 = .ok (.iload_n 1, 1) := by decide +kernel
theorem dX4_value_25 : decode cX4_value 25 = .ok (.invokevirtual 158, 3) := by decide +kernel
theorem dX4_value_28 : decode cX4_value 28 = .ok (.ireturn, 1) := by decide +kernel
set_option maxRecDepth 20000 in
theorem ggX4_weight_X4_isAhead : GoodIn wsX4_weight wsX4_isAhead := goodIn_r _ [7] (by decide +kernel) (by decide +kernel)
set_option maxRecDepth 20000 in
theorem gX4_weight_X4_isAhead : GoodIn wsX4_weight (va_wsS RX4 161 yX4_isAhead wsX4_isAhead) := goodIn_app (goodIn_of _ (by decide +kernel)) ggX4_weight_X4_isAhead
set_option maxRecDepth 20000 in
theorem ggX4_weight_X2_weightAhead : GoodIn wsX4_weight wsX2_weightAhead := goodIn_r _ [12, 13, 14, 15, 16, 11, 17, 18, 19, 6, 20, 21, 22, 23, 24, 25, 26, 27, 28, 29, 30, 31, 35, 36, 37, 38, 39, 40, 41, 42, 43] (by decide +kernel) (by decide +kernel)
set_option maxRecDepth 20000 in
theorem gX4_weight_X2_weightAhead : GoodIn wsX4_weight (wsV RX4 166 RX2 yX2_weightAhead wsX2_weightAhead) := goodIn_app (goodIn_of _ (by decide +kernel)) ggX4_weight_X2_weightAhead
theorem dX4_weight_0 : decode cX4_weight 0 = .ok (.iload_n 1, 1) := by decide +kernel
theorem dX4_weight_1 : decode cX4_weight 1 = .ok (.invokestatic 161, 3) := by decide +kernel
theorem dX4_weight_4 : decode cX4_weight 4 = .ok (.ifCond .ne 13, 3) := by decide +kernel
theorem dX4_weight_7 : decode cX4_weight 7 = .ok (.new 30, 3) := by decide +kernel
theorem dX4_weight_10 : decode cX4_weight 10 = .ok (.dup, 1) := by decide +kernel
theorem dX4_weight_11 : decode cX4_weight 11 = .ok (.ldc 164, 2) := by decide +kernel
theorem dX4_weight_13 : decode cX4_weight 13 = .ok (.invokespecial 34, 3) := by decide +kernel
theorem dX4_weight_16 : decode cX4_weight 16 = .ok (.athrow, 1) := by decide +kernel
theorem dX4_weight_17 : decode cX4_weight 17 = .ok (.aload_n 0, 1) := by decide +kernel
theorem dX4_weight_18 : decode cX4_weight 18 = .ok (.getfield 12, 3) := by decide +kernel
theorem dX4_weight_21 : decode cX4_weight 21 = .ok (.iload_n 1, 1) := by decide +kernel
theorem dX4_weight_22 : decode cX4_weight 22 = .ok (.invokevirtual 166, 3) := by decide +kernel
theorem dX4_weight_25 : decode cX4_weight 25 = .ok (.lreturn, 1) := by decide +kernel
set_option maxRecDepth 20000 in
theorem ggX4_bound_X2_weightAhead : GoodIn wsX4_bound wsX2_weightAhead := goodIn_r _ [7, 8, 9, 10, 11, 6, 12, 13, 14, 15, 16, 17, 18, 19, 20, 21, 22, 23, 24, 25, 26, 27, 31, 32, 33, 34, 35, 36, 37, 38, 39] (by decide +kernel) (by decide +kernel)
set_option maxRecDepth 20000 in
theorem gX4_bound_X2_weightAhead : GoodIn wsX4_bound (wsV RX4 166 RX2 yX2_weightAhead wsX2_weightAhead) := goodIn_app (goodIn_of _ (by decide +kernel)) ggX4_bound_X2_weightAhead
theorem dX4_bound_0 : decode cX4_bound 0 = .ok (.lconst 1, 1) := by decide +kernel
theorem dX4_bound_1 : decode cX4_bound 1 = .ok (.lstore_n 1, 1) := by decide +kernel
theorem dX4_bound_2 : decode cX4_bound 2 = .ok (.iconst 0, 1) := by decide +kernel
theorem dX4_bound_3 : decode cX4_bound 3 = .ok (.istore_n 3, 1) := by decide +kernel
theorem dX4_bound_4 : decode cX4_bound 4 = .ok (.iload_n 3, 1) := by decide +kernel
theorem dX4_bound_5 : decode cX4_bound 5 = .ok (.bipush 20, 2) := by decide +kernel
theorem dX4_bound_7 : decode cX4_bound 7 = .ok (.if_icmp .gt 30, 3) := by decide +kernel
theorem dX4_bound_10 : decode cX4_bound 10 = .ok (.aload_n 0, 1) := by decide +kernel
theorem dX4_bound_11 : decode cX4_bound 11 = .ok (.getfield 12, 3) := by decide +kernel
theorem dX4_bound_14 : decode cX4_bound 14 = .ok (.iload_n 3, 1) := by decide +kernel
theorem dX4_bound_15 : decode cX4_bound 15 = .ok (.invokevirtual 166, 3) := by decide +kernel
theorem dX4_bound_18 : decode cX4_bound 18 = .ok (.lload_n 1, 1) := by decide +kernel
theorem dX4_bound_19 : decode cX4_bound 19 = .ok (.lcmp, 1) := by decide +kernel
theorem dX4_bound_20 : decode cX4_bound 20 = .ok (.ifCond .gt 5, 3) := by decide +kernel
theorem dX4_bound_23 : decode cX4_bound 23 = .ok (.iload_n 3, 1) := by decide +kernel
theorem dX4_bound_24 : decode cX4_bound 24 = .ok (.ireturn, 1) := by decide +kernel
theorem dX4_bound_25 : decode cX4_bound 25 = .ok (.lload_n 1, 1) := by decide +kernel
theorem dX4_bound_26 : decode cX4_bound 26 = .ok (.ldc2_w 170, 3) := by decide +kernel
theorem dX4_bound_29 : decode cX4_bound 29 = .ok (.lmul, 1) := by decide +kernel
theorem dX4_bound_30 : decode cX4_bound 30 = .ok (.lstore_n 1, 1) := by decide +kernel
theorem dX4_bound_31 : decode cX4_bound 31 = .ok (.iinc 3 1, 3) := by decide +kernel
theorem dX4_bound_34 : decode cX4_bound 34 = .ok (.goto (-30), 3) := by decide +kernel
theorem dX4_bound_37 : decode cX4_bound 37 = .ok (.iconst (-1), 1) := by decide +kernel
theorem dX4_bound_38 : decode cX4_bound 38 = .ok (.ireturn, 1) := by decide +kernel
set_option maxRecDepth 20000 in
theorem ggX4_weightBehind_X2_isWeighing : GoodIn wsX4_weightBehind wsX2_isWeighing := goodIn_r _ [8, 9, 10, 11, 12, 13, 14, 15, 16, 58, 59, 60, 61, 62, 63, 64, 65, 66] (by decide +kernel) (by decide +kernel)
set_option maxRecDepth 20000 in
theorem gX4_weightBehind_X2_isWeighing : GoodIn wsX4_weightBehind (wsV RX4 64 RX2 yX2_isWeighing wsX2_isWeighing) := goodIn_app (goodIn_of _ (by decide +kernel)) ggX4_weightBehind_X2_isWeighing
set_option maxRecDepth 20000 in
theorem ggX4_weightBehind_X4_isAnswer : GoodIn wsX4_weightBehind wsX4_isAnswer := goodIn_r _ [20] (by decide +kernel) (by decide +kernel)
set_option maxRecDepth 20000 in
theorem gX4_weightBehind_X4_isAnswer : GoodIn wsX4_weightBehind (va_wsS RX4 68 yX4_isAnswer wsX4_isAnswer) := goodIn_app (goodIn_of _ (by decide +kernel)) ggX4_weightBehind_X4_isAnswer
set_option maxRecDepth 20000 in
theorem ggX4_weightBehind_X4_isAhead : GoodIn wsX4_weightBehind wsX4_isAhead := goodIn_r _ [23] (by decide +kernel) (by decide +kernel)
set_option maxRecDepth 20000 in
theorem gX4_weightBehind_X4_isAhead : GoodIn wsX4_weightBehind (va_wsS RX4 161 yX4_isAhead wsX4_isAhead) := goodIn_app (goodIn_of _ (by decide +kernel)) ggX4_weightBehind_X4_isAhead
set_option maxRecDepth 20000 in
theorem ggX4_weightBehind_X2_weightIfTold : GoodIn wsX4_weightBehind wsX2_weightIfTold := goodIn_r _ [27, 28, 29, 30, 7, 31, 9, 32, 33, 34, 35, 36, 37, 19, 38, 39, 40, 41, 42, 43, 44, 45, 46, 47, 48, 49, 50, 51, 52, 53, 54, 58, 59, 60, 61, 62, 63, 64, 65, 66] (by decide +kernel) (by decide +kernel)
set_option maxRecDepth 20000 in
theorem gX4_weightBehind_X2_weightIfTold : GoodIn wsX4_weightBehind (wsV RX4 174 RX2 yX2_weightIfTold wsX2_weightIfTold) := goodIn_app (goodIn_of _ (by decide +kernel)) ggX4_weightBehind_X2_weightIfTold
theorem dX4_weightBehind_0 : decode cX4_weightBehind 0 = .ok (.aload_n 0, 1) := by decide +kernel
theorem dX4_weightBehind_1 : decode cX4_weightBehind 1 = .ok (.getfield 12, 3) := by decide +kernel
theorem dX4_weightBehind_4 : decode cX4_weightBehind 4 = .ok (.iload_n 1, 1) := by decide +kernel
theorem dX4_weightBehind_5 : decode cX4_weightBehind 5 = .ok (.iload_n 2, 1) := by decide +kernel
theorem dX4_weightBehind_6 : decode cX4_weightBehind 6 = .ok (.invokevirtual 64, 3) := by decide +kernel
theorem dX4_weightBehind_9 : decode cX4_weightBehind 9 = .ok (.ifCond .eq 18, 3) := by decide +kernel
theorem dX4_weightBehind_12 : decode cX4_weightBehind 12 = .ok (.iload_n 3, 1) := by decide +kernel
theorem dX4_weightBehind_13 : decode cX4_weightBehind 13 = .ok (.invokestatic 68, 3) := by decide +kernel
theorem dX4_weightBehind_16 : decode cX4_weightBehind 16 = .ok (.ifCond .eq 11, 3) := by decide +kernel
theorem dX4_weightBehind_19 : decode cX4_weightBehind 19 = .ok (.iload 4, 2) := by decide +kernel
theorem dX4_weightBehind_21 : decode cX4_weightBehind 21 = .ok (.invokestatic 161, 3) := by decide +kernel
theorem dX4_weightBehind_24 : decode cX4_weightBehind 24 = .ok (.ifCond .ne 13, 3) := by decide +kernel
theorem dX4_weightBehind_27 : decode cX4_weightBehind 27 = .ok (.new 30, 3) := by decide +kernel
theorem dX4_weightBehind_30 : decode cX4_weightBehind 30 = .ok (.dup, 1) := by decide +kernel
theorem dX4_weightBehind_31 : decode cX4_weightBehind 31 = .ok (.ldc 172, 2) := by decide +kernel
theorem dX4_weightBehind_33 : decode cX4_weightBehind 33 = .ok (.invokespecial 34, 3) := by decide +kernel
theorem dX4_weightBehind_36 : decode cX4_weightBehind 36 = .ok (.athrow, 1) := by decide +kernel
theorem dX4_weightBehind_37 : decode cX4_weightBehind 37 = .ok (.aload_n 0, 1) := by decide +kernel
theorem dX4_weightBehind_38 : decode cX4_weightBehind 38 = .ok (.getfield 12, 3) := by decide +kernel
theorem dX4_weightBehind_41 : decode cX4_weightBehind 41 = .ok (.iload_n 1, 1) := by decide +kernel
theorem dX4_weightBehind_42 : decode cX4_weightBehind 42 = .ok (.iload_n 2, 1) := by decide +kernel
theorem dX4_weightBehind_43 : decode cX4_weightBehind 43 = .ok (.iload_n 3, 1) := by decide +kernel
theorem dX4_weightBehind_44 : decode cX4_weightBehind 44 = .ok (.iload 4, 2) := by decide +kernel
theorem dX4_weightBehind_46 : decode cX4_weightBehind 46 = .ok (.invokevirtual 174, 3) := by decide +kernel
theorem dX4_weightBehind_49 : decode cX4_weightBehind 49 = .ok (.lreturn, 1) := by decide +kernel
set_option maxRecDepth 20000 in
theorem ggX4_bestGroup_X4_isAhead : GoodIn wsX4_bestGroup wsX4_isAhead := goodIn_r _ [7] (by decide +kernel) (by decide +kernel)
set_option maxRecDepth 20000 in
theorem gX4_bestGroup_X4_isAhead : GoodIn wsX4_bestGroup (va_wsS RX4 161 yX4_isAhead wsX4_isAhead) := goodIn_app (goodIn_of _ (by decide +kernel)) ggX4_bestGroup_X4_isAhead
set_option maxRecDepth 20000 in
theorem ggX4_bestGroup_X2_findGroup : GoodIn wsX4_bestGroup wsX2_findGroup := goodIn_r _ [12, 13, 14, 15, 16, 11, 17, 18, 19, 20, 21, 22, 23, 24, 25, 26, 27, 28, 29, 30, 31, 32, 33, 34, 35, 6, 36, 37, 38, 39, 40, 41, 42, 43, 44, 45, 46, 47, 48, 49, 50, 51, 55, 56, 57, 58, 59, 60, 61, 62, 63] (by decide +kernel) (by decide +kernel)
set_option maxRecDepth 20000 in
theorem gX4_bestGroup_X2_findGroup : GoodIn wsX4_bestGroup (wsV RX4 178 RX2 yX2_findGroup wsX2_findGroup) := goodIn_app (goodIn_of _ (by decide +kernel)) ggX4_bestGroup_X2_findGroup
theorem dX4_bestGroup_0 : decode cX4_bestGroup 0 = .ok (.iload_n 1, 1) := by decide +kernel
theorem dX4_bestGroup_1 : decode cX4_bestGroup 1 = .ok (.invokestatic 161, 3) := by decide +kernel
theorem dX4_bestGroup_4 : decode cX4_bestGroup 4 = .ok (.ifCond .ne 13, 3) := by decide +kernel
theorem dX4_bestGroup_7 : decode cX4_bestGroup 7 = .ok (.new 30, 3) := by decide +kernel
theorem dX4_bestGroup_10 : decode cX4_bestGroup 10 = .ok (.dup, 1) := by decide +kernel
theorem dX4_bestGroup_11 : decode cX4_bestGroup 11 = .ok (.ldc 164, 2) := by decide +kernel
theorem dX4_bestGroup_13 : decode cX4_bestGroup 13 = .ok (.invokespecial 34, 3) := by decide +kernel
theorem dX4_bestGroup_16 : decode cX4_bestGroup 16 = .ok (.athrow, 1) := by decide +kernel
theorem dX4_bestGroup_17 : decode cX4_bestGroup 17 = .ok (.aload_n 0, 1) := by decide +kernel
theorem dX4_bestGroup_18 : decode cX4_bestGroup 18 = .ok (.getfield 12, 3) := by decide +kernel
theorem dX4_bestGroup_21 : decode cX4_bestGroup 21 = .ok (.iload_n 1, 1) := by decide +kernel
theorem dX4_bestGroup_22 : decode cX4_bestGroup 22 = .ok (.invokevirtual 178, 3) := by decide +kernel
theorem dX4_bestGroup_25 : decode cX4_bestGroup 25 = .ok (.ireturn, 1) := by decide +kernel
set_option maxRecDepth 20000 in
theorem ggX4_teaches_X2_isWeighing : GoodIn wsX4_teaches wsX2_isWeighing := goodIn_r _ [8, 9, 10, 11, 12, 13, 14, 15, 16, 42, 43, 44, 45, 46, 47, 48, 49, 50] (by decide +kernel) (by decide +kernel)
set_option maxRecDepth 20000 in
theorem gX4_teaches_X2_isWeighing : GoodIn wsX4_teaches (wsV RX4 64 RX2 yX2_isWeighing wsX2_isWeighing) := goodIn_app (goodIn_of _ (by decide +kernel)) ggX4_teaches_X2_isWeighing
set_option maxRecDepth 20000 in
theorem ggX4_teaches_X2_differs : GoodIn wsX4_teaches wsX2_differs := goodIn_r _ [20, 21, 22, 23, 7, 24, 9, 25, 26, 27, 28, 29, 30, 31, 32, 33, 34, 35, 36, 37, 38, 42, 43, 44, 45, 46, 47, 48, 49, 50] (by decide +kernel) (by decide +kernel)
set_option maxRecDepth 20000 in
theorem gX4_teaches_X2_differs : GoodIn wsX4_teaches (wsV RX4 181 RX2 yX2_differs wsX2_differs) := goodIn_app (goodIn_of _ (by decide +kernel)) ggX4_teaches_X2_differs
theorem dX4_teaches_0 : decode cX4_teaches 0 = .ok (.aload_n 0, 1) := by decide +kernel
theorem dX4_teaches_1 : decode cX4_teaches 1 = .ok (.getfield 12, 3) := by decide +kernel
theorem dX4_teaches_4 : decode cX4_teaches 4 = .ok (.iload_n 1, 1) := by decide +kernel
theorem dX4_teaches_5 : decode cX4_teaches 5 = .ok (.iload_n 2, 1) := by decide +kernel
theorem dX4_teaches_6 : decode cX4_teaches 6 = .ok (.invokevirtual 64, 3) := by decide +kernel
theorem dX4_teaches_9 : decode cX4_teaches 9 = .ok (.ifCond .ne 13, 3) := by decide +kernel
theorem dX4_teaches_12 : decode cX4_teaches 12 = .ok (.new 30, 3) := by decide +kernel
theorem dX4_teaches_15 : decode cX4_teaches 15 = .ok (.dup, 1) := by decide +kernel
theorem dX4_teaches_16 : decode cX4_teaches 16 = .ok (.ldc 106, 2) := by decide +kernel
theorem dX4_teaches_18 : decode cX4_teaches 18 = .ok (.invokespecial 34, 3) := by decide +kernel
theorem dX4_teaches_21 : decode cX4_teaches 21 = .ok (.athrow, 1) := by decide +kernel
theorem dX4_teaches_22 : decode cX4_teaches 22 = .ok (.aload_n 0, 1) := by decide +kernel
theorem dX4_teaches_23 : decode cX4_teaches 23 = .ok (.getfield 12, 3) := by decide +kernel
theorem dX4_teaches_26 : decode cX4_teaches 26 = .ok (.iload_n 1, 1) := by decide +kernel
theorem dX4_teaches_27 : decode cX4_teaches 27 = .ok (.iload_n 2, 1) := by decide +kernel
theorem dX4_teaches_28 : decode cX4_teaches 28 = .ok (.invokevirtual 181, 3) := by decide +kernel
theorem dX4_teaches_31 : decode cX4_teaches 31 = .ok (.ireturn, 1) := by decide +kernel
set_option maxRecDepth 20000 in
theorem ggX4_distance_X2_isCase : GoodIn wsX4_distance wsX2_isCase := goodIn_r _ [8, 9, 10, 11, 7, 12, 13, 43, 44, 45, 46, 47, 48, 49, 50, 51] (by decide +kernel) (by decide +kernel)
set_option maxRecDepth 20000 in
theorem gX4_distance_X2_isCase : GoodIn wsX4_distance (wsV RX4 90 RX2 yX2_isCase wsX2_isCase) := goodIn_app (goodIn_of _ (by decide +kernel)) ggX4_distance_X2_isCase
set_option maxRecDepth 20000 in
theorem ggX4_distance_X3_codeWord : GoodIn wsX4_distance wsX3_codeWord := goodIn_r _ [18, 19, 20, 21, 22, 23, 24, 25, 26, 27, 28, 29, 52, 53, 54, 55] (by decide +kernel) (by decide +kernel)
set_option maxRecDepth 20000 in
theorem gX4_distance_X3_codeWord : GoodIn wsX4_distance (wsV RX4 184 RX3 yX3_codeWord wsX3_codeWord) := goodIn_app (goodIn_of _ (by decide +kernel)) ggX4_distance_X3_codeWord
set_option maxRecDepth 20000 in
theorem ggX4_distance_X4_differences : GoodIn wsX4_distance wsX4_differences := goodIn_r _ [32, 33, 34, 35, 36, 37, 38, 39] (by decide +kernel) (by decide +kernel)
set_option maxRecDepth 20000 in
theorem gX4_distance_X4_differences : GoodIn wsX4_distance (va_wsS RX4 187 yX4_differences wsX4_differences) := goodIn_app (goodIn_of _ (by decide +kernel)) ggX4_distance_X4_differences
theorem dX4_distance_0 : decode cX4_distance 0 = .ok (.aload_n 0, 1) := by decide +kernel
theorem dX4_distance_1 : decode cX4_distance 1 = .ok (.getfield 12, 3) := by decide +kernel
theorem dX4_distance_4 : decode cX4_distance 4 = .ok (.iload_n 1, 1) := by decide +kernel
theorem dX4_distance_5 : decode cX4_distance 5 = .ok (.invokevirtual 90, 3) := by decide +kernel
theorem dX4_distance_8 : decode cX4_distance 8 = .ok (.ifCond .eq 14, 3) := by decide +kernel
theorem dX4_distance_11 : decode cX4_distance 11 = .ok (.aload_n 0, 1) := by decide +kernel
theorem dX4_distance_12 : decode cX4_distance 12 = .ok (.getfield 12, 3) := by decide +kernel
theorem dX4_distance_15 : decode cX4_distance 15 = .ok (.iload_n 2, 1) := by decide +kernel
theorem dX4_distance_16 : decode cX4_distance 16 = .ok (.invokevirtual 90, 3) := by decide +kernel
theorem dX4_distance_19 : decode cX4_distance 19 = .ok (.ifCond .ne 13, 3) := by decide +kernel
theorem dX4_distance_22 : decode cX4_distance 22 = .ok (.new 93, 3) := by decide +kernel
theorem dX4_distance_25 : decode cX4_distance 25 = .ok (.dup, 1) := by decide +kernel
theorem dX4_distance_26 : decode cX4_distance 26 = .ok (.ldc 95, 2) := by decide +kernel
theorem dX4_distance_28 : decode cX4_distance 28 = .ok (.invokespecial 97, 3) := by decide +kernel
theorem dX4_distance_31 : decode cX4_distance 31 = .ok (.athrow, 1) := by decide +kernel
theorem dX4_distance_32 : decode cX4_distance 32 = .ok (.aload_n 0, 1) := by decide +kernel
theorem dX4_distance_33 : decode cX4_distance 33 = .ok (.getfield 12, 3) := by decide +kernel
theorem dX4_distance_36 : decode cX4_distance 36 = .ok (.getfield 122, 3) := by decide +kernel
theorem dX4_distance_39 : decode cX4_distance 39 = .ok (.iload_n 1, 1) := by decide +kernel
theorem dX4_distance_40 : decode cX4_distance 40 = .ok (.invokevirtual 184, 3) := by decide +kernel
theorem dX4_distance_43 : decode cX4_distance 43 = .ok (.aload_n 0, 1) := by decide +kernel
theorem dX4_distance_44 : decode cX4_distance 44 = .ok (.getfield 12, 3) := by decide +kernel
theorem dX4_distance_47 : decode cX4_distance 47 = .ok (.getfield 122, 3) := by decide +kernel
theorem dX4_distance_50 : decode cX4_distance 50 = .ok (.iload_n 2, 1) := by decide +kernel
theorem dX4_distance_51 : decode cX4_distance 51 = .ok (.invokevirtual 184, 3) := by decide +kernel
theorem dX4_distance_54 : decode cX4_distance 54 = .ok (.invokestatic 187, 3) := by decide +kernel
theorem dX4_distance_57 : decode cX4_distance 57 = .ok (.ireturn, 1) := by decide +kernel
set_option maxRecDepth 20000 in
theorem ggX4_leastDistance_X2_leastDifferences : GoodIn wsX4_leastDistance wsX2_leastDifferences := goodIn_r _ [6, 7, 8, 9, 10, 11, 12, 13, 14, 15, 5, 16, 17, 18, 19, 20, 21, 22, 23, 24, 25, 26, 27, 28, 29, 30, 31, 32, 33, 34, 35, 36, 37, 38, 39, 40, 41, 42, 43, 44, 48, 49, 50, 51, 52, 53, 54, 55, 56, 57, 58, 59, 60] (by decide +kernel) (by decide +kernel)
set_option maxRecDepth 20000 in
theorem gX4_leastDistance_X2_leastDifferences : GoodIn wsX4_leastDistance (wsV RX4 190 RX2 yX2_leastDifferences wsX2_leastDifferences) := goodIn_app (goodIn_of _ (by decide +kernel)) ggX4_leastDistance_X2_leastDifferences
theorem dX4_leastDistance_0 : decode cX4_leastDistance 0 = .ok (.aload_n 0, 1) := by decide +kernel
theorem dX4_leastDistance_1 : decode cX4_leastDistance 1 = .ok (.getfield 12, 3) := by decide +kernel
theorem dX4_leastDistance_4 : decode cX4_leastDistance 4 = .ok (.invokevirtual 190, 3) := by decide +kernel
theorem dX4_leastDistance_7 : decode cX4_leastDistance 7 = .ok (.ireturn, 1) := by decide +kernel
set_option maxRecDepth 20000 in
theorem ggX4_bears_X2_leastDifferences : GoodIn wsX4_bears wsX2_leastDifferences := goodIn_r _ [6, 7, 8, 9, 10, 11, 12, 13, 14, 15, 5, 16, 17, 18, 19, 20, 21, 22, 23, 24, 25, 26, 27, 28, 29, 30, 31, 32, 33, 34, 35, 36, 37, 38, 39, 40, 41, 42, 43, 44, 48, 49, 50, 51, 52, 53, 54, 55, 56, 57, 58, 59, 60] (by decide +kernel) (by decide +kernel)
set_option maxRecDepth 20000 in
theorem gX4_bears_X2_leastDifferences : GoodIn wsX4_bears (wsV RX4 190 RX2 yX2_leastDifferences wsX2_leastDifferences) := goodIn_app (goodIn_of _ (by decide +kernel)) ggX4_bears_X2_leastDifferences
theorem dX4_bears_0 : decode cX4_bears 0 = .ok (.aload_n 0, 1) := by decide +kernel
theorem dX4_bears_1 : decode cX4_bears 1 = .ok (.getfield 12, 3) := by decide +kernel
theorem dX4_bears_4 : decode cX4_bears 4 = .ok (.invokevirtual 190, 3) := by decide +kernel
theorem dX4_bears_7 : decode cX4_bears 7 = .ok (.istore_n 1, 1) := by decide +kernel
theorem dX4_bears_8 : decode cX4_bears 8 = .ok (.iload_n 1, 1) := by decide +kernel
theorem dX4_bears_9 : decode cX4_bears 9 = .ok (.ifCond .ne 7, 3) := by decide +kernel
theorem dX4_bears_12 : decode cX4_bears 12 = .ok (.iconst (-1), 1) := by decide +kernel
theorem dX4_bears_13 : decode cX4_bears 13 = .ok (.goto 8, 3) := by decide +kernel
theorem dX4_bears_16 : decode cX4_bears 16 = .ok (.iload_n 1, 1) := by decide +kernel
theorem dX4_bears_17 : decode cX4_bears 17 = .ok (.iconst 1, 1) := by decide +kernel
theorem dX4_bears_18 : decode cX4_bears 18 = .ok (.isub, 1) := by decide +kernel
theorem dX4_bears_19 : decode cX4_bears 19 = .ok (.iconst 2, 1) := by decide +kernel
theorem dX4_bears_20 : decode cX4_bears 20 = .ok (.idiv, 1) := by decide +kernel
theorem dX4_bears_21 : decode cX4_bears 21 = .ok (.ireturn, 1) := by decide +kernel
set_option maxRecDepth 20000 in
theorem ggX4_decode_X3_answerRows : GoodIn wsX4_decode wsX3_answerRows := goodIn_r _ [8, 9, 59, 60, 61, 62] (by decide +kernel) (by decide +kernel)
set_option maxRecDepth 20000 in
theorem gX4_decode_X3_answerRows : GoodIn wsX4_decode (wsV RX4 193 RX3 yX3_answerRows wsX3_answerRows) := goodIn_app (goodIn_of _ (by decide +kernel)) ggX4_decode_X3_answerRows
set_option maxRecDepth 20000 in
theorem ggX4_decode_X4_wordOf : GoodIn wsX4_decode wsX4_wordOf := goodIn_r _ [13] (by decide +kernel) (by decide +kernel)
set_option maxRecDepth 20000 in
theorem gX4_decode_X4_wordOf : GoodIn wsX4_decode (va_wsS RX4 198 yX4_wordOf wsX4_wordOf) := goodIn_app (goodIn_of _ (by decide +kernel)) ggX4_decode_X4_wordOf
set_option maxRecDepth 20000 in
theorem ggX4_decode_X2_nearestCase : GoodIn wsX4_decode wsX2_nearestCase := goodIn_r _ [18, 19, 20, 21, 22, 17, 23, 24, 25, 26, 27, 7, 28, 9, 29, 30, 31, 12, 32, 33, 34, 35, 36, 37, 38, 39, 40, 41, 42, 43, 44, 45, 46, 50, 51, 52, 53, 54, 55, 56, 57, 58, 59, 60, 61, 62] (by decide +kernel) (by decide +kernel)
set_option maxRecDepth 20000 in
theorem gX4_decode_X2_nearestCase : GoodIn wsX4_decode (wsV RX4 201 RX2 yX2_nearestCase wsX2_nearestCase) := goodIn_app (goodIn_of _ (by decide +kernel)) ggX4_decode_X2_nearestCase
theorem dX4_decode_0 : decode cX4_decode 0 = .ok (.iload_n 1, 1) := by decide +kernel
theorem dX4_decode_1 : decode cX4_decode 1 = .ok (.ifCond .lt 17, 3) := by decide +kernel
theorem dX4_decode_4 : decode cX4_decode 4 = .ok (.iload_n 1, 1) := by decide +kernel
theorem dX4_decode_5 : decode cX4_decode 5 = .ok (.aload_n 0, 1) := by decide +kernel
theorem dX4_decode_6 : decode cX4_decode 6 = .ok (.getfield 12, 3) := by decide +kernel
theorem dX4_decode_9 : decode cX4_decode 9 = .ok (.getfield 122, 3) := by decide +kernel
theorem dX4_decode_12 : decode cX4_decode 12 = .ok (.invokevirtual 193, 3) := by decide +kernel
theorem dX4_decode_15 : decode cX4_decode 15 = .ok (.if_icmp .lt 13, 3) := by decide +kernel
theorem dX4_decode_18 : decode cX4_decode 18 = .ok (.new 30, 3) := by decide +kernel
theorem dX4_decode_21 : decode cX4_decode 21 = .ok (.dup, 1) := by decide +kernel
theorem dX4_decode_22 : decode cX4_decode 22 = .ok (.ldc 196, 2) := by decide +kernel
theorem dX4_decode_24 : decode cX4_decode 24 = .ok (.invokespecial 34, 3) := by decide +kernel
theorem dX4_decode_27 : decode cX4_decode 27 = .ok (.athrow, 1) := by decide +kernel
theorem dX4_decode_28 : decode cX4_decode 28 = .ok (.aload_n 0, 1) := by decide +kernel
theorem dX4_decode_29 : decode cX4_decode 29 = .ok (.getfield 12, 3) := by decide +kernel
theorem dX4_decode_32 : decode cX4_decode 32 = .ok (.iload_n 1, 1) := by decide +kernel
theorem dX4_decode_33 : decode cX4_decode 33 = .ok (.invokestatic 198, 3) := by decide +kernel
theorem dX4_decode_36 : decode cX4_decode 36 = .ok (.invokevirtual 201, 3) := by decide +kernel
theorem dX4_decode_39 : decode cX4_decode 39 = .ok (.ireturn, 1) := by decide +kernel
set_option maxRecDepth 20000 in
theorem ggX4_share_X2_countLeft : GoodIn wsX4_share wsX2_countLeft := goodIn_r _ [6, 7, 8, 9, 5, 10, 11, 12, 13, 14, 15, 16, 17, 18, 19, 20, 25, 26, 27, 28, 29, 30, 31, 32, 33] (by decide +kernel) (by decide +kernel)
set_option maxRecDepth 20000 in
theorem gX4_share_X2_countLeft : GoodIn wsX4_share (wsV RX4 60 RX2 yX2_countLeft wsX2_countLeft) := goodIn_app (goodIn_of _ (by decide +kernel)) ggX4_share_X2_countLeft
set_option maxRecDepth 20000 in
theorem ggX4_share_X2_cases : GoodIn wsX4_share wsX2_cases := goodIn_r _ [10, 11, 25, 26, 27, 28, 29, 30, 31, 32, 33] (by decide +kernel) (by decide +kernel)
set_option maxRecDepth 20000 in
theorem gX4_share_X2_cases : GoodIn wsX4_share (wsV RX4 204 RX2 yX2_cases wsX2_cases) := goodIn_app (goodIn_of _ (by decide +kernel)) ggX4_share_X2_cases
theorem dX4_share_0 : decode cX4_share 0 = .ok (.aload_n 0, 1) := by decide +kernel
theorem dX4_share_1 : decode cX4_share 1 = .ok (.getfield 12, 3) := by decide +kernel
theorem dX4_share_4 : decode cX4_share 4 = .ok (.invokevirtual 60, 3) := by decide +kernel
theorem dX4_share_7 : decode cX4_share 7 = .ok (.i2d, 1) := by decide +kernel
theorem dX4_share_8 : decode cX4_share 8 = .ok (.aload_n 0, 1) := by decide +kernel
theorem dX4_share_9 : decode cX4_share 9 = .ok (.getfield 12, 3) := by decide +kernel
theorem dX4_share_12 : decode cX4_share 12 = .ok (.invokevirtual 204, 3) := by decide +kernel
theorem dX4_share_15 : decode cX4_share 15 = .ok (.i2d, 1) := by decide +kernel
theorem dX4_share_16 : decode cX4_share 16 = .ok (.ddiv, 1) := by decide +kernel
theorem dX4_share_17 : decode cX4_share 17 = .ok (.dreturn, 1) := by decide +kernel
set_option maxRecDepth 20000 in
theorem ggX4_append_X1_write : GoodIn wsX4_append wsX1_write := goodIn_r _ [10, 11, 12, 13, 14, 15, 19, 20, 21, 22, 23, 24, 25, 26, 27] (by decide +kernel) (by decide +kernel)
set_option maxRecDepth 20000 in
theorem gX4_append_X1_write : GoodIn wsX4_append (wsV RX4 214 RX1 yX1_write wsX1_write) := goodIn_app (goodIn_of _ (by decide +kernel)) ggX4_append_X1_write
theorem dX4_append_0 : decode cX4_append 0 = .ok (.iload_n 1, 1) := by decide +kernel
theorem dX4_append_1 : decode cX4_append 1 = .ok (.ifCond .lt 9, 3) := by decide +kernel
theorem dX4_append_4 : decode cX4_append 4 = .ok (.iload_n 1, 1) := by decide +kernel
theorem dX4_append_5 : decode cX4_append 5 = .ok (.bipush 127, 2) := by decide +kernel
theorem dX4_append_7 : decode cX4_append 7 = .ok (.if_icmp .le 13, 3) := by decide +kernel
theorem dX4_append_10 : decode cX4_append 10 = .ok (.new 30, 3) := by decide +kernel
theorem dX4_append_13 : decode cX4_append 13 = .ok (.dup, 1) := by decide +kernel
theorem dX4_append_14 : decode cX4_append 14 = .ok (.ldc 207, 2) := by decide +kernel
theorem dX4_append_16 : decode cX4_append 16 = .ok (.invokespecial 34, 3) := by decide +kernel
theorem dX4_append_19 : decode cX4_append 19 = .ok (.athrow, 1) := by decide +kernel
theorem dX4_append_20 : decode cX4_append 20 = .ok (.aload_n 0, 1) := by decide +kernel
theorem dX4_append_21 : decode cX4_append 21 = .ok (.getfield 26, 3) := by decide +kernel
theorem dX4_append_24 : decode cX4_append 24 = .ok (.getfield 209, 3) := by decide +kernel
theorem dX4_append_27 : decode cX4_append 27 = .ok (.bipush 100, 2) := by decide +kernel
theorem dX4_append_29 : decode cX4_append 29 = .ok (.if_icmp .lt 13, 3) := by decide +kernel
theorem dX4_append_32 : decode cX4_append 32 = .ok (.new 78, 3) := by decide +kernel
theorem dX4_append_35 : decode cX4_append 35 = .ok (.dup, 1) := by decide +kernel
theorem dX4_append_36 : decode cX4_append 36 = .ok (.ldc 212, 2) := by decide +kernel
theorem dX4_append_38 : decode cX4_append 38 = .ok (.invokespecial 82, 3) := by decide +kernel
theorem dX4_append_41 : decode cX4_append 41 = .ok (.athrow, 1) := by decide +kernel
theorem dX4_append_42 : decode cX4_append 42 = .ok (.aload_n 0, 1) := by decide +kernel
theorem dX4_append_43 : decode cX4_append 43 = .ok (.getfield 26, 3) := by decide +kernel
theorem dX4_append_46 : decode cX4_append 46 = .ok (.iload_n 1, 1) := by decide +kernel
theorem dX4_append_47 : decode cX4_append 47 = .ok (.invokevirtual 214, 3) := by decide +kernel
theorem dX4_append_50 : decode cX4_append 50 = .ok (.aload_n 0, 1) := by decide +kernel
theorem dX4_append_51 : decode cX4_append 51 = .ok (.getfield 26, 3) := by decide +kernel
theorem dX4_append_54 : decode cX4_append 54 = .ok (.getfield 209, 3) := by decide +kernel
theorem dX4_append_57 : decode cX4_append 57 = .ok (.ireturn, 1) := by decide +kernel
theorem dX4_clearText_0 : decode cX4_clearText 0 = .ok (.aload_n 0, 1) := by decide +kernel
theorem dX4_clearText_1 : decode cX4_clearText 1 = .ok (.getfield 26, 3) := by decide +kernel
theorem dX4_clearText_4 : decode cX4_clearText 4 = .ok (.getfield 209, 3) := by decide +kernel
theorem dX4_clearText_7 : decode cX4_clearText 7 = .ok (.istore_n 1, 1) := by decide +kernel
theorem dX4_clearText_8 : decode cX4_clearText 8 = .ok (.aload_n 0, 1) := by decide +kernel
theorem dX4_clearText_9 : decode cX4_clearText 9 = .ok (.getfield 26, 3) := by decide +kernel
theorem dX4_clearText_12 : decode cX4_clearText 12 = .ok (.iconst 0, 1) := by decide +kernel
theorem dX4_clearText_13 : decode cX4_clearText 13 = .ok (.putfield 209, 3) := by decide +kernel
theorem dX4_clearText_16 : decode cX4_clearText 16 = .ok (.iload_n 1, 1) := by decide +kernel
theorem dX4_clearText_17 : decode cX4_clearText 17 = .ok (.ireturn, 1) := by decide +kernel
set_option maxRecDepth 20000 in
theorem ggX4_carryOut_X1_read : GoodIn wsX4_carryOut wsX1_read := goodIn_r _ [8, 9, 10, 11, 12, 13, 14, 15, 16, 17, 18, 7, 19, 20, 21, 22, 23, 24, 25, 26, 27, 28, 29, 30, 31, 32, 33, 34, 35, 36, 37, 38, 39, 40, 41, 42, 43, 44, 45, 46, 47, 48, 49, 50, 51, 52, 53, 54, 55, 56, 57, 58, 170, 171, 172, 173, 174, 175, 176, 177, 178] (by decide +kernel) (by decide +kernel)
set_option maxRecDepth 20000 in
theorem gX4_carryOut_X1_read : GoodIn wsX4_carryOut (wsV RX4 217 RX1 yX1_read wsX1_read) := goodIn_app (goodIn_of _ (by decide +kernel)) ggX4_carryOut_X1_read
set_option maxRecDepth 20000 in
theorem ggX4_carryOut_X0_save : GoodIn wsX4_carryOut wsX0_save := goodIn_r _ [63, 64, 65, 66, 67, 68, 62, 69, 70, 71, 72, 73, 74, 75, 76, 77, 78, 79, 80, 81, 82, 83, 84, 85, 86, 87, 88, 89, 90, 91, 92, 93, 94, 95, 96, 14, 97, 98, 99, 100, 101, 102, 103, 104, 105, 179, 180, 181, 182, 183, 184, 185, 186, 187, 188, 189, 190, 191, 192, 193] (by decide +kernel) (by decide +kernel)
set_option maxRecDepth 20000 in
theorem gX4_carryOut_X0_save : GoodIn wsX4_carryOut (wsV RX4 37 RX0 yX0_save wsX0_save) := goodIn_app (goodIn_of _ (by decide +kernel)) ggX4_carryOut_X0_save
set_option maxRecDepth 20000 in
theorem ggX4_carryOut_X4_at : GoodIn wsX4_carryOut wsX4_at := goodIn_r _ [15] (by decide +kernel) (by decide +kernel)
set_option maxRecDepth 20000 in
theorem gX4_carryOut_X4_at : GoodIn wsX4_carryOut (va_wsS RX4 137 yX4_at wsX4_at) := goodIn_app (goodIn_of _ (by decide +kernel)) ggX4_carryOut_X4_at
set_option maxRecDepth 20000 in
theorem ggX4_carryOut_X2_obey : GoodIn wsX4_carryOut wsX2_obey := goodIn_r _ [110, 111, 112, 113, 77, 114, 82, 115, 116, 117, 118, 119, 120, 121, 122, 123, 124, 125, 126, 127, 128, 129, 84, 86, 130, 131, 132, 133, 79, 134, 135, 136, 137, 80, 138, 139, 140, 141, 85, 142, 14, 143, 144, 145, 146, 147, 148, 149, 150, 81, 151, 152, 153, 90, 154, 95, 92, 93, 94, 49, 50, 155, 156, 157, 158, 159, 160, 161, 162, 13, 15, 163, 164, 165, 166, 181, 182, 183, 184, 185, 186, 187, 188, 189, 190, 191, 192, 193] (by decide +kernel) (by decide +kernel)
set_option maxRecDepth 20000 in
theorem gX4_carryOut_X2_obey : GoodIn wsX4_carryOut (wsV RX4 230 RX2 yX2_obey wsX2_obey) := goodIn_app (goodIn_of _ (by decide +kernel)) ggX4_carryOut_X2_obey
theorem dX4_carryOut_0 : decode cX4_carryOut 0 = .ok (.aload_n 0, 1) := by decide +kernel
theorem dX4_carryOut_1 : decode cX4_carryOut 1 = .ok (.getfield 26, 3) := by decide +kernel
theorem dX4_carryOut_4 : decode cX4_carryOut 4 = .ok (.invokevirtual 217, 3) := by decide +kernel
theorem dX4_carryOut_7 : decode cX4_carryOut 7 = .ok (.istore_n 1, 1) := by decide +kernel
theorem dX4_carryOut_8 : decode cX4_carryOut 8 = .ok (.iload_n 1, 1) := by decide +kernel
theorem dX4_carryOut_9 : decode cX4_carryOut 9 = .ok (.iconst (-1), 1) := by decide +kernel
theorem dX4_carryOut_10 : decode cX4_carryOut 10 = .ok (.if_icmp .eq 8, 3) := by decide +kernel
theorem dX4_carryOut_13 : decode cX4_carryOut 13 = .ok (.bipush (-10), 2) := by decide +kernel
theorem dX4_carryOut_15 : decode cX4_carryOut 15 = .ok (.iload_n 1, 1) := by decide +kernel
theorem dX4_carryOut_16 : decode cX4_carryOut 16 = .ok (.isub, 1) := by decide +kernel
theorem dX4_carryOut_17 : decode cX4_carryOut 17 = .ok (.ireturn, 1) := by decide +kernel
theorem dX4_carryOut_18 : decode cX4_carryOut 18 = .ok (.aload_n 0, 1) := by decide +kernel
theorem dX4_carryOut_19 : decode cX4_carryOut 19 = .ok (.getfield 19, 3) := by decide +kernel
theorem dX4_carryOut_22 : decode cX4_carryOut 22 = .ok (.aload_n 0, 1) := by decide +kernel
theorem dX4_carryOut_23 : decode cX4_carryOut 23 = .ok (.getfield 12, 3) := by decide +kernel
theorem dX4_carryOut_26 : decode cX4_carryOut 26 = .ok (.invokevirtual 37, 3) := by decide +kernel
theorem dX4_carryOut_29 : decode cX4_carryOut 29 = .ok (.iconst 0, 1) := by decide +kernel
theorem dX4_carryOut_30 : decode cX4_carryOut 30 = .ok (.istore_n 2, 1) := by decide +kernel
theorem dX4_carryOut_31 : decode cX4_carryOut 31 = .ok (.iload_n 2, 1) := by decide +kernel
theorem dX4_carryOut_32 : decode cX4_carryOut 32 = .ok (.aload_n 0, 1) := by decide +kernel
theorem dX4_carryOut_33 : decode cX4_carryOut 33 = .ok (.getfield 26, 3) := by decide +kernel
theorem dX4_carryOut_36 : decode cX4_carryOut 36 = .ok (.getfield 220, 3) := by decide +kernel
theorem dX4_carryOut_39 : decode cX4_carryOut 39 = .ok (.if_icmp .ge 54, 3) := by decide +kernel
theorem dX4_carryOut_42 : decode cX4_carryOut 42 = .ok (.aload_n 0, 1) := by decide +kernel
theorem dX4_carryOut_43 : decode cX4_carryOut 43 = .ok (.getfield 12, 3) := by decide +kernel
theorem dX4_carryOut_46 : decode cX4_carryOut 46 = .ok (.aload_n 0, 1) := by decide +kernel
theorem dX4_carryOut_47 : decode cX4_carryOut 47 = .ok (.getfield 26, 3) := by decide +kernel
theorem dX4_carryOut_50 : decode cX4_carryOut 50 = .ok (.getfield 221, 3) := by decide +kernel
theorem dX4_carryOut_53 : decode cX4_carryOut 53 = .ok (.iload_n 2, 1) := by decide +kernel
theorem dX4_carryOut_54 : decode cX4_carryOut 54 = .ok (.invokestatic 137, 3) := by decide +kernel
theorem dX4_carryOut_57 : decode cX4_carryOut 57 = .ok (.aload_n 0, 1) := by decide +kernel
theorem dX4_carryOut_58 : decode cX4_carryOut 58 = .ok (.getfield 26, 3) := by decide +kernel
theorem dX4_carryOut_61 : decode cX4_carryOut 61 = .ok (.getfield 224, 3) := by decide +kernel
theorem dX4_carryOut_64 : decode cX4_carryOut 64 = .ok (.iload_n 2, 1) := by decide +kernel
theorem dX4_carryOut_65 : decode cX4_carryOut 65 = .ok (.invokestatic 137, 3) := by decide +kernel
theorem dX4_carryOut_68 : decode cX4_carryOut 68 = .ok (.aload_n 0, 1) := by decide +kernel
theorem dX4_carryOut_69 : decode cX4_carryOut 69 = .ok (.getfield 26, 3) := by decide +kernel
theorem dX4_carryOut_72 : decode cX4_carryOut 72 = .ok (.getfield 227, 3) := by decide +kernel
theorem dX4_carryOut_75 : decode cX4_carryOut 75 = .ok (.iload_n 2, 1) := by decide +kernel
theorem dX4_carryOut_76 : decode cX4_carryOut 76 = .ok (.invokestatic 137, 3) := by decide +kernel
theorem dX4_carryOut_79 : decode cX4_carryOut 79 = .ok (.invokevirtual 230, 3) := by decide +kernel
theorem dX4_carryOut_82 : decode cX4_carryOut 82 = .ok (.ifCond .ne 5, 3) := by decide +kernel
theorem dX4_carryOut_85 : decode cX4_carryOut 85 = .ok (.iload_n 2, 1) := by decide +kernel
theorem dX4_carryOut_86 : decode cX4_carryOut 86 = .ok (.ireturn, 1) := by decide +kernel
theorem dX4_carryOut_87 : decode cX4_carryOut 87 = .ok (.iinc 2 1, 3) := by decide +kernel
theorem dX4_carryOut_90 : decode cX4_carryOut 90 = .ok (.goto (-59), 3) := by decide +kernel
theorem dX4_carryOut_93 : decode cX4_carryOut 93 = .ok (.aload_n 0, 1) := by decide +kernel
theorem dX4_carryOut_94 : decode cX4_carryOut 94 = .ok (.getfield 26, 3) := by decide +kernel
theorem dX4_carryOut_97 : decode cX4_carryOut 97 = .ok (.getfield 220, 3) := by decide +kernel
theorem dX4_carryOut_100 : decode cX4_carryOut 100 = .ok (.ireturn, 1) := by decide +kernel
set_option maxRecDepth 20000 in
theorem ggX4_undo_X0_restore : GoodIn wsX4_undo wsX0_restore := goodIn_r _ [9, 10, 11, 12, 13, 8, 14, 15, 16, 17, 18, 19, 20, 21, 22, 23, 24, 25, 26, 27, 28, 29, 30, 31, 32, 33, 34, 35, 36, 37, 38, 39, 40, 41, 42, 43, 44, 45, 46, 47, 48, 52, 53, 54, 55, 56, 57, 58, 59, 60, 61, 62, 63, 64, 65, 66] (by decide +kernel) (by decide +kernel)
set_option maxRecDepth 20000 in
theorem gX4_undo_X0_restore : GoodIn wsX4_undo (wsV RX4 237 RX0 yX0_restore wsX0_restore) := goodIn_app (goodIn_of _ (by decide +kernel)) ggX4_undo_X0_restore
theorem dX4_undo_0 : decode cX4_undo 0 = .ok (.aload_n 0, 1) := by decide +kernel
theorem dX4_undo_1 : decode cX4_undo 1 = .ok (.getfield 19, 3) := by decide +kernel
theorem dX4_undo_4 : decode cX4_undo 4 = .ok (.getfield 234, 3) := by decide +kernel
theorem dX4_undo_7 : decode cX4_undo 7 = .ok (.ifCond .ne 13, 3) := by decide +kernel
theorem dX4_undo_10 : decode cX4_undo 10 = .ok (.new 78, 3) := by decide +kernel
theorem dX4_undo_13 : decode cX4_undo 13 = .ok (.dup, 1) := by decide +kernel
theorem dX4_undo_14 : decode cX4_undo 14 = .ok (.ldc 235, 2) := by decide +kernel
theorem dX4_undo_16 : decode cX4_undo 16 = .ok (.invokespecial 82, 3) := by decide +kernel
theorem dX4_undo_19 : decode cX4_undo 19 = .ok (.athrow, 1) := by decide +kernel
theorem dX4_undo_20 : decode cX4_undo 20 = .ok (.aload_n 0, 1) := by decide +kernel
theorem dX4_undo_21 : decode cX4_undo 21 = .ok (.getfield 19, 3) := by decide +kernel
theorem dX4_undo_24 : decode cX4_undo 24 = .ok (.aload_n 0, 1) := by decide +kernel
theorem dX4_undo_25 : decode cX4_undo 25 = .ok (.getfield 12, 3) := by decide +kernel
theorem dX4_undo_28 : decode cX4_undo 28 = .ok (.invokevirtual 237, 3) := by decide +kernel
theorem dX4_undo_31 : decode cX4_undo 31 = .ok (.aload_n 0, 1) := by decide +kernel
theorem dX4_undo_32 : decode cX4_undo 32 = .ok (.getfield 19, 3) := by decide +kernel
theorem dX4_undo_35 : decode cX4_undo 35 = .ok (.getfield 234, 3) := by decide +kernel
theorem dX4_undo_38 : decode cX4_undo 38 = .ok (.ireturn, 1) := by decide +kernel
set_option maxRecDepth 20000 in
theorem ggX4_digest_X4_mix : GoodIn wsX4_digest wsX4_mix := goodIn_r _ [8, 9] (by decide +kernel) (by decide +kernel)
set_option maxRecDepth 20000 in
theorem gX4_digest_X4_mix : GoodIn wsX4_digest (va_wsS RX4 242 yX4_mix wsX4_mix) := goodIn_app (goodIn_of _ (by decide +kernel)) ggX4_digest_X4_mix
set_option maxRecDepth 20000 in
theorem ggX4_digest_X2_number : GoodIn wsX4_digest wsX2_number := goodIn_r _ [14, 15, 16, 17, 18, 19, 20, 21, 22, 23, 13, 24, 25, 26, 27, 28, 29, 30, 31, 32, 33, 34, 7, 35, 36, 37, 38, 39, 40, 41, 127, 128, 129, 130, 131, 132, 133, 134, 135, 136, 137, 138, 139] (by decide +kernel) (by decide +kernel)
set_option maxRecDepth 20000 in
theorem gX4_digest_X2_number : GoodIn wsX4_digest (wsV RX4 158 RX2 yX2_number wsX2_number) := goodIn_app (goodIn_of _ (by decide +kernel)) ggX4_digest_X2_number
set_option maxRecDepth 20000 in
theorem ggX4_digest_X3_part : GoodIn wsX4_digest wsX3_part := goodIn_r _ [46, 47, 48, 49, 34, 7, 35, 136, 137, 138, 139] (by decide +kernel) (by decide +kernel)
set_option maxRecDepth 20000 in
theorem gX4_digest_X3_part : GoodIn wsX4_digest (wsV RX4 155 RX3 yX3_part wsX3_part) := goodIn_app (goodIn_of _ (by decide +kernel)) ggX4_digest_X3_part
set_option maxRecDepth 20000 in
theorem ggX4_digest_X2_cases : GoodIn wsX4_digest wsX2_cases := goodIn_r _ [28, 15, 127, 128, 129, 130, 131, 132, 133, 134, 135] (by decide +kernel) (by decide +kernel)
set_option maxRecDepth 20000 in
theorem gX4_digest_X2_cases : GoodIn wsX4_digest (wsV RX4 204 RX2 yX2_cases wsX2_cases) := goodIn_app (goodIn_of _ (by decide +kernel)) ggX4_digest_X2_cases
set_option maxRecDepth 20000 in
theorem ggX4_digest_X4_at : GoodIn wsX4_digest wsX4_at := goodIn_r _ [35] (by decide +kernel) (by decide +kernel)
set_option maxRecDepth 20000 in
theorem gX4_digest_X4_at : GoodIn wsX4_digest (va_wsS RX4 137 yX4_at wsX4_at) := goodIn_app (goodIn_of _ (by decide +kernel)) ggX4_digest_X4_at
set_option maxRecDepth 20000 in
theorem ggX4_digest_X2_leastDifferences : GoodIn wsX4_digest wsX2_leastDifferences := goodIn_r _ [55, 56, 18, 57, 58, 59, 60, 25, 26, 27, 13, 28, 15, 61, 62, 63, 45, 64, 65, 47, 48, 34, 7, 35, 66, 67, 68, 40, 41, 69, 70, 71, 72, 73, 74, 75, 76, 77, 78, 79, 127, 128, 129, 130, 131, 132, 133, 134, 135, 136, 137, 138, 139] (by decide +kernel) (by decide +kernel)
set_option maxRecDepth 20000 in
theorem gX4_digest_X2_leastDifferences : GoodIn wsX4_digest (wsV RX4 190 RX2 yX2_leastDifferences wsX2_leastDifferences) := goodIn_app (goodIn_of _ (by decide +kernel)) ggX4_digest_X2_leastDifferences
set_option maxRecDepth 20000 in
theorem ggX4_digest_X4_bound : GoodIn wsX4_digest wsX4_bound := goodIn_r _ [83, 3, 84, 85, 86, 87, 13, 88, 33, 25, 26, 27, 28, 15, 34, 7, 35, 89, 90, 91, 92, 16, 93, 94, 95, 58, 59, 60, 115, 116, 117, 127, 128, 129, 130, 131, 132, 133, 134, 135] (by decide +kernel) (by decide +kernel)
set_option maxRecDepth 20000 in
theorem gX4_digest_X4_bound : GoodIn wsX4_digest (wsV RX4 248 RX4 yX4_bound wsX4_bound) := goodIn_app (goodIn_of _ (by decide +kernel)) ggX4_digest_X4_bound
set_option maxRecDepth 20000 in
theorem ggX4_digest_X2_weightAhead : GoodIn wsX4_digest wsX2_weightAhead := goodIn_r _ [88, 33, 25, 26, 27, 13, 28, 15, 34, 7, 35, 89, 90, 91, 92, 16, 93, 94, 95, 58, 59, 60, 127, 128, 129, 130, 131, 132, 133, 134, 135] (by decide +kernel) (by decide +kernel)
set_option maxRecDepth 20000 in
theorem gX4_digest_X2_weightAhead : GoodIn wsX4_digest (wsV RX4 166 RX2 yX2_weightAhead wsX2_weightAhead) := goodIn_app (goodIn_of _ (by decide +kernel)) ggX4_digest_X2_weightAhead
set_option maxRecDepth 20000 in
theorem ggX4_digest_X2_findGroup : GoodIn wsX4_digest wsX2_findGroup := goodIn_r _ [99, 15, 100, 101, 102, 13, 103, 104, 105, 59, 106, 107, 108, 109, 110, 25, 26, 27, 28, 111, 112, 113, 114, 33, 34, 7, 35, 66, 67, 68, 40, 41, 89, 90, 91, 92, 16, 93, 94, 95, 58, 60, 127, 128, 129, 130, 131, 132, 133, 134, 135] (by decide +kernel) (by decide +kernel)
set_option maxRecDepth 20000 in
theorem gX4_digest_X2_findGroup : GoodIn wsX4_digest (wsV RX4 178 RX2 yX2_findGroup wsX2_findGroup) := goodIn_app (goodIn_of _ (by decide +kernel)) ggX4_digest_X2_findGroup
theorem dX4_digest_0 : decode cX4_digest 0 = .ok (.ldc2_w 240, 3) := by decide +kernel
theorem dX4_digest_3 : decode cX4_digest 3 = .ok (.aload_n 0, 1) := by decide +kernel
theorem dX4_digest_4 : decode cX4_digest 4 = .ok (.getfield 26, 3) := by decide +kernel
theorem dX4_digest_7 : decode cX4_digest 7 = .ok (.getfield 209, 3) := by decide +kernel
theorem dX4_digest_10 : decode cX4_digest 10 = .ok (.i2l, 1) := by decide +kernel
theorem dX4_digest_11 : decode cX4_digest 11 = .ok (.invokestatic 242, 3) := by decide +kernel
theorem dX4_digest_14 : decode cX4_digest 14 = .ok (.lstore_n 1, 1) := by decide +kernel
theorem dX4_digest_15 : decode cX4_digest 15 = .ok (.iconst 0, 1) := by decide +kernel
theorem dX4_digest_16 : decode cX4_digest 16 = .ok (.istore_n 3, 1) := by decide +kernel
theorem dX4_digest_17 : decode cX4_digest 17 = .ok (.iload_n 3, 1) := by decide +kernel
theorem dX4_digest_18 : decode cX4_digest 18 = .ok (.bipush 9, 2) := by decide +kernel
theorem dX4_digest_20 : decode cX4_digest 20 = .ok (.if_icmp .ge 23, 3) := by decide +kernel
theorem dX4_digest_23 : decode cX4_digest 23 = .ok (.lload_n 1, 1) := by decide +kernel
theorem dX4_digest_24 : decode cX4_digest 24 = .ok (.aload_n 0, 1) := by decide +kernel
theorem dX4_digest_25 : decode cX4_digest 25 = .ok (.getfield 12, 3) := by decide +kernel
theorem dX4_digest_28 : decode cX4_digest 28 = .ok (.iload_n 3, 1) := by decide +kernel
theorem dX4_digest_29 : decode cX4_digest 29 = .ok (.invokevirtual 158, 3) := by decide +kernel
theorem dX4_digest_32 : decode cX4_digest 32 = .ok (.i2l, 1) := by decide +kernel
theorem dX4_digest_33 : decode cX4_digest 33 = .ok (.invokestatic 242, 3) := by decide +kernel
theorem dX4_digest_36 : decode cX4_digest 36 = .ok (.lstore_n 1, 1) := by decide +kernel
theorem dX4_digest_37 : decode cX4_digest 37 = .ok (.iinc 3 1, 3) := by decide +kernel
theorem dX4_digest_40 : decode cX4_digest 40 = .ok (.goto (-23), 3) := by decide +kernel
theorem dX4_digest_43 : decode cX4_digest 43 = .ok (.iconst 0, 1) := by decide +kernel
theorem dX4_digest_44 : decode cX4_digest 44 = .ok (.istore_n 3, 1) := by decide +kernel
theorem dX4_digest_45 : decode cX4_digest 45 = .ok (.iload_n 3, 1) := by decide +kernel
theorem dX4_digest_46 : decode cX4_digest 46 = .ok (.aload_n 0, 1) := by decide +kernel
theorem dX4_digest_47 : decode cX4_digest 47 = .ok (.getfield 12, 3) := by decide +kernel
theorem dX4_digest_50 : decode cX4_digest 50 = .ok (.getfield 41, 3) := by decide +kernel
theorem dX4_digest_53 : decode cX4_digest 53 = .ok (.getfield 45, 3) := by decide +kernel
theorem dX4_digest_56 : decode cX4_digest 56 = .ok (.if_icmp .ge 43, 3) := by decide +kernel
theorem dX4_digest_59 : decode cX4_digest 59 = .ok (.iconst 0, 1) := by decide +kernel
theorem dX4_digest_60 : decode cX4_digest 60 = .ok (.istore 4, 2) := by decide +kernel
theorem dX4_digest_62 : decode cX4_digest 62 = .ok (.iload 4, 2) := by decide +kernel
theorem dX4_digest_64 : decode cX4_digest 64 = .ok (.iconst 3, 1) := by decide +kernel
theorem dX4_digest_65 : decode cX4_digest 65 = .ok (.if_icmp .ge 28, 3) := by decide +kernel
theorem dX4_digest_68 : decode cX4_digest 68 = .ok (.lload_n 1, 1) := by decide +kernel
theorem dX4_digest_69 : decode cX4_digest 69 = .ok (.aload_n 0, 1) := by decide +kernel
theorem dX4_digest_70 : decode cX4_digest 70 = .ok (.getfield 12, 3) := by decide +kernel
theorem dX4_digest_73 : decode cX4_digest 73 = .ok (.getfield 41, 3) := by decide +kernel
theorem dX4_digest_76 : decode cX4_digest 76 = .ok (.iload_n 3, 1) := by decide +kernel
theorem dX4_digest_77 : decode cX4_digest 77 = .ok (.iload 4, 2) := by decide +kernel
theorem dX4_digest_79 : decode cX4_digest 79 = .ok (.invokevirtual 155, 3) := by decide +kernel
theorem dX4_digest_82 : decode cX4_digest 82 = .ok (.i2l, 1) := by decide +kernel
theorem dX4_digest_83 : decode cX4_digest 83 = .ok (.invokestatic 242, 3) := by decide +kernel
theorem dX4_digest_86 : decode cX4_digest 86 = .ok (.lstore_n 1, 1) := by decide +kernel
theorem dX4_digest_87 : decode cX4_digest 87 = .ok (.iinc 4 1, 3) := by decide +kernel
theorem dX4_digest_90 : decode cX4_digest 90 = .ok (.goto (-28), 3) := by decide +kernel
theorem dX4_digest_93 : decode cX4_digest 93 = .ok (.iinc 3 1, 3) := by decide +kernel
theorem dX4_digest_96 : decode cX4_digest 96 = .ok (.goto (-51), 3) := by decide +kernel
theorem dX4_digest_99 : decode cX4_digest 99 = .ok (.iconst 0, 1) := by decide +kernel
theorem dX4_digest_100 : decode cX4_digest 100 = .ok (.istore_n 3, 1) := by decide +kernel
theorem dX4_digest_101 : decode cX4_digest 101 = .ok (.iload_n 3, 1) := by decide +kernel
theorem dX4_digest_102 : decode cX4_digest 102 = .ok (.aload_n 0, 1) := by decide +kernel
theorem dX4_digest_103 : decode cX4_digest 103 = .ok (.getfield 12, 3) := by decide +kernel
theorem dX4_digest_106 : decode cX4_digest 106 = .ok (.invokevirtual 204, 3) := by decide +kernel
theorem dX4_digest_109 : decode cX4_digest 109 = .ok (.if_icmp .ge 26, 3) := by decide +kernel
theorem dX4_digest_112 : decode cX4_digest 112 = .ok (.lload_n 1, 1) := by decide +kernel
theorem dX4_digest_113 : decode cX4_digest 113 = .ok (.aload_n 0, 1) := by decide +kernel
theorem dX4_digest_114 : decode cX4_digest 114 = .ok (.getfield 12, 3) := by decide +kernel
theorem dX4_digest_117 : decode cX4_digest 117 = .ok (.getfield 133, 3) := by decide +kernel
theorem dX4_digest_120 : decode cX4_digest 120 = .ok (.iload_n 3, 1) := by decide +kernel
theorem dX4_digest_121 : decode cX4_digest 121 = .ok (.invokestatic 137, 3) := by decide +kernel
theorem dX4_digest_124 : decode cX4_digest 124 = .ok (.i2l, 1) := by decide +kernel
theorem dX4_digest_125 : decode cX4_digest 125 = .ok (.invokestatic 242, 3) := by decide +kernel
theorem dX4_digest_128 : decode cX4_digest 128 = .ok (.lstore_n 1, 1) := by decide +kernel
theorem dX4_digest_129 : decode cX4_digest 129 = .ok (.iinc 3 1, 3) := by decide +kernel
theorem dX4_digest_132 : decode cX4_digest 132 = .ok (.goto (-31), 3) := by decide +kernel
theorem dX4_digest_135 : decode cX4_digest 135 = .ok (.iconst 0, 1) := by decide +kernel
theorem dX4_digest_136 : decode cX4_digest 136 = .ok (.istore_n 3, 1) := by decide +kernel
theorem dX4_digest_137 : decode cX4_digest 137 = .ok (.iload_n 3, 1) := by decide +kernel
theorem dX4_digest_138 : decode cX4_digest 138 = .ok (.aload_n 0, 1) := by decide +kernel
theorem dX4_digest_139 : decode cX4_digest 139 = .ok (.getfield 12, 3) := by decide +kernel
theorem dX4_digest_142 : decode cX4_digest 142 = .ok (.getfield 122, 3) := by decide +kernel
theorem dX4_digest_145 : decode cX4_digest 145 = .ok (.getfield 45, 3) := by decide +kernel
theorem dX4_digest_148 : decode cX4_digest 148 = .ok (.if_icmp .ge 49, 3) := by decide +kernel
theorem dX4_digest_151 : decode cX4_digest 151 = .ok (.lload_n 1, 1) := by decide +kernel
theorem dX4_digest_152 : decode cX4_digest 152 = .ok (.aload_n 0, 1) := by decide +kernel
theorem dX4_digest_153 : decode cX4_digest 153 = .ok (.getfield 12, 3) := by decide +kernel
theorem dX4_digest_156 : decode cX4_digest 156 = .ok (.getfield 122, 3) := by decide +kernel
theorem dX4_digest_159 : decode cX4_digest 159 = .ok (.getfield 246, 3) := by decide +kernel
theorem dX4_digest_162 : decode cX4_digest 162 = .ok (.iload_n 3, 1) := by decide +kernel
theorem dX4_digest_163 : decode cX4_digest 163 = .ok (.invokestatic 137, 3) := by decide +kernel
theorem dX4_digest_166 : decode cX4_digest 166 = .ok (.i2l, 1) := by decide +kernel
theorem dX4_digest_167 : decode cX4_digest 167 = .ok (.invokestatic 242, 3) := by decide +kernel
theorem dX4_digest_170 : decode cX4_digest 170 = .ok (.lstore_n 1, 1) := by decide +kernel
theorem dX4_digest_171 : decode cX4_digest 171 = .ok (.lload_n 1, 1) := by decide +kernel
theorem dX4_digest_172 : decode cX4_digest 172 = .ok (.aload_n 0, 1) := by decide +kernel
theorem dX4_digest_173 : decode cX4_digest 173 = .ok (.getfield 12, 3) := by decide +kernel
theorem dX4_digest_176 : decode cX4_digest 176 = .ok (.getfield 122, 3) := by decide +kernel
theorem dX4_digest_179 : decode cX4_digest 179 = .ok (.getfield 247, 3) := by decide +kernel
theorem dX4_digest_182 : decode cX4_digest 182 = .ok (.iload_n 3, 1) := by decide +kernel
theorem dX4_digest_183 : decode cX4_digest 183 = .ok (.invokestatic 137, 3) := by decide +kernel
theorem dX4_digest_186 : decode cX4_digest 186 = .ok (.i2l, 1) := by decide +kernel
theorem dX4_digest_187 : decode cX4_digest 187 = .ok (.invokestatic 242, 3) := by decide +kernel
theorem dX4_digest_190 : decode cX4_digest 190 = .ok (.lstore_n 1, 1) := by decide +kernel
theorem dX4_digest_191 : decode cX4_digest 191 = .ok (.iinc 3 1, 3) := by decide +kernel
theorem dX4_digest_194 : decode cX4_digest 194 = .ok (.goto (-57), 3) := by decide +kernel
theorem dX4_digest_197 : decode cX4_digest 197 = .ok (.lload_n 1, 1) := by decide +kernel
theorem dX4_digest_198 : decode cX4_digest 198 = .ok (.aload_n 0, 1) := by decide +kernel
theorem dX4_digest_199 : decode cX4_digest 199 = .ok (.getfield 12, 3) := by decide +kernel
theorem dX4_digest_202 : decode cX4_digest 202 = .ok (.invokevirtual 190, 3) := by decide +kernel
theorem dX4_digest_205 : decode cX4_digest 205 = .ok (.i2l, 1) := by decide +kernel
theorem dX4_digest_206 : decode cX4_digest 206 = .ok (.invokestatic 242, 3) := by decide +kernel
theorem dX4_digest_209 : decode cX4_digest 209 = .ok (.lstore_n 1, 1) := by decide +kernel
theorem dX4_digest_210 : decode cX4_digest 210 = .ok (.lload_n 1, 1) := by decide +kernel
theorem dX4_digest_211 : decode cX4_digest 211 = .ok (.aload_n 0, 1) := by decide +kernel
theorem dX4_digest_212 : decode cX4_digest 212 = .ok (.invokevirtual 248, 3) := by decide +kernel
theorem dX4_digest_215 : decode cX4_digest 215 = .ok (.i2l, 1) := by decide +kernel
theorem dX4_digest_216 : decode cX4_digest 216 = .ok (.invokestatic 242, 3) := by decide +kernel
theorem dX4_digest_219 : decode cX4_digest 219 = .ok (.lstore_n 1, 1) := by decide +kernel
theorem dX4_digest_220 : decode cX4_digest 220 = .ok (.lload_n 1, 1) := by decide +kernel
theorem dX4_digest_221 : decode cX4_digest 221 = .ok (.aload_n 0, 1) := by decide +kernel
theorem dX4_digest_222 : decode cX4_digest 222 = .ok (.getfield 12, 3) := by decide +kernel
theorem dX4_digest_225 : decode cX4_digest 225 = .ok (.iconst 5, 1) := by decide +kernel
theorem dX4_digest_226 : decode cX4_digest 226 = .ok (.invokevirtual 166, 3) := by decide +kernel
theorem dX4_digest_229 : decode cX4_digest 229 = .ok (.invokestatic 242, 3) := by decide +kernel
theorem dX4_digest_232 : decode cX4_digest 232 = .ok (.lstore_n 1, 1) := by decide +kernel
theorem dX4_digest_233 : decode cX4_digest 233 = .ok (.lload_n 1, 1) := by decide +kernel
theorem dX4_digest_234 : decode cX4_digest 234 = .ok (.aload_n 0, 1) := by decide +kernel
theorem dX4_digest_235 : decode cX4_digest 235 = .ok (.getfield 12, 3) := by decide +kernel
theorem dX4_digest_238 : decode cX4_digest 238 = .ok (.iconst 3, 1) := by decide +kernel
theorem dX4_digest_239 : decode cX4_digest 239 = .ok (.invokevirtual 178, 3) := by decide +kernel
theorem dX4_digest_242 : decode cX4_digest 242 = .ok (.i2l, 1) := by decide +kernel
theorem dX4_digest_243 : decode cX4_digest 243 = .ok (.invokestatic 242, 3) := by decide +kernel
theorem dX4_digest_246 : decode cX4_digest 246 = .ok (.lstore_n 1, 1) := by decide +kernel
theorem dX4_digest_247 : decode cX4_digest 247 = .ok (.lload_n 1, 1) := by decide +kernel
theorem dX4_digest_248 : decode cX4_digest 248 = .ok (.aload_n 0, 1) := by decide +kernel
theorem dX4_digest_249 : decode cX4_digest 249 = .ok (.getfield 19, 3) := by decide +kernel
theorem dX4_digest_252 : decode cX4_digest 252 = .ok (.getfield 234, 3) := by decide +kernel
theorem dX4_digest_255 : decode cX4_digest 255 = .ok (.i2l, 1) := by decide +kernel
theorem dX4_digest_256 : decode cX4_digest 256 = .ok (.invokestatic 242, 3) := by decide +kernel
theorem dX4_digest_259 : decode cX4_digest 259 = .ok (.lreturn, 1) := by decide +kernel
theorem dX4_mix_0 : decode cX4_mix 0 = .ok (.ldc2_w 251, 3) := by decide +kernel
theorem dX4_mix_3 : decode cX4_mix 3 = .ok (.lload_n 0, 1) := by decide +kernel
theorem dX4_mix_4 : decode cX4_mix 4 = .ok (.lmul, 1) := by decide +kernel
theorem dX4_mix_5 : decode cX4_mix 5 = .ok (.lload_n 2, 1) := by decide +kernel
theorem dX4_mix_6 : decode cX4_mix 6 = .ok (.ladd, 1) := by decide +kernel
theorem dX4_mix_7 : decode cX4_mix 7 = .ok (.lreturn, 1) := by decide +kernel
theorem dX4_isAnswer_0 : decode cX4_isAnswer 0 = .ok (.iload_n 0, 1) := by decide +kernel
theorem dX4_isAnswer_1 : decode cX4_isAnswer 1 = .ok (.ifCond .lt 12, 3) := by decide +kernel
theorem dX4_isAnswer_4 : decode cX4_isAnswer 4 = .ok (.iload_n 0, 1) := by decide +kernel
theorem dX4_isAnswer_5 : decode cX4_isAnswer 5 = .ok (.iconst 3, 1) := by decide +kernel
theorem dX4_isAnswer_6 : decode cX4_isAnswer 6 = .ok (.if_icmp .ge 7, 3) := by decide +kernel
theorem dX4_isAnswer_9 : decode cX4_isAnswer 9 = .ok (.iconst 1, 1) := by decide +kernel
theorem dX4_isAnswer_10 : decode cX4_isAnswer 10 = .ok (.goto 4, 3) := by decide +kernel
theorem dX4_isAnswer_13 : decode cX4_isAnswer 13 = .ok (.iconst 0, 1) := by decide +kernel
theorem dX4_isAnswer_14 : decode cX4_isAnswer 14 = .ok (.ireturn, 1) := by decide +kernel
theorem dX4_isAhead_0 : decode cX4_isAhead 0 = .ok (.iload_n 0, 1) := by decide +kernel
theorem dX4_isAhead_1 : decode cX4_isAhead 1 = .ok (.ifCond .lt 13, 3) := by decide +kernel
theorem dX4_isAhead_4 : decode cX4_isAhead 4 = .ok (.iload_n 0, 1) := by decide +kernel
theorem dX4_isAhead_5 : decode cX4_isAhead 5 = .ok (.bipush 20, 2) := by decide +kernel
theorem dX4_isAhead_7 : decode cX4_isAhead 7 = .ok (.if_icmp .gt 7, 3) := by decide +kernel
theorem dX4_isAhead_10 : decode cX4_isAhead 10 = .ok (.iconst 1, 1) := by decide +kernel
theorem dX4_isAhead_11 : decode cX4_isAhead 11 = .ok (.goto 4, 3) := by decide +kernel
theorem dX4_isAhead_14 : decode cX4_isAhead 14 = .ok (.iconst 0, 1) := by decide +kernel
theorem dX4_isAhead_15 : decode cX4_isAhead 15 = .ok (.ireturn, 1) := by decide +kernel
theorem dX4_at_0 : decode cX4_at 0 = .ok (.iload_n 1, 1) := by decide +kernel
theorem dX4_at_1 : decode cX4_at 1 = .ok (.ifCond .lt 15, 3) := by decide +kernel
theorem dX4_at_4 : decode cX4_at 4 = .ok (.iload_n 1, 1) := by decide +kernel
theorem dX4_at_5 : decode cX4_at 5 = .ok (.aload_n 0, 1) := by decide +kernel
theorem dX4_at_6 : decode cX4_at 6 = .ok (.arraylength, 1) := by decide +kernel
theorem dX4_at_7 : decode cX4_at 7 = .ok (.if_icmp .ge 9, 3) := by decide +kernel
theorem dX4_at_10 : decode cX4_at 10 = .ok (.aload_n 0, 1) := by decide +kernel
theorem dX4_at_11 : decode cX4_at 11 = .ok (.iload_n 1, 1) := by decide +kernel
theorem dX4_at_12 : decode cX4_at 12 = .ok (.iaload, 1) := by decide +kernel
theorem dX4_at_13 : decode cX4_at 13 = .ok (.goto 4, 3) := by decide +kernel
theorem dX4_at_16 : decode cX4_at 16 = .ok (.iconst 0, 1) := by decide +kernel
theorem dX4_at_17 : decode cX4_at 17 = .ok (.ireturn, 1) := by decide +kernel
theorem dX4_put_0 : decode cX4_put 0 = .ok (.iload_n 1, 1) := by decide +kernel
theorem dX4_put_1 : decode cX4_put 1 = .ok (.ifCond .lt 13, 3) := by decide +kernel
theorem dX4_put_4 : decode cX4_put 4 = .ok (.iload_n 1, 1) := by decide +kernel
theorem dX4_put_5 : decode cX4_put 5 = .ok (.aload_n 0, 1) := by decide +kernel
theorem dX4_put_6 : decode cX4_put 6 = .ok (.arraylength, 1) := by decide +kernel
theorem dX4_put_7 : decode cX4_put 7 = .ok (.if_icmp .ge 7, 3) := by decide +kernel
theorem dX4_put_10 : decode cX4_put 10 = .ok (.aload_n 0, 1) := by decide +kernel
theorem dX4_put_11 : decode cX4_put 11 = .ok (.iload_n 1, 1) := by decide +kernel
theorem dX4_put_12 : decode cX4_put 12 = .ok (.iload_n 2, 1) := by decide +kernel
theorem dX4_put_13 : decode cX4_put 13 = .ok (.iastore, 1) := by decide +kernel
theorem dX4_put_14 : decode cX4_put 14 = .ok (.return_, 1) := by decide +kernel
theorem dX4_copyRow_0 : decode cX4_copyRow 0 = .ok (.aload_n 0, 1) := by decide +kernel
theorem dX4_copyRow_1 : decode cX4_copyRow 1 = .ok (.iconst 0, 1) := by decide +kernel
theorem dX4_copyRow_2 : decode cX4_copyRow 2 = .ok (.aload_n 1, 1) := by decide +kernel
theorem dX4_copyRow_3 : decode cX4_copyRow 3 = .ok (.iconst 0, 1) := by decide +kernel
theorem dX4_copyRow_4 : decode cX4_copyRow 4 = .ok (.aload_n 0, 1) := by decide +kernel
theorem dX4_copyRow_5 : decode cX4_copyRow 5 = .ok (.arraylength, 1) := by decide +kernel
theorem dX4_copyRow_6 : decode cX4_copyRow 6 = .ok (.aload_n 1, 1) := by decide +kernel
theorem dX4_copyRow_7 : decode cX4_copyRow 7 = .ok (.arraylength, 1) := by decide +kernel
theorem dX4_copyRow_8 : decode cX4_copyRow 8 = .ok (.invokestatic 253, 3) := by decide +kernel
theorem dX4_copyRow_11 : decode cX4_copyRow 11 = .ok (.invokestatic 258, 3) := by decide +kernel
theorem dX4_copyRow_14 : decode cX4_copyRow 14 = .ok (.return_, 1) := by decide +kernel
theorem dX4_coinBit_0 : decode cX4_coinBit 0 = .ok (.iload_n 0, 1) := by decide +kernel
theorem dX4_coinBit_1 : decode cX4_coinBit 1 = .ok (.ifCond .gt 7, 3) := by decide +kernel
theorem dX4_coinBit_4 : decode cX4_coinBit 4 = .ok (.iconst 0, 1) := by decide +kernel
theorem dX4_coinBit_5 : decode cX4_coinBit 5 = .ok (.goto 10, 3) := by decide +kernel
theorem dX4_coinBit_8 : decode cX4_coinBit 8 = .ok (.iconst 1, 1) := by decide +kernel
theorem dX4_coinBit_9 : decode cX4_coinBit 9 = .ok (.iload_n 0, 1) := by decide +kernel
theorem dX4_coinBit_10 : decode cX4_coinBit 10 = .ok (.iconst 1, 1) := by decide +kernel
theorem dX4_coinBit_11 : decode cX4_coinBit 11 = .ok (.isub, 1) := by decide +kernel
theorem dX4_coinBit_12 : decode cX4_coinBit 12 = .ok (.iconst 2, 1) := by decide +kernel
theorem dX4_coinBit_13 : decode cX4_coinBit 13 = .ok (.idiv, 1) := by decide +kernel
theorem dX4_coinBit_14 : decode cX4_coinBit 14 = .ok (.ishl, 1) := by decide +kernel
theorem dX4_coinBit_15 : decode cX4_coinBit 15 = .ok (.ireturn, 1) := by decide +kernel
set_option maxRecDepth 20000 in
theorem ggX4_trueAnswer_X4_coinBit : GoodIn wsX4_trueAnswer wsX4_coinBit := goodIn_r _ [4] (by decide +kernel) (by decide +kernel)
set_option maxRecDepth 20000 in
theorem gX4_trueAnswer_X4_coinBit : GoodIn wsX4_trueAnswer (va_wsS RX4 264 yX4_coinBit wsX4_coinBit) := goodIn_app (goodIn_of _ (by decide +kernel)) ggX4_trueAnswer_X4_coinBit
theorem dX4_trueAnswer_0 : decode cX4_trueAnswer 0 = .ok (.iload_n 0, 1) := by decide +kernel
theorem dX4_trueAnswer_1 : decode cX4_trueAnswer 1 = .ok (.invokestatic 264, 3) := by decide +kernel
theorem dX4_trueAnswer_4 : decode cX4_trueAnswer 4 = .ok (.istore_n 3, 1) := by decide +kernel
theorem dX4_trueAnswer_5 : decode cX4_trueAnswer 5 = .ok (.iload_n 0, 1) := by decide +kernel
theorem dX4_trueAnswer_6 : decode cX4_trueAnswer 6 = .ok (.iconst 1, 1) := by decide +kernel
theorem dX4_trueAnswer_7 : decode cX4_trueAnswer 7 = .ok (.iand, 1) := by decide +kernel
theorem dX4_trueAnswer_8 : decode cX4_trueAnswer 8 = .ok (.iconst 1, 1) := by decide +kernel
theorem dX4_trueAnswer_9 : decode cX4_trueAnswer 9 = .ok (.if_icmp .ne 7, 3) := by decide +kernel
theorem dX4_trueAnswer_12 : decode cX4_trueAnswer 12 = .ok (.iconst 1, 1) := by decide +kernel
theorem dX4_trueAnswer_13 : decode cX4_trueAnswer 13 = .ok (.goto 4, 3) := by decide +kernel
theorem dX4_trueAnswer_16 : decode cX4_trueAnswer 16 = .ok (.iconst 0, 1) := by decide +kernel
theorem dX4_trueAnswer_17 : decode cX4_trueAnswer 17 = .ok (.istore 4, 2) := by decide +kernel
theorem dX4_trueAnswer_19 : decode cX4_trueAnswer 19 = .ok (.iload_n 1, 1) := by decide +kernel
theorem dX4_trueAnswer_20 : decode cX4_trueAnswer 20 = .ok (.iload_n 3, 1) := by decide +kernel
theorem dX4_trueAnswer_21 : decode cX4_trueAnswer 21 = .ok (.iand, 1) := by decide +kernel
theorem dX4_trueAnswer_22 : decode cX4_trueAnswer 22 = .ok (.ifCond .eq 14, 3) := by decide +kernel
theorem dX4_trueAnswer_25 : decode cX4_trueAnswer 25 = .ok (.iload 4, 2) := by decide +kernel
theorem dX4_trueAnswer_27 : decode cX4_trueAnswer 27 = .ok (.ifCond .eq 7, 3) := by decide +kernel
theorem dX4_trueAnswer_30 : decode cX4_trueAnswer 30 = .ok (.iconst 0, 1) := by decide +kernel
theorem dX4_trueAnswer_31 : decode cX4_trueAnswer 31 = .ok (.goto 4, 3) := by decide +kernel
theorem dX4_trueAnswer_34 : decode cX4_trueAnswer 34 = .ok (.iconst 1, 1) := by decide +kernel
theorem dX4_trueAnswer_35 : decode cX4_trueAnswer 35 = .ok (.ireturn, 1) := by decide +kernel
theorem dX4_trueAnswer_36 : decode cX4_trueAnswer 36 = .ok (.iload_n 2, 1) := by decide +kernel
theorem dX4_trueAnswer_37 : decode cX4_trueAnswer 37 = .ok (.iload_n 3, 1) := by decide +kernel
theorem dX4_trueAnswer_38 : decode cX4_trueAnswer 38 = .ok (.iand, 1) := by decide +kernel
theorem dX4_trueAnswer_39 : decode cX4_trueAnswer 39 = .ok (.ifCond .eq 14, 3) := by decide +kernel
theorem dX4_trueAnswer_42 : decode cX4_trueAnswer 42 = .ok (.iload 4, 2) := by decide +kernel
theorem dX4_trueAnswer_44 : decode cX4_trueAnswer 44 = .ok (.ifCond .eq 7, 3) := by decide +kernel
theorem dX4_trueAnswer_47 : decode cX4_trueAnswer 47 = .ok (.iconst 1, 1) := by decide +kernel
theorem dX4_trueAnswer_48 : decode cX4_trueAnswer 48 = .ok (.goto 4, 3) := by decide +kernel
theorem dX4_trueAnswer_51 : decode cX4_trueAnswer 51 = .ok (.iconst 0, 1) := by decide +kernel
theorem dX4_trueAnswer_52 : decode cX4_trueAnswer 52 = .ok (.ireturn, 1) := by decide +kernel
theorem dX4_trueAnswer_53 : decode cX4_trueAnswer 53 = .ok (.iconst 2, 1) := by decide +kernel
theorem dX4_trueAnswer_54 : decode cX4_trueAnswer 54 = .ok (.ireturn, 1) := by decide +kernel
theorem dX4_volume_0 : decode cX4_volume 0 = .ok (.lconst 1, 1) := by decide +kernel
theorem dX4_volume_1 : decode cX4_volume 1 = .ok (.lstore_n 2, 1) := by decide +kernel
theorem dX4_volume_2 : decode cX4_volume 2 = .ok (.lconst 1, 1) := by decide +kernel
theorem dX4_volume_3 : decode cX4_volume 3 = .ok (.lstore 4, 2) := by decide +kernel
theorem dX4_volume_5 : decode cX4_volume 5 = .ok (.iload_n 0, 1) := by decide +kernel
theorem dX4_volume_6 : decode cX4_volume 6 = .ok (.iload_n 1, 1) := by decide +kernel
theorem dX4_volume_7 : decode cX4_volume 7 = .ok (.invokestatic 253, 3) := by decide +kernel
theorem dX4_volume_10 : decode cX4_volume 10 = .ok (.istore 6, 2) := by decide +kernel
theorem dX4_volume_12 : decode cX4_volume 12 = .ok (.iconst 1, 1) := by decide +kernel
theorem dX4_volume_13 : decode cX4_volume 13 = .ok (.istore 7, 2) := by decide +kernel
theorem dX4_volume_15 : decode cX4_volume 15 = .ok (.iload 7, 2) := by decide +kernel
theorem dX4_volume_17 : decode cX4_volume 17 = .ok (.iload 6, 2) := by decide +kernel
theorem dX4_volume_19 : decode cX4_volume 19 = .ok (.if_icmp .gt 32, 3) := by decide +kernel
theorem dX4_volume_22 : decode cX4_volume 22 = .ok (.lload_n 2, 1) := by decide +kernel
theorem dX4_volume_23 : decode cX4_volume 23 = .ok (.iload_n 0, 1) := by decide +kernel
theorem dX4_volume_24 : decode cX4_volume 24 = .ok (.iload 7, 2) := by decide +kernel
theorem dX4_volume_26 : decode cX4_volume 26 = .ok (.isub, 1) := by decide +kernel
theorem dX4_volume_27 : decode cX4_volume 27 = .ok (.iconst 1, 1) := by decide +kernel
theorem dX4_volume_28 : decode cX4_volume 28 = .ok (.iadd, 1) := by decide +kernel
theorem dX4_volume_29 : decode cX4_volume 29 = .ok (.i2l, 1) := by decide +kernel
theorem dX4_volume_30 : decode cX4_volume 30 = .ok (.lmul, 1) := by decide +kernel
theorem dX4_volume_31 : decode cX4_volume 31 = .ok (.iload 7, 2) := by decide +kernel
theorem dX4_volume_33 : decode cX4_volume 33 = .ok (.i2l, 1) := by decide +kernel
theorem dX4_volume_34 : decode cX4_volume 34 = .ok (.ldiv, 1) := by decide +kernel
theorem dX4_volume_35 : decode cX4_volume 35 = .ok (.lstore_n 2, 1) := by decide +kernel
theorem dX4_volume_36 : decode cX4_volume 36 = .ok (.lload 4, 2) := by decide +kernel
theorem dX4_volume_38 : decode cX4_volume 38 = .ok (.lload_n 2, 1) := by decide +kernel
theorem dX4_volume_39 : decode cX4_volume 39 = .ok (.iload 7, 2) := by decide +kernel
theorem dX4_volume_41 : decode cX4_volume 41 = .ok (.lshl, 1) := by decide +kernel
theorem dX4_volume_42 : decode cX4_volume 42 = .ok (.ladd, 1) := by decide +kernel
theorem dX4_volume_43 : decode cX4_volume 43 = .ok (.lstore 4, 2) := by decide +kernel
theorem dX4_volume_45 : decode cX4_volume 45 = .ok (.iinc 7 1, 3) := by decide +kernel
theorem dX4_volume_48 : decode cX4_volume 48 = .ok (.goto (-33), 3) := by decide +kernel
theorem dX4_volume_51 : decode cX4_volume 51 = .ok (.lload 4, 2) := by decide +kernel
theorem dX4_volume_53 : decode cX4_volume 53 = .ok (.lreturn, 1) := by decide +kernel
set_option maxRecDepth 20000 in
theorem ggX4_differences_J6_bitCount_0f7a4 : GoodIn wsX4_differences wsJ6_bitCount_0f7a4 := goodIn_r _ [4, 5, 6, 7] (by decide +kernel) (by decide +kernel)
set_option maxRecDepth 20000 in
theorem gX4_differences_J6_bitCount_0f7a4 : GoodIn wsX4_differences (va_wsS RX4 267 yJ6_bitCount_0f7a4 wsJ6_bitCount_0f7a4) := goodIn_app (goodIn_of _ (by decide +kernel)) ggX4_differences_J6_bitCount_0f7a4
theorem dX4_differences_0 : decode cX4_differences 0 = .ok (.iload_n 0, 1) := by decide +kernel
theorem dX4_differences_1 : decode cX4_differences 1 = .ok (.iload_n 1, 1) := by decide +kernel
theorem dX4_differences_2 : decode cX4_differences 2 = .ok (.ixor, 1) := by decide +kernel
theorem dX4_differences_3 : decode cX4_differences 3 = .ok (.istore_n 2, 1) := by decide +kernel
theorem dX4_differences_4 : decode cX4_differences 4 = .ok (.iload_n 2, 1) := by decide +kernel
theorem dX4_differences_5 : decode cX4_differences 5 = .ok (.iload_n 2, 1) := by decide +kernel
theorem dX4_differences_6 : decode cX4_differences 6 = .ok (.iconst 1, 1) := by decide +kernel
theorem dX4_differences_7 : decode cX4_differences 7 = .ok (.ishr, 1) := by decide +kernel
theorem dX4_differences_8 : decode cX4_differences 8 = .ok (.ior, 1) := by decide +kernel
theorem dX4_differences_9 : decode cX4_differences 9 = .ok (.sipush 21845, 3) := by decide +kernel
theorem dX4_differences_12 : decode cX4_differences 12 = .ok (.iand, 1) := by decide +kernel
theorem dX4_differences_13 : decode cX4_differences 13 = .ok (.invokestatic 267, 3) := by decide +kernel
theorem dX4_differences_16 : decode cX4_differences 16 = .ok (.ireturn, 1) := by decide +kernel
theorem dX4_wordOf_0 : decode cX4_wordOf 0 = .ok (.iconst 0, 1) := by decide +kernel
theorem dX4_wordOf_1 : decode cX4_wordOf 1 = .ok (.istore_n 1, 1) := by decide +kernel
theorem dX4_wordOf_2 : decode cX4_wordOf 2 = .ok (.iload_n 0, 1) := by decide +kernel
theorem dX4_wordOf_3 : decode cX4_wordOf 3 = .ok (.istore_n 2, 1) := by decide +kernel
theorem dX4_wordOf_4 : decode cX4_wordOf 4 = .ok (.iconst 0, 1) := by decide +kernel
theorem dX4_wordOf_5 : decode cX4_wordOf 5 = .ok (.istore_n 3, 1) := by decide +kernel
theorem dX4_wordOf_6 : decode cX4_wordOf 6 = .ok (.iload_n 3, 1) := by decide +kernel
theorem dX4_wordOf_7 : decode cX4_wordOf 7 = .ok (.bipush 8, 2) := by decide +kernel
theorem dX4_wordOf_9 : decode cX4_wordOf 9 = .ok (.if_icmp .ge 23, 3) := by decide +kernel
theorem dX4_wordOf_12 : decode cX4_wordOf 12 = .ok (.iload_n 1, 1) := by decide +kernel
theorem dX4_wordOf_13 : decode cX4_wordOf 13 = .ok (.iload_n 2, 1) := by decide +kernel
theorem dX4_wordOf_14 : decode cX4_wordOf 14 = .ok (.iconst 3, 1) := by decide +kernel
theorem dX4_wordOf_15 : decode cX4_wordOf 15 = .ok (.irem, 1) := by decide +kernel
theorem dX4_wordOf_16 : decode cX4_wordOf 16 = .ok (.iconst 2, 1) := by decide +kernel
theorem dX4_wordOf_17 : decode cX4_wordOf 17 = .ok (.iload_n 3, 1) := by decide +kernel
theorem dX4_wordOf_18 : decode cX4_wordOf 18 = .ok (.imul, 1) := by decide +kernel
theorem dX4_wordOf_19 : decode cX4_wordOf 19 = .ok (.ishl, 1) := by decide +kernel
theorem dX4_wordOf_20 : decode cX4_wordOf 20 = .ok (.ior, 1) := by decide +kernel
theorem dX4_wordOf_21 : decode cX4_wordOf 21 = .ok (.istore_n 1, 1) := by decide +kernel
theorem dX4_wordOf_22 : decode cX4_wordOf 22 = .ok (.iload_n 2, 1) := by decide +kernel
theorem dX4_wordOf_23 : decode cX4_wordOf 23 = .ok (.iconst 3, 1) := by decide +kernel
theorem dX4_wordOf_24 : decode cX4_wordOf 24 = .ok (.idiv, 1) := by decide +kernel
theorem dX4_wordOf_25 : decode cX4_wordOf 25 = .ok (.istore_n 2, 1) := by decide +kernel
theorem dX4_wordOf_26 : decode cX4_wordOf 26 = .ok (.iinc 3 1, 3) := by decide +kernel
theorem dX4_wordOf_29 : decode cX4_wordOf 29 = .ok (.goto (-23), 3) := by decide +kernel
theorem dX4_wordOf_32 : decode cX4_wordOf 32 = .ok (.iload_n 1, 1) := by decide +kernel
theorem dX4_wordOf_33 : decode cX4_wordOf 33 = .ok (.ireturn, 1) := by decide +kernel
