set_option maxRecDepth 20000 in
theorem ggX5_init_X5_sets : GoodIn wsX5_init wsX5_sets := goodIn_r _ [14, 5, 15, 16, 17, 18, 19, 20, 21, 22, 23, 24, 25] (by decide +kernel) (by decide +kernel)
set_option maxRecDepth 20000 in
theorem gX5_init_X5_sets : GoodIn wsX5_init (wsV RX5 23 RX5 yX5_sets wsX5_sets) := goodIn_app (goodIn_of _ (by decide +kernel)) ggX5_init_X5_sets
theorem dX5_init_0 : decode cX5_init 0 = .ok (.aload_n 0, 1) := by decide +kernel
theorem dX5_init_1 : decode cX5_init 1 = .ok (.invokespecial 1, 3) := by decide +kernel
theorem dX5_init_4 : decode cX5_init 4 = .ok (.aload_n 0, 1) := by decide +kernel
theorem dX5_init_5 : decode cX5_init 5 = .ok (.sipush 176, 3) := by decide +kernel
theorem dX5_init_8 : decode cX5_init 8 = .ok (.newarray .int, 2) := by decide +kernel
theorem dX5_init_10 : decode cX5_init 10 = .ok (.putfield 7, 3) := by decide +kernel
theorem dX5_init_13 : decode cX5_init 13 = .ok (.aload_n 0, 1) := by decide +kernel
theorem dX5_init_14 : decode cX5_init 14 = .ok (.sipush 704, 3) := by decide +kernel
theorem dX5_init_17 : decode cX5_init 17 = .ok (.newarray .int, 2) := by decide +kernel
theorem dX5_init_19 : decode cX5_init 19 = .ok (.putfield 13, 3) := by decide +kernel
theorem dX5_init_22 : decode cX5_init 22 = .ok (.aload_n 0, 1) := by decide +kernel
theorem dX5_init_23 : decode cX5_init 23 = .ok (.sipush 176, 3) := by decide +kernel
theorem dX5_init_26 : decode cX5_init 26 = .ok (.newarray .int, 2) := by decide +kernel
theorem dX5_init_28 : decode cX5_init 28 = .ok (.putfield 16, 3) := by decide +kernel
theorem dX5_init_31 : decode cX5_init 31 = .ok (.aload_n 0, 1) := by decide +kernel
theorem dX5_init_32 : decode cX5_init 32 = .ok (.bipush 100, 2) := by decide +kernel
theorem dX5_init_34 : decode cX5_init 34 = .ok (.newarray .byte, 2) := by decide +kernel
theorem dX5_init_36 : decode cX5_init 36 = .ok (.putfield 19, 3) := by decide +kernel
theorem dX5_init_39 : decode cX5_init 39 = .ok (.aload_n 0, 1) := by decide +kernel
theorem dX5_init_40 : decode cX5_init 40 = .ok (.bipush 8, 2) := by decide +kernel
theorem dX5_init_42 : decode cX5_init 42 = .ok (.invokevirtual 23, 3) := by decide +kernel
theorem dX5_init_45 : decode cX5_init 45 = .ok (.return_, 1) := by decide +kernel
theorem dX5_thrown_0 : decode cX5_thrown 0 = .ok (.aload_n 0, 1) := by decide +kernel
theorem dX5_thrown_1 : decode cX5_thrown 1 = .ok (.getfield 27, 3) := by decide +kernel
theorem dX5_thrown_4 : decode cX5_thrown 4 = .ok (.ireturn, 1) := by decide +kernel
theorem dX5_in_0 : decode cX5_in 0 = .ok (.iload_n 0, 1) := by decide +kernel
theorem dX5_in_1 : decode cX5_in 1 = .ok (.iload_n 1, 1) := by decide +kernel
theorem dX5_in_2 : decode cX5_in 2 = .ok (.if_icmp .lt 12, 3) := by decide +kernel
theorem dX5_in_5 : decode cX5_in 5 = .ok (.iload_n 0, 1) := by decide +kernel
theorem dX5_in_6 : decode cX5_in 6 = .ok (.iload_n 2, 1) := by decide +kernel
theorem dX5_in_7 : decode cX5_in 7 = .ok (.if_icmp .gt 7, 3) := by decide +kernel
theorem dX5_in_10 : decode cX5_in 10 = .ok (.iconst 1, 1) := by decide +kernel
theorem dX5_in_11 : decode cX5_in 11 = .ok (.goto 4, 3) := by decide +kernel
theorem dX5_in_14 : decode cX5_in 14 = .ok (.iconst 0, 1) := by decide +kernel
theorem dX5_in_15 : decode cX5_in 15 = .ok (.ireturn, 1) := by decide +kernel
theorem dX5_fails_0 : decode cX5_fails 0 = .ok (.aload_n 0, 1) := by decide +kernel
theorem dX5_fails_1 : decode cX5_fails 1 = .ok (.iload_n 1, 1) := by decide +kernel
theorem dX5_fails_2 : decode cX5_fails 2 = .ok (.putfield 27, 3) := by decide +kernel
theorem dX5_fails_5 : decode cX5_fails 5 = .ok (.iconst 0, 1) := by decide +kernel
theorem dX5_fails_6 : decode cX5_fails 6 = .ok (.ireturn, 1) := by decide +kernel
theorem dX5_tells_0 : decode cX5_tells 0 = .ok (.aload_n 0, 1) := by decide +kernel
theorem dX5_tells_1 : decode cX5_tells 1 = .ok (.iconst 0, 1) := by decide +kernel
theorem dX5_tells_2 : decode cX5_tells 2 = .ok (.putfield 27, 3) := by decide +kernel
theorem dX5_tells_5 : decode cX5_tells 5 = .ok (.iload_n 1, 1) := by decide +kernel
theorem dX5_tells_6 : decode cX5_tells 6 = .ok (.ireturn, 1) := by decide +kernel
theorem dX5_begins_0 : decode cX5_begins 0 = .ok (.iconst 0, 1) := by decide +kernel
theorem dX5_begins_1 : decode cX5_begins 1 = .ok (.istore_n 1, 1) := by decide +kernel
theorem dX5_begins_2 : decode cX5_begins 2 = .ok (.iload_n 1, 1) := by decide +kernel
theorem dX5_begins_3 : decode cX5_begins 3 = .ok (.sipush 176, 3) := by decide +kernel
theorem dX5_begins_6 : decode cX5_begins 6 = .ok (.if_icmp .ge 21, 3) := by decide +kernel
theorem dX5_begins_9 : decode cX5_begins 9 = .ok (.aload_n 0, 1) := by decide +kernel
theorem dX5_begins_10 : decode cX5_begins 10 = .ok (.getfield 16, 3) := by decide +kernel
theorem dX5_begins_13 : decode cX5_begins 13 = .ok (.iload_n 1, 1) := by decide +kernel
theorem dX5_begins_14 : decode cX5_begins 14 = .ok (.aload_n 0, 1) := by decide +kernel
theorem dX5_begins_15 : decode cX5_begins 15 = .ok (.getfield 7, 3) := by decide +kernel
theorem dX5_begins_18 : decode cX5_begins 18 = .ok (.iload_n 1, 1) := by decide +kernel
theorem dX5_begins_19 : decode cX5_begins 19 = .ok (.iaload, 1) := by decide +kernel
theorem dX5_begins_20 : decode cX5_begins 20 = .ok (.iastore, 1) := by decide +kernel
theorem dX5_begins_21 : decode cX5_begins 21 = .ok (.iinc 1 1, 3) := by decide +kernel
theorem dX5_begins_24 : decode cX5_begins 24 = .ok (.goto (-22), 3) := by decide +kernel
theorem dX5_begins_27 : decode cX5_begins 27 = .ok (.return_, 1) := by decide +kernel
set_option maxRecDepth 20000 in
theorem ggX5_saved_X5_tells : GoodIn wsX5_saved wsX5_tells := goodIn_r _ [8, 9, 10, 11, 12, 13, 14, 15, 16, 17, 18, 19, 20] (by decide +kernel) (by decide +kernel)
set_option maxRecDepth 20000 in
theorem gX5_saved_X5_tells : GoodIn wsX5_saved (wsV RX5 34 RX5 yX5_tells wsX5_tells) := goodIn_app (goodIn_of _ (by decide +kernel)) ggX5_saved_X5_tells
theorem dX5_saved_0 : decode cX5_saved 0 = .ok (.aload_n 0, 1) := by decide +kernel
theorem dX5_saved_1 : decode cX5_saved 1 = .ok (.getfield 31, 3) := by decide +kernel
theorem dX5_saved_4 : decode cX5_saved 4 = .ok (.iconst 4, 1) := by decide +kernel
theorem dX5_saved_5 : decode cX5_saved 5 = .ok (.if_icmp .ne 44, 3) := by decide +kernel
theorem dX5_saved_8 : decode cX5_saved 8 = .ok (.iconst 0, 1) := by decide +kernel
theorem dX5_saved_9 : decode cX5_saved 9 = .ok (.istore_n 2, 1) := by decide +kernel
theorem dX5_saved_10 : decode cX5_saved 10 = .ok (.iload_n 2, 1) := by decide +kernel
theorem dX5_saved_11 : decode cX5_saved 11 = .ok (.sipush 528, 3) := by decide +kernel
theorem dX5_saved_14 : decode cX5_saved 14 = .ok (.if_icmp .ge 25, 3) := by decide +kernel
theorem dX5_saved_17 : decode cX5_saved 17 = .ok (.aload_n 0, 1) := by decide +kernel
theorem dX5_saved_18 : decode cX5_saved 18 = .ok (.getfield 13, 3) := by decide +kernel
theorem dX5_saved_21 : decode cX5_saved 21 = .ok (.iload_n 2, 1) := by decide +kernel
theorem dX5_saved_22 : decode cX5_saved 22 = .ok (.aload_n 0, 1) := by decide +kernel
theorem dX5_saved_23 : decode cX5_saved 23 = .ok (.getfield 13, 3) := by decide +kernel
theorem dX5_saved_26 : decode cX5_saved 26 = .ok (.iload_n 2, 1) := by decide +kernel
theorem dX5_saved_27 : decode cX5_saved 27 = .ok (.sipush 176, 3) := by decide +kernel
theorem dX5_saved_30 : decode cX5_saved 30 = .ok (.iadd, 1) := by decide +kernel
theorem dX5_saved_31 : decode cX5_saved 31 = .ok (.iaload, 1) := by decide +kernel
theorem dX5_saved_32 : decode cX5_saved 32 = .ok (.iastore, 1) := by decide +kernel
theorem dX5_saved_33 : decode cX5_saved 33 = .ok (.iinc 2 1, 3) := by decide +kernel
theorem dX5_saved_36 : decode cX5_saved 36 = .ok (.goto (-26), 3) := by decide +kernel
theorem dX5_saved_39 : decode cX5_saved 39 = .ok (.aload_n 0, 1) := by decide +kernel
theorem dX5_saved_40 : decode cX5_saved 40 = .ok (.dup, 1) := by decide +kernel
theorem dX5_saved_41 : decode cX5_saved 41 = .ok (.getfield 31, 3) := by decide +kernel
theorem dX5_saved_44 : decode cX5_saved 44 = .ok (.iconst 1, 1) := by decide +kernel
theorem dX5_saved_45 : decode cX5_saved 45 = .ok (.isub, 1) := by decide +kernel
theorem dX5_saved_46 : decode cX5_saved 46 = .ok (.putfield 31, 3) := by decide +kernel
theorem dX5_saved_49 : decode cX5_saved 49 = .ok (.iconst 0, 1) := by decide +kernel
theorem dX5_saved_50 : decode cX5_saved 50 = .ok (.istore_n 2, 1) := by decide +kernel
theorem dX5_saved_51 : decode cX5_saved 51 = .ok (.iload_n 2, 1) := by decide +kernel
theorem dX5_saved_52 : decode cX5_saved 52 = .ok (.sipush 176, 3) := by decide +kernel
theorem dX5_saved_55 : decode cX5_saved 55 = .ok (.if_icmp .ge 30, 3) := by decide +kernel
theorem dX5_saved_58 : decode cX5_saved 58 = .ok (.aload_n 0, 1) := by decide +kernel
theorem dX5_saved_59 : decode cX5_saved 59 = .ok (.getfield 13, 3) := by decide +kernel
theorem dX5_saved_62 : decode cX5_saved 62 = .ok (.sipush 176, 3) := by decide +kernel
theorem dX5_saved_65 : decode cX5_saved 65 = .ok (.aload_n 0, 1) := by decide +kernel
theorem dX5_saved_66 : decode cX5_saved 66 = .ok (.getfield 31, 3) := by decide +kernel
theorem dX5_saved_69 : decode cX5_saved 69 = .ok (.imul, 1) := by decide +kernel
theorem dX5_saved_70 : decode cX5_saved 70 = .ok (.iload_n 2, 1) := by decide +kernel
theorem dX5_saved_71 : decode cX5_saved 71 = .ok (.iadd, 1) := by decide +kernel
theorem dX5_saved_72 : decode cX5_saved 72 = .ok (.aload_n 0, 1) := by decide +kernel
theorem dX5_saved_73 : decode cX5_saved 73 = .ok (.getfield 16, 3) := by decide +kernel
theorem dX5_saved_76 : decode cX5_saved 76 = .ok (.iload_n 2, 1) := by decide +kernel
theorem dX5_saved_77 : decode cX5_saved 77 = .ok (.iaload, 1) := by decide +kernel
theorem dX5_saved_78 : decode cX5_saved 78 = .ok (.iastore, 1) := by decide +kernel
theorem dX5_saved_79 : decode cX5_saved 79 = .ok (.iinc 2 1, 3) := by decide +kernel
theorem dX5_saved_82 : decode cX5_saved 82 = .ok (.goto (-31), 3) := by decide +kernel
theorem dX5_saved_85 : decode cX5_saved 85 = .ok (.aload_n 0, 1) := by decide +kernel
theorem dX5_saved_86 : decode cX5_saved 86 = .ok (.dup, 1) := by decide +kernel
theorem dX5_saved_87 : decode cX5_saved 87 = .ok (.getfield 31, 3) := by decide +kernel
theorem dX5_saved_90 : decode cX5_saved 90 = .ok (.iconst 1, 1) := by decide +kernel
theorem dX5_saved_91 : decode cX5_saved 91 = .ok (.iadd, 1) := by decide +kernel
theorem dX5_saved_92 : decode cX5_saved 92 = .ok (.putfield 31, 3) := by decide +kernel
theorem dX5_saved_95 : decode cX5_saved 95 = .ok (.aload_n 0, 1) := by decide +kernel
theorem dX5_saved_96 : decode cX5_saved 96 = .ok (.iload_n 1, 1) := by decide +kernel
theorem dX5_saved_97 : decode cX5_saved 97 = .ok (.invokevirtual 34, 3) := by decide +kernel
theorem dX5_saved_100 : decode cX5_saved 100 = .ok (.ireturn, 1) := by decide +kernel
theorem dX5_sets_0 : decode cX5_sets 0 = .ok (.iconst 0, 1) := by decide +kernel
theorem dX5_sets_1 : decode cX5_sets 1 = .ok (.istore_n 2, 1) := by decide +kernel
theorem dX5_sets_2 : decode cX5_sets 2 = .ok (.iload_n 2, 1) := by decide +kernel
theorem dX5_sets_3 : decode cX5_sets 3 = .ok (.sipush 176, 3) := by decide +kernel
theorem dX5_sets_6 : decode cX5_sets 6 = .ok (.if_icmp .ge 16, 3) := by decide +kernel
theorem dX5_sets_9 : decode cX5_sets 9 = .ok (.aload_n 0, 1) := by decide +kernel
theorem dX5_sets_10 : decode cX5_sets 10 = .ok (.getfield 7, 3) := by decide +kernel
theorem dX5_sets_13 : decode cX5_sets 13 = .ok (.iload_n 2, 1) := by decide +kernel
theorem dX5_sets_14 : decode cX5_sets 14 = .ok (.iconst 0, 1) := by decide +kernel
theorem dX5_sets_15 : decode cX5_sets 15 = .ok (.iastore, 1) := by decide +kernel
theorem dX5_sets_16 : decode cX5_sets 16 = .ok (.iinc 2 1, 3) := by decide +kernel
theorem dX5_sets_19 : decode cX5_sets 19 = .ok (.goto (-17), 3) := by decide +kernel
theorem dX5_sets_22 : decode cX5_sets 22 = .ok (.aload_n 0, 1) := by decide +kernel
theorem dX5_sets_23 : decode cX5_sets 23 = .ok (.getfield 7, 3) := by decide +kernel
theorem dX5_sets_26 : decode cX5_sets 26 = .ok (.iconst 0, 1) := by decide +kernel
theorem dX5_sets_27 : decode cX5_sets 27 = .ok (.iload_n 1, 1) := by decide +kernel
theorem dX5_sets_28 : decode cX5_sets 28 = .ok (.iastore, 1) := by decide +kernel
theorem dX5_sets_29 : decode cX5_sets 29 = .ok (.aload_n 0, 1) := by decide +kernel
theorem dX5_sets_30 : decode cX5_sets 30 = .ok (.getfield 7, 3) := by decide +kernel
theorem dX5_sets_33 : decode cX5_sets 33 = .ok (.iconst 1, 1) := by decide +kernel
theorem dX5_sets_34 : decode cX5_sets 34 = .ok (.iconst 1, 1) := by decide +kernel
theorem dX5_sets_35 : decode cX5_sets 35 = .ok (.iastore, 1) := by decide +kernel
theorem dX5_sets_36 : decode cX5_sets 36 = .ok (.aload_n 0, 1) := by decide +kernel
theorem dX5_sets_37 : decode cX5_sets 37 = .ok (.getfield 7, 3) := by decide +kernel
theorem dX5_sets_40 : decode cX5_sets 40 = .ok (.iconst 4, 1) := by decide +kernel
theorem dX5_sets_41 : decode cX5_sets 41 = .ok (.iconst (-1), 1) := by decide +kernel
theorem dX5_sets_42 : decode cX5_sets 42 = .ok (.iastore, 1) := by decide +kernel
theorem dX5_sets_43 : decode cX5_sets 43 = .ok (.return_, 1) := by decide +kernel
theorem dX5_cases_0 : decode cX5_cases 0 = .ok (.iconst 2, 1) := by decide +kernel
theorem dX5_cases_1 : decode cX5_cases 1 = .ok (.aload_n 0, 1) := by decide +kernel
theorem dX5_cases_2 : decode cX5_cases 2 = .ok (.getfield 7, 3) := by decide +kernel
theorem dX5_cases_5 : decode cX5_cases 5 = .ok (.iconst 0, 1) := by decide +kernel
theorem dX5_cases_6 : decode cX5_cases 6 = .ok (.iaload, 1) := by decide +kernel
theorem dX5_cases_7 : decode cX5_cases 7 = .ok (.imul, 1) := by decide +kernel
theorem dX5_cases_8 : decode cX5_cases 8 = .ok (.iconst 1, 1) := by decide +kernel
theorem dX5_cases_9 : decode cX5_cases 9 = .ok (.iadd, 1) := by decide +kernel
theorem dX5_cases_10 : decode cX5_cases 10 = .ok (.ireturn, 1) := by decide +kernel
set_option maxRecDepth 20000 in
theorem ggX5_isCase_X5_cases : GoodIn wsX5_isCase wsX5_cases := goodIn_r _ [5, 6, 10, 11, 12, 13, 14, 15, 16, 17, 18, 19, 20] (by decide +kernel) (by decide +kernel)
set_option maxRecDepth 20000 in
theorem gX5_isCase_X5_cases : GoodIn wsX5_isCase (wsV RX5 38 RX5 yX5_cases wsX5_cases) := goodIn_app (goodIn_of _ (by decide +kernel)) ggX5_isCase_X5_cases
set_option maxRecDepth 20000 in
theorem ggX5_isCase_X5_in : GoodIn wsX5_isCase wsX5_in := goodIn_r _ [9] (by decide +kernel) (by decide +kernel)
set_option maxRecDepth 20000 in
theorem gX5_isCase_X5_in : GoodIn wsX5_isCase (va_wsS RX5 42 yX5_in wsX5_in) := goodIn_app (goodIn_of _ (by decide +kernel)) ggX5_isCase_X5_in
theorem dX5_isCase_0 : decode cX5_isCase 0 = .ok (.iload_n 1, 1) := by decide +kernel
theorem dX5_isCase_1 : decode cX5_isCase 1 = .ok (.iconst 0, 1) := by decide +kernel
theorem dX5_isCase_2 : decode cX5_isCase 2 = .ok (.aload_n 0, 1) := by decide +kernel
theorem dX5_isCase_3 : decode cX5_isCase 3 = .ok (.invokevirtual 38, 3) := by decide +kernel
theorem dX5_isCase_6 : decode cX5_isCase 6 = .ok (.iconst 1, 1) := by decide +kernel
theorem dX5_isCase_7 : decode cX5_isCase 7 = .ok (.isub, 1) := by decide +kernel
theorem dX5_isCase_8 : decode cX5_isCase 8 = .ok (.invokestatic 42, 3) := by decide +kernel
theorem dX5_isCase_11 : decode cX5_isCase 11 = .ok (.ireturn, 1) := by decide +kernel
theorem dX5_ones_0 : decode cX5_ones 0 = .ok (.iconst 0, 1) := by decide +kernel
theorem dX5_ones_1 : decode cX5_ones 1 = .ok (.istore_n 1, 1) := by decide +kernel
theorem dX5_ones_2 : decode cX5_ones 2 = .ok (.iconst 0, 1) := by decide +kernel
theorem dX5_ones_3 : decode cX5_ones 3 = .ok (.istore_n 2, 1) := by decide +kernel
theorem dX5_ones_4 : decode cX5_ones 4 = .ok (.iload_n 2, 1) := by decide +kernel
theorem dX5_ones_5 : decode cX5_ones 5 = .ok (.bipush 16, 2) := by decide +kernel
theorem dX5_ones_7 : decode cX5_ones 7 = .ok (.if_icmp .ge 17, 3) := by decide +kernel
theorem dX5_ones_10 : decode cX5_ones 10 = .ok (.iload_n 1, 1) := by decide +kernel
theorem dX5_ones_11 : decode cX5_ones 11 = .ok (.iload_n 0, 1) := by decide +kernel
theorem dX5_ones_12 : decode cX5_ones 12 = .ok (.iload_n 2, 1) := by decide +kernel
theorem dX5_ones_13 : decode cX5_ones 13 = .ok (.ishr, 1) := by decide +kernel
theorem dX5_ones_14 : decode cX5_ones 14 = .ok (.iconst 1, 1) := by decide +kernel
theorem dX5_ones_15 : decode cX5_ones 15 = .ok (.iand, 1) := by decide +kernel
theorem dX5_ones_16 : decode cX5_ones 16 = .ok (.iadd, 1) := by decide +kernel
theorem dX5_ones_17 : decode cX5_ones 17 = .ok (.istore_n 1, 1) := by decide +kernel
theorem dX5_ones_18 : decode cX5_ones 18 = .ok (.iinc 2 1, 3) := by decide +kernel
theorem dX5_ones_21 : decode cX5_ones 21 = .ok (.goto (-17), 3) := by decide +kernel
theorem dX5_ones_24 : decode cX5_ones 24 = .ok (.iload_n 1, 1) := by decide +kernel
theorem dX5_ones_25 : decode cX5_ones 25 = .ok (.ireturn, 1) := by decide +kernel
set_option maxRecDepth 20000 in
theorem ggX5_areSides_X5_in : GoodIn wsX5_areSides wsX5_in := goodIn_r _ [5] (by decide +kernel) (by decide +kernel)
set_option maxRecDepth 20000 in
theorem gX5_areSides_X5_in : GoodIn wsX5_areSides (va_wsS RX5 42 yX5_in wsX5_in) := goodIn_app (goodIn_of _ (by decide +kernel)) ggX5_areSides_X5_in
set_option maxRecDepth 20000 in
theorem ggX5_areSides_X5_ones : GoodIn wsX5_areSides wsX5_ones := goodIn_r _ [8] (by decide +kernel) (by decide +kernel)
set_option maxRecDepth 20000 in
theorem gX5_areSides_X5_ones : GoodIn wsX5_areSides (va_wsS RX5 46 yX5_ones wsX5_ones) := goodIn_app (goodIn_of _ (by decide +kernel)) ggX5_areSides_X5_ones
theorem dX5_areSides_0 : decode cX5_areSides 0 = .ok (.iconst 1, 1) := by decide +kernel
theorem dX5_areSides_1 : decode cX5_areSides 1 = .ok (.aload_n 0, 1) := by decide +kernel
theorem dX5_areSides_2 : decode cX5_areSides 2 = .ok (.getfield 7, 3) := by decide +kernel
theorem dX5_areSides_5 : decode cX5_areSides 5 = .ok (.iconst 0, 1) := by decide +kernel
theorem dX5_areSides_6 : decode cX5_areSides 6 = .ok (.iaload, 1) := by decide +kernel
theorem dX5_areSides_7 : decode cX5_areSides 7 = .ok (.ishl, 1) := by decide +kernel
theorem dX5_areSides_8 : decode cX5_areSides 8 = .ok (.iconst 1, 1) := by decide +kernel
theorem dX5_areSides_9 : decode cX5_areSides 9 = .ok (.isub, 1) := by decide +kernel
theorem dX5_areSides_10 : decode cX5_areSides 10 = .ok (.istore_n 3, 1) := by decide +kernel
theorem dX5_areSides_11 : decode cX5_areSides 11 = .ok (.iload_n 1, 1) := by decide +kernel
theorem dX5_areSides_12 : decode cX5_areSides 12 = .ok (.iconst 1, 1) := by decide +kernel
theorem dX5_areSides_13 : decode cX5_areSides 13 = .ok (.iload_n 3, 1) := by decide +kernel
theorem dX5_areSides_14 : decode cX5_areSides 14 = .ok (.invokestatic 42, 3) := by decide +kernel
theorem dX5_areSides_17 : decode cX5_areSides 17 = .ok (.ifCond .eq 33, 3) := by decide +kernel
theorem dX5_areSides_20 : decode cX5_areSides 20 = .ok (.iload_n 2, 1) := by decide +kernel
theorem dX5_areSides_21 : decode cX5_areSides 21 = .ok (.iconst 1, 1) := by decide +kernel
theorem dX5_areSides_22 : decode cX5_areSides 22 = .ok (.iload_n 3, 1) := by decide +kernel
theorem dX5_areSides_23 : decode cX5_areSides 23 = .ok (.invokestatic 42, 3) := by decide +kernel
theorem dX5_areSides_26 : decode cX5_areSides 26 = .ok (.ifCond .eq 24, 3) := by decide +kernel
theorem dX5_areSides_29 : decode cX5_areSides 29 = .ok (.iload_n 1, 1) := by decide +kernel
theorem dX5_areSides_30 : decode cX5_areSides 30 = .ok (.iload_n 2, 1) := by decide +kernel
theorem dX5_areSides_31 : decode cX5_areSides 31 = .ok (.iand, 1) := by decide +kernel
theorem dX5_areSides_32 : decode cX5_areSides 32 = .ok (.ifCond .ne 18, 3) := by decide +kernel
theorem dX5_areSides_35 : decode cX5_areSides 35 = .ok (.iload_n 1, 1) := by decide +kernel
theorem dX5_areSides_36 : decode cX5_areSides 36 = .ok (.invokestatic 46, 3) := by decide +kernel
theorem dX5_areSides_39 : decode cX5_areSides 39 = .ok (.iload_n 2, 1) := by decide +kernel
theorem dX5_areSides_40 : decode cX5_areSides 40 = .ok (.invokestatic 46, 3) := by decide +kernel
theorem dX5_areSides_43 : decode cX5_areSides 43 = .ok (.if_icmp .ne 7, 3) := by decide +kernel
theorem dX5_areSides_46 : decode cX5_areSides 46 = .ok (.iconst 1, 1) := by decide +kernel
theorem dX5_areSides_47 : decode cX5_areSides 47 = .ok (.goto 4, 3) := by decide +kernel
theorem dX5_areSides_50 : decode cX5_areSides 50 = .ok (.iconst 0, 1) := by decide +kernel
theorem dX5_areSides_51 : decode cX5_areSides 51 = .ok (.ireturn, 1) := by decide +kernel
theorem dX5_truth_0 : decode cX5_truth 0 = .ok (.iload_n 0, 1) := by decide +kernel
theorem dX5_truth_1 : decode cX5_truth 1 = .ok (.ifCond .ne 5, 3) := by decide +kernel
theorem dX5_truth_4 : decode cX5_truth 4 = .ok (.iconst 2, 1) := by decide +kernel
theorem dX5_truth_5 : decode cX5_truth 5 = .ok (.ireturn, 1) := by decide +kernel
theorem dX5_truth_6 : decode cX5_truth 6 = .ok (.iload_n 0, 1) := by decide +kernel
theorem dX5_truth_7 : decode cX5_truth 7 = .ok (.iconst 1, 1) := by decide +kernel
theorem dX5_truth_8 : decode cX5_truth 8 = .ok (.isub, 1) := by decide +kernel
theorem dX5_truth_9 : decode cX5_truth 9 = .ok (.iconst 2, 1) := by decide +kernel
theorem dX5_truth_10 : decode cX5_truth 10 = .ok (.idiv, 1) := by decide +kernel
theorem dX5_truth_11 : decode cX5_truth 11 = .ok (.istore_n 3, 1) := by decide +kernel
theorem dX5_truth_12 : decode cX5_truth 12 = .ok (.iload_n 0, 1) := by decide +kernel
theorem dX5_truth_13 : decode cX5_truth 13 = .ok (.iconst 1, 1) := by decide +kernel
theorem dX5_truth_14 : decode cX5_truth 14 = .ok (.isub, 1) := by decide +kernel
theorem dX5_truth_15 : decode cX5_truth 15 = .ok (.iconst 2, 1) := by decide +kernel
theorem dX5_truth_16 : decode cX5_truth 16 = .ok (.irem, 1) := by decide +kernel
theorem dX5_truth_17 : decode cX5_truth 17 = .ok (.istore 4, 2) := by decide +kernel
theorem dX5_truth_19 : decode cX5_truth 19 = .ok (.iload_n 1, 1) := by decide +kernel
theorem dX5_truth_20 : decode cX5_truth 20 = .ok (.iload_n 3, 1) := by decide +kernel
theorem dX5_truth_21 : decode cX5_truth 21 = .ok (.ishr, 1) := by decide +kernel
theorem dX5_truth_22 : decode cX5_truth 22 = .ok (.iconst 1, 1) := by decide +kernel
theorem dX5_truth_23 : decode cX5_truth 23 = .ok (.iand, 1) := by decide +kernel
theorem dX5_truth_24 : decode cX5_truth 24 = .ok (.iconst 1, 1) := by decide +kernel
theorem dX5_truth_25 : decode cX5_truth 25 = .ok (.if_icmp .ne 8, 3) := by decide +kernel
theorem dX5_truth_28 : decode cX5_truth 28 = .ok (.iload 4, 2) := by decide +kernel
theorem dX5_truth_30 : decode cX5_truth 30 = .ok (.goto 20, 3) := by decide +kernel
theorem dX5_truth_33 : decode cX5_truth 33 = .ok (.iload_n 2, 1) := by decide +kernel
theorem dX5_truth_34 : decode cX5_truth 34 = .ok (.iload_n 3, 1) := by decide +kernel
theorem dX5_truth_35 : decode cX5_truth 35 = .ok (.ishr, 1) := by decide +kernel
theorem dX5_truth_36 : decode cX5_truth 36 = .ok (.iconst 1, 1) := by decide +kernel
theorem dX5_truth_37 : decode cX5_truth 37 = .ok (.iand, 1) := by decide +kernel
theorem dX5_truth_38 : decode cX5_truth 38 = .ok (.iconst 1, 1) := by decide +kernel
theorem dX5_truth_39 : decode cX5_truth 39 = .ok (.if_icmp .ne 10, 3) := by decide +kernel
theorem dX5_truth_42 : decode cX5_truth 42 = .ok (.iconst 1, 1) := by decide +kernel
theorem dX5_truth_43 : decode cX5_truth 43 = .ok (.iload 4, 2) := by decide +kernel
theorem dX5_truth_45 : decode cX5_truth 45 = .ok (.isub, 1) := by decide +kernel
theorem dX5_truth_46 : decode cX5_truth 46 = .ok (.goto 4, 3) := by decide +kernel
theorem dX5_truth_49 : decode cX5_truth 49 = .ok (.iconst 2, 1) := by decide +kernel
theorem dX5_truth_50 : decode cX5_truth 50 = .ok (.ireturn, 1) := by decide +kernel
theorem dX5_isLeft_0 : decode cX5_isLeft 0 = .ok (.aload_n 0, 1) := by decide +kernel
theorem dX5_isLeft_1 : decode cX5_isLeft 1 = .ok (.getfield 7, 3) := by decide +kernel
theorem dX5_isLeft_4 : decode cX5_isLeft 4 = .ok (.sipush 143, 3) := by decide +kernel
theorem dX5_isLeft_7 : decode cX5_isLeft 7 = .ok (.iload_n 1, 1) := by decide +kernel
theorem dX5_isLeft_8 : decode cX5_isLeft 8 = .ok (.iadd, 1) := by decide +kernel
theorem dX5_isLeft_9 : decode cX5_isLeft 9 = .ok (.iaload, 1) := by decide +kernel
theorem dX5_isLeft_10 : decode cX5_isLeft 10 = .ok (.aload_n 0, 1) := by decide +kernel
theorem dX5_isLeft_11 : decode cX5_isLeft 11 = .ok (.getfield 7, 3) := by decide +kernel
theorem dX5_isLeft_14 : decode cX5_isLeft 14 = .ok (.iconst 1, 1) := by decide +kernel
theorem dX5_isLeft_15 : decode cX5_isLeft 15 = .ok (.iaload, 1) := by decide +kernel
theorem dX5_isLeft_16 : decode cX5_isLeft 16 = .ok (.if_icmp .gt 7, 3) := by decide +kernel
theorem dX5_isLeft_19 : decode cX5_isLeft 19 = .ok (.iconst 1, 1) := by decide +kernel
theorem dX5_isLeft_20 : decode cX5_isLeft 20 = .ok (.goto 4, 3) := by decide +kernel
theorem dX5_isLeft_23 : decode cX5_isLeft 23 = .ok (.iconst 0, 1) := by decide +kernel
theorem dX5_isLeft_24 : decode cX5_isLeft 24 = .ok (.ireturn, 1) := by decide +kernel
set_option maxRecDepth 20000 in
theorem ggX5_lefts_X5_cases : GoodIn wsX5_lefts wsX5_cases := goodIn_r _ [5, 6, 11, 12, 13, 14, 15, 16, 17, 18, 19, 20, 21] (by decide +kernel) (by decide +kernel)
set_option maxRecDepth 20000 in
theorem gX5_lefts_X5_cases : GoodIn wsX5_lefts (wsV RX5 38 RX5 yX5_cases wsX5_cases) := goodIn_app (goodIn_of _ (by decide +kernel)) ggX5_lefts_X5_cases
set_option maxRecDepth 20000 in
theorem ggX5_lefts_X5_isLeft : GoodIn wsX5_lefts wsX5_isLeft := goodIn_r _ [10, 6, 11, 12, 13, 14, 15, 16, 17, 18, 19, 20, 21] (by decide +kernel) (by decide +kernel)
set_option maxRecDepth 20000 in
theorem gX5_lefts_X5_isLeft : GoodIn wsX5_lefts (wsV RX5 49 RX5 yX5_isLeft wsX5_isLeft) := goodIn_app (goodIn_of _ (by decide +kernel)) ggX5_lefts_X5_isLeft
theorem dX5_lefts_0 : decode cX5_lefts 0 = .ok (.iconst 0, 1) := by decide +kernel
theorem dX5_lefts_1 : decode cX5_lefts 1 = .ok (.istore_n 1, 1) := by decide +kernel
theorem dX5_lefts_2 : decode cX5_lefts 2 = .ok (.iconst 0, 1) := by decide +kernel
theorem dX5_lefts_3 : decode cX5_lefts 3 = .ok (.istore_n 2, 1) := by decide +kernel
theorem dX5_lefts_4 : decode cX5_lefts 4 = .ok (.iload_n 2, 1) := by decide +kernel
theorem dX5_lefts_5 : decode cX5_lefts 5 = .ok (.aload_n 0, 1) := by decide +kernel
theorem dX5_lefts_6 : decode cX5_lefts 6 = .ok (.invokevirtual 38, 3) := by decide +kernel
theorem dX5_lefts_9 : decode cX5_lefts 9 = .ok (.if_icmp .ge 25, 3) := by decide +kernel
theorem dX5_lefts_12 : decode cX5_lefts 12 = .ok (.iload_n 1, 1) := by decide +kernel
theorem dX5_lefts_13 : decode cX5_lefts 13 = .ok (.aload_n 0, 1) := by decide +kernel
theorem dX5_lefts_14 : decode cX5_lefts 14 = .ok (.iload_n 2, 1) := by decide +kernel
theorem dX5_lefts_15 : decode cX5_lefts 15 = .ok (.invokevirtual 49, 3) := by decide +kernel
theorem dX5_lefts_18 : decode cX5_lefts 18 = .ok (.ifCond .eq 7, 3) := by decide +kernel
theorem dX5_lefts_21 : decode cX5_lefts 21 = .ok (.iconst 1, 1) := by decide +kernel
theorem dX5_lefts_22 : decode cX5_lefts 22 = .ok (.goto 4, 3) := by decide +kernel
theorem dX5_lefts_25 : decode cX5_lefts 25 = .ok (.iconst 0, 1) := by decide +kernel
theorem dX5_lefts_26 : decode cX5_lefts 26 = .ok (.iadd, 1) := by decide +kernel
theorem dX5_lefts_27 : decode cX5_lefts 27 = .ok (.istore_n 1, 1) := by decide +kernel
theorem dX5_lefts_28 : decode cX5_lefts 28 = .ok (.iinc 2 1, 3) := by decide +kernel
theorem dX5_lefts_31 : decode cX5_lefts 31 = .ok (.goto (-27), 3) := by decide +kernel
theorem dX5_lefts_34 : decode cX5_lefts 34 = .ok (.iload_n 1, 1) := by decide +kernel
theorem dX5_lefts_35 : decode cX5_lefts 35 = .ok (.ireturn, 1) := by decide +kernel
set_option maxRecDepth 20000 in
theorem ggX5_begin_X5_in : GoodIn wsX5_begin wsX5_in := goodIn_r _ [5] (by decide +kernel) (by decide +kernel)
set_option maxRecDepth 20000 in
theorem gX5_begin_X5_in : GoodIn wsX5_begin (va_wsS RX5 42 yX5_in wsX5_in) := goodIn_app (goodIn_of _ (by decide +kernel)) ggX5_begin_X5_in
set_option maxRecDepth 20000 in
theorem ggX5_begin_X5_fails : GoodIn wsX5_begin wsX5_fails := goodIn_r _ [9, 10, 30, 31, 32, 33, 34, 35, 36, 37, 38, 39, 40] (by decide +kernel) (by decide +kernel)
set_option maxRecDepth 20000 in
theorem gX5_begin_X5_fails : GoodIn wsX5_begin (wsV RX5 53 RX5 yX5_fails wsX5_fails) := goodIn_app (goodIn_of _ (by decide +kernel)) ggX5_begin_X5_fails
set_option maxRecDepth 20000 in
theorem ggX5_begin_X5_begins : GoodIn wsX5_begin wsX5_begins := goodIn_r _ [14, 15, 1, 30, 31, 32, 33, 34, 35, 36, 37, 38, 39, 40] (by decide +kernel) (by decide +kernel)
set_option maxRecDepth 20000 in
theorem gX5_begin_X5_begins : GoodIn wsX5_begin (wsV RX5 56 RX5 yX5_begins wsX5_begins) := goodIn_app (goodIn_of _ (by decide +kernel)) ggX5_begin_X5_begins
set_option maxRecDepth 20000 in
theorem ggX5_begin_X5_sets : GoodIn wsX5_begin wsX5_sets := goodIn_r _ [19, 1, 30, 31, 32, 33, 34, 35, 36, 37, 38, 39, 40] (by decide +kernel) (by decide +kernel)
set_option maxRecDepth 20000 in
theorem gX5_begin_X5_sets : GoodIn wsX5_begin (wsV RX5 23 RX5 yX5_sets wsX5_sets) := goodIn_app (goodIn_of _ (by decide +kernel)) ggX5_begin_X5_sets
set_option maxRecDepth 20000 in
theorem ggX5_begin_X5_saved : GoodIn wsX5_begin wsX5_saved := goodIn_r _ [23, 24, 25, 15, 26, 27, 28, 4, 29, 10, 30, 31, 32, 33, 34, 35, 36, 37, 38, 39, 40] (by decide +kernel) (by decide +kernel)
set_option maxRecDepth 20000 in
theorem gX5_begin_X5_saved : GoodIn wsX5_begin (wsV RX5 59 RX5 yX5_saved wsX5_saved) := goodIn_app (goodIn_of _ (by decide +kernel)) ggX5_begin_X5_saved
theorem dX5_begin_0 : decode cX5_begin 0 = .ok (.iload_n 1, 1) := by decide +kernel
theorem dX5_begin_1 : decode cX5_begin 1 = .ok (.iconst 2, 1) := by decide +kernel
theorem dX5_begin_2 : decode cX5_begin 2 = .ok (.bipush 16, 2) := by decide +kernel
theorem dX5_begin_4 : decode cX5_begin 4 = .ok (.invokestatic 42, 3) := by decide +kernel
theorem dX5_begin_7 : decode cX5_begin 7 = .ok (.ifCond .ne 9, 3) := by decide +kernel
theorem dX5_begin_10 : decode cX5_begin 10 = .ok (.aload_n 0, 1) := by decide +kernel
theorem dX5_begin_11 : decode cX5_begin 11 = .ok (.iconst 1, 1) := by decide +kernel
theorem dX5_begin_12 : decode cX5_begin 12 = .ok (.invokevirtual 53, 3) := by decide +kernel
theorem dX5_begin_15 : decode cX5_begin 15 = .ok (.ireturn, 1) := by decide +kernel
theorem dX5_begin_16 : decode cX5_begin 16 = .ok (.aload_n 0, 1) := by decide +kernel
theorem dX5_begin_17 : decode cX5_begin 17 = .ok (.invokevirtual 56, 3) := by decide +kernel
theorem dX5_begin_20 : decode cX5_begin 20 = .ok (.aload_n 0, 1) := by decide +kernel
theorem dX5_begin_21 : decode cX5_begin 21 = .ok (.getfield 7, 3) := by decide +kernel
theorem dX5_begin_24 : decode cX5_begin 24 = .ok (.iconst 2, 1) := by decide +kernel
theorem dX5_begin_25 : decode cX5_begin 25 = .ok (.iaload, 1) := by decide +kernel
theorem dX5_begin_26 : decode cX5_begin 26 = .ok (.istore_n 2, 1) := by decide +kernel
theorem dX5_begin_27 : decode cX5_begin 27 = .ok (.aload_n 0, 1) := by decide +kernel
theorem dX5_begin_28 : decode cX5_begin 28 = .ok (.iload_n 1, 1) := by decide +kernel
theorem dX5_begin_29 : decode cX5_begin 29 = .ok (.invokevirtual 23, 3) := by decide +kernel
theorem dX5_begin_32 : decode cX5_begin 32 = .ok (.aload_n 0, 1) := by decide +kernel
theorem dX5_begin_33 : decode cX5_begin 33 = .ok (.iload_n 2, 1) := by decide +kernel
theorem dX5_begin_34 : decode cX5_begin 34 = .ok (.invokevirtual 59, 3) := by decide +kernel
theorem dX5_begin_37 : decode cX5_begin 37 = .ok (.ireturn, 1) := by decide +kernel
set_option maxRecDepth 20000 in
theorem ggX5_setLimit_X5_in : GoodIn wsX5_setLimit wsX5_in := goodIn_r _ [5] (by decide +kernel) (by decide +kernel)
set_option maxRecDepth 20000 in
theorem gX5_setLimit_X5_in : GoodIn wsX5_setLimit (va_wsS RX5 42 yX5_in wsX5_in) := goodIn_app (goodIn_of _ (by decide +kernel)) ggX5_setLimit_X5_in
set_option maxRecDepth 20000 in
theorem ggX5_setLimit_X5_fails : GoodIn wsX5_setLimit wsX5_fails := goodIn_r _ [9, 10, 38, 39, 40, 41, 42, 43, 44, 45, 46, 47, 48] (by decide +kernel) (by decide +kernel)
set_option maxRecDepth 20000 in
theorem gX5_setLimit_X5_fails : GoodIn wsX5_setLimit (wsV RX5 53 RX5 yX5_fails wsX5_fails) := goodIn_app (goodIn_of _ (by decide +kernel)) ggX5_setLimit_X5_fails
set_option maxRecDepth 20000 in
theorem ggX5_setLimit_X5_begins : GoodIn wsX5_setLimit wsX5_begins := goodIn_r _ [14, 15, 1, 38, 39, 40, 41, 42, 43, 44, 45, 46, 47, 48] (by decide +kernel) (by decide +kernel)
set_option maxRecDepth 20000 in
theorem gX5_setLimit_X5_begins : GoodIn wsX5_setLimit (wsV RX5 56 RX5 yX5_begins wsX5_begins) := goodIn_app (goodIn_of _ (by decide +kernel)) ggX5_setLimit_X5_begins
set_option maxRecDepth 20000 in
theorem ggX5_setLimit_X5_lefts : GoodIn wsX5_setLimit wsX5_lefts := goodIn_r _ [19, 20, 21, 22, 4, 23, 1, 24, 25, 26, 27, 38, 39, 40, 41, 42, 43, 44, 45, 46, 47, 48] (by decide +kernel) (by decide +kernel)
set_option maxRecDepth 20000 in
theorem gX5_setLimit_X5_lefts : GoodIn wsX5_setLimit (wsV RX5 62 RX5 yX5_lefts wsX5_lefts) := goodIn_app (goodIn_of _ (by decide +kernel)) ggX5_setLimit_X5_lefts
set_option maxRecDepth 20000 in
theorem ggX5_setLimit_X5_saved : GoodIn wsX5_setLimit wsX5_saved := goodIn_r _ [31, 32, 33, 15, 34, 35, 36, 4, 37, 10, 38, 39, 40, 41, 42, 43, 44, 45, 46, 47, 48] (by decide +kernel) (by decide +kernel)
set_option maxRecDepth 20000 in
theorem gX5_setLimit_X5_saved : GoodIn wsX5_setLimit (wsV RX5 59 RX5 yX5_saved wsX5_saved) := goodIn_app (goodIn_of _ (by decide +kernel)) ggX5_setLimit_X5_saved
theorem dX5_setLimit_0 : decode cX5_setLimit 0 = .ok (.iload_n 1, 1) := by decide +kernel
theorem dX5_setLimit_1 : decode cX5_setLimit 1 = .ok (.iconst 0, 1) := by decide +kernel
theorem dX5_setLimit_2 : decode cX5_setLimit 2 = .ok (.iconst 2, 1) := by decide +kernel
theorem dX5_setLimit_3 : decode cX5_setLimit 3 = .ok (.invokestatic 42, 3) := by decide +kernel
theorem dX5_setLimit_6 : decode cX5_setLimit 6 = .ok (.ifCond .ne 9, 3) := by decide +kernel
theorem dX5_setLimit_9 : decode cX5_setLimit 9 = .ok (.aload_n 0, 1) := by decide +kernel
theorem dX5_setLimit_10 : decode cX5_setLimit 10 = .ok (.iconst 1, 1) := by decide +kernel
theorem dX5_setLimit_11 : decode cX5_setLimit 11 = .ok (.invokevirtual 53, 3) := by decide +kernel
theorem dX5_setLimit_14 : decode cX5_setLimit 14 = .ok (.ireturn, 1) := by decide +kernel
theorem dX5_setLimit_15 : decode cX5_setLimit 15 = .ok (.aload_n 0, 1) := by decide +kernel
theorem dX5_setLimit_16 : decode cX5_setLimit 16 = .ok (.invokevirtual 56, 3) := by decide +kernel
theorem dX5_setLimit_19 : decode cX5_setLimit 19 = .ok (.aload_n 0, 1) := by decide +kernel
theorem dX5_setLimit_20 : decode cX5_setLimit 20 = .ok (.getfield 7, 3) := by decide +kernel
theorem dX5_setLimit_23 : decode cX5_setLimit 23 = .ok (.iconst 1, 1) := by decide +kernel
theorem dX5_setLimit_24 : decode cX5_setLimit 24 = .ok (.iload_n 1, 1) := by decide +kernel
theorem dX5_setLimit_25 : decode cX5_setLimit 25 = .ok (.iastore, 1) := by decide +kernel
theorem dX5_setLimit_26 : decode cX5_setLimit 26 = .ok (.aload_n 0, 1) := by decide +kernel
theorem dX5_setLimit_27 : decode cX5_setLimit 27 = .ok (.aload_n 0, 1) := by decide +kernel
theorem dX5_setLimit_28 : decode cX5_setLimit 28 = .ok (.invokevirtual 62, 3) := by decide +kernel
theorem dX5_setLimit_31 : decode cX5_setLimit 31 = .ok (.invokevirtual 59, 3) := by decide +kernel
theorem dX5_setLimit_34 : decode cX5_setLimit 34 = .ok (.ireturn, 1) := by decide +kernel
set_option maxRecDepth 20000 in
theorem ggX5_lays_X5_cases : GoodIn wsX5_lays wsX5_cases := goodIn_r _ [6, 1, 10, 11, 12, 13, 14, 15, 16, 17, 18, 19, 20] (by decide +kernel) (by decide +kernel)
set_option maxRecDepth 20000 in
theorem gX5_lays_X5_cases : GoodIn wsX5_lays (wsV RX5 38 RX5 yX5_cases wsX5_cases) := goodIn_app (goodIn_of _ (by decide +kernel)) ggX5_lays_X5_cases
set_option maxRecDepth 20000 in
theorem ggX5_lays_X5_truth : GoodIn wsX5_lays wsX5_truth := goodIn_r _ [9] (by decide +kernel) (by decide +kernel)
set_option maxRecDepth 20000 in
theorem gX5_lays_X5_truth : GoodIn wsX5_lays (va_wsS RX5 65 yX5_truth wsX5_truth) := goodIn_app (goodIn_of _ (by decide +kernel)) ggX5_lays_X5_truth
theorem dX5_lays_0 : decode cX5_lays 0 = .ok (.bipush 7, 2) := by decide +kernel
theorem dX5_lays_2 : decode cX5_lays 2 = .ok (.iconst 3, 1) := by decide +kernel
theorem dX5_lays_3 : decode cX5_lays 3 = .ok (.aload_n 0, 1) := by decide +kernel
theorem dX5_lays_4 : decode cX5_lays 4 = .ok (.getfield 7, 3) := by decide +kernel
theorem dX5_lays_7 : decode cX5_lays 7 = .ok (.iconst 2, 1) := by decide +kernel
theorem dX5_lays_8 : decode cX5_lays 8 = .ok (.iaload, 1) := by decide +kernel
theorem dX5_lays_9 : decode cX5_lays 9 = .ok (.imul, 1) := by decide +kernel
theorem dX5_lays_10 : decode cX5_lays 10 = .ok (.iadd, 1) := by decide +kernel
theorem dX5_lays_11 : decode cX5_lays 11 = .ok (.istore 4, 2) := by decide +kernel
theorem dX5_lays_13 : decode cX5_lays 13 = .ok (.aload_n 0, 1) := by decide +kernel
theorem dX5_lays_14 : decode cX5_lays 14 = .ok (.getfield 7, 3) := by decide +kernel
theorem dX5_lays_17 : decode cX5_lays 17 = .ok (.iload 4, 2) := by decide +kernel
theorem dX5_lays_19 : decode cX5_lays 19 = .ok (.iload_n 1, 1) := by decide +kernel
theorem dX5_lays_20 : decode cX5_lays 20 = .ok (.iastore, 1) := by decide +kernel
theorem dX5_lays_21 : decode cX5_lays 21 = .ok (.aload_n 0, 1) := by decide +kernel
theorem dX5_lays_22 : decode cX5_lays 22 = .ok (.getfield 7, 3) := by decide +kernel
theorem dX5_lays_25 : decode cX5_lays 25 = .ok (.iload 4, 2) := by decide +kernel
theorem dX5_lays_27 : decode cX5_lays 27 = .ok (.iconst 1, 1) := by decide +kernel
theorem dX5_lays_28 : decode cX5_lays 28 = .ok (.iadd, 1) := by decide +kernel
theorem dX5_lays_29 : decode cX5_lays 29 = .ok (.iload_n 2, 1) := by decide +kernel
theorem dX5_lays_30 : decode cX5_lays 30 = .ok (.iastore, 1) := by decide +kernel
theorem dX5_lays_31 : decode cX5_lays 31 = .ok (.aload_n 0, 1) := by decide +kernel
theorem dX5_lays_32 : decode cX5_lays 32 = .ok (.getfield 7, 3) := by decide +kernel
theorem dX5_lays_35 : decode cX5_lays 35 = .ok (.iload 4, 2) := by decide +kernel
theorem dX5_lays_37 : decode cX5_lays 37 = .ok (.iconst 2, 1) := by decide +kernel
theorem dX5_lays_38 : decode cX5_lays 38 = .ok (.iadd, 1) := by decide +kernel
theorem dX5_lays_39 : decode cX5_lays 39 = .ok (.iload_n 3, 1) := by decide +kernel
theorem dX5_lays_40 : decode cX5_lays 40 = .ok (.iastore, 1) := by decide +kernel
theorem dX5_lays_41 : decode cX5_lays 41 = .ok (.aload_n 0, 1) := by decide +kernel
theorem dX5_lays_42 : decode cX5_lays 42 = .ok (.getfield 7, 3) := by decide +kernel
theorem dX5_lays_45 : decode cX5_lays 45 = .ok (.iconst 2, 1) := by decide +kernel
theorem dX5_lays_46 : decode cX5_lays 46 = .ok (.dup2, 1) := by decide +kernel
theorem dX5_lays_47 : decode cX5_lays 47 = .ok (.iaload, 1) := by decide +kernel
theorem dX5_lays_48 : decode cX5_lays 48 = .ok (.iconst 1, 1) := by decide +kernel
theorem dX5_lays_49 : decode cX5_lays 49 = .ok (.iadd, 1) := by decide +kernel
theorem dX5_lays_50 : decode cX5_lays 50 = .ok (.iastore, 1) := by decide +kernel
theorem dX5_lays_51 : decode cX5_lays 51 = .ok (.iconst 0, 1) := by decide +kernel
theorem dX5_lays_52 : decode cX5_lays 52 = .ok (.istore 5, 2) := by decide +kernel
theorem dX5_lays_54 : decode cX5_lays 54 = .ok (.iload 5, 2) := by decide +kernel
theorem dX5_lays_56 : decode cX5_lays 56 = .ok (.aload_n 0, 1) := by decide +kernel
theorem dX5_lays_57 : decode cX5_lays 57 = .ok (.invokevirtual 38, 3) := by decide +kernel
theorem dX5_lays_60 : decode cX5_lays 60 = .ok (.if_icmp .ge 39, 3) := by decide +kernel
theorem dX5_lays_63 : decode cX5_lays 63 = .ok (.aload_n 0, 1) := by decide +kernel
theorem dX5_lays_64 : decode cX5_lays 64 = .ok (.getfield 7, 3) := by decide +kernel
theorem dX5_lays_67 : decode cX5_lays 67 = .ok (.sipush 143, 3) := by decide +kernel
theorem dX5_lays_70 : decode cX5_lays 70 = .ok (.iload 5, 2) := by decide +kernel
theorem dX5_lays_72 : decode cX5_lays 72 = .ok (.iadd, 1) := by decide +kernel
theorem dX5_lays_73 : decode cX5_lays 73 = .ok (.dup2, 1) := by decide +kernel
theorem dX5_lays_74 : decode cX5_lays 74 = .ok (.iaload, 1) := by decide +kernel
theorem dX5_lays_75 : decode cX5_lays 75 = .ok (.iload 5, 2) := by decide +kernel
theorem dX5_lays_77 : decode cX5_lays 77 = .ok (.iload_n 1, 1) := by decide +kernel
theorem dX5_lays_78 : decode cX5_lays 78 = .ok (.iload_n 2, 1) := by decide +kernel
theorem dX5_lays_79 : decode cX5_lays 79 = .ok (.invokestatic 65, 3) := by decide +kernel
theorem dX5_lays_82 : decode cX5_lays 82 = .ok (.iload_n 3, 1) := by decide +kernel
theorem dX5_lays_83 : decode cX5_lays 83 = .ok (.if_icmp .ne 7, 3) := by decide +kernel
theorem dX5_lays_86 : decode cX5_lays 86 = .ok (.iconst 0, 1) := by decide +kernel
theorem dX5_lays_87 : decode cX5_lays 87 = .ok (.goto 4, 3) := by decide +kernel
theorem dX5_lays_90 : decode cX5_lays 90 = .ok (.iconst 1, 1) := by decide +kernel
theorem dX5_lays_91 : decode cX5_lays 91 = .ok (.iadd, 1) := by decide +kernel
theorem dX5_lays_92 : decode cX5_lays 92 = .ok (.iastore, 1) := by decide +kernel
theorem dX5_lays_93 : decode cX5_lays 93 = .ok (.iinc 5 1, 3) := by decide +kernel
theorem dX5_lays_96 : decode cX5_lays 96 = .ok (.goto (-42), 3) := by decide +kernel
theorem dX5_lays_99 : decode cX5_lays 99 = .ok (.return_, 1) := by decide +kernel
set_option maxRecDepth 20000 in
theorem ggX5_whyNotTell_X5_areSides : GoodIn wsX5_whyNotTell wsX5_areSides := goodIn_r _ [6, 1, 7, 8, 5, 9, 10, 11, 12, 13, 14, 15, 16, 17, 18, 19, 20, 21, 22, 23] (by decide +kernel) (by decide +kernel)
set_option maxRecDepth 20000 in
theorem gX5_whyNotTell_X5_areSides : GoodIn wsX5_whyNotTell (wsV RX5 69 RX5 yX5_areSides wsX5_areSides) := goodIn_app (goodIn_of _ (by decide +kernel)) ggX5_whyNotTell_X5_areSides
set_option maxRecDepth 20000 in
theorem ggX5_whyNotTell_X5_in : GoodIn wsX5_whyNotTell wsX5_in := goodIn_r _ [9] (by decide +kernel) (by decide +kernel)
set_option maxRecDepth 20000 in
theorem gX5_whyNotTell_X5_in : GoodIn wsX5_whyNotTell (va_wsS RX5 42 yX5_in wsX5_in) := goodIn_app (goodIn_of _ (by decide +kernel)) ggX5_whyNotTell_X5_in
theorem dX5_whyNotTell_0 : decode cX5_whyNotTell 0 = .ok (.aload_n 0, 1) := by decide +kernel
theorem dX5_whyNotTell_1 : decode cX5_whyNotTell 1 = .ok (.iload_n 1, 1) := by decide +kernel
theorem dX5_whyNotTell_2 : decode cX5_whyNotTell 2 = .ok (.iload_n 2, 1) := by decide +kernel
theorem dX5_whyNotTell_3 : decode cX5_whyNotTell 3 = .ok (.invokevirtual 69, 3) := by decide +kernel
theorem dX5_whyNotTell_6 : decode cX5_whyNotTell 6 = .ok (.ifCond .eq 12, 3) := by decide +kernel
theorem dX5_whyNotTell_9 : decode cX5_whyNotTell 9 = .ok (.iload_n 3, 1) := by decide +kernel
theorem dX5_whyNotTell_10 : decode cX5_whyNotTell 10 = .ok (.iconst 0, 1) := by decide +kernel
theorem dX5_whyNotTell_11 : decode cX5_whyNotTell 11 = .ok (.iconst 2, 1) := by decide +kernel
theorem dX5_whyNotTell_12 : decode cX5_whyNotTell 12 = .ok (.invokestatic 42, 3) := by decide +kernel
theorem dX5_whyNotTell_15 : decode cX5_whyNotTell 15 = .ok (.ifCond .ne 7, 3) := by decide +kernel
theorem dX5_whyNotTell_18 : decode cX5_whyNotTell 18 = .ok (.iconst 1, 1) := by decide +kernel
theorem dX5_whyNotTell_19 : decode cX5_whyNotTell 19 = .ok (.goto 19, 3) := by decide +kernel
theorem dX5_whyNotTell_22 : decode cX5_whyNotTell 22 = .ok (.aload_n 0, 1) := by decide +kernel
theorem dX5_whyNotTell_23 : decode cX5_whyNotTell 23 = .ok (.getfield 7, 3) := by decide +kernel
theorem dX5_whyNotTell_26 : decode cX5_whyNotTell 26 = .ok (.iconst 2, 1) := by decide +kernel
theorem dX5_whyNotTell_27 : decode cX5_whyNotTell 27 = .ok (.iaload, 1) := by decide +kernel
theorem dX5_whyNotTell_28 : decode cX5_whyNotTell 28 = .ok (.bipush 40, 2) := by decide +kernel
theorem dX5_whyNotTell_30 : decode cX5_whyNotTell 30 = .ok (.if_icmp .ne 7, 3) := by decide +kernel
theorem dX5_whyNotTell_33 : decode cX5_whyNotTell 33 = .ok (.iconst 2, 1) := by decide +kernel
theorem dX5_whyNotTell_34 : decode cX5_whyNotTell 34 = .ok (.goto 4, 3) := by decide +kernel
theorem dX5_whyNotTell_37 : decode cX5_whyNotTell 37 = .ok (.iconst 0, 1) := by decide +kernel
theorem dX5_whyNotTell_38 : decode cX5_whyNotTell 38 = .ok (.ireturn, 1) := by decide +kernel
set_option maxRecDepth 20000 in
theorem ggX5_tell_X5_whyNotTell : GoodIn wsX5_tell wsX5_whyNotTell := goodIn_r _ [5, 6, 7, 8, 9, 4, 10, 11, 12, 13, 14, 15, 16, 56, 57, 58, 59, 60, 61, 62, 63, 64, 65, 66] (by decide +kernel) (by decide +kernel)
set_option maxRecDepth 20000 in
theorem gX5_tell_X5_whyNotTell : GoodIn wsX5_tell (wsV RX5 73 RX5 yX5_whyNotTell wsX5_whyNotTell) := goodIn_app (goodIn_of _ (by decide +kernel)) ggX5_tell_X5_whyNotTell
set_option maxRecDepth 20000 in
theorem ggX5_tell_X5_fails : GoodIn wsX5_tell wsX5_fails := goodIn_r _ [20, 21, 56, 57, 58, 59, 60, 61, 62, 63, 64, 65, 66] (by decide +kernel) (by decide +kernel)
set_option maxRecDepth 20000 in
theorem gX5_tell_X5_fails : GoodIn wsX5_tell (wsV RX5 53 RX5 yX5_fails wsX5_fails) := goodIn_app (goodIn_of _ (by decide +kernel)) ggX5_tell_X5_fails
set_option maxRecDepth 20000 in
theorem ggX5_tell_X5_begins : GoodIn wsX5_tell wsX5_begins := goodIn_r _ [25, 26, 6, 56, 57, 58, 59, 60, 61, 62, 63, 64, 65, 66] (by decide +kernel) (by decide +kernel)
set_option maxRecDepth 20000 in
theorem gX5_tell_X5_begins : GoodIn wsX5_tell (wsV RX5 56 RX5 yX5_begins wsX5_begins) := goodIn_app (goodIn_of _ (by decide +kernel)) ggX5_tell_X5_begins
set_option maxRecDepth 20000 in
theorem ggX5_tell_X5_lays : GoodIn wsX5_tell wsX5_lays := goodIn_r _ [30, 6, 31, 32, 33, 4, 34, 35, 36, 37, 56, 57, 58, 59, 60, 61, 62, 63, 64, 65, 66] (by decide +kernel) (by decide +kernel)
set_option maxRecDepth 20000 in
theorem gX5_tell_X5_lays : GoodIn wsX5_tell (wsV RX5 76 RX5 yX5_lays wsX5_lays) := goodIn_app (goodIn_of _ (by decide +kernel)) ggX5_tell_X5_lays
set_option maxRecDepth 20000 in
theorem ggX5_tell_X5_lefts : GoodIn wsX5_tell wsX5_lefts := goodIn_r _ [41, 31, 32, 33, 4, 34, 6, 42, 43, 44, 45, 56, 57, 58, 59, 60, 61, 62, 63, 64, 65, 66] (by decide +kernel) (by decide +kernel)
set_option maxRecDepth 20000 in
theorem gX5_tell_X5_lefts : GoodIn wsX5_tell (wsV RX5 62 RX5 yX5_lefts wsX5_lefts) := goodIn_app (goodIn_of _ (by decide +kernel)) ggX5_tell_X5_lefts
set_option maxRecDepth 20000 in
theorem ggX5_tell_X5_saved : GoodIn wsX5_tell wsX5_saved := goodIn_r _ [49, 50, 51, 26, 52, 53, 54, 4, 55, 21, 56, 57, 58, 59, 60, 61, 62, 63, 64, 65, 66] (by decide +kernel) (by decide +kernel)
set_option maxRecDepth 20000 in
theorem gX5_tell_X5_saved : GoodIn wsX5_tell (wsV RX5 59 RX5 yX5_saved wsX5_saved) := goodIn_app (goodIn_of _ (by decide +kernel)) ggX5_tell_X5_saved
theorem dX5_tell_0 : decode cX5_tell 0 = .ok (.aload_n 0, 1) := by decide +kernel
theorem dX5_tell_1 : decode cX5_tell 1 = .ok (.iload_n 1, 1) := by decide +kernel
theorem dX5_tell_2 : decode cX5_tell 2 = .ok (.iload_n 2, 1) := by decide +kernel
theorem dX5_tell_3 : decode cX5_tell 3 = .ok (.iload_n 3, 1) := by decide +kernel
theorem dX5_tell_4 : decode cX5_tell 4 = .ok (.invokevirtual 73, 3) := by decide +kernel
theorem dX5_tell_7 : decode cX5_tell 7 = .ok (.istore 4, 2) := by decide +kernel
theorem dX5_tell_9 : decode cX5_tell 9 = .ok (.iload 4, 2) := by decide +kernel
theorem dX5_tell_11 : decode cX5_tell 11 = .ok (.ifCond .le 10, 3) := by decide +kernel
theorem dX5_tell_14 : decode cX5_tell 14 = .ok (.aload_n 0, 1) := by decide +kernel
theorem dX5_tell_15 : decode cX5_tell 15 = .ok (.iload 4, 2) := by decide +kernel
theorem dX5_tell_17 : decode cX5_tell 17 = .ok (.invokevirtual 53, 3) := by decide +kernel
theorem dX5_tell_20 : decode cX5_tell 20 = .ok (.ireturn, 1) := by decide +kernel
theorem dX5_tell_21 : decode cX5_tell 21 = .ok (.aload_n 0, 1) := by decide +kernel
theorem dX5_tell_22 : decode cX5_tell 22 = .ok (.invokevirtual 56, 3) := by decide +kernel
theorem dX5_tell_25 : decode cX5_tell 25 = .ok (.aload_n 0, 1) := by decide +kernel
theorem dX5_tell_26 : decode cX5_tell 26 = .ok (.iload_n 1, 1) := by decide +kernel
theorem dX5_tell_27 : decode cX5_tell 27 = .ok (.iload_n 2, 1) := by decide +kernel
theorem dX5_tell_28 : decode cX5_tell 28 = .ok (.iload_n 3, 1) := by decide +kernel
theorem dX5_tell_29 : decode cX5_tell 29 = .ok (.invokevirtual 76, 3) := by decide +kernel
theorem dX5_tell_32 : decode cX5_tell 32 = .ok (.aload_n 0, 1) := by decide +kernel
theorem dX5_tell_33 : decode cX5_tell 33 = .ok (.aload_n 0, 1) := by decide +kernel
theorem dX5_tell_34 : decode cX5_tell 34 = .ok (.invokevirtual 62, 3) := by decide +kernel
theorem dX5_tell_37 : decode cX5_tell 37 = .ok (.invokevirtual 59, 3) := by decide +kernel
theorem dX5_tell_40 : decode cX5_tell 40 = .ok (.ireturn, 1) := by decide +kernel
set_option maxRecDepth 20000 in
theorem ggX5_forget_X5_begins : GoodIn wsX5_forget wsX5_begins := goodIn_r _ [6, 7, 1, 19, 20, 21, 22, 23, 24, 25, 26, 27, 28, 29] (by decide +kernel) (by decide +kernel)
set_option maxRecDepth 20000 in
theorem gX5_forget_X5_begins : GoodIn wsX5_forget (wsV RX5 56 RX5 yX5_begins wsX5_begins) := goodIn_app (goodIn_of _ (by decide +kernel)) ggX5_forget_X5_begins
set_option maxRecDepth 20000 in
theorem ggX5_forget_X5_saved : GoodIn wsX5_forget wsX5_saved := goodIn_r _ [11, 12, 13, 7, 14, 15, 16, 5, 17, 18, 19, 20, 21, 22, 23, 24, 25, 26, 27, 28, 29] (by decide +kernel) (by decide +kernel)
set_option maxRecDepth 20000 in
theorem gX5_forget_X5_saved : GoodIn wsX5_forget (wsV RX5 59 RX5 yX5_saved wsX5_saved) := goodIn_app (goodIn_of _ (by decide +kernel)) ggX5_forget_X5_saved
theorem dX5_forget_0 : decode cX5_forget 0 = .ok (.aload_n 0, 1) := by decide +kernel
theorem dX5_forget_1 : decode cX5_forget 1 = .ok (.invokevirtual 56, 3) := by decide +kernel
theorem dX5_forget_4 : decode cX5_forget 4 = .ok (.aload_n 0, 1) := by decide +kernel
theorem dX5_forget_5 : decode cX5_forget 5 = .ok (.getfield 7, 3) := by decide +kernel
theorem dX5_forget_8 : decode cX5_forget 8 = .ok (.iconst 2, 1) := by decide +kernel
theorem dX5_forget_9 : decode cX5_forget 9 = .ok (.iaload, 1) := by decide +kernel
theorem dX5_forget_10 : decode cX5_forget 10 = .ok (.istore_n 1, 1) := by decide +kernel
theorem dX5_forget_11 : decode cX5_forget 11 = .ok (.aload_n 0, 1) := by decide +kernel
theorem dX5_forget_12 : decode cX5_forget 12 = .ok (.getfield 7, 3) := by decide +kernel
theorem dX5_forget_15 : decode cX5_forget 15 = .ok (.iconst 2, 1) := by decide +kernel
theorem dX5_forget_16 : decode cX5_forget 16 = .ok (.iconst 0, 1) := by decide +kernel
theorem dX5_forget_17 : decode cX5_forget 17 = .ok (.iastore, 1) := by decide +kernel
theorem dX5_forget_18 : decode cX5_forget 18 = .ok (.iconst 0, 1) := by decide +kernel
theorem dX5_forget_19 : decode cX5_forget 19 = .ok (.istore_n 2, 1) := by decide +kernel
theorem dX5_forget_20 : decode cX5_forget 20 = .ok (.iload_n 2, 1) := by decide +kernel
theorem dX5_forget_21 : decode cX5_forget 21 = .ok (.bipush 33, 2) := by decide +kernel
theorem dX5_forget_23 : decode cX5_forget 23 = .ok (.if_icmp .ge 20, 3) := by decide +kernel
theorem dX5_forget_26 : decode cX5_forget 26 = .ok (.aload_n 0, 1) := by decide +kernel
theorem dX5_forget_27 : decode cX5_forget 27 = .ok (.getfield 7, 3) := by decide +kernel
theorem dX5_forget_30 : decode cX5_forget 30 = .ok (.sipush 143, 3) := by decide +kernel
theorem dX5_forget_33 : decode cX5_forget 33 = .ok (.iload_n 2, 1) := by decide +kernel
theorem dX5_forget_34 : decode cX5_forget 34 = .ok (.iadd, 1) := by decide +kernel
theorem dX5_forget_35 : decode cX5_forget 35 = .ok (.iconst 0, 1) := by decide +kernel
theorem dX5_forget_36 : decode cX5_forget 36 = .ok (.iastore, 1) := by decide +kernel
theorem dX5_forget_37 : decode cX5_forget 37 = .ok (.iinc 2 1, 3) := by decide +kernel
theorem dX5_forget_40 : decode cX5_forget 40 = .ok (.goto (-20), 3) := by decide +kernel
theorem dX5_forget_43 : decode cX5_forget 43 = .ok (.aload_n 0, 1) := by decide +kernel
theorem dX5_forget_44 : decode cX5_forget 44 = .ok (.iload_n 1, 1) := by decide +kernel
theorem dX5_forget_45 : decode cX5_forget 45 = .ok (.invokevirtual 59, 3) := by decide +kernel
theorem dX5_forget_48 : decode cX5_forget 48 = .ok (.ireturn, 1) := by decide +kernel
set_option maxRecDepth 20000 in
theorem ggX5_hide_X5_isCase : GoodIn wsX5_hide wsX5_isCase := goodIn_r _ [7, 8, 9, 10, 6, 11, 2, 12, 13, 14, 35, 36, 37, 38, 39, 40, 41, 42, 43, 44, 45] (by decide +kernel) (by decide +kernel)
set_option maxRecDepth 20000 in
theorem gX5_hide_X5_isCase : GoodIn wsX5_hide (wsV RX5 80 RX5 yX5_isCase wsX5_isCase) := goodIn_app (goodIn_of _ (by decide +kernel)) ggX5_hide_X5_isCase
set_option maxRecDepth 20000 in
theorem ggX5_hide_X5_fails : GoodIn wsX5_hide wsX5_fails := goodIn_r _ [18, 19, 35, 36, 37, 38, 39, 40, 41, 42, 43, 44, 45] (by decide +kernel) (by decide +kernel)
set_option maxRecDepth 20000 in
theorem gX5_hide_X5_fails : GoodIn wsX5_hide (wsV RX5 53 RX5 yX5_fails wsX5_fails) := goodIn_app (goodIn_of _ (by decide +kernel)) ggX5_hide_X5_fails
set_option maxRecDepth 20000 in
theorem ggX5_hide_X5_in : GoodIn wsX5_hide wsX5_in := goodIn_r _ [14] (by decide +kernel) (by decide +kernel)
set_option maxRecDepth 20000 in
theorem gX5_hide_X5_in : GoodIn wsX5_hide (va_wsS RX5 42 yX5_in wsX5_in) := goodIn_app (goodIn_of _ (by decide +kernel)) ggX5_hide_X5_in
set_option maxRecDepth 20000 in
theorem ggX5_hide_X5_begins : GoodIn wsX5_hide wsX5_begins := goodIn_r _ [23, 24, 2, 35, 36, 37, 38, 39, 40, 41, 42, 43, 44, 45] (by decide +kernel) (by decide +kernel)
set_option maxRecDepth 20000 in
theorem gX5_hide_X5_begins : GoodIn wsX5_hide (wsV RX5 56 RX5 yX5_begins wsX5_begins) := goodIn_app (goodIn_of _ (by decide +kernel)) ggX5_hide_X5_begins
set_option maxRecDepth 20000 in
theorem ggX5_hide_X5_saved : GoodIn wsX5_hide wsX5_saved := goodIn_r _ [28, 29, 30, 24, 31, 32, 33, 6, 34, 19, 35, 36, 37, 38, 39, 40, 41, 42, 43, 44, 45] (by decide +kernel) (by decide +kernel)
set_option maxRecDepth 20000 in
theorem gX5_hide_X5_saved : GoodIn wsX5_hide (wsV RX5 59 RX5 yX5_saved wsX5_saved) := goodIn_app (goodIn_of _ (by decide +kernel)) ggX5_hide_X5_saved
theorem dX5_hide_0 : decode cX5_hide 0 = .ok (.aload_n 0, 1) := by decide +kernel
theorem dX5_hide_1 : decode cX5_hide 1 = .ok (.iload_n 1, 1) := by decide +kernel
theorem dX5_hide_2 : decode cX5_hide 2 = .ok (.invokevirtual 80, 3) := by decide +kernel
theorem dX5_hide_5 : decode cX5_hide 5 = .ok (.ifCond .ne 9, 3) := by decide +kernel
theorem dX5_hide_8 : decode cX5_hide 8 = .ok (.aload_n 0, 1) := by decide +kernel
theorem dX5_hide_9 : decode cX5_hide 9 = .ok (.iconst 1, 1) := by decide +kernel
theorem dX5_hide_10 : decode cX5_hide 10 = .ok (.invokevirtual 53, 3) := by decide +kernel
theorem dX5_hide_13 : decode cX5_hide 13 = .ok (.ireturn, 1) := by decide +kernel
theorem dX5_hide_14 : decode cX5_hide 14 = .ok (.iload_n 2, 1) := by decide +kernel
theorem dX5_hide_15 : decode cX5_hide 15 = .ok (.iconst 0, 1) := by decide +kernel
theorem dX5_hide_16 : decode cX5_hide 16 = .ok (.ldc 83, 2) := by decide +kernel
theorem dX5_hide_18 : decode cX5_hide 18 = .ok (.invokestatic 42, 3) := by decide +kernel
theorem dX5_hide_21 : decode cX5_hide 21 = .ok (.ifCond .ne 9, 3) := by decide +kernel
theorem dX5_hide_24 : decode cX5_hide 24 = .ok (.aload_n 0, 1) := by decide +kernel
theorem dX5_hide_25 : decode cX5_hide 25 = .ok (.iconst 2, 1) := by decide +kernel
theorem dX5_hide_26 : decode cX5_hide 26 = .ok (.invokevirtual 53, 3) := by decide +kernel
theorem dX5_hide_29 : decode cX5_hide 29 = .ok (.ireturn, 1) := by decide +kernel
theorem dX5_hide_30 : decode cX5_hide 30 = .ok (.aload_n 0, 1) := by decide +kernel
theorem dX5_hide_31 : decode cX5_hide 31 = .ok (.invokevirtual 56, 3) := by decide +kernel
theorem dX5_hide_34 : decode cX5_hide 34 = .ok (.aload_n 0, 1) := by decide +kernel
theorem dX5_hide_35 : decode cX5_hide 35 = .ok (.getfield 7, 3) := by decide +kernel
theorem dX5_hide_38 : decode cX5_hide 38 = .ok (.iconst 4, 1) := by decide +kernel
theorem dX5_hide_39 : decode cX5_hide 39 = .ok (.iaload, 1) := by decide +kernel
theorem dX5_hide_40 : decode cX5_hide 40 = .ok (.istore_n 3, 1) := by decide +kernel
theorem dX5_hide_41 : decode cX5_hide 41 = .ok (.aload_n 0, 1) := by decide +kernel
theorem dX5_hide_42 : decode cX5_hide 42 = .ok (.getfield 7, 3) := by decide +kernel
theorem dX5_hide_45 : decode cX5_hide 45 = .ok (.iconst 4, 1) := by decide +kernel
theorem dX5_hide_46 : decode cX5_hide 46 = .ok (.iload_n 1, 1) := by decide +kernel
theorem dX5_hide_47 : decode cX5_hide 47 = .ok (.iastore, 1) := by decide +kernel
theorem dX5_hide_48 : decode cX5_hide 48 = .ok (.aload_n 0, 1) := by decide +kernel
theorem dX5_hide_49 : decode cX5_hide 49 = .ok (.getfield 7, 3) := by decide +kernel
theorem dX5_hide_52 : decode cX5_hide 52 = .ok (.bipush 6, 2) := by decide +kernel
theorem dX5_hide_54 : decode cX5_hide 54 = .ok (.iload_n 2, 1) := by decide +kernel
theorem dX5_hide_55 : decode cX5_hide 55 = .ok (.iastore, 1) := by decide +kernel
theorem dX5_hide_56 : decode cX5_hide 56 = .ok (.aload_n 0, 1) := by decide +kernel
theorem dX5_hide_57 : decode cX5_hide 57 = .ok (.getfield 7, 3) := by decide +kernel
theorem dX5_hide_60 : decode cX5_hide 60 = .ok (.iconst 5, 1) := by decide +kernel
theorem dX5_hide_61 : decode cX5_hide 61 = .ok (.iconst 0, 1) := by decide +kernel
theorem dX5_hide_62 : decode cX5_hide 62 = .ok (.iastore, 1) := by decide +kernel
theorem dX5_hide_63 : decode cX5_hide 63 = .ok (.aload_n 0, 1) := by decide +kernel
theorem dX5_hide_64 : decode cX5_hide 64 = .ok (.iload_n 3, 1) := by decide +kernel
theorem dX5_hide_65 : decode cX5_hide 65 = .ok (.invokevirtual 59, 3) := by decide +kernel
theorem dX5_hide_68 : decode cX5_hide 68 = .ok (.ireturn, 1) := by decide +kernel
set_option maxRecDepth 20000 in
theorem ggX5_whyNotAsk_X5_areSides : GoodIn wsX5_whyNotAsk wsX5_areSides := goodIn_r _ [6, 1, 7, 8, 5, 9, 10, 11, 12, 13, 14, 15, 16, 17, 18, 19, 20, 21, 22, 23] (by decide +kernel) (by decide +kernel)
set_option maxRecDepth 20000 in
theorem gX5_whyNotAsk_X5_areSides : GoodIn wsX5_whyNotAsk (wsV RX5 69 RX5 yX5_areSides wsX5_areSides) := goodIn_app (goodIn_of _ (by decide +kernel)) ggX5_whyNotAsk_X5_areSides
theorem dX5_whyNotAsk_0 : decode cX5_whyNotAsk 0 = .ok (.aload_n 0, 1) := by decide +kernel
theorem dX5_whyNotAsk_1 : decode cX5_whyNotAsk 1 = .ok (.iload_n 1, 1) := by decide +kernel
theorem dX5_whyNotAsk_2 : decode cX5_whyNotAsk 2 = .ok (.iload_n 2, 1) := by decide +kernel
theorem dX5_whyNotAsk_3 : decode cX5_whyNotAsk 3 = .ok (.invokevirtual 69, 3) := by decide +kernel
theorem dX5_whyNotAsk_6 : decode cX5_whyNotAsk 6 = .ok (.ifCond .ne 7, 3) := by decide +kernel
theorem dX5_whyNotAsk_9 : decode cX5_whyNotAsk 9 = .ok (.iconst 1, 1) := by decide +kernel
theorem dX5_whyNotAsk_10 : decode cX5_whyNotAsk 10 = .ok (.goto 39, 3) := by decide +kernel
theorem dX5_whyNotAsk_13 : decode cX5_whyNotAsk 13 = .ok (.aload_n 0, 1) := by decide +kernel
theorem dX5_whyNotAsk_14 : decode cX5_whyNotAsk 14 = .ok (.getfield 7, 3) := by decide +kernel
theorem dX5_whyNotAsk_17 : decode cX5_whyNotAsk 17 = .ok (.iconst 4, 1) := by decide +kernel
theorem dX5_whyNotAsk_18 : decode cX5_whyNotAsk 18 = .ok (.iaload, 1) := by decide +kernel
theorem dX5_whyNotAsk_19 : decode cX5_whyNotAsk 19 = .ok (.ifCond .lt 25, 3) := by decide +kernel
theorem dX5_whyNotAsk_22 : decode cX5_whyNotAsk 22 = .ok (.aload_n 0, 1) := by decide +kernel
theorem dX5_whyNotAsk_23 : decode cX5_whyNotAsk 23 = .ok (.getfield 7, 3) := by decide +kernel
theorem dX5_whyNotAsk_26 : decode cX5_whyNotAsk 26 = .ok (.iconst 2, 1) := by decide +kernel
theorem dX5_whyNotAsk_27 : decode cX5_whyNotAsk 27 = .ok (.iaload, 1) := by decide +kernel
theorem dX5_whyNotAsk_28 : decode cX5_whyNotAsk 28 = .ok (.bipush 40, 2) := by decide +kernel
theorem dX5_whyNotAsk_30 : decode cX5_whyNotAsk 30 = .ok (.if_icmp .eq 14, 3) := by decide +kernel
theorem dX5_whyNotAsk_33 : decode cX5_whyNotAsk 33 = .ok (.aload_n 0, 1) := by decide +kernel
theorem dX5_whyNotAsk_34 : decode cX5_whyNotAsk 34 = .ok (.getfield 7, 3) := by decide +kernel
theorem dX5_whyNotAsk_37 : decode cX5_whyNotAsk 37 = .ok (.iconst 5, 1) := by decide +kernel
theorem dX5_whyNotAsk_38 : decode cX5_whyNotAsk 38 = .ok (.iaload, 1) := by decide +kernel
theorem dX5_whyNotAsk_39 : decode cX5_whyNotAsk 39 = .ok (.bipush 30, 2) := by decide +kernel
theorem dX5_whyNotAsk_41 : decode cX5_whyNotAsk 41 = .ok (.if_icmp .ne 7, 3) := by decide +kernel
theorem dX5_whyNotAsk_44 : decode cX5_whyNotAsk 44 = .ok (.iconst 2, 1) := by decide +kernel
theorem dX5_whyNotAsk_45 : decode cX5_whyNotAsk 45 = .ok (.goto 4, 3) := by decide +kernel
theorem dX5_whyNotAsk_48 : decode cX5_whyNotAsk 48 = .ok (.iconst 0, 1) := by decide +kernel
theorem dX5_whyNotAsk_49 : decode cX5_whyNotAsk 49 = .ok (.ireturn, 1) := by decide +kernel
set_option maxRecDepth 20000 in
theorem ggX5_asks_X5_truth : GoodIn wsX5_asks wsX5_truth := goodIn_r _ [5] (by decide +kernel) (by decide +kernel)
set_option maxRecDepth 20000 in
theorem gX5_asks_X5_truth : GoodIn wsX5_asks (va_wsS RX5 65 yX5_truth wsX5_truth) := goodIn_app (goodIn_of _ (by decide +kernel)) ggX5_asks_X5_truth
set_option maxRecDepth 20000 in
theorem ggX5_asks_X5_lays : GoodIn wsX5_asks wsX5_lays := goodIn_r _ [9, 1, 10, 11, 12, 4, 13, 2, 3, 5, 14, 15, 16, 17, 18, 19, 20, 21, 22, 23, 24] (by decide +kernel) (by decide +kernel)
set_option maxRecDepth 20000 in
theorem gX5_asks_X5_lays : GoodIn wsX5_asks (wsV RX5 76 RX5 yX5_lays wsX5_lays) := goodIn_app (goodIn_of _ (by decide +kernel)) ggX5_asks_X5_lays
theorem dX5_asks_0 : decode cX5_asks 0 = .ok (.aload_n 0, 1) := by decide +kernel
theorem dX5_asks_1 : decode cX5_asks 1 = .ok (.getfield 7, 3) := by decide +kernel
theorem dX5_asks_4 : decode cX5_asks 4 = .ok (.bipush 6, 2) := by decide +kernel
theorem dX5_asks_6 : decode cX5_asks 6 = .ok (.iaload, 1) := by decide +kernel
theorem dX5_asks_7 : decode cX5_asks 7 = .ok (.aload_n 0, 1) := by decide +kernel
theorem dX5_asks_8 : decode cX5_asks 8 = .ok (.getfield 7, 3) := by decide +kernel
theorem dX5_asks_11 : decode cX5_asks 11 = .ok (.iconst 5, 1) := by decide +kernel
theorem dX5_asks_12 : decode cX5_asks 12 = .ok (.iaload, 1) := by decide +kernel
theorem dX5_asks_13 : decode cX5_asks 13 = .ok (.ishr, 1) := by decide +kernel
theorem dX5_asks_14 : decode cX5_asks 14 = .ok (.iconst 1, 1) := by decide +kernel
theorem dX5_asks_15 : decode cX5_asks 15 = .ok (.iand, 1) := by decide +kernel
theorem dX5_asks_16 : decode cX5_asks 16 = .ok (.istore_n 3, 1) := by decide +kernel
theorem dX5_asks_17 : decode cX5_asks 17 = .ok (.aload_n 0, 1) := by decide +kernel
theorem dX5_asks_18 : decode cX5_asks 18 = .ok (.getfield 7, 3) := by decide +kernel
theorem dX5_asks_21 : decode cX5_asks 21 = .ok (.iconst 4, 1) := by decide +kernel
theorem dX5_asks_22 : decode cX5_asks 22 = .ok (.iaload, 1) := by decide +kernel
theorem dX5_asks_23 : decode cX5_asks 23 = .ok (.iload_n 1, 1) := by decide +kernel
theorem dX5_asks_24 : decode cX5_asks 24 = .ok (.iload_n 2, 1) := by decide +kernel
theorem dX5_asks_25 : decode cX5_asks 25 = .ok (.invokestatic 65, 3) := by decide +kernel
theorem dX5_asks_28 : decode cX5_asks 28 = .ok (.iload_n 3, 1) := by decide +kernel
theorem dX5_asks_29 : decode cX5_asks 29 = .ok (.iadd, 1) := by decide +kernel
theorem dX5_asks_30 : decode cX5_asks 30 = .ok (.iconst 3, 1) := by decide +kernel
theorem dX5_asks_31 : decode cX5_asks 31 = .ok (.irem, 1) := by decide +kernel
theorem dX5_asks_32 : decode cX5_asks 32 = .ok (.istore 4, 2) := by decide +kernel
theorem dX5_asks_34 : decode cX5_asks 34 = .ok (.aload_n 0, 1) := by decide +kernel
theorem dX5_asks_35 : decode cX5_asks 35 = .ok (.getfield 7, 3) := by decide +kernel
theorem dX5_asks_38 : decode cX5_asks 38 = .ok (.iconst 5, 1) := by decide +kernel
theorem dX5_asks_39 : decode cX5_asks 39 = .ok (.dup2, 1) := by decide +kernel
theorem dX5_asks_40 : decode cX5_asks 40 = .ok (.iaload, 1) := by decide +kernel
theorem dX5_asks_41 : decode cX5_asks 41 = .ok (.iconst 1, 1) := by decide +kernel
theorem dX5_asks_42 : decode cX5_asks 42 = .ok (.iadd, 1) := by decide +kernel
theorem dX5_asks_43 : decode cX5_asks 43 = .ok (.iastore, 1) := by decide +kernel
theorem dX5_asks_44 : decode cX5_asks 44 = .ok (.aload_n 0, 1) := by decide +kernel
theorem dX5_asks_45 : decode cX5_asks 45 = .ok (.iload_n 1, 1) := by decide +kernel
theorem dX5_asks_46 : decode cX5_asks 46 = .ok (.iload_n 2, 1) := by decide +kernel
theorem dX5_asks_47 : decode cX5_asks 47 = .ok (.iload 4, 2) := by decide +kernel
theorem dX5_asks_49 : decode cX5_asks 49 = .ok (.invokevirtual 76, 3) := by decide +kernel
theorem dX5_asks_52 : decode cX5_asks 52 = .ok (.iload 4, 2) := by decide +kernel
theorem dX5_asks_54 : decode cX5_asks 54 = .ok (.ireturn, 1) := by decide +kernel
set_option maxRecDepth 20000 in
theorem ggX5_ask_X5_whyNotAsk : GoodIn wsX5_ask wsX5_whyNotAsk := goodIn_r _ [5, 6, 7, 8, 9, 4, 10, 11, 12, 13, 14, 15, 16, 52, 53, 54, 55, 56, 57, 58, 59, 60, 61, 62] (by decide +kernel) (by decide +kernel)
set_option maxRecDepth 20000 in
theorem gX5_ask_X5_whyNotAsk : GoodIn wsX5_ask (wsV RX5 84 RX5 yX5_whyNotAsk wsX5_whyNotAsk) := goodIn_app (goodIn_of _ (by decide +kernel)) ggX5_ask_X5_whyNotAsk
set_option maxRecDepth 20000 in
theorem ggX5_ask_X5_fails : GoodIn wsX5_ask wsX5_fails := goodIn_r _ [20, 21, 52, 53, 54, 55, 56, 57, 58, 59, 60, 61, 62] (by decide +kernel) (by decide +kernel)
set_option maxRecDepth 20000 in
theorem gX5_ask_X5_fails : GoodIn wsX5_ask (wsV RX5 53 RX5 yX5_fails wsX5_fails) := goodIn_app (goodIn_of _ (by decide +kernel)) ggX5_ask_X5_fails
set_option maxRecDepth 20000 in
theorem ggX5_ask_X5_begins : GoodIn wsX5_ask wsX5_begins := goodIn_r _ [25, 26, 6, 52, 53, 54, 55, 56, 57, 58, 59, 60, 61, 62] (by decide +kernel) (by decide +kernel)
set_option maxRecDepth 20000 in
theorem gX5_ask_X5_begins : GoodIn wsX5_ask (wsV RX5 56 RX5 yX5_begins wsX5_begins) := goodIn_app (goodIn_of _ (by decide +kernel)) ggX5_ask_X5_begins
set_option maxRecDepth 20000 in
theorem ggX5_ask_X5_asks : GoodIn wsX5_ask wsX5_asks := goodIn_r _ [30, 6, 31, 32, 4, 33, 34, 35, 36, 37, 38, 39, 40, 41, 52, 53, 54, 55, 56, 57, 58, 59, 60, 61, 62] (by decide +kernel) (by decide +kernel)
set_option maxRecDepth 20000 in
theorem gX5_ask_X5_asks : GoodIn wsX5_ask (wsV RX5 88 RX5 yX5_asks wsX5_asks) := goodIn_app (goodIn_of _ (by decide +kernel)) ggX5_ask_X5_asks
set_option maxRecDepth 20000 in
theorem ggX5_ask_X5_saved : GoodIn wsX5_ask wsX5_saved := goodIn_r _ [45, 46, 47, 26, 48, 49, 50, 4, 51, 21, 52, 53, 54, 55, 56, 57, 58, 59, 60, 61, 62] (by decide +kernel) (by decide +kernel)
set_option maxRecDepth 20000 in
theorem gX5_ask_X5_saved : GoodIn wsX5_ask (wsV RX5 59 RX5 yX5_saved wsX5_saved) := goodIn_app (goodIn_of _ (by decide +kernel)) ggX5_ask_X5_saved
theorem dX5_ask_0 : decode cX5_ask 0 = .ok (.aload_n 0, 1) := by decide +kernel
theorem dX5_ask_1 : decode cX5_ask 1 = .ok (.iload_n 1, 1) := by decide +kernel
theorem dX5_ask_2 : decode cX5_ask 2 = .ok (.iload_n 2, 1) := by decide +kernel
theorem dX5_ask_3 : decode cX5_ask 3 = .ok (.invokevirtual 84, 3) := by decide +kernel
theorem dX5_ask_6 : decode cX5_ask 6 = .ok (.istore_n 3, 1) := by decide +kernel
theorem dX5_ask_7 : decode cX5_ask 7 = .ok (.iload_n 3, 1) := by decide +kernel
theorem dX5_ask_8 : decode cX5_ask 8 = .ok (.ifCond .le 9, 3) := by decide +kernel
theorem dX5_ask_11 : decode cX5_ask 11 = .ok (.aload_n 0, 1) := by decide +kernel
theorem dX5_ask_12 : decode cX5_ask 12 = .ok (.iload_n 3, 1) := by decide +kernel
theorem dX5_ask_13 : decode cX5_ask 13 = .ok (.invokevirtual 53, 3) := by decide +kernel
theorem dX5_ask_16 : decode cX5_ask 16 = .ok (.ireturn, 1) := by decide +kernel
theorem dX5_ask_17 : decode cX5_ask 17 = .ok (.aload_n 0, 1) := by decide +kernel
theorem dX5_ask_18 : decode cX5_ask 18 = .ok (.invokevirtual 56, 3) := by decide +kernel
theorem dX5_ask_21 : decode cX5_ask 21 = .ok (.aload_n 0, 1) := by decide +kernel
theorem dX5_ask_22 : decode cX5_ask 22 = .ok (.aload_n 0, 1) := by decide +kernel
theorem dX5_ask_23 : decode cX5_ask 23 = .ok (.iload_n 1, 1) := by decide +kernel
theorem dX5_ask_24 : decode cX5_ask 24 = .ok (.iload_n 2, 1) := by decide +kernel
theorem dX5_ask_25 : decode cX5_ask 25 = .ok (.invokevirtual 88, 3) := by decide +kernel
theorem dX5_ask_28 : decode cX5_ask 28 = .ok (.invokevirtual 59, 3) := by decide +kernel
theorem dX5_ask_31 : decode cX5_ask 31 = .ok (.ireturn, 1) := by decide +kernel
set_option maxRecDepth 20000 in
theorem ggX5_whyNotAdd_X5_areSides : GoodIn wsX5_whyNotAdd wsX5_areSides := goodIn_r _ [6, 1, 7, 8, 5, 9, 10, 11, 12, 13, 14, 15, 16, 17, 18, 19, 20, 21, 22, 23] (by decide +kernel) (by decide +kernel)
set_option maxRecDepth 20000 in
theorem gX5_whyNotAdd_X5_areSides : GoodIn wsX5_whyNotAdd (wsV RX5 69 RX5 yX5_areSides wsX5_areSides) := goodIn_app (goodIn_of _ (by decide +kernel)) ggX5_whyNotAdd_X5_areSides
theorem dX5_whyNotAdd_0 : decode cX5_whyNotAdd 0 = .ok (.aload_n 0, 1) := by decide +kernel
theorem dX5_whyNotAdd_1 : decode cX5_whyNotAdd 1 = .ok (.iload_n 1, 1) := by decide +kernel
theorem dX5_whyNotAdd_2 : decode cX5_whyNotAdd 2 = .ok (.iload_n 2, 1) := by decide +kernel
theorem dX5_whyNotAdd_3 : decode cX5_whyNotAdd 3 = .ok (.invokevirtual 69, 3) := by decide +kernel
theorem dX5_whyNotAdd_6 : decode cX5_whyNotAdd 6 = .ok (.ifCond .ne 7, 3) := by decide +kernel
theorem dX5_whyNotAdd_9 : decode cX5_whyNotAdd 9 = .ok (.iconst 1, 1) := by decide +kernel
theorem dX5_whyNotAdd_10 : decode cX5_whyNotAdd 10 = .ok (.goto 19, 3) := by decide +kernel
theorem dX5_whyNotAdd_13 : decode cX5_whyNotAdd 13 = .ok (.aload_n 0, 1) := by decide +kernel
theorem dX5_whyNotAdd_14 : decode cX5_whyNotAdd 14 = .ok (.getfield 7, 3) := by decide +kernel
theorem dX5_whyNotAdd_17 : decode cX5_whyNotAdd 17 = .ok (.iconst 3, 1) := by decide +kernel
theorem dX5_whyNotAdd_18 : decode cX5_whyNotAdd 18 = .ok (.iaload, 1) := by decide +kernel
theorem dX5_whyNotAdd_19 : decode cX5_whyNotAdd 19 = .ok (.bipush 8, 2) := by decide +kernel
theorem dX5_whyNotAdd_21 : decode cX5_whyNotAdd 21 = .ok (.if_icmp .ne 7, 3) := by decide +kernel
theorem dX5_whyNotAdd_24 : decode cX5_whyNotAdd 24 = .ok (.iconst 2, 1) := by decide +kernel
theorem dX5_whyNotAdd_25 : decode cX5_whyNotAdd 25 = .ok (.goto 4, 3) := by decide +kernel
theorem dX5_whyNotAdd_28 : decode cX5_whyNotAdd 28 = .ok (.iconst 0, 1) := by decide +kernel
theorem dX5_whyNotAdd_29 : decode cX5_whyNotAdd 29 = .ok (.ireturn, 1) := by decide +kernel
theorem dX5_adds_0 : decode cX5_adds 0 = .ok (.aload_n 0, 1) := by decide +kernel
theorem dX5_adds_1 : decode cX5_adds 1 = .ok (.getfield 7, 3) := by decide +kernel
theorem dX5_adds_4 : decode cX5_adds 4 = .ok (.bipush 127, 2) := by decide +kernel
theorem dX5_adds_6 : decode cX5_adds 6 = .ok (.iconst 2, 1) := by decide +kernel
theorem dX5_adds_7 : decode cX5_adds 7 = .ok (.aload_n 0, 1) := by decide +kernel
theorem dX5_adds_8 : decode cX5_adds 8 = .ok (.getfield 7, 3) := by decide +kernel
theorem dX5_adds_11 : decode cX5_adds 11 = .ok (.iconst 3, 1) := by decide +kernel
theorem dX5_adds_12 : decode cX5_adds 12 = .ok (.iaload, 1) := by decide +kernel
theorem dX5_adds_13 : decode cX5_adds 13 = .ok (.imul, 1) := by decide +kernel
theorem dX5_adds_14 : decode cX5_adds 14 = .ok (.iadd, 1) := by decide +kernel
theorem dX5_adds_15 : decode cX5_adds 15 = .ok (.iload_n 1, 1) := by decide +kernel
theorem dX5_adds_16 : decode cX5_adds 16 = .ok (.iastore, 1) := by decide +kernel
theorem dX5_adds_17 : decode cX5_adds 17 = .ok (.aload_n 0, 1) := by decide +kernel
theorem dX5_adds_18 : decode cX5_adds 18 = .ok (.getfield 7, 3) := by decide +kernel
theorem dX5_adds_21 : decode cX5_adds 21 = .ok (.bipush 127, 2) := by decide +kernel
theorem dX5_adds_23 : decode cX5_adds 23 = .ok (.iconst 2, 1) := by decide +kernel
theorem dX5_adds_24 : decode cX5_adds 24 = .ok (.aload_n 0, 1) := by decide +kernel
theorem dX5_adds_25 : decode cX5_adds 25 = .ok (.getfield 7, 3) := by decide +kernel
theorem dX5_adds_28 : decode cX5_adds 28 = .ok (.iconst 3, 1) := by decide +kernel
theorem dX5_adds_29 : decode cX5_adds 29 = .ok (.iaload, 1) := by decide +kernel
theorem dX5_adds_30 : decode cX5_adds 30 = .ok (.imul, 1) := by decide +kernel
theorem dX5_adds_31 : decode cX5_adds 31 = .ok (.iadd, 1) := by decide +kernel
theorem dX5_adds_32 : decode cX5_adds 32 = .ok (.iconst 1, 1) := by decide +kernel
theorem dX5_adds_33 : decode cX5_adds 33 = .ok (.iadd, 1) := by decide +kernel
theorem dX5_adds_34 : decode cX5_adds 34 = .ok (.iload_n 2, 1) := by decide +kernel
theorem dX5_adds_35 : decode cX5_adds 35 = .ok (.iastore, 1) := by decide +kernel
theorem dX5_adds_36 : decode cX5_adds 36 = .ok (.aload_n 0, 1) := by decide +kernel
theorem dX5_adds_37 : decode cX5_adds 37 = .ok (.getfield 7, 3) := by decide +kernel
theorem dX5_adds_40 : decode cX5_adds 40 = .ok (.iconst 3, 1) := by decide +kernel
theorem dX5_adds_41 : decode cX5_adds 41 = .ok (.dup2, 1) := by decide +kernel
theorem dX5_adds_42 : decode cX5_adds 42 = .ok (.iaload, 1) := by decide +kernel
theorem dX5_adds_43 : decode cX5_adds 43 = .ok (.iconst 1, 1) := by decide +kernel
theorem dX5_adds_44 : decode cX5_adds 44 = .ok (.iadd, 1) := by decide +kernel
theorem dX5_adds_45 : decode cX5_adds 45 = .ok (.iastore, 1) := by decide +kernel
theorem dX5_adds_46 : decode cX5_adds 46 = .ok (.aload_n 0, 1) := by decide +kernel
theorem dX5_adds_47 : decode cX5_adds 47 = .ok (.getfield 7, 3) := by decide +kernel
theorem dX5_adds_50 : decode cX5_adds 50 = .ok (.iconst 3, 1) := by decide +kernel
theorem dX5_adds_51 : decode cX5_adds 51 = .ok (.iaload, 1) := by decide +kernel
theorem dX5_adds_52 : decode cX5_adds 52 = .ok (.iconst 1, 1) := by decide +kernel
theorem dX5_adds_53 : decode cX5_adds 53 = .ok (.isub, 1) := by decide +kernel
theorem dX5_adds_54 : decode cX5_adds 54 = .ok (.ireturn, 1) := by decide +kernel
set_option maxRecDepth 20000 in
theorem ggX5_add_X5_whyNotAdd : GoodIn wsX5_add wsX5_whyNotAdd := goodIn_r _ [5, 6, 7, 8, 9, 4, 10, 11, 12, 13, 14, 15, 16, 41, 42, 43, 44, 45, 46, 47, 48, 49, 50, 51] (by decide +kernel) (by decide +kernel)
set_option maxRecDepth 20000 in
theorem gX5_add_X5_whyNotAdd : GoodIn wsX5_add (wsV RX5 91 RX5 yX5_whyNotAdd wsX5_whyNotAdd) := goodIn_app (goodIn_of _ (by decide +kernel)) ggX5_add_X5_whyNotAdd
set_option maxRecDepth 20000 in
theorem ggX5_add_X5_fails : GoodIn wsX5_add wsX5_fails := goodIn_r _ [20, 21, 41, 42, 43, 44, 45, 46, 47, 48, 49, 50, 51] (by decide +kernel) (by decide +kernel)
set_option maxRecDepth 20000 in
theorem gX5_add_X5_fails : GoodIn wsX5_add (wsV RX5 53 RX5 yX5_fails wsX5_fails) := goodIn_app (goodIn_of _ (by decide +kernel)) ggX5_add_X5_fails
set_option maxRecDepth 20000 in
theorem ggX5_add_X5_begins : GoodIn wsX5_add wsX5_begins := goodIn_r _ [25, 26, 6, 41, 42, 43, 44, 45, 46, 47, 48, 49, 50, 51] (by decide +kernel) (by decide +kernel)
set_option maxRecDepth 20000 in
theorem gX5_add_X5_begins : GoodIn wsX5_add (wsV RX5 56 RX5 yX5_begins wsX5_begins) := goodIn_app (goodIn_of _ (by decide +kernel)) ggX5_add_X5_begins
set_option maxRecDepth 20000 in
theorem ggX5_add_X5_adds : GoodIn wsX5_add wsX5_adds := goodIn_r _ [30, 6, 41, 42, 43, 44, 45, 46, 47, 48, 49, 50, 51] (by decide +kernel) (by decide +kernel)
set_option maxRecDepth 20000 in
theorem gX5_add_X5_adds : GoodIn wsX5_add (wsV RX5 94 RX5 yX5_adds wsX5_adds) := goodIn_app (goodIn_of _ (by decide +kernel)) ggX5_add_X5_adds
set_option maxRecDepth 20000 in
theorem ggX5_add_X5_saved : GoodIn wsX5_add wsX5_saved := goodIn_r _ [34, 35, 36, 26, 37, 38, 39, 4, 40, 21, 41, 42, 43, 44, 45, 46, 47, 48, 49, 50, 51] (by decide +kernel) (by decide +kernel)
set_option maxRecDepth 20000 in
theorem gX5_add_X5_saved : GoodIn wsX5_add (wsV RX5 59 RX5 yX5_saved wsX5_saved) := goodIn_app (goodIn_of _ (by decide +kernel)) ggX5_add_X5_saved
theorem dX5_add_0 : decode cX5_add 0 = .ok (.aload_n 0, 1) := by decide +kernel
theorem dX5_add_1 : decode cX5_add 1 = .ok (.iload_n 1, 1) := by decide +kernel
theorem dX5_add_2 : decode cX5_add 2 = .ok (.iload_n 2, 1) := by decide +kernel
theorem dX5_add_3 : decode cX5_add 3 = .ok (.invokevirtual 91, 3) := by decide +kernel
theorem dX5_add_6 : decode cX5_add 6 = .ok (.istore_n 3, 1) := by decide +kernel
theorem dX5_add_7 : decode cX5_add 7 = .ok (.iload_n 3, 1) := by decide +kernel
theorem dX5_add_8 : decode cX5_add 8 = .ok (.ifCond .le 9, 3) := by decide +kernel
theorem dX5_add_11 : decode cX5_add 11 = .ok (.aload_n 0, 1) := by decide +kernel
theorem dX5_add_12 : decode cX5_add 12 = .ok (.iload_n 3, 1) := by decide +kernel
theorem dX5_add_13 : decode cX5_add 13 = .ok (.invokevirtual 53, 3) := by decide +kernel
theorem dX5_add_16 : decode cX5_add 16 = .ok (.ireturn, 1) := by decide +kernel
theorem dX5_add_17 : decode cX5_add 17 = .ok (.aload_n 0, 1) := by decide +kernel
theorem dX5_add_18 : decode cX5_add 18 = .ok (.invokevirtual 56, 3) := by decide +kernel
theorem dX5_add_21 : decode cX5_add 21 = .ok (.aload_n 0, 1) := by decide +kernel
theorem dX5_add_22 : decode cX5_add 22 = .ok (.aload_n 0, 1) := by decide +kernel
theorem dX5_add_23 : decode cX5_add 23 = .ok (.iload_n 1, 1) := by decide +kernel
theorem dX5_add_24 : decode cX5_add 24 = .ok (.iload_n 2, 1) := by decide +kernel
theorem dX5_add_25 : decode cX5_add 25 = .ok (.invokevirtual 94, 3) := by decide +kernel
theorem dX5_add_28 : decode cX5_add 28 = .ok (.invokevirtual 59, 3) := by decide +kernel
theorem dX5_add_31 : decode cX5_add 31 = .ok (.ireturn, 1) := by decide +kernel
set_option maxRecDepth 20000 in
theorem ggX5_removeLast_X5_fails : GoodIn wsX5_removeLast wsX5_fails := goodIn_r _ [6, 7, 23, 24, 25, 26, 27, 28, 29, 30, 31, 32, 33] (by decide +kernel) (by decide +kernel)
set_option maxRecDepth 20000 in
theorem gX5_removeLast_X5_fails : GoodIn wsX5_removeLast (wsV RX5 53 RX5 yX5_fails wsX5_fails) := goodIn_app (goodIn_of _ (by decide +kernel)) ggX5_removeLast_X5_fails
set_option maxRecDepth 20000 in
theorem ggX5_removeLast_X5_begins : GoodIn wsX5_removeLast wsX5_begins := goodIn_r _ [11, 12, 1, 23, 24, 25, 26, 27, 28, 29, 30, 31, 32, 33] (by decide +kernel) (by decide +kernel)
set_option maxRecDepth 20000 in
theorem gX5_removeLast_X5_begins : GoodIn wsX5_removeLast (wsV RX5 56 RX5 yX5_begins wsX5_begins) := goodIn_app (goodIn_of _ (by decide +kernel)) ggX5_removeLast_X5_begins
set_option maxRecDepth 20000 in
theorem ggX5_removeLast_X5_saved : GoodIn wsX5_removeLast wsX5_saved := goodIn_r _ [16, 17, 18, 12, 19, 20, 21, 5, 22, 7, 23, 24, 25, 26, 27, 28, 29, 30, 31, 32, 33] (by decide +kernel) (by decide +kernel)
set_option maxRecDepth 20000 in
theorem gX5_removeLast_X5_saved : GoodIn wsX5_removeLast (wsV RX5 59 RX5 yX5_saved wsX5_saved) := goodIn_app (goodIn_of _ (by decide +kernel)) ggX5_removeLast_X5_saved
theorem dX5_removeLast_0 : decode cX5_removeLast 0 = .ok (.aload_n 0, 1) := by decide +kernel
theorem dX5_removeLast_1 : decode cX5_removeLast 1 = .ok (.getfield 7, 3) := by decide +kernel
theorem dX5_removeLast_4 : decode cX5_removeLast 4 = .ok (.iconst 3, 1) := by decide +kernel
theorem dX5_removeLast_5 : decode cX5_removeLast 5 = .ok (.iaload, 1) := by decide +kernel
theorem dX5_removeLast_6 : decode cX5_removeLast 6 = .ok (.ifCond .ne 9, 3) := by decide +kernel
theorem dX5_removeLast_9 : decode cX5_removeLast 9 = .ok (.aload_n 0, 1) := by decide +kernel
theorem dX5_removeLast_10 : decode cX5_removeLast 10 = .ok (.iconst 1, 1) := by decide +kernel
theorem dX5_removeLast_11 : decode cX5_removeLast 11 = .ok (.invokevirtual 53, 3) := by decide +kernel
theorem dX5_removeLast_14 : decode cX5_removeLast 14 = .ok (.ireturn, 1) := by decide +kernel
theorem dX5_removeLast_15 : decode cX5_removeLast 15 = .ok (.aload_n 0, 1) := by decide +kernel
theorem dX5_removeLast_16 : decode cX5_removeLast 16 = .ok (.invokevirtual 56, 3) := by decide +kernel
theorem dX5_removeLast_19 : decode cX5_removeLast 19 = .ok (.aload_n 0, 1) := by decide +kernel
theorem dX5_removeLast_20 : decode cX5_removeLast 20 = .ok (.getfield 7, 3) := by decide +kernel
theorem dX5_removeLast_23 : decode cX5_removeLast 23 = .ok (.iconst 3, 1) := by decide +kernel
theorem dX5_removeLast_24 : decode cX5_removeLast 24 = .ok (.dup2, 1) := by decide +kernel
theorem dX5_removeLast_25 : decode cX5_removeLast 25 = .ok (.iaload, 1) := by decide +kernel
theorem dX5_removeLast_26 : decode cX5_removeLast 26 = .ok (.iconst 1, 1) := by decide +kernel
theorem dX5_removeLast_27 : decode cX5_removeLast 27 = .ok (.isub, 1) := by decide +kernel
theorem dX5_removeLast_28 : decode cX5_removeLast 28 = .ok (.iastore, 1) := by decide +kernel
theorem dX5_removeLast_29 : decode cX5_removeLast 29 = .ok (.aload_n 0, 1) := by decide +kernel
theorem dX5_removeLast_30 : decode cX5_removeLast 30 = .ok (.aload_n 0, 1) := by decide +kernel
theorem dX5_removeLast_31 : decode cX5_removeLast 31 = .ok (.getfield 7, 3) := by decide +kernel
theorem dX5_removeLast_34 : decode cX5_removeLast 34 = .ok (.iconst 3, 1) := by decide +kernel
theorem dX5_removeLast_35 : decode cX5_removeLast 35 = .ok (.iaload, 1) := by decide +kernel
theorem dX5_removeLast_36 : decode cX5_removeLast 36 = .ok (.invokevirtual 59, 3) := by decide +kernel
theorem dX5_removeLast_39 : decode cX5_removeLast 39 = .ok (.ireturn, 1) := by decide +kernel
set_option maxRecDepth 20000 in
theorem ggX5_lies_X5_isCase : GoodIn wsX5_lies wsX5_isCase := goodIn_r _ [6, 7, 8, 9, 5, 10, 1, 11, 12, 13, 23, 24, 25, 26, 27, 28, 29, 30, 31, 32, 33] (by decide +kernel) (by decide +kernel)
set_option maxRecDepth 20000 in
theorem gX5_lies_X5_isCase : GoodIn wsX5_lies (wsV RX5 80 RX5 yX5_isCase wsX5_isCase) := goodIn_app (goodIn_of _ (by decide +kernel)) ggX5_lies_X5_isCase
set_option maxRecDepth 20000 in
theorem ggX5_lies_X5_tells : GoodIn wsX5_lies wsX5_tells := goodIn_r _ [17, 18, 23, 24, 25, 26, 27, 28, 29, 30, 31, 32, 33] (by decide +kernel) (by decide +kernel)
set_option maxRecDepth 20000 in
theorem gX5_lies_X5_tells : GoodIn wsX5_lies (wsV RX5 34 RX5 yX5_tells wsX5_tells) := goodIn_app (goodIn_of _ (by decide +kernel)) ggX5_lies_X5_tells
set_option maxRecDepth 20000 in
theorem ggX5_lies_X5_fails : GoodIn wsX5_lies wsX5_fails := goodIn_r _ [22, 18, 23, 24, 25, 26, 27, 28, 29, 30, 31, 32, 33] (by decide +kernel) (by decide +kernel)
set_option maxRecDepth 20000 in
theorem gX5_lies_X5_fails : GoodIn wsX5_lies (wsV RX5 53 RX5 yX5_fails wsX5_fails) := goodIn_app (goodIn_of _ (by decide +kernel)) ggX5_lies_X5_fails
theorem dX5_lies_0 : decode cX5_lies 0 = .ok (.aload_n 0, 1) := by decide +kernel
theorem dX5_lies_1 : decode cX5_lies 1 = .ok (.iload_n 1, 1) := by decide +kernel
theorem dX5_lies_2 : decode cX5_lies 2 = .ok (.invokevirtual 80, 3) := by decide +kernel
theorem dX5_lies_5 : decode cX5_lies 5 = .ok (.ifCond .eq 20, 3) := by decide +kernel
theorem dX5_lies_8 : decode cX5_lies 8 = .ok (.aload_n 0, 1) := by decide +kernel
theorem dX5_lies_9 : decode cX5_lies 9 = .ok (.aload_n 0, 1) := by decide +kernel
theorem dX5_lies_10 : decode cX5_lies 10 = .ok (.getfield 7, 3) := by decide +kernel
theorem dX5_lies_13 : decode cX5_lies 13 = .ok (.sipush 143, 3) := by decide +kernel
theorem dX5_lies_16 : decode cX5_lies 16 = .ok (.iload_n 1, 1) := by decide +kernel
theorem dX5_lies_17 : decode cX5_lies 17 = .ok (.iadd, 1) := by decide +kernel
theorem dX5_lies_18 : decode cX5_lies 18 = .ok (.iaload, 1) := by decide +kernel
theorem dX5_lies_19 : decode cX5_lies 19 = .ok (.invokevirtual 34, 3) := by decide +kernel
theorem dX5_lies_22 : decode cX5_lies 22 = .ok (.goto 8, 3) := by decide +kernel
theorem dX5_lies_25 : decode cX5_lies 25 = .ok (.aload_n 0, 1) := by decide +kernel
theorem dX5_lies_26 : decode cX5_lies 26 = .ok (.iconst 1, 1) := by decide +kernel
theorem dX5_lies_27 : decode cX5_lies 27 = .ok (.invokevirtual 53, 3) := by decide +kernel
theorem dX5_lies_30 : decode cX5_lies 30 = .ok (.ireturn, 1) := by decide +kernel
set_option maxRecDepth 20000 in
theorem ggX5_answer_X5_isCase : GoodIn wsX5_answer wsX5_isCase := goodIn_r _ [5, 6, 7, 8, 4, 9, 10, 11, 12, 13, 33, 34, 35, 36, 37, 38, 39, 40, 41, 42, 43] (by decide +kernel) (by decide +kernel)
set_option maxRecDepth 20000 in
theorem gX5_answer_X5_isCase : GoodIn wsX5_answer (wsV RX5 80 RX5 yX5_isCase wsX5_isCase) := goodIn_app (goodIn_of _ (by decide +kernel)) ggX5_answer_X5_isCase
set_option maxRecDepth 20000 in
theorem ggX5_answer_X5_fails : GoodIn wsX5_answer wsX5_fails := goodIn_r _ [17, 18, 33, 34, 35, 36, 37, 38, 39, 40, 41, 42, 43] (by decide +kernel) (by decide +kernel)
set_option maxRecDepth 20000 in
theorem gX5_answer_X5_fails : GoodIn wsX5_answer (wsV RX5 53 RX5 yX5_fails wsX5_fails) := goodIn_app (goodIn_of _ (by decide +kernel)) ggX5_answer_X5_fails
set_option maxRecDepth 20000 in
theorem ggX5_answer_X5_areSides : GoodIn wsX5_answer wsX5_areSides := goodIn_r _ [22, 10, 11, 12, 4, 13, 23, 24, 25, 33, 34, 35, 36, 37, 38, 39, 40, 41, 42, 43] (by decide +kernel) (by decide +kernel)
set_option maxRecDepth 20000 in
theorem gX5_answer_X5_areSides : GoodIn wsX5_answer (wsV RX5 69 RX5 yX5_areSides wsX5_areSides) := goodIn_app (goodIn_of _ (by decide +kernel)) ggX5_answer_X5_areSides
set_option maxRecDepth 20000 in
theorem ggX5_answer_X5_truth : GoodIn wsX5_answer wsX5_truth := goodIn_r _ [28] (by decide +kernel) (by decide +kernel)
set_option maxRecDepth 20000 in
theorem gX5_answer_X5_truth : GoodIn wsX5_answer (va_wsS RX5 65 yX5_truth wsX5_truth) := goodIn_app (goodIn_of _ (by decide +kernel)) ggX5_answer_X5_truth
set_option maxRecDepth 20000 in
theorem ggX5_answer_X5_tells : GoodIn wsX5_answer wsX5_tells := goodIn_r _ [32, 18, 33, 34, 35, 36, 37, 38, 39, 40, 41, 42, 43] (by decide +kernel) (by decide +kernel)
set_option maxRecDepth 20000 in
theorem gX5_answer_X5_tells : GoodIn wsX5_answer (wsV RX5 34 RX5 yX5_tells wsX5_tells) := goodIn_app (goodIn_of _ (by decide +kernel)) ggX5_answer_X5_tells
theorem dX5_answer_0 : decode cX5_answer 0 = .ok (.aload_n 0, 1) := by decide +kernel
theorem dX5_answer_1 : decode cX5_answer 1 = .ok (.iload_n 1, 1) := by decide +kernel
theorem dX5_answer_2 : decode cX5_answer 2 = .ok (.invokevirtual 80, 3) := by decide +kernel
theorem dX5_answer_5 : decode cX5_answer 5 = .ok (.ifCond .ne 9, 3) := by decide +kernel
theorem dX5_answer_8 : decode cX5_answer 8 = .ok (.aload_n 0, 1) := by decide +kernel
theorem dX5_answer_9 : decode cX5_answer 9 = .ok (.iconst 1, 1) := by decide +kernel
theorem dX5_answer_10 : decode cX5_answer 10 = .ok (.invokevirtual 53, 3) := by decide +kernel
theorem dX5_answer_13 : decode cX5_answer 13 = .ok (.ireturn, 1) := by decide +kernel
theorem dX5_answer_14 : decode cX5_answer 14 = .ok (.aload_n 0, 1) := by decide +kernel
theorem dX5_answer_15 : decode cX5_answer 15 = .ok (.iload_n 2, 1) := by decide +kernel
theorem dX5_answer_16 : decode cX5_answer 16 = .ok (.iload_n 3, 1) := by decide +kernel
theorem dX5_answer_17 : decode cX5_answer 17 = .ok (.invokevirtual 69, 3) := by decide +kernel
theorem dX5_answer_20 : decode cX5_answer 20 = .ok (.ifCond .eq 16, 3) := by decide +kernel
theorem dX5_answer_23 : decode cX5_answer 23 = .ok (.aload_n 0, 1) := by decide +kernel
theorem dX5_answer_24 : decode cX5_answer 24 = .ok (.iload_n 1, 1) := by decide +kernel
theorem dX5_answer_25 : decode cX5_answer 25 = .ok (.iload_n 2, 1) := by decide +kernel
theorem dX5_answer_26 : decode cX5_answer 26 = .ok (.iload_n 3, 1) := by decide +kernel
theorem dX5_answer_27 : decode cX5_answer 27 = .ok (.invokestatic 65, 3) := by decide +kernel
theorem dX5_answer_30 : decode cX5_answer 30 = .ok (.invokevirtual 34, 3) := by decide +kernel
theorem dX5_answer_33 : decode cX5_answer 33 = .ok (.goto 8, 3) := by decide +kernel
theorem dX5_answer_36 : decode cX5_answer 36 = .ok (.aload_n 0, 1) := by decide +kernel
theorem dX5_answer_37 : decode cX5_answer 37 = .ok (.iconst 2, 1) := by decide +kernel
theorem dX5_answer_38 : decode cX5_answer 38 = .ok (.invokevirtual 53, 3) := by decide +kernel
theorem dX5_answer_41 : decode cX5_answer 41 = .ok (.ireturn, 1) := by decide +kernel
set_option maxRecDepth 20000 in
theorem ggX5_leftCase_X5_cases : GoodIn wsX5_leftCase wsX5_cases := goodIn_r _ [5, 6, 20, 21, 22, 23, 24, 25, 26, 27, 28, 29, 30] (by decide +kernel) (by decide +kernel)
set_option maxRecDepth 20000 in
theorem gX5_leftCase_X5_cases : GoodIn wsX5_leftCase (wsV RX5 38 RX5 yX5_cases wsX5_cases) := goodIn_app (goodIn_of _ (by decide +kernel)) ggX5_leftCase_X5_cases
set_option maxRecDepth 20000 in
theorem ggX5_leftCase_X5_isLeft : GoodIn wsX5_leftCase wsX5_isLeft := goodIn_r _ [10, 6, 20, 21, 22, 23, 24, 25, 26, 27, 28, 29, 30] (by decide +kernel) (by decide +kernel)
set_option maxRecDepth 20000 in
theorem gX5_leftCase_X5_isLeft : GoodIn wsX5_leftCase (wsV RX5 49 RX5 yX5_isLeft wsX5_isLeft) := goodIn_app (goodIn_of _ (by decide +kernel)) ggX5_leftCase_X5_isLeft
set_option maxRecDepth 20000 in
theorem ggX5_leftCase_X5_tells : GoodIn wsX5_leftCase wsX5_tells := goodIn_r _ [14, 15, 20, 21, 22, 23, 24, 25, 26, 27, 28, 29, 30] (by decide +kernel) (by decide +kernel)
set_option maxRecDepth 20000 in
theorem gX5_leftCase_X5_tells : GoodIn wsX5_leftCase (wsV RX5 34 RX5 yX5_tells wsX5_tells) := goodIn_app (goodIn_of _ (by decide +kernel)) ggX5_leftCase_X5_tells
set_option maxRecDepth 20000 in
theorem ggX5_leftCase_X5_fails : GoodIn wsX5_leftCase wsX5_fails := goodIn_r _ [19, 15, 20, 21, 22, 23, 24, 25, 26, 27, 28, 29, 30] (by decide +kernel) (by decide +kernel)
set_option maxRecDepth 20000 in
theorem gX5_leftCase_X5_fails : GoodIn wsX5_leftCase (wsV RX5 53 RX5 yX5_fails wsX5_fails) := goodIn_app (goodIn_of _ (by decide +kernel)) ggX5_leftCase_X5_fails
theorem dX5_leftCase_0 : decode cX5_leftCase 0 = .ok (.iload_n 1, 1) := by decide +kernel
theorem dX5_leftCase_1 : decode cX5_leftCase 1 = .ok (.istore_n 2, 1) := by decide +kernel
theorem dX5_leftCase_2 : decode cX5_leftCase 2 = .ok (.iconst 0, 1) := by decide +kernel
theorem dX5_leftCase_3 : decode cX5_leftCase 3 = .ok (.istore_n 3, 1) := by decide +kernel
theorem dX5_leftCase_4 : decode cX5_leftCase 4 = .ok (.iload_n 3, 1) := by decide +kernel
theorem dX5_leftCase_5 : decode cX5_leftCase 5 = .ok (.aload_n 0, 1) := by decide +kernel
theorem dX5_leftCase_6 : decode cX5_leftCase 6 = .ok (.invokevirtual 38, 3) := by decide +kernel
theorem dX5_leftCase_9 : decode cX5_leftCase 9 = .ok (.if_icmp .ge 34, 3) := by decide +kernel
theorem dX5_leftCase_12 : decode cX5_leftCase 12 = .ok (.iload_n 1, 1) := by decide +kernel
theorem dX5_leftCase_13 : decode cX5_leftCase 13 = .ok (.ifCond .lt 30, 3) := by decide +kernel
theorem dX5_leftCase_16 : decode cX5_leftCase 16 = .ok (.aload_n 0, 1) := by decide +kernel
theorem dX5_leftCase_17 : decode cX5_leftCase 17 = .ok (.iload_n 3, 1) := by decide +kernel
theorem dX5_leftCase_18 : decode cX5_leftCase 18 = .ok (.invokevirtual 49, 3) := by decide +kernel
theorem dX5_leftCase_21 : decode cX5_leftCase 21 = .ok (.ifCond .eq 16, 3) := by decide +kernel
theorem dX5_leftCase_24 : decode cX5_leftCase 24 = .ok (.iload_n 2, 1) := by decide +kernel
theorem dX5_leftCase_25 : decode cX5_leftCase 25 = .ok (.ifCond .ne 9, 3) := by decide +kernel
theorem dX5_leftCase_28 : decode cX5_leftCase 28 = .ok (.aload_n 0, 1) := by decide +kernel
theorem dX5_leftCase_29 : decode cX5_leftCase 29 = .ok (.iload_n 3, 1) := by decide +kernel
theorem dX5_leftCase_30 : decode cX5_leftCase 30 = .ok (.invokevirtual 34, 3) := by decide +kernel
theorem dX5_leftCase_33 : decode cX5_leftCase 33 = .ok (.ireturn, 1) := by decide +kernel
theorem dX5_leftCase_34 : decode cX5_leftCase 34 = .ok (.iinc 2 (-1), 3) := by decide +kernel
theorem dX5_leftCase_37 : decode cX5_leftCase 37 = .ok (.iinc 3 1, 3) := by decide +kernel
theorem dX5_leftCase_40 : decode cX5_leftCase 40 = .ok (.goto (-36), 3) := by decide +kernel
theorem dX5_leftCase_43 : decode cX5_leftCase 43 = .ok (.aload_n 0, 1) := by decide +kernel
theorem dX5_leftCase_44 : decode cX5_leftCase 44 = .ok (.iconst 1, 1) := by decide +kernel
theorem dX5_leftCase_45 : decode cX5_leftCase 45 = .ok (.invokevirtual 53, 3) := by decide +kernel
theorem dX5_leftCase_48 : decode cX5_leftCase 48 = .ok (.ireturn, 1) := by decide +kernel
set_option maxRecDepth 20000 in
theorem ggX5_weighing_X5_in : GoodIn wsX5_weighing wsX5_in := goodIn_r _ [5] (by decide +kernel) (by decide +kernel)
set_option maxRecDepth 20000 in
theorem gX5_weighing_X5_in : GoodIn wsX5_weighing (va_wsS RX5 42 yX5_in wsX5_in) := goodIn_app (goodIn_of _ (by decide +kernel)) ggX5_weighing_X5_in
set_option maxRecDepth 20000 in
theorem ggX5_weighing_X5_fails : GoodIn wsX5_weighing wsX5_fails := goodIn_r _ [9, 10, 15, 16, 17, 18, 19, 20, 21, 22, 23, 24, 25] (by decide +kernel) (by decide +kernel)
set_option maxRecDepth 20000 in
theorem gX5_weighing_X5_fails : GoodIn wsX5_weighing (wsV RX5 53 RX5 yX5_fails wsX5_fails) := goodIn_app (goodIn_of _ (by decide +kernel)) ggX5_weighing_X5_fails
set_option maxRecDepth 20000 in
theorem ggX5_weighing_X5_tells : GoodIn wsX5_weighing wsX5_tells := goodIn_r _ [14, 10, 15, 16, 17, 18, 19, 20, 21, 22, 23, 24, 25] (by decide +kernel) (by decide +kernel)
set_option maxRecDepth 20000 in
theorem gX5_weighing_X5_tells : GoodIn wsX5_weighing (wsV RX5 34 RX5 yX5_tells wsX5_tells) := goodIn_app (goodIn_of _ (by decide +kernel)) ggX5_weighing_X5_tells
theorem dX5_weighing_0 : decode cX5_weighing 0 = .ok (.iload_n 1, 1) := by decide +kernel
theorem dX5_weighing_1 : decode cX5_weighing 1 = .ok (.iconst 0, 1) := by decide +kernel
theorem dX5_weighing_2 : decode cX5_weighing 2 = .ok (.aload_n 0, 1) := by decide +kernel
theorem dX5_weighing_3 : decode cX5_weighing 3 = .ok (.getfield 7, 3) := by decide +kernel
theorem dX5_weighing_6 : decode cX5_weighing 6 = .ok (.iconst 2, 1) := by decide +kernel
theorem dX5_weighing_7 : decode cX5_weighing 7 = .ok (.iaload, 1) := by decide +kernel
theorem dX5_weighing_8 : decode cX5_weighing 8 = .ok (.iconst 1, 1) := by decide +kernel
theorem dX5_weighing_9 : decode cX5_weighing 9 = .ok (.isub, 1) := by decide +kernel
theorem dX5_weighing_10 : decode cX5_weighing 10 = .ok (.invokestatic 42, 3) := by decide +kernel
theorem dX5_weighing_13 : decode cX5_weighing 13 = .ok (.ifCond .ne 9, 3) := by decide +kernel
theorem dX5_weighing_16 : decode cX5_weighing 16 = .ok (.aload_n 0, 1) := by decide +kernel
theorem dX5_weighing_17 : decode cX5_weighing 17 = .ok (.iconst 1, 1) := by decide +kernel
theorem dX5_weighing_18 : decode cX5_weighing 18 = .ok (.invokevirtual 53, 3) := by decide +kernel
theorem dX5_weighing_21 : decode cX5_weighing 21 = .ok (.ireturn, 1) := by decide +kernel
theorem dX5_weighing_22 : decode cX5_weighing 22 = .ok (.iload_n 2, 1) := by decide +kernel
theorem dX5_weighing_23 : decode cX5_weighing 23 = .ok (.iconst 0, 1) := by decide +kernel
theorem dX5_weighing_24 : decode cX5_weighing 24 = .ok (.iconst 2, 1) := by decide +kernel
theorem dX5_weighing_25 : decode cX5_weighing 25 = .ok (.invokestatic 42, 3) := by decide +kernel
theorem dX5_weighing_28 : decode cX5_weighing 28 = .ok (.ifCond .eq 23, 3) := by decide +kernel
theorem dX5_weighing_31 : decode cX5_weighing 31 = .ok (.aload_n 0, 1) := by decide +kernel
theorem dX5_weighing_32 : decode cX5_weighing 32 = .ok (.aload_n 0, 1) := by decide +kernel
theorem dX5_weighing_33 : decode cX5_weighing 33 = .ok (.getfield 7, 3) := by decide +kernel
theorem dX5_weighing_36 : decode cX5_weighing 36 = .ok (.bipush 7, 2) := by decide +kernel
theorem dX5_weighing_38 : decode cX5_weighing 38 = .ok (.iconst 3, 1) := by decide +kernel
theorem dX5_weighing_39 : decode cX5_weighing 39 = .ok (.iload_n 1, 1) := by decide +kernel
theorem dX5_weighing_40 : decode cX5_weighing 40 = .ok (.imul, 1) := by decide +kernel
theorem dX5_weighing_41 : decode cX5_weighing 41 = .ok (.iadd, 1) := by decide +kernel
theorem dX5_weighing_42 : decode cX5_weighing 42 = .ok (.iload_n 2, 1) := by decide +kernel
theorem dX5_weighing_43 : decode cX5_weighing 43 = .ok (.iadd, 1) := by decide +kernel
theorem dX5_weighing_44 : decode cX5_weighing 44 = .ok (.iaload, 1) := by decide +kernel
theorem dX5_weighing_45 : decode cX5_weighing 45 = .ok (.invokevirtual 34, 3) := by decide +kernel
theorem dX5_weighing_48 : decode cX5_weighing 48 = .ok (.goto 8, 3) := by decide +kernel
theorem dX5_weighing_51 : decode cX5_weighing 51 = .ok (.aload_n 0, 1) := by decide +kernel
theorem dX5_weighing_52 : decode cX5_weighing 52 = .ok (.iconst 2, 1) := by decide +kernel
theorem dX5_weighing_53 : decode cX5_weighing 53 = .ok (.invokevirtual 53, 3) := by decide +kernel
theorem dX5_weighing_56 : decode cX5_weighing 56 = .ok (.ireturn, 1) := by decide +kernel
set_option maxRecDepth 20000 in
theorem ggX5_falseOnes_X5_cases : GoodIn wsX5_falseOnes wsX5_cases := goodIn_r _ [5, 6, 11, 12, 13, 14, 15, 16, 17, 18, 19, 20, 21] (by decide +kernel) (by decide +kernel)
set_option maxRecDepth 20000 in
theorem gX5_falseOnes_X5_cases : GoodIn wsX5_falseOnes (wsV RX5 38 RX5 yX5_cases wsX5_cases) := goodIn_app (goodIn_of _ (by decide +kernel)) ggX5_falseOnes_X5_cases
set_option maxRecDepth 20000 in
theorem ggX5_falseOnes_X5_isLeft : GoodIn wsX5_falseOnes wsX5_isLeft := goodIn_r _ [10, 6, 11, 12, 13, 14, 15, 16, 17, 18, 19, 20, 21] (by decide +kernel) (by decide +kernel)
set_option maxRecDepth 20000 in
theorem gX5_falseOnes_X5_isLeft : GoodIn wsX5_falseOnes (wsV RX5 49 RX5 yX5_isLeft wsX5_isLeft) := goodIn_app (goodIn_of _ (by decide +kernel)) ggX5_falseOnes_X5_isLeft
theorem dX5_falseOnes_0 : decode cX5_falseOnes 0 = .ok (.iconst 0, 1) := by decide +kernel
theorem dX5_falseOnes_1 : decode cX5_falseOnes 1 = .ok (.istore_n 1, 1) := by decide +kernel
theorem dX5_falseOnes_2 : decode cX5_falseOnes 2 = .ok (.iconst 1, 1) := by decide +kernel
theorem dX5_falseOnes_3 : decode cX5_falseOnes 3 = .ok (.istore_n 2, 1) := by decide +kernel
theorem dX5_falseOnes_4 : decode cX5_falseOnes 4 = .ok (.iload_n 2, 1) := by decide +kernel
theorem dX5_falseOnes_5 : decode cX5_falseOnes 5 = .ok (.aload_n 0, 1) := by decide +kernel
theorem dX5_falseOnes_6 : decode cX5_falseOnes 6 = .ok (.invokevirtual 38, 3) := by decide +kernel
theorem dX5_falseOnes_9 : decode cX5_falseOnes 9 = .ok (.if_icmp .ge 31, 3) := by decide +kernel
theorem dX5_falseOnes_12 : decode cX5_falseOnes 12 = .ok (.iload_n 1, 1) := by decide +kernel
theorem dX5_falseOnes_13 : decode cX5_falseOnes 13 = .ok (.aload_n 0, 1) := by decide +kernel
theorem dX5_falseOnes_14 : decode cX5_falseOnes 14 = .ok (.iload_n 2, 1) := by decide +kernel
theorem dX5_falseOnes_15 : decode cX5_falseOnes 15 = .ok (.invokevirtual 49, 3) := by decide +kernel
theorem dX5_falseOnes_18 : decode cX5_falseOnes 18 = .ok (.ifCond .eq 13, 3) := by decide +kernel
theorem dX5_falseOnes_21 : decode cX5_falseOnes 21 = .ok (.iconst 1, 1) := by decide +kernel
theorem dX5_falseOnes_22 : decode cX5_falseOnes 22 = .ok (.iload_n 2, 1) := by decide +kernel
theorem dX5_falseOnes_23 : decode cX5_falseOnes 23 = .ok (.iconst 1, 1) := by decide +kernel
theorem dX5_falseOnes_24 : decode cX5_falseOnes 24 = .ok (.isub, 1) := by decide +kernel
theorem dX5_falseOnes_25 : decode cX5_falseOnes 25 = .ok (.iconst 2, 1) := by decide +kernel
theorem dX5_falseOnes_26 : decode cX5_falseOnes 26 = .ok (.idiv, 1) := by decide +kernel
theorem dX5_falseOnes_27 : decode cX5_falseOnes 27 = .ok (.ishl, 1) := by decide +kernel
theorem dX5_falseOnes_28 : decode cX5_falseOnes 28 = .ok (.goto 4, 3) := by decide +kernel
theorem dX5_falseOnes_31 : decode cX5_falseOnes 31 = .ok (.iconst 0, 1) := by decide +kernel
theorem dX5_falseOnes_32 : decode cX5_falseOnes 32 = .ok (.ior, 1) := by decide +kernel
theorem dX5_falseOnes_33 : decode cX5_falseOnes 33 = .ok (.istore_n 1, 1) := by decide +kernel
theorem dX5_falseOnes_34 : decode cX5_falseOnes 34 = .ok (.iinc 2 1, 3) := by decide +kernel
theorem dX5_falseOnes_37 : decode cX5_falseOnes 37 = .ok (.goto (-33), 3) := by decide +kernel
theorem dX5_falseOnes_40 : decode cX5_falseOnes 40 = .ok (.iload_n 1, 1) := by decide +kernel
theorem dX5_falseOnes_41 : decode cX5_falseOnes 41 = .ok (.ireturn, 1) := by decide +kernel
set_option maxRecDepth 20000 in
theorem ggX5_number_X5_lefts : GoodIn wsX5_number wsX5_lefts := goodIn_r _ [6, 7, 8, 9, 5, 10, 1, 11, 12, 13, 14, 19, 20, 21, 22, 23, 24, 25, 26, 27, 28, 29] (by decide +kernel) (by decide +kernel)
set_option maxRecDepth 20000 in
theorem gX5_number_X5_lefts : GoodIn wsX5_number (wsV RX5 62 RX5 yX5_lefts wsX5_lefts) := goodIn_app (goodIn_of _ (by decide +kernel)) ggX5_number_X5_lefts
set_option maxRecDepth 20000 in
theorem ggX5_number_X5_falseOnes : GoodIn wsX5_number wsX5_falseOnes := goodIn_r _ [18, 7, 8, 9, 5, 10, 1, 11, 12, 13, 14, 19, 20, 21, 22, 23, 24, 25, 26, 27, 28, 29] (by decide +kernel) (by decide +kernel)
set_option maxRecDepth 20000 in
theorem gX5_number_X5_falseOnes : GoodIn wsX5_number (wsV RX5 97 RX5 yX5_falseOnes wsX5_falseOnes) := goodIn_app (goodIn_of _ (by decide +kernel)) ggX5_number_X5_falseOnes
set_option maxRecDepth 20000 in
theorem ggX5_number_X5_isLeft : GoodIn wsX5_number wsX5_isLeft := goodIn_r _ [14, 1, 19, 20, 21, 22, 23, 24, 25, 26, 27, 28, 29] (by decide +kernel) (by decide +kernel)
set_option maxRecDepth 20000 in
theorem gX5_number_X5_isLeft : GoodIn wsX5_number (wsV RX5 49 RX5 yX5_isLeft wsX5_isLeft) := goodIn_app (goodIn_of _ (by decide +kernel)) ggX5_number_X5_isLeft
theorem dX5_number_0 : decode cX5_number 0 = .ok (.iload_n 1, 1) := by decide +kernel
theorem dX5_number_1 : decode cX5_number 1 = .ok (.tableswitch 85 0 7 #[47, 47, 47, 54, 59, 66, 73, 80], 47) := by decide +kernel
theorem dX5_number_48 : decode cX5_number 48 = .ok (.aload_n 0, 1) := by decide +kernel
theorem dX5_number_49 : decode cX5_number 49 = .ok (.getfield 7, 3) := by decide +kernel
theorem dX5_number_52 : decode cX5_number 52 = .ok (.iload_n 1, 1) := by decide +kernel
theorem dX5_number_53 : decode cX5_number 53 = .ok (.iaload, 1) := by decide +kernel
theorem dX5_number_54 : decode cX5_number 54 = .ok (.ireturn, 1) := by decide +kernel
theorem dX5_number_55 : decode cX5_number 55 = .ok (.aload_n 0, 1) := by decide +kernel
theorem dX5_number_56 : decode cX5_number 56 = .ok (.invokevirtual 62, 3) := by decide +kernel
theorem dX5_number_59 : decode cX5_number 59 = .ok (.ireturn, 1) := by decide +kernel
theorem dX5_number_60 : decode cX5_number 60 = .ok (.aload_n 0, 1) := by decide +kernel
theorem dX5_number_61 : decode cX5_number 61 = .ok (.getfield 7, 3) := by decide +kernel
theorem dX5_number_64 : decode cX5_number 64 = .ok (.iconst 3, 1) := by decide +kernel
theorem dX5_number_65 : decode cX5_number 65 = .ok (.iaload, 1) := by decide +kernel
theorem dX5_number_66 : decode cX5_number 66 = .ok (.ireturn, 1) := by decide +kernel
theorem dX5_number_67 : decode cX5_number 67 = .ok (.aload_n 0, 1) := by decide +kernel
theorem dX5_number_68 : decode cX5_number 68 = .ok (.getfield 7, 3) := by decide +kernel
theorem dX5_number_71 : decode cX5_number 71 = .ok (.iconst 4, 1) := by decide +kernel
theorem dX5_number_72 : decode cX5_number 72 = .ok (.iaload, 1) := by decide +kernel
theorem dX5_number_73 : decode cX5_number 73 = .ok (.ireturn, 1) := by decide +kernel
theorem dX5_number_74 : decode cX5_number 74 = .ok (.aload_n 0, 1) := by decide +kernel
theorem dX5_number_75 : decode cX5_number 75 = .ok (.getfield 7, 3) := by decide +kernel
theorem dX5_number_78 : decode cX5_number 78 = .ok (.iconst 5, 1) := by decide +kernel
theorem dX5_number_79 : decode cX5_number 79 = .ok (.iaload, 1) := by decide +kernel
theorem dX5_number_80 : decode cX5_number 80 = .ok (.ireturn, 1) := by decide +kernel
theorem dX5_number_81 : decode cX5_number 81 = .ok (.aload_n 0, 1) := by decide +kernel
theorem dX5_number_82 : decode cX5_number 82 = .ok (.invokevirtual 97, 3) := by decide +kernel
theorem dX5_number_85 : decode cX5_number 85 = .ok (.ireturn, 1) := by decide +kernel
theorem dX5_number_86 : decode cX5_number 86 = .ok (.aload_n 0, 1) := by decide +kernel
theorem dX5_number_87 : decode cX5_number 87 = .ok (.iconst 0, 1) := by decide +kernel
theorem dX5_number_88 : decode cX5_number 88 = .ok (.invokevirtual 49, 3) := by decide +kernel
theorem dX5_number_91 : decode cX5_number 91 = .ok (.ifCond .eq 7, 3) := by decide +kernel
theorem dX5_number_94 : decode cX5_number 94 = .ok (.iconst 1, 1) := by decide +kernel
theorem dX5_number_95 : decode cX5_number 95 = .ok (.goto 4, 3) := by decide +kernel
theorem dX5_number_98 : decode cX5_number 98 = .ok (.iconst 0, 1) := by decide +kernel
theorem dX5_number_99 : decode cX5_number 99 = .ok (.ireturn, 1) := by decide +kernel
set_option maxRecDepth 20000 in
theorem ggX5_value_X5_in : GoodIn wsX5_value wsX5_in := goodIn_r _ [4] (by decide +kernel) (by decide +kernel)
set_option maxRecDepth 20000 in
theorem gX5_value_X5_in : GoodIn wsX5_value (va_wsS RX5 42 yX5_in wsX5_in) := goodIn_app (goodIn_of _ (by decide +kernel)) ggX5_value_X5_in
set_option maxRecDepth 20000 in
theorem ggX5_value_X5_number : GoodIn wsX5_value wsX5_number := goodIn_r _ [8, 9, 10, 11, 12, 3, 13, 14, 15, 16, 17, 18, 19, 20, 21, 22, 23, 24, 25, 35, 36, 37, 38, 39, 40, 41, 42, 43, 44, 45] (by decide +kernel) (by decide +kernel)
set_option maxRecDepth 20000 in
theorem gX5_value_X5_number : GoodIn wsX5_value (wsV RX5 100 RX5 yX5_number wsX5_number) := goodIn_app (goodIn_of _ (by decide +kernel)) ggX5_value_X5_number
set_option maxRecDepth 20000 in
theorem ggX5_value_X5_tells : GoodIn wsX5_value wsX5_tells := goodIn_r _ [29, 30, 35, 36, 37, 38, 39, 40, 41, 42, 43, 44, 45] (by decide +kernel) (by decide +kernel)
set_option maxRecDepth 20000 in
theorem gX5_value_X5_tells : GoodIn wsX5_value (wsV RX5 34 RX5 yX5_tells wsX5_tells) := goodIn_app (goodIn_of _ (by decide +kernel)) ggX5_value_X5_tells
set_option maxRecDepth 20000 in
theorem ggX5_value_X5_fails : GoodIn wsX5_value wsX5_fails := goodIn_r _ [34, 30, 35, 36, 37, 38, 39, 40, 41, 42, 43, 44, 45] (by decide +kernel) (by decide +kernel)
set_option maxRecDepth 20000 in
theorem gX5_value_X5_fails : GoodIn wsX5_value (wsV RX5 53 RX5 yX5_fails wsX5_fails) := goodIn_app (goodIn_of _ (by decide +kernel)) ggX5_value_X5_fails
theorem dX5_value_0 : decode cX5_value 0 = .ok (.iload_n 1, 1) := by decide +kernel
theorem dX5_value_1 : decode cX5_value 1 = .ok (.iconst 0, 1) := by decide +kernel
theorem dX5_value_2 : decode cX5_value 2 = .ok (.bipush 8, 2) := by decide +kernel
theorem dX5_value_4 : decode cX5_value 4 = .ok (.invokestatic 42, 3) := by decide +kernel
theorem dX5_value_7 : decode cX5_value 7 = .ok (.ifCond .eq 15, 3) := by decide +kernel
theorem dX5_value_10 : decode cX5_value 10 = .ok (.aload_n 0, 1) := by decide +kernel
theorem dX5_value_11 : decode cX5_value 11 = .ok (.aload_n 0, 1) := by decide +kernel
theorem dX5_value_12 : decode cX5_value 12 = .ok (.iload_n 1, 1) := by decide +kernel
theorem dX5_value_13 : decode cX5_value 13 = .ok (.invokevirtual 100, 3) := by decide +kernel
theorem dX5_value_16 : decode cX5_value 16 = .ok (.invokevirtual 34, 3) := by decide +kernel
theorem dX5_value_19 : decode cX5_value 19 = .ok (.goto 8, 3) := by decide +kernel
theorem dX5_value_22 : decode cX5_value 22 = .ok (.aload_n 0, 1) := by decide +kernel
theorem dX5_value_23 : decode cX5_value 23 = .ok (.iconst 1, 1) := by decide +kernel
theorem dX5_value_24 : decode cX5_value 24 = .ok (.invokevirtual 53, 3) := by decide +kernel
theorem dX5_value_27 : decode cX5_value 27 = .ok (.ireturn, 1) := by decide +kernel
theorem dX5_volume_0 : decode cX5_volume 0 = .ok (.lconst 1, 1) := by decide +kernel
theorem dX5_volume_1 : decode cX5_volume 1 = .ok (.lstore_n 2, 1) := by decide +kernel
theorem dX5_volume_2 : decode cX5_volume 2 = .ok (.lload_n 2, 1) := by decide +kernel
theorem dX5_volume_3 : decode cX5_volume 3 = .ok (.iload_n 1, 1) := by decide +kernel
theorem dX5_volume_4 : decode cX5_volume 4 = .ok (.ifCond .le 16, 3) := by decide +kernel
theorem dX5_volume_7 : decode cX5_volume 7 = .ok (.iload_n 0, 1) := by decide +kernel
theorem dX5_volume_8 : decode cX5_volume 8 = .ok (.ifCond .le 12, 3) := by decide +kernel
theorem dX5_volume_11 : decode cX5_volume 11 = .ok (.ldc2_w 103, 3) := by decide +kernel
theorem dX5_volume_14 : decode cX5_volume 14 = .ok (.iload_n 0, 1) := by decide +kernel
theorem dX5_volume_15 : decode cX5_volume 15 = .ok (.i2l, 1) := by decide +kernel
theorem dX5_volume_16 : decode cX5_volume 16 = .ok (.lmul, 1) := by decide +kernel
theorem dX5_volume_17 : decode cX5_volume 17 = .ok (.goto 4, 3) := by decide +kernel
theorem dX5_volume_20 : decode cX5_volume 20 = .ok (.lconst 0, 1) := by decide +kernel
theorem dX5_volume_21 : decode cX5_volume 21 = .ok (.ladd, 1) := by decide +kernel
theorem dX5_volume_22 : decode cX5_volume 22 = .ok (.lstore_n 2, 1) := by decide +kernel
theorem dX5_volume_23 : decode cX5_volume 23 = .ok (.lload_n 2, 1) := by decide +kernel
theorem dX5_volume_24 : decode cX5_volume 24 = .ok (.iload_n 1, 1) := by decide +kernel
theorem dX5_volume_25 : decode cX5_volume 25 = .ok (.iconst 1, 1) := by decide +kernel
theorem dX5_volume_26 : decode cX5_volume 26 = .ok (.if_icmp .le 22, 3) := by decide +kernel
theorem dX5_volume_29 : decode cX5_volume 29 = .ok (.iload_n 0, 1) := by decide +kernel
theorem dX5_volume_30 : decode cX5_volume 30 = .ok (.iconst 1, 1) := by decide +kernel
theorem dX5_volume_31 : decode cX5_volume 31 = .ok (.if_icmp .le 17, 3) := by decide +kernel
theorem dX5_volume_34 : decode cX5_volume 34 = .ok (.ldc2_w 103, 3) := by decide +kernel
theorem dX5_volume_37 : decode cX5_volume 37 = .ok (.iload_n 0, 1) := by decide +kernel
theorem dX5_volume_38 : decode cX5_volume 38 = .ok (.i2l, 1) := by decide +kernel
theorem dX5_volume_39 : decode cX5_volume 39 = .ok (.lmul, 1) := by decide +kernel
theorem dX5_volume_40 : decode cX5_volume 40 = .ok (.iload_n 0, 1) := by decide +kernel
theorem dX5_volume_41 : decode cX5_volume 41 = .ok (.iconst 1, 1) := by decide +kernel
theorem dX5_volume_42 : decode cX5_volume 42 = .ok (.isub, 1) := by decide +kernel
theorem dX5_volume_43 : decode cX5_volume 43 = .ok (.i2l, 1) := by decide +kernel
theorem dX5_volume_44 : decode cX5_volume 44 = .ok (.lmul, 1) := by decide +kernel
theorem dX5_volume_45 : decode cX5_volume 45 = .ok (.goto 4, 3) := by decide +kernel
theorem dX5_volume_48 : decode cX5_volume 48 = .ok (.lconst 0, 1) := by decide +kernel
theorem dX5_volume_49 : decode cX5_volume 49 = .ok (.ladd, 1) := by decide +kernel
theorem dX5_volume_50 : decode cX5_volume 50 = .ok (.lstore_n 2, 1) := by decide +kernel
theorem dX5_volume_51 : decode cX5_volume 51 = .ok (.lload_n 2, 1) := by decide +kernel
theorem dX5_volume_52 : decode cX5_volume 52 = .ok (.lreturn, 1) := by decide +kernel
set_option maxRecDepth 20000 in
theorem ggX5_weighs_X5_cases : GoodIn wsX5_weighs wsX5_cases := goodIn_r _ [6, 1, 14, 15, 16, 17, 18, 19, 20, 21, 22, 23, 24] (by decide +kernel) (by decide +kernel)
set_option maxRecDepth 20000 in
theorem gX5_weighs_X5_cases : GoodIn wsX5_weighs (wsV RX5 38 RX5 yX5_cases wsX5_cases) := goodIn_app (goodIn_of _ (by decide +kernel)) ggX5_weighs_X5_cases
set_option maxRecDepth 20000 in
theorem ggX5_weighs_X5_truth : GoodIn wsX5_weighs wsX5_truth := goodIn_r _ [9] (by decide +kernel) (by decide +kernel)
set_option maxRecDepth 20000 in
theorem gX5_weighs_X5_truth : GoodIn wsX5_weighs (va_wsS RX5 65 yX5_truth wsX5_truth) := goodIn_app (goodIn_of _ (by decide +kernel)) ggX5_weighs_X5_truth
set_option maxRecDepth 20000 in
theorem ggX5_weighs_X5_volume : GoodIn wsX5_weighs wsX5_volume := goodIn_r _ [12, 13] (by decide +kernel) (by decide +kernel)
set_option maxRecDepth 20000 in
theorem gX5_weighs_X5_volume : GoodIn wsX5_weighs (va_wsS RX5 105 yX5_volume wsX5_volume) := goodIn_app (goodIn_of _ (by decide +kernel)) ggX5_weighs_X5_volume
theorem dX5_weighs_0 : decode cX5_weighs 0 = .ok (.lconst 0, 1) := by decide +kernel
theorem dX5_weighs_1 : decode cX5_weighs 1 = .ok (.lstore 5, 2) := by decide +kernel
theorem dX5_weighs_3 : decode cX5_weighs 3 = .ok (.iconst 0, 1) := by decide +kernel
theorem dX5_weighs_4 : decode cX5_weighs 4 = .ok (.istore 7, 2) := by decide +kernel
theorem dX5_weighs_6 : decode cX5_weighs 6 = .ok (.iload 7, 2) := by decide +kernel
theorem dX5_weighs_8 : decode cX5_weighs 8 = .ok (.aload_n 0, 1) := by decide +kernel
theorem dX5_weighs_9 : decode cX5_weighs 9 = .ok (.invokevirtual 38, 3) := by decide +kernel
theorem dX5_weighs_12 : decode cX5_weighs 12 = .ok (.if_icmp .ge 77, 3) := by decide +kernel
theorem dX5_weighs_15 : decode cX5_weighs 15 = .ok (.aload_n 0, 1) := by decide +kernel
theorem dX5_weighs_16 : decode cX5_weighs 16 = .ok (.getfield 7, 3) := by decide +kernel
theorem dX5_weighs_19 : decode cX5_weighs 19 = .ok (.sipush 143, 3) := by decide +kernel
theorem dX5_weighs_22 : decode cX5_weighs 22 = .ok (.iload 7, 2) := by decide +kernel
theorem dX5_weighs_24 : decode cX5_weighs 24 = .ok (.iadd, 1) := by decide +kernel
theorem dX5_weighs_25 : decode cX5_weighs 25 = .ok (.iaload, 1) := by decide +kernel
theorem dX5_weighs_26 : decode cX5_weighs 26 = .ok (.iload_n 1, 1) := by decide +kernel
theorem dX5_weighs_27 : decode cX5_weighs 27 = .ok (.ifCond .le 18, 3) := by decide +kernel
theorem dX5_weighs_30 : decode cX5_weighs 30 = .ok (.iload 7, 2) := by decide +kernel
theorem dX5_weighs_32 : decode cX5_weighs 32 = .ok (.iload_n 1, 1) := by decide +kernel
theorem dX5_weighs_33 : decode cX5_weighs 33 = .ok (.iload_n 2, 1) := by decide +kernel
theorem dX5_weighs_34 : decode cX5_weighs 34 = .ok (.invokestatic 65, 3) := by decide +kernel
theorem dX5_weighs_37 : decode cX5_weighs 37 = .ok (.iload_n 3, 1) := by decide +kernel
theorem dX5_weighs_38 : decode cX5_weighs 38 = .ok (.if_icmp .eq 7, 3) := by decide +kernel
theorem dX5_weighs_41 : decode cX5_weighs 41 = .ok (.iconst 1, 1) := by decide +kernel
theorem dX5_weighs_42 : decode cX5_weighs 42 = .ok (.goto 4, 3) := by decide +kernel
theorem dX5_weighs_45 : decode cX5_weighs 45 = .ok (.iconst 0, 1) := by decide +kernel
theorem dX5_weighs_46 : decode cX5_weighs 46 = .ok (.iadd, 1) := by decide +kernel
theorem dX5_weighs_47 : decode cX5_weighs 47 = .ok (.istore 8, 2) := by decide +kernel
theorem dX5_weighs_49 : decode cX5_weighs 49 = .ok (.lload 5, 2) := by decide +kernel
theorem dX5_weighs_51 : decode cX5_weighs 51 = .ok (.iload 8, 2) := by decide +kernel
theorem dX5_weighs_53 : decode cX5_weighs 53 = .ok (.aload_n 0, 1) := by decide +kernel
theorem dX5_weighs_54 : decode cX5_weighs 54 = .ok (.getfield 7, 3) := by decide +kernel
theorem dX5_weighs_57 : decode cX5_weighs 57 = .ok (.iconst 1, 1) := by decide +kernel
theorem dX5_weighs_58 : decode cX5_weighs 58 = .ok (.iaload, 1) := by decide +kernel
theorem dX5_weighs_59 : decode cX5_weighs 59 = .ok (.if_icmp .gt 20, 3) := by decide +kernel
theorem dX5_weighs_62 : decode cX5_weighs 62 = .ok (.iload 4, 2) := by decide +kernel
theorem dX5_weighs_64 : decode cX5_weighs 64 = .ok (.aload_n 0, 1) := by decide +kernel
theorem dX5_weighs_65 : decode cX5_weighs 65 = .ok (.getfield 7, 3) := by decide +kernel
theorem dX5_weighs_68 : decode cX5_weighs 68 = .ok (.iconst 1, 1) := by decide +kernel
theorem dX5_weighs_69 : decode cX5_weighs 69 = .ok (.iaload, 1) := by decide +kernel
theorem dX5_weighs_70 : decode cX5_weighs 70 = .ok (.iload 8, 2) := by decide +kernel
theorem dX5_weighs_72 : decode cX5_weighs 72 = .ok (.isub, 1) := by decide +kernel
theorem dX5_weighs_73 : decode cX5_weighs 73 = .ok (.invokestatic 105, 3) := by decide +kernel
theorem dX5_weighs_76 : decode cX5_weighs 76 = .ok (.goto 4, 3) := by decide +kernel
theorem dX5_weighs_79 : decode cX5_weighs 79 = .ok (.lconst 0, 1) := by decide +kernel
theorem dX5_weighs_80 : decode cX5_weighs 80 = .ok (.ladd, 1) := by decide +kernel
theorem dX5_weighs_81 : decode cX5_weighs 81 = .ok (.lstore 5, 2) := by decide +kernel
theorem dX5_weighs_83 : decode cX5_weighs 83 = .ok (.iinc 7 1, 3) := by decide +kernel
theorem dX5_weighs_86 : decode cX5_weighs 86 = .ok (.goto (-80), 3) := by decide +kernel
theorem dX5_weighs_89 : decode cX5_weighs 89 = .ok (.lload 5, 2) := by decide +kernel
theorem dX5_weighs_91 : decode cX5_weighs 91 = .ok (.lreturn, 1) := by decide +kernel
set_option maxRecDepth 20000 in
theorem ggX5_weight_X5_in : GoodIn wsX5_weight wsX5_in := goodIn_r _ [5] (by decide +kernel) (by decide +kernel)
set_option maxRecDepth 20000 in
theorem gX5_weight_X5_in : GoodIn wsX5_weight (va_wsS RX5 42 yX5_in wsX5_in) := goodIn_app (goodIn_of _ (by decide +kernel)) ggX5_weight_X5_in
set_option maxRecDepth 20000 in
theorem ggX5_weight_X5_fails : GoodIn wsX5_weight wsX5_fails := goodIn_r _ [9, 1, 26, 27, 28, 29, 30, 31, 32, 33, 34, 35, 36] (by decide +kernel) (by decide +kernel)
set_option maxRecDepth 20000 in
theorem gX5_weight_X5_fails : GoodIn wsX5_weight (wsV RX5 53 RX5 yX5_fails wsX5_fails) := goodIn_app (goodIn_of _ (by decide +kernel)) ggX5_weight_X5_fails
set_option maxRecDepth 20000 in
theorem ggX5_weight_X5_weighs : GoodIn wsX5_weight wsX5_weighs := goodIn_r _ [13, 14, 15, 16, 17, 4, 18, 19, 20, 21, 22, 23, 24, 25, 26, 27, 28, 29, 30, 31, 32, 33, 34, 35, 36] (by decide +kernel) (by decide +kernel)
set_option maxRecDepth 20000 in
theorem gX5_weight_X5_weighs : GoodIn wsX5_weight (wsV RX5 109 RX5 yX5_weighs wsX5_weighs) := goodIn_app (goodIn_of _ (by decide +kernel)) ggX5_weight_X5_weighs
theorem dX5_weight_0 : decode cX5_weight 0 = .ok (.iload_n 1, 1) := by decide +kernel
theorem dX5_weight_1 : decode cX5_weight 1 = .ok (.iconst 0, 1) := by decide +kernel
theorem dX5_weight_2 : decode cX5_weight 2 = .ok (.bipush 20, 2) := by decide +kernel
theorem dX5_weight_4 : decode cX5_weight 4 = .ok (.invokestatic 42, 3) := by decide +kernel
theorem dX5_weight_7 : decode cX5_weight 7 = .ok (.ifCond .ne 10, 3) := by decide +kernel
theorem dX5_weight_10 : decode cX5_weight 10 = .ok (.aload_n 0, 1) := by decide +kernel
theorem dX5_weight_11 : decode cX5_weight 11 = .ok (.iconst 1, 1) := by decide +kernel
theorem dX5_weight_12 : decode cX5_weight 12 = .ok (.invokevirtual 53, 3) := by decide +kernel
theorem dX5_weight_15 : decode cX5_weight 15 = .ok (.i2l, 1) := by decide +kernel
theorem dX5_weight_16 : decode cX5_weight 16 = .ok (.lreturn, 1) := by decide +kernel
theorem dX5_weight_17 : decode cX5_weight 17 = .ok (.aload_n 0, 1) := by decide +kernel
theorem dX5_weight_18 : decode cX5_weight 18 = .ok (.iconst 0, 1) := by decide +kernel
theorem dX5_weight_19 : decode cX5_weight 19 = .ok (.putfield 27, 3) := by decide +kernel
theorem dX5_weight_22 : decode cX5_weight 22 = .ok (.aload_n 0, 1) := by decide +kernel
theorem dX5_weight_23 : decode cX5_weight 23 = .ok (.iconst 0, 1) := by decide +kernel
theorem dX5_weight_24 : decode cX5_weight 24 = .ok (.iconst 0, 1) := by decide +kernel
theorem dX5_weight_25 : decode cX5_weight 25 = .ok (.iconst 0, 1) := by decide +kernel
theorem dX5_weight_26 : decode cX5_weight 26 = .ok (.iload_n 1, 1) := by decide +kernel
theorem dX5_weight_27 : decode cX5_weight 27 = .ok (.invokevirtual 109, 3) := by decide +kernel
theorem dX5_weight_30 : decode cX5_weight 30 = .ok (.lreturn, 1) := by decide +kernel
set_option maxRecDepth 20000 in
theorem ggX5_least_X5_weighs : GoodIn wsX5_least wsX5_weighs := goodIn_r _ [6, 7, 8, 9, 10, 5, 11, 12, 13, 14, 15, 16, 17, 18, 19, 20, 21, 22, 23, 24, 25, 26, 27, 28, 29] (by decide +kernel) (by decide +kernel)
set_option maxRecDepth 20000 in
theorem gX5_least_X5_weighs : GoodIn wsX5_least (wsV RX5 109 RX5 yX5_weighs wsX5_weighs) := goodIn_app (goodIn_of _ (by decide +kernel)) ggX5_least_X5_weighs
theorem dX5_least_0 : decode cX5_least 0 = .ok (.lconst 1, 1) := by decide +kernel
theorem dX5_least_1 : decode cX5_least 1 = .ok (.lstore_n 1, 1) := by decide +kernel
theorem dX5_least_2 : decode cX5_least 2 = .ok (.iconst 0, 1) := by decide +kernel
theorem dX5_least_3 : decode cX5_least 3 = .ok (.istore_n 3, 1) := by decide +kernel
theorem dX5_least_4 : decode cX5_least 4 = .ok (.iload_n 3, 1) := by decide +kernel
theorem dX5_least_5 : decode cX5_least 5 = .ok (.bipush 20, 2) := by decide +kernel
theorem dX5_least_7 : decode cX5_least 7 = .ok (.if_icmp .gt 30, 3) := by decide +kernel
theorem dX5_least_10 : decode cX5_least 10 = .ok (.aload_n 0, 1) := by decide +kernel
theorem dX5_least_11 : decode cX5_least 11 = .ok (.iconst 0, 1) := by decide +kernel
theorem dX5_least_12 : decode cX5_least 12 = .ok (.iconst 0, 1) := by decide +kernel
theorem dX5_least_13 : decode cX5_least 13 = .ok (.iconst 0, 1) := by decide +kernel
theorem dX5_least_14 : decode cX5_least 14 = .ok (.iload_n 3, 1) := by decide +kernel
theorem dX5_least_15 : decode cX5_least 15 = .ok (.invokevirtual 109, 3) := by decide +kernel
theorem dX5_least_18 : decode cX5_least 18 = .ok (.lload_n 1, 1) := by decide +kernel
theorem dX5_least_19 : decode cX5_least 19 = .ok (.lcmp, 1) := by decide +kernel
theorem dX5_least_20 : decode cX5_least 20 = .ok (.ifCond .gt 5, 3) := by decide +kernel
theorem dX5_least_23 : decode cX5_least 23 = .ok (.iload_n 3, 1) := by decide +kernel
theorem dX5_least_24 : decode cX5_least 24 = .ok (.ireturn, 1) := by decide +kernel
theorem dX5_least_25 : decode cX5_least 25 = .ok (.lload_n 1, 1) := by decide +kernel
theorem dX5_least_26 : decode cX5_least 26 = .ok (.ldc2_w 113, 3) := by decide +kernel
theorem dX5_least_29 : decode cX5_least 29 = .ok (.lmul, 1) := by decide +kernel
theorem dX5_least_30 : decode cX5_least 30 = .ok (.lstore_n 1, 1) := by decide +kernel
theorem dX5_least_31 : decode cX5_least 31 = .ok (.iinc 3 1, 3) := by decide +kernel
theorem dX5_least_34 : decode cX5_least 34 = .ok (.goto (-30), 3) := by decide +kernel
theorem dX5_least_37 : decode cX5_least 37 = .ok (.iconst (-1), 1) := by decide +kernel
theorem dX5_least_38 : decode cX5_least 38 = .ok (.ireturn, 1) := by decide +kernel
set_option maxRecDepth 20000 in
theorem ggX5_bound_X5_least : GoodIn wsX5_bound wsX5_least := goodIn_r _ [5, 6, 7, 8, 9, 4, 10, 11, 12, 13, 14, 15, 16, 17, 18, 19, 20, 21, 22, 28, 29, 30, 31, 32, 33, 34, 35, 36, 37, 38] (by decide +kernel) (by decide +kernel)
set_option maxRecDepth 20000 in
theorem gX5_bound_X5_least : GoodIn wsX5_bound (wsV RX5 115 RX5 yX5_least wsX5_least) := goodIn_app (goodIn_of _ (by decide +kernel)) ggX5_bound_X5_least
set_option maxRecDepth 20000 in
theorem ggX5_bound_X5_tells : GoodIn wsX5_bound wsX5_tells := goodIn_r _ [26, 27, 28, 29, 30, 31, 32, 33, 34, 35, 36, 37, 38] (by decide +kernel) (by decide +kernel)
set_option maxRecDepth 20000 in
theorem gX5_bound_X5_tells : GoodIn wsX5_bound (wsV RX5 34 RX5 yX5_tells wsX5_tells) := goodIn_app (goodIn_of _ (by decide +kernel)) ggX5_bound_X5_tells
theorem dX5_bound_0 : decode cX5_bound 0 = .ok (.aload_n 0, 1) := by decide +kernel
theorem dX5_bound_1 : decode cX5_bound 1 = .ok (.aload_n 0, 1) := by decide +kernel
theorem dX5_bound_2 : decode cX5_bound 2 = .ok (.invokevirtual 115, 3) := by decide +kernel
theorem dX5_bound_5 : decode cX5_bound 5 = .ok (.invokevirtual 34, 3) := by decide +kernel
theorem dX5_bound_8 : decode cX5_bound 8 = .ok (.ireturn, 1) := by decide +kernel
set_option maxRecDepth 20000 in
theorem ggX5_weightBehind_X5_areSides : GoodIn wsX5_weightBehind wsX5_areSides := goodIn_r _ [6, 7, 8, 9, 5, 10, 11, 12, 13, 33, 34, 35, 36, 37, 38, 39, 40, 41, 42, 43] (by decide +kernel) (by decide +kernel)
set_option maxRecDepth 20000 in
theorem gX5_weightBehind_X5_areSides : GoodIn wsX5_weightBehind (wsV RX5 69 RX5 yX5_areSides wsX5_areSides) := goodIn_app (goodIn_of _ (by decide +kernel)) ggX5_weightBehind_X5_areSides
set_option maxRecDepth 20000 in
theorem ggX5_weightBehind_X5_in : GoodIn wsX5_weightBehind wsX5_in := goodIn_r _ [10] (by decide +kernel) (by decide +kernel)
set_option maxRecDepth 20000 in
theorem gX5_weightBehind_X5_in : GoodIn wsX5_weightBehind (va_wsS RX5 42 yX5_in wsX5_in) := goodIn_app (goodIn_of _ (by decide +kernel)) ggX5_weightBehind_X5_in
set_option maxRecDepth 20000 in
theorem ggX5_weightBehind_X5_fails : GoodIn wsX5_weightBehind wsX5_fails := goodIn_r _ [17, 1, 33, 34, 35, 36, 37, 38, 39, 40, 41, 42, 43] (by decide +kernel) (by decide +kernel)
set_option maxRecDepth 20000 in
theorem gX5_weightBehind_X5_fails : GoodIn wsX5_weightBehind (wsV RX5 53 RX5 yX5_fails wsX5_fails) := goodIn_app (goodIn_of _ (by decide +kernel)) ggX5_weightBehind_X5_fails
set_option maxRecDepth 20000 in
theorem ggX5_weightBehind_X5_weighs : GoodIn wsX5_weightBehind wsX5_weighs := goodIn_r _ [21, 7, 22, 23, 24, 5, 25, 26, 27, 28, 29, 30, 31, 32, 33, 34, 35, 36, 37, 38, 39, 40, 41, 42, 43] (by decide +kernel) (by decide +kernel)
set_option maxRecDepth 20000 in
theorem gX5_weightBehind_X5_weighs : GoodIn wsX5_weightBehind (wsV RX5 109 RX5 yX5_weighs wsX5_weighs) := goodIn_app (goodIn_of _ (by decide +kernel)) ggX5_weightBehind_X5_weighs
theorem dX5_weightBehind_0 : decode cX5_weightBehind 0 = .ok (.aload_n 0, 1) := by decide +kernel
theorem dX5_weightBehind_1 : decode cX5_weightBehind 1 = .ok (.iload_n 1, 1) := by decide +kernel
theorem dX5_weightBehind_2 : decode cX5_weightBehind 2 = .ok (.iload_n 2, 1) := by decide +kernel
theorem dX5_weightBehind_3 : decode cX5_weightBehind 3 = .ok (.invokevirtual 69, 3) := by decide +kernel
theorem dX5_weightBehind_6 : decode cX5_weightBehind 6 = .ok (.ifCond .eq 23, 3) := by decide +kernel
theorem dX5_weightBehind_9 : decode cX5_weightBehind 9 = .ok (.iload_n 3, 1) := by decide +kernel
theorem dX5_weightBehind_10 : decode cX5_weightBehind 10 = .ok (.iconst 0, 1) := by decide +kernel
theorem dX5_weightBehind_11 : decode cX5_weightBehind 11 = .ok (.iconst 2, 1) := by decide +kernel
theorem dX5_weightBehind_12 : decode cX5_weightBehind 12 = .ok (.invokestatic 42, 3) := by decide +kernel
theorem dX5_weightBehind_15 : decode cX5_weightBehind 15 = .ok (.ifCond .eq 14, 3) := by decide +kernel
theorem dX5_weightBehind_18 : decode cX5_weightBehind 18 = .ok (.iload 4, 2) := by decide +kernel
theorem dX5_weightBehind_20 : decode cX5_weightBehind 20 = .ok (.iconst 0, 1) := by decide +kernel
theorem dX5_weightBehind_21 : decode cX5_weightBehind 21 = .ok (.bipush 20, 2) := by decide +kernel
theorem dX5_weightBehind_23 : decode cX5_weightBehind 23 = .ok (.invokestatic 42, 3) := by decide +kernel
theorem dX5_weightBehind_26 : decode cX5_weightBehind 26 = .ok (.ifCond .ne 10, 3) := by decide +kernel
theorem dX5_weightBehind_29 : decode cX5_weightBehind 29 = .ok (.aload_n 0, 1) := by decide +kernel
theorem dX5_weightBehind_30 : decode cX5_weightBehind 30 = .ok (.iconst 1, 1) := by decide +kernel
theorem dX5_weightBehind_31 : decode cX5_weightBehind 31 = .ok (.invokevirtual 53, 3) := by decide +kernel
theorem dX5_weightBehind_34 : decode cX5_weightBehind 34 = .ok (.i2l, 1) := by decide +kernel
theorem dX5_weightBehind_35 : decode cX5_weightBehind 35 = .ok (.lreturn, 1) := by decide +kernel
theorem dX5_weightBehind_36 : decode cX5_weightBehind 36 = .ok (.aload_n 0, 1) := by decide +kernel
theorem dX5_weightBehind_37 : decode cX5_weightBehind 37 = .ok (.iconst 0, 1) := by decide +kernel
theorem dX5_weightBehind_38 : decode cX5_weightBehind 38 = .ok (.putfield 27, 3) := by decide +kernel
theorem dX5_weightBehind_41 : decode cX5_weightBehind 41 = .ok (.aload_n 0, 1) := by decide +kernel
theorem dX5_weightBehind_42 : decode cX5_weightBehind 42 = .ok (.iload_n 1, 1) := by decide +kernel
theorem dX5_weightBehind_43 : decode cX5_weightBehind 43 = .ok (.iload_n 2, 1) := by decide +kernel
theorem dX5_weightBehind_44 : decode cX5_weightBehind 44 = .ok (.iload_n 3, 1) := by decide +kernel
theorem dX5_weightBehind_45 : decode cX5_weightBehind 45 = .ok (.iload 4, 2) := by decide +kernel
theorem dX5_weightBehind_47 : decode cX5_weightBehind 47 = .ok (.invokevirtual 109, 3) := by decide +kernel
theorem dX5_weightBehind_50 : decode cX5_weightBehind 50 = .ok (.lreturn, 1) := by decide +kernel
set_option maxRecDepth 20000 in
theorem ggX5_best_X5_weighs : GoodIn wsX5_best wsX5_weighs := goodIn_r _ [6, 1, 7, 8, 9, 5, 10, 11, 12, 13, 14, 15, 16, 17, 18, 19, 20, 21, 22, 23, 24, 25, 26, 27, 28] (by decide +kernel) (by decide +kernel)
set_option maxRecDepth 20000 in
theorem gX5_best_X5_weighs : GoodIn wsX5_best (wsV RX5 109 RX5 yX5_weighs wsX5_weighs) := goodIn_app (goodIn_of _ (by decide +kernel)) ggX5_best_X5_weighs
theorem dX5_best_0 : decode cX5_best 0 = .ok (.iconst 0, 1) := by decide +kernel
theorem dX5_best_1 : decode cX5_best 1 = .ok (.istore_n 2, 1) := by decide +kernel
theorem dX5_best_2 : decode cX5_best 2 = .ok (.lconst 0, 1) := by decide +kernel
theorem dX5_best_3 : decode cX5_best 3 = .ok (.lstore_n 3, 1) := by decide +kernel
theorem dX5_best_4 : decode cX5_best 4 = .ok (.iconst 1, 1) := by decide +kernel
theorem dX5_best_5 : decode cX5_best 5 = .ok (.istore 5, 2) := by decide +kernel
theorem dX5_best_7 : decode cX5_best 7 = .ok (.iload 5, 2) := by decide +kernel
theorem dX5_best_9 : decode cX5_best 9 = .ok (.aload_n 0, 1) := by decide +kernel
theorem dX5_best_10 : decode cX5_best 10 = .ok (.getfield 7, 3) := by decide +kernel
theorem dX5_best_13 : decode cX5_best 13 = .ok (.iconst 0, 1) := by decide +kernel
theorem dX5_best_14 : decode cX5_best 14 = .ok (.iaload, 1) := by decide +kernel
theorem dX5_best_15 : decode cX5_best 15 = .ok (.iconst 2, 1) := by decide +kernel
theorem dX5_best_16 : decode cX5_best 16 = .ok (.idiv, 1) := by decide +kernel
theorem dX5_best_17 : decode cX5_best 17 = .ok (.if_icmp .gt 99, 3) := by decide +kernel
theorem dX5_best_20 : decode cX5_best 20 = .ok (.iconst 1, 1) := by decide +kernel
theorem dX5_best_21 : decode cX5_best 21 = .ok (.iload 5, 2) := by decide +kernel
theorem dX5_best_23 : decode cX5_best 23 = .ok (.ishl, 1) := by decide +kernel
theorem dX5_best_24 : decode cX5_best 24 = .ok (.iconst 1, 1) := by decide +kernel
theorem dX5_best_25 : decode cX5_best 25 = .ok (.isub, 1) := by decide +kernel
theorem dX5_best_26 : decode cX5_best 26 = .ok (.istore 6, 2) := by decide +kernel
theorem dX5_best_28 : decode cX5_best 28 = .ok (.lconst 0, 1) := by decide +kernel
theorem dX5_best_29 : decode cX5_best 29 = .ok (.lstore 7, 2) := by decide +kernel
theorem dX5_best_31 : decode cX5_best 31 = .ok (.iconst 0, 1) := by decide +kernel
theorem dX5_best_32 : decode cX5_best 32 = .ok (.istore 9, 2) := by decide +kernel
theorem dX5_best_34 : decode cX5_best 34 = .ok (.iload 9, 2) := by decide +kernel
theorem dX5_best_36 : decode cX5_best 36 = .ok (.iconst 3, 1) := by decide +kernel
theorem dX5_best_37 : decode cX5_best 37 = .ok (.if_icmp .ge 42, 3) := by decide +kernel
theorem dX5_best_40 : decode cX5_best 40 = .ok (.aload_n 0, 1) := by decide +kernel
theorem dX5_best_41 : decode cX5_best 41 = .ok (.iload 6, 2) := by decide +kernel
theorem dX5_best_43 : decode cX5_best 43 = .ok (.iload 6, 2) := by decide +kernel
theorem dX5_best_45 : decode cX5_best 45 = .ok (.iload 5, 2) := by decide +kernel
theorem dX5_best_47 : decode cX5_best 47 = .ok (.ishl, 1) := by decide +kernel
theorem dX5_best_48 : decode cX5_best 48 = .ok (.iload 9, 2) := by decide +kernel
theorem dX5_best_50 : decode cX5_best 50 = .ok (.iload_n 1, 1) := by decide +kernel
theorem dX5_best_51 : decode cX5_best 51 = .ok (.invokevirtual 109, 3) := by decide +kernel
theorem dX5_best_54 : decode cX5_best 54 = .ok (.lstore 10, 2) := by decide +kernel
theorem dX5_best_56 : decode cX5_best 56 = .ok (.lload 10, 2) := by decide +kernel
theorem dX5_best_58 : decode cX5_best 58 = .ok (.lload 7, 2) := by decide +kernel
theorem dX5_best_60 : decode cX5_best 60 = .ok (.lcmp, 1) := by decide +kernel
theorem dX5_best_61 : decode cX5_best 61 = .ok (.ifCond .le 8, 3) := by decide +kernel
theorem dX5_best_64 : decode cX5_best 64 = .ok (.lload 10, 2) := by decide +kernel
theorem dX5_best_66 : decode cX5_best 66 = .ok (.goto 5, 3) := by decide +kernel
theorem dX5_best_69 : decode cX5_best 69 = .ok (.lload 7, 2) := by decide +kernel
theorem dX5_best_71 : decode cX5_best 71 = .ok (.lstore 7, 2) := by decide +kernel
theorem dX5_best_73 : decode cX5_best 73 = .ok (.iinc 9 1, 3) := by decide +kernel
theorem dX5_best_76 : decode cX5_best 76 = .ok (.goto (-42), 3) := by decide +kernel
theorem dX5_best_79 : decode cX5_best 79 = .ok (.iload_n 2, 1) := by decide +kernel
theorem dX5_best_80 : decode cX5_best 80 = .ok (.ifCond .eq 10, 3) := by decide +kernel
theorem dX5_best_83 : decode cX5_best 83 = .ok (.lload 7, 2) := by decide +kernel
theorem dX5_best_85 : decode cX5_best 85 = .ok (.lload_n 3, 1) := by decide +kernel
theorem dX5_best_86 : decode cX5_best 86 = .ok (.lcmp, 1) := by decide +kernel
theorem dX5_best_87 : decode cX5_best 87 = .ok (.ifCond .ge 8, 3) := by decide +kernel
theorem dX5_best_90 : decode cX5_best 90 = .ok (.iload 5, 2) := by decide +kernel
theorem dX5_best_92 : decode cX5_best 92 = .ok (.goto 4, 3) := by decide +kernel
theorem dX5_best_95 : decode cX5_best 95 = .ok (.iload_n 2, 1) := by decide +kernel
theorem dX5_best_96 : decode cX5_best 96 = .ok (.istore_n 2, 1) := by decide +kernel
theorem dX5_best_97 : decode cX5_best 97 = .ok (.iload_n 2, 1) := by decide +kernel
theorem dX5_best_98 : decode cX5_best 98 = .ok (.iload 5, 2) := by decide +kernel
theorem dX5_best_100 : decode cX5_best 100 = .ok (.if_icmp .ne 8, 3) := by decide +kernel
theorem dX5_best_103 : decode cX5_best 103 = .ok (.lload 7, 2) := by decide +kernel
theorem dX5_best_105 : decode cX5_best 105 = .ok (.goto 4, 3) := by decide +kernel
theorem dX5_best_108 : decode cX5_best 108 = .ok (.lload_n 3, 1) := by decide +kernel
theorem dX5_best_109 : decode cX5_best 109 = .ok (.lstore_n 3, 1) := by decide +kernel
theorem dX5_best_110 : decode cX5_best 110 = .ok (.iinc 5 1, 3) := by decide +kernel
theorem dX5_best_113 : decode cX5_best 113 = .ok (.goto (-106), 3) := by decide +kernel
theorem dX5_best_116 : decode cX5_best 116 = .ok (.iload_n 2, 1) := by decide +kernel
theorem dX5_best_117 : decode cX5_best 117 = .ok (.ireturn, 1) := by decide +kernel
set_option maxRecDepth 20000 in
theorem ggX5_bestGroup_X5_in : GoodIn wsX5_bestGroup wsX5_in := goodIn_r _ [4] (by decide +kernel) (by decide +kernel)
set_option maxRecDepth 20000 in
theorem gX5_bestGroup_X5_in : GoodIn wsX5_bestGroup (va_wsS RX5 42 yX5_in wsX5_in) := goodIn_app (goodIn_of _ (by decide +kernel)) ggX5_bestGroup_X5_in
set_option maxRecDepth 20000 in
theorem ggX5_bestGroup_X5_best : GoodIn wsX5_bestGroup wsX5_best := goodIn_r _ [8, 9, 10, 11, 12, 3, 13, 14, 15, 16, 17, 18, 19, 20, 21, 22, 23, 24, 34, 35, 36, 37, 38, 39, 40, 41, 42, 43, 44] (by decide +kernel) (by decide +kernel)
set_option maxRecDepth 20000 in
theorem gX5_bestGroup_X5_best : GoodIn wsX5_bestGroup (wsV RX5 118 RX5 yX5_best wsX5_best) := goodIn_app (goodIn_of _ (by decide +kernel)) ggX5_bestGroup_X5_best
set_option maxRecDepth 20000 in
theorem ggX5_bestGroup_X5_tells : GoodIn wsX5_bestGroup wsX5_tells := goodIn_r _ [28, 29, 34, 35, 36, 37, 38, 39, 40, 41, 42, 43, 44] (by decide +kernel) (by decide +kernel)
set_option maxRecDepth 20000 in
theorem gX5_bestGroup_X5_tells : GoodIn wsX5_bestGroup (wsV RX5 34 RX5 yX5_tells wsX5_tells) := goodIn_app (goodIn_of _ (by decide +kernel)) ggX5_bestGroup_X5_tells
set_option maxRecDepth 20000 in
theorem ggX5_bestGroup_X5_fails : GoodIn wsX5_bestGroup wsX5_fails := goodIn_r _ [33, 29, 34, 35, 36, 37, 38, 39, 40, 41, 42, 43, 44] (by decide +kernel) (by decide +kernel)
set_option maxRecDepth 20000 in
theorem gX5_bestGroup_X5_fails : GoodIn wsX5_bestGroup (wsV RX5 53 RX5 yX5_fails wsX5_fails) := goodIn_app (goodIn_of _ (by decide +kernel)) ggX5_bestGroup_X5_fails
theorem dX5_bestGroup_0 : decode cX5_bestGroup 0 = .ok (.iload_n 1, 1) := by decide +kernel
theorem dX5_bestGroup_1 : decode cX5_bestGroup 1 = .ok (.iconst 0, 1) := by decide +kernel
theorem dX5_bestGroup_2 : decode cX5_bestGroup 2 = .ok (.bipush 20, 2) := by decide +kernel
theorem dX5_bestGroup_4 : decode cX5_bestGroup 4 = .ok (.invokestatic 42, 3) := by decide +kernel
theorem dX5_bestGroup_7 : decode cX5_bestGroup 7 = .ok (.ifCond .eq 15, 3) := by decide +kernel
theorem dX5_bestGroup_10 : decode cX5_bestGroup 10 = .ok (.aload_n 0, 1) := by decide +kernel
theorem dX5_bestGroup_11 : decode cX5_bestGroup 11 = .ok (.aload_n 0, 1) := by decide +kernel
theorem dX5_bestGroup_12 : decode cX5_bestGroup 12 = .ok (.iload_n 1, 1) := by decide +kernel
theorem dX5_bestGroup_13 : decode cX5_bestGroup 13 = .ok (.invokevirtual 118, 3) := by decide +kernel
theorem dX5_bestGroup_16 : decode cX5_bestGroup 16 = .ok (.invokevirtual 34, 3) := by decide +kernel
theorem dX5_bestGroup_19 : decode cX5_bestGroup 19 = .ok (.goto 8, 3) := by decide +kernel
theorem dX5_bestGroup_22 : decode cX5_bestGroup 22 = .ok (.aload_n 0, 1) := by decide +kernel
theorem dX5_bestGroup_23 : decode cX5_bestGroup 23 = .ok (.iconst 1, 1) := by decide +kernel
theorem dX5_bestGroup_24 : decode cX5_bestGroup 24 = .ok (.invokevirtual 53, 3) := by decide +kernel
theorem dX5_bestGroup_27 : decode cX5_bestGroup 27 = .ok (.ireturn, 1) := by decide +kernel
set_option maxRecDepth 20000 in
theorem ggX5_teaches_X5_areSides : GoodIn wsX5_teaches wsX5_areSides := goodIn_r _ [6, 7, 8, 9, 5, 10, 11, 12, 13, 25, 26, 27, 28, 29, 30, 31, 32, 33, 34, 35] (by decide +kernel) (by decide +kernel)
set_option maxRecDepth 20000 in
theorem gX5_teaches_X5_areSides : GoodIn wsX5_teaches (wsV RX5 69 RX5 yX5_areSides wsX5_areSides) := goodIn_app (goodIn_of _ (by decide +kernel)) ggX5_teaches_X5_areSides
set_option maxRecDepth 20000 in
theorem ggX5_teaches_X5_cases : GoodIn wsX5_teaches wsX5_cases := goodIn_r _ [17, 7, 25, 26, 27, 28, 29, 30, 31, 32, 33, 34, 35] (by decide +kernel) (by decide +kernel)
set_option maxRecDepth 20000 in
theorem gX5_teaches_X5_cases : GoodIn wsX5_teaches (wsV RX5 38 RX5 yX5_cases wsX5_cases) := goodIn_app (goodIn_of _ (by decide +kernel)) ggX5_teaches_X5_cases
set_option maxRecDepth 20000 in
theorem ggX5_teaches_X5_isLeft : GoodIn wsX5_teaches wsX5_isLeft := goodIn_r _ [21, 7, 25, 26, 27, 28, 29, 30, 31, 32, 33, 34, 35] (by decide +kernel) (by decide +kernel)
set_option maxRecDepth 20000 in
theorem gX5_teaches_X5_isLeft : GoodIn wsX5_teaches (wsV RX5 49 RX5 yX5_isLeft wsX5_isLeft) := goodIn_app (goodIn_of _ (by decide +kernel)) ggX5_teaches_X5_isLeft
set_option maxRecDepth 20000 in
theorem ggX5_teaches_X5_truth : GoodIn wsX5_teaches wsX5_truth := goodIn_r _ [24] (by decide +kernel) (by decide +kernel)
set_option maxRecDepth 20000 in
theorem gX5_teaches_X5_truth : GoodIn wsX5_teaches (va_wsS RX5 65 yX5_truth wsX5_truth) := goodIn_app (goodIn_of _ (by decide +kernel)) ggX5_teaches_X5_truth
theorem dX5_teaches_0 : decode cX5_teaches 0 = .ok (.aload_n 0, 1) := by decide +kernel
theorem dX5_teaches_1 : decode cX5_teaches 1 = .ok (.aload_n 0, 1) := by decide +kernel
theorem dX5_teaches_2 : decode cX5_teaches 2 = .ok (.iload_n 1, 1) := by decide +kernel
theorem dX5_teaches_3 : decode cX5_teaches 3 = .ok (.iload_n 2, 1) := by decide +kernel
theorem dX5_teaches_4 : decode cX5_teaches 4 = .ok (.invokevirtual 69, 3) := by decide +kernel
theorem dX5_teaches_7 : decode cX5_teaches 7 = .ok (.ifCond .eq 7, 3) := by decide +kernel
theorem dX5_teaches_10 : decode cX5_teaches 10 = .ok (.iconst 0, 1) := by decide +kernel
theorem dX5_teaches_11 : decode cX5_teaches 11 = .ok (.goto 4, 3) := by decide +kernel
theorem dX5_teaches_14 : decode cX5_teaches 14 = .ok (.iconst 1, 1) := by decide +kernel
theorem dX5_teaches_15 : decode cX5_teaches 15 = .ok (.putfield 27, 3) := by decide +kernel
theorem dX5_teaches_18 : decode cX5_teaches 18 = .ok (.iconst 0, 1) := by decide +kernel
theorem dX5_teaches_19 : decode cX5_teaches 19 = .ok (.istore_n 3, 1) := by decide +kernel
theorem dX5_teaches_20 : decode cX5_teaches 20 = .ok (.iconst 0, 1) := by decide +kernel
theorem dX5_teaches_21 : decode cX5_teaches 21 = .ok (.istore 4, 2) := by decide +kernel
theorem dX5_teaches_23 : decode cX5_teaches 23 = .ok (.iload 4, 2) := by decide +kernel
theorem dX5_teaches_25 : decode cX5_teaches 25 = .ok (.aload_n 0, 1) := by decide +kernel
theorem dX5_teaches_26 : decode cX5_teaches 26 = .ok (.invokevirtual 38, 3) := by decide +kernel
theorem dX5_teaches_29 : decode cX5_teaches 29 = .ok (.if_icmp .ge 34, 3) := by decide +kernel
theorem dX5_teaches_32 : decode cX5_teaches 32 = .ok (.iload_n 3, 1) := by decide +kernel
theorem dX5_teaches_33 : decode cX5_teaches 33 = .ok (.aload_n 0, 1) := by decide +kernel
theorem dX5_teaches_34 : decode cX5_teaches 34 = .ok (.iload 4, 2) := by decide +kernel
theorem dX5_teaches_36 : decode cX5_teaches 36 = .ok (.invokevirtual 49, 3) := by decide +kernel
theorem dX5_teaches_39 : decode cX5_teaches 39 = .ok (.ifCond .eq 15, 3) := by decide +kernel
theorem dX5_teaches_42 : decode cX5_teaches 42 = .ok (.iconst 1, 1) := by decide +kernel
theorem dX5_teaches_43 : decode cX5_teaches 43 = .ok (.iload 4, 2) := by decide +kernel
theorem dX5_teaches_45 : decode cX5_teaches 45 = .ok (.iload_n 1, 1) := by decide +kernel
theorem dX5_teaches_46 : decode cX5_teaches 46 = .ok (.iload_n 2, 1) := by decide +kernel
theorem dX5_teaches_47 : decode cX5_teaches 47 = .ok (.invokestatic 65, 3) := by decide +kernel
theorem dX5_teaches_50 : decode cX5_teaches 50 = .ok (.ishl, 1) := by decide +kernel
theorem dX5_teaches_51 : decode cX5_teaches 51 = .ok (.goto 4, 3) := by decide +kernel
theorem dX5_teaches_54 : decode cX5_teaches 54 = .ok (.iconst 0, 1) := by decide +kernel
theorem dX5_teaches_55 : decode cX5_teaches 55 = .ok (.ior, 1) := by decide +kernel
theorem dX5_teaches_56 : decode cX5_teaches 56 = .ok (.istore_n 3, 1) := by decide +kernel
theorem dX5_teaches_57 : decode cX5_teaches 57 = .ok (.iinc 4 1, 3) := by decide +kernel
theorem dX5_teaches_60 : decode cX5_teaches 60 = .ok (.goto (-37), 3) := by decide +kernel
theorem dX5_teaches_63 : decode cX5_teaches 63 = .ok (.aload_n 0, 1) := by decide +kernel
theorem dX5_teaches_64 : decode cX5_teaches 64 = .ok (.getfield 27, 3) := by decide +kernel
theorem dX5_teaches_67 : decode cX5_teaches 67 = .ok (.ifCond .ne 15, 3) := by decide +kernel
theorem dX5_teaches_70 : decode cX5_teaches 70 = .ok (.iload_n 3, 1) := by decide +kernel
theorem dX5_teaches_71 : decode cX5_teaches 71 = .ok (.iload_n 3, 1) := by decide +kernel
theorem dX5_teaches_72 : decode cX5_teaches 72 = .ok (.iconst 1, 1) := by decide +kernel
theorem dX5_teaches_73 : decode cX5_teaches 73 = .ok (.isub, 1) := by decide +kernel
theorem dX5_teaches_74 : decode cX5_teaches 74 = .ok (.iand, 1) := by decide +kernel
theorem dX5_teaches_75 : decode cX5_teaches 75 = .ok (.ifCond .eq 7, 3) := by decide +kernel
theorem dX5_teaches_78 : decode cX5_teaches 78 = .ok (.iconst 1, 1) := by decide +kernel
theorem dX5_teaches_79 : decode cX5_teaches 79 = .ok (.goto 4, 3) := by decide +kernel
theorem dX5_teaches_82 : decode cX5_teaches 82 = .ok (.iconst 0, 1) := by decide +kernel
theorem dX5_teaches_83 : decode cX5_teaches 83 = .ok (.ireturn, 1) := by decide +kernel
set_option maxRecDepth 20000 in
theorem ggX5_apart_X5_truth : GoodIn wsX5_apart wsX5_truth := goodIn_r _ [5] (by decide +kernel) (by decide +kernel)
set_option maxRecDepth 20000 in
theorem gX5_apart_X5_truth : GoodIn wsX5_apart (va_wsS RX5 65 yX5_truth wsX5_truth) := goodIn_app (goodIn_of _ (by decide +kernel)) ggX5_apart_X5_truth
theorem dX5_apart_0 : decode cX5_apart 0 = .ok (.iconst 0, 1) := by decide +kernel
theorem dX5_apart_1 : decode cX5_apart 1 = .ok (.istore_n 3, 1) := by decide +kernel
theorem dX5_apart_2 : decode cX5_apart 2 = .ok (.iconst 0, 1) := by decide +kernel
theorem dX5_apart_3 : decode cX5_apart 3 = .ok (.istore 4, 2) := by decide +kernel
theorem dX5_apart_5 : decode cX5_apart 5 = .ok (.iload 4, 2) := by decide +kernel
theorem dX5_apart_7 : decode cX5_apart 7 = .ok (.aload_n 0, 1) := by decide +kernel
theorem dX5_apart_8 : decode cX5_apart 8 = .ok (.getfield 7, 3) := by decide +kernel
theorem dX5_apart_11 : decode cX5_apart 11 = .ok (.iconst 3, 1) := by decide +kernel
theorem dX5_apart_12 : decode cX5_apart 12 = .ok (.iaload, 1) := by decide +kernel
theorem dX5_apart_13 : decode cX5_apart 13 = .ok (.if_icmp .ge 66, 3) := by decide +kernel
theorem dX5_apart_16 : decode cX5_apart 16 = .ok (.aload_n 0, 1) := by decide +kernel
theorem dX5_apart_17 : decode cX5_apart 17 = .ok (.getfield 7, 3) := by decide +kernel
theorem dX5_apart_20 : decode cX5_apart 20 = .ok (.bipush 127, 2) := by decide +kernel
theorem dX5_apart_22 : decode cX5_apart 22 = .ok (.iconst 2, 1) := by decide +kernel
theorem dX5_apart_23 : decode cX5_apart 23 = .ok (.iload 4, 2) := by decide +kernel
theorem dX5_apart_25 : decode cX5_apart 25 = .ok (.imul, 1) := by decide +kernel
theorem dX5_apart_26 : decode cX5_apart 26 = .ok (.iadd, 1) := by decide +kernel
theorem dX5_apart_27 : decode cX5_apart 27 = .ok (.iaload, 1) := by decide +kernel
theorem dX5_apart_28 : decode cX5_apart 28 = .ok (.istore 5, 2) := by decide +kernel
theorem dX5_apart_30 : decode cX5_apart 30 = .ok (.aload_n 0, 1) := by decide +kernel
theorem dX5_apart_31 : decode cX5_apart 31 = .ok (.getfield 7, 3) := by decide +kernel
theorem dX5_apart_34 : decode cX5_apart 34 = .ok (.bipush 127, 2) := by decide +kernel
theorem dX5_apart_36 : decode cX5_apart 36 = .ok (.iconst 2, 1) := by decide +kernel
theorem dX5_apart_37 : decode cX5_apart 37 = .ok (.iload 4, 2) := by decide +kernel
theorem dX5_apart_39 : decode cX5_apart 39 = .ok (.imul, 1) := by decide +kernel
theorem dX5_apart_40 : decode cX5_apart 40 = .ok (.iadd, 1) := by decide +kernel
theorem dX5_apart_41 : decode cX5_apart 41 = .ok (.iconst 1, 1) := by decide +kernel
theorem dX5_apart_42 : decode cX5_apart 42 = .ok (.iadd, 1) := by decide +kernel
theorem dX5_apart_43 : decode cX5_apart 43 = .ok (.iaload, 1) := by decide +kernel
theorem dX5_apart_44 : decode cX5_apart 44 = .ok (.istore 6, 2) := by decide +kernel
theorem dX5_apart_46 : decode cX5_apart 46 = .ok (.iload_n 3, 1) := by decide +kernel
theorem dX5_apart_47 : decode cX5_apart 47 = .ok (.iload_n 1, 1) := by decide +kernel
theorem dX5_apart_48 : decode cX5_apart 48 = .ok (.iload 5, 2) := by decide +kernel
theorem dX5_apart_50 : decode cX5_apart 50 = .ok (.iload 6, 2) := by decide +kernel
theorem dX5_apart_52 : decode cX5_apart 52 = .ok (.invokestatic 65, 3) := by decide +kernel
theorem dX5_apart_55 : decode cX5_apart 55 = .ok (.iload_n 2, 1) := by decide +kernel
theorem dX5_apart_56 : decode cX5_apart 56 = .ok (.iload 5, 2) := by decide +kernel
theorem dX5_apart_58 : decode cX5_apart 58 = .ok (.iload 6, 2) := by decide +kernel
theorem dX5_apart_60 : decode cX5_apart 60 = .ok (.invokestatic 65, 3) := by decide +kernel
theorem dX5_apart_63 : decode cX5_apart 63 = .ok (.if_icmp .ne 7, 3) := by decide +kernel
theorem dX5_apart_66 : decode cX5_apart 66 = .ok (.iconst 0, 1) := by decide +kernel
theorem dX5_apart_67 : decode cX5_apart 67 = .ok (.goto 4, 3) := by decide +kernel
theorem dX5_apart_70 : decode cX5_apart 70 = .ok (.iconst 1, 1) := by decide +kernel
theorem dX5_apart_71 : decode cX5_apart 71 = .ok (.iadd, 1) := by decide +kernel
theorem dX5_apart_72 : decode cX5_apart 72 = .ok (.istore_n 3, 1) := by decide +kernel
theorem dX5_apart_73 : decode cX5_apart 73 = .ok (.iinc 4 1, 3) := by decide +kernel
theorem dX5_apart_76 : decode cX5_apart 76 = .ok (.goto (-71), 3) := by decide +kernel
theorem dX5_apart_79 : decode cX5_apart 79 = .ok (.iload_n 3, 1) := by decide +kernel
theorem dX5_apart_80 : decode cX5_apart 80 = .ok (.ireturn, 1) := by decide +kernel
set_option maxRecDepth 20000 in
theorem ggX5_distance_X5_isCase : GoodIn wsX5_distance wsX5_isCase := goodIn_r _ [5, 6, 7, 8, 4, 9, 10, 11, 12, 13, 30, 31, 32, 33, 34, 35, 36, 37, 38, 39, 40] (by decide +kernel) (by decide +kernel)
set_option maxRecDepth 20000 in
theorem gX5_distance_X5_isCase : GoodIn wsX5_distance (wsV RX5 80 RX5 yX5_isCase wsX5_isCase) := goodIn_app (goodIn_of _ (by decide +kernel)) ggX5_distance_X5_isCase
set_option maxRecDepth 20000 in
theorem ggX5_distance_X5_apart : GoodIn wsX5_distance wsX5_apart := goodIn_r _ [17, 10, 18, 19, 4, 20, 30, 31, 32, 33, 34, 35, 36, 37, 38, 39, 40] (by decide +kernel) (by decide +kernel)
set_option maxRecDepth 20000 in
theorem gX5_distance_X5_apart : GoodIn wsX5_distance (wsV RX5 121 RX5 yX5_apart wsX5_apart) := goodIn_app (goodIn_of _ (by decide +kernel)) ggX5_distance_X5_apart
set_option maxRecDepth 20000 in
theorem ggX5_distance_X5_tells : GoodIn wsX5_distance wsX5_tells := goodIn_r _ [24, 25, 30, 31, 32, 33, 34, 35, 36, 37, 38, 39, 40] (by decide +kernel) (by decide +kernel)
set_option maxRecDepth 20000 in
theorem gX5_distance_X5_tells : GoodIn wsX5_distance (wsV RX5 34 RX5 yX5_tells wsX5_tells) := goodIn_app (goodIn_of _ (by decide +kernel)) ggX5_distance_X5_tells
set_option maxRecDepth 20000 in
theorem ggX5_distance_X5_fails : GoodIn wsX5_distance wsX5_fails := goodIn_r _ [29, 25, 30, 31, 32, 33, 34, 35, 36, 37, 38, 39, 40] (by decide +kernel) (by decide +kernel)
set_option maxRecDepth 20000 in
theorem gX5_distance_X5_fails : GoodIn wsX5_distance (wsV RX5 53 RX5 yX5_fails wsX5_fails) := goodIn_app (goodIn_of _ (by decide +kernel)) ggX5_distance_X5_fails
theorem dX5_distance_0 : decode cX5_distance 0 = .ok (.aload_n 0, 1) := by decide +kernel
theorem dX5_distance_1 : decode cX5_distance 1 = .ok (.iload_n 1, 1) := by decide +kernel
theorem dX5_distance_2 : decode cX5_distance 2 = .ok (.invokevirtual 80, 3) := by decide +kernel
theorem dX5_distance_5 : decode cX5_distance 5 = .ok (.ifCond .eq 24, 3) := by decide +kernel
theorem dX5_distance_8 : decode cX5_distance 8 = .ok (.aload_n 0, 1) := by decide +kernel
theorem dX5_distance_9 : decode cX5_distance 9 = .ok (.iload_n 2, 1) := by decide +kernel
theorem dX5_distance_10 : decode cX5_distance 10 = .ok (.invokevirtual 80, 3) := by decide +kernel
theorem dX5_distance_13 : decode cX5_distance 13 = .ok (.ifCond .eq 16, 3) := by decide +kernel
theorem dX5_distance_16 : decode cX5_distance 16 = .ok (.aload_n 0, 1) := by decide +kernel
theorem dX5_distance_17 : decode cX5_distance 17 = .ok (.aload_n 0, 1) := by decide +kernel
theorem dX5_distance_18 : decode cX5_distance 18 = .ok (.iload_n 1, 1) := by decide +kernel
theorem dX5_distance_19 : decode cX5_distance 19 = .ok (.iload_n 2, 1) := by decide +kernel
theorem dX5_distance_20 : decode cX5_distance 20 = .ok (.invokevirtual 121, 3) := by decide +kernel
theorem dX5_distance_23 : decode cX5_distance 23 = .ok (.invokevirtual 34, 3) := by decide +kernel
theorem dX5_distance_26 : decode cX5_distance 26 = .ok (.goto 8, 3) := by decide +kernel
theorem dX5_distance_29 : decode cX5_distance 29 = .ok (.aload_n 0, 1) := by decide +kernel
theorem dX5_distance_30 : decode cX5_distance 30 = .ok (.iconst 1, 1) := by decide +kernel
theorem dX5_distance_31 : decode cX5_distance 31 = .ok (.invokevirtual 53, 3) := by decide +kernel
theorem dX5_distance_34 : decode cX5_distance 34 = .ok (.ireturn, 1) := by decide +kernel
set_option maxRecDepth 20000 in
theorem ggX5_nearest_X5_cases : GoodIn wsX5_nearest wsX5_cases := goodIn_r _ [5, 6, 14, 15, 16, 17, 18, 19, 20, 21, 22, 23, 24] (by decide +kernel) (by decide +kernel)
set_option maxRecDepth 20000 in
theorem gX5_nearest_X5_cases : GoodIn wsX5_nearest (wsV RX5 38 RX5 yX5_cases wsX5_cases) := goodIn_app (goodIn_of _ (by decide +kernel)) ggX5_nearest_X5_cases
set_option maxRecDepth 20000 in
theorem ggX5_nearest_X5_apart : GoodIn wsX5_nearest wsX5_apart := goodIn_r _ [10, 6, 11, 12, 4, 13, 14, 15, 16, 17, 18, 19, 20, 21, 22, 23, 24] (by decide +kernel) (by decide +kernel)
set_option maxRecDepth 20000 in
theorem gX5_nearest_X5_apart : GoodIn wsX5_nearest (wsV RX5 121 RX5 yX5_apart wsX5_apart) := goodIn_app (goodIn_of _ (by decide +kernel)) ggX5_nearest_X5_apart
theorem dX5_nearest_0 : decode cX5_nearest 0 = .ok (.bipush 8, 2) := by decide +kernel
theorem dX5_nearest_2 : decode cX5_nearest 2 = .ok (.istore_n 1, 1) := by decide +kernel
theorem dX5_nearest_3 : decode cX5_nearest 3 = .ok (.iconst 0, 1) := by decide +kernel
theorem dX5_nearest_4 : decode cX5_nearest 4 = .ok (.istore_n 2, 1) := by decide +kernel
theorem dX5_nearest_5 : decode cX5_nearest 5 = .ok (.iload_n 2, 1) := by decide +kernel
theorem dX5_nearest_6 : decode cX5_nearest 6 = .ok (.aload_n 0, 1) := by decide +kernel
theorem dX5_nearest_7 : decode cX5_nearest 7 = .ok (.invokevirtual 38, 3) := by decide +kernel
theorem dX5_nearest_10 : decode cX5_nearest 10 = .ok (.if_icmp .ge 43, 3) := by decide +kernel
theorem dX5_nearest_13 : decode cX5_nearest 13 = .ok (.iconst 0, 1) := by decide +kernel
theorem dX5_nearest_14 : decode cX5_nearest 14 = .ok (.istore_n 3, 1) := by decide +kernel
theorem dX5_nearest_15 : decode cX5_nearest 15 = .ok (.iload_n 3, 1) := by decide +kernel
theorem dX5_nearest_16 : decode cX5_nearest 16 = .ok (.iload_n 2, 1) := by decide +kernel
theorem dX5_nearest_17 : decode cX5_nearest 17 = .ok (.if_icmp .ge 30, 3) := by decide +kernel
theorem dX5_nearest_20 : decode cX5_nearest 20 = .ok (.aload_n 0, 1) := by decide +kernel
theorem dX5_nearest_21 : decode cX5_nearest 21 = .ok (.iload_n 2, 1) := by decide +kernel
theorem dX5_nearest_22 : decode cX5_nearest 22 = .ok (.iload_n 3, 1) := by decide +kernel
theorem dX5_nearest_23 : decode cX5_nearest 23 = .ok (.invokevirtual 121, 3) := by decide +kernel
theorem dX5_nearest_26 : decode cX5_nearest 26 = .ok (.istore 4, 2) := by decide +kernel
theorem dX5_nearest_28 : decode cX5_nearest 28 = .ok (.iload 4, 2) := by decide +kernel
theorem dX5_nearest_30 : decode cX5_nearest 30 = .ok (.iload_n 1, 1) := by decide +kernel
theorem dX5_nearest_31 : decode cX5_nearest 31 = .ok (.if_icmp .ge 8, 3) := by decide +kernel
theorem dX5_nearest_34 : decode cX5_nearest 34 = .ok (.iload 4, 2) := by decide +kernel
theorem dX5_nearest_36 : decode cX5_nearest 36 = .ok (.goto 4, 3) := by decide +kernel
theorem dX5_nearest_39 : decode cX5_nearest 39 = .ok (.iload_n 1, 1) := by decide +kernel
theorem dX5_nearest_40 : decode cX5_nearest 40 = .ok (.istore_n 1, 1) := by decide +kernel
theorem dX5_nearest_41 : decode cX5_nearest 41 = .ok (.iinc 3 1, 3) := by decide +kernel
theorem dX5_nearest_44 : decode cX5_nearest 44 = .ok (.goto (-29), 3) := by decide +kernel
theorem dX5_nearest_47 : decode cX5_nearest 47 = .ok (.iinc 2 1, 3) := by decide +kernel
theorem dX5_nearest_50 : decode cX5_nearest 50 = .ok (.goto (-45), 3) := by decide +kernel
theorem dX5_nearest_53 : decode cX5_nearest 53 = .ok (.iload_n 1, 1) := by decide +kernel
theorem dX5_nearest_54 : decode cX5_nearest 54 = .ok (.ireturn, 1) := by decide +kernel
set_option maxRecDepth 20000 in
theorem ggX5_leastDistance_X5_nearest : GoodIn wsX5_leastDistance wsX5_nearest := goodIn_r _ [5, 6, 7, 8, 4, 9, 10, 11, 12, 13, 14, 15, 16, 17, 23, 24, 25, 26, 27, 28, 29, 30, 31, 32, 33] (by decide +kernel) (by decide +kernel)
set_option maxRecDepth 20000 in
theorem gX5_leastDistance_X5_nearest : GoodIn wsX5_leastDistance (wsV RX5 124 RX5 yX5_nearest wsX5_nearest) := goodIn_app (goodIn_of _ (by decide +kernel)) ggX5_leastDistance_X5_nearest
set_option maxRecDepth 20000 in
theorem ggX5_leastDistance_X5_tells : GoodIn wsX5_leastDistance wsX5_tells := goodIn_r _ [21, 22, 23, 24, 25, 26, 27, 28, 29, 30, 31, 32, 33] (by decide +kernel) (by decide +kernel)
set_option maxRecDepth 20000 in
theorem gX5_leastDistance_X5_tells : GoodIn wsX5_leastDistance (wsV RX5 34 RX5 yX5_tells wsX5_tells) := goodIn_app (goodIn_of _ (by decide +kernel)) ggX5_leastDistance_X5_tells
theorem dX5_leastDistance_0 : decode cX5_leastDistance 0 = .ok (.aload_n 0, 1) := by decide +kernel
theorem dX5_leastDistance_1 : decode cX5_leastDistance 1 = .ok (.aload_n 0, 1) := by decide +kernel
theorem dX5_leastDistance_2 : decode cX5_leastDistance 2 = .ok (.invokevirtual 124, 3) := by decide +kernel
theorem dX5_leastDistance_5 : decode cX5_leastDistance 5 = .ok (.invokevirtual 34, 3) := by decide +kernel
theorem dX5_leastDistance_8 : decode cX5_leastDistance 8 = .ok (.ireturn, 1) := by decide +kernel
set_option maxRecDepth 20000 in
theorem ggX5_bears_X5_nearest : GoodIn wsX5_bears wsX5_nearest := goodIn_r _ [5, 6, 7, 8, 4, 9, 10, 11, 12, 13, 14, 15, 16, 17, 23, 24, 25, 26, 27, 28, 29, 30, 31, 32, 33] (by decide +kernel) (by decide +kernel)
set_option maxRecDepth 20000 in
theorem gX5_bears_X5_nearest : GoodIn wsX5_bears (wsV RX5 124 RX5 yX5_nearest wsX5_nearest) := goodIn_app (goodIn_of _ (by decide +kernel)) ggX5_bears_X5_nearest
set_option maxRecDepth 20000 in
theorem ggX5_bears_X5_tells : GoodIn wsX5_bears wsX5_tells := goodIn_r _ [21, 22, 23, 24, 25, 26, 27, 28, 29, 30, 31, 32, 33] (by decide +kernel) (by decide +kernel)
set_option maxRecDepth 20000 in
theorem gX5_bears_X5_tells : GoodIn wsX5_bears (wsV RX5 34 RX5 yX5_tells wsX5_tells) := goodIn_app (goodIn_of _ (by decide +kernel)) ggX5_bears_X5_tells
theorem dX5_bears_0 : decode cX5_bears 0 = .ok (.aload_n 0, 1) := by decide +kernel
theorem dX5_bears_1 : decode cX5_bears 1 = .ok (.invokevirtual 124, 3) := by decide +kernel
theorem dX5_bears_4 : decode cX5_bears 4 = .ok (.istore_n 1, 1) := by decide +kernel
theorem dX5_bears_5 : decode cX5_bears 5 = .ok (.aload_n 0, 1) := by decide +kernel
theorem dX5_bears_6 : decode cX5_bears 6 = .ok (.iload_n 1, 1) := by decide +kernel
theorem dX5_bears_7 : decode cX5_bears 7 = .ok (.ifCond .ne 7, 3) := by decide +kernel
theorem dX5_bears_10 : decode cX5_bears 10 = .ok (.iconst (-1), 1) := by decide +kernel
theorem dX5_bears_11 : decode cX5_bears 11 = .ok (.goto 8, 3) := by decide +kernel
theorem dX5_bears_14 : decode cX5_bears 14 = .ok (.iload_n 1, 1) := by decide +kernel
theorem dX5_bears_15 : decode cX5_bears 15 = .ok (.iconst 1, 1) := by decide +kernel
theorem dX5_bears_16 : decode cX5_bears 16 = .ok (.isub, 1) := by decide +kernel
theorem dX5_bears_17 : decode cX5_bears 17 = .ok (.iconst 2, 1) := by decide +kernel
theorem dX5_bears_18 : decode cX5_bears 18 = .ok (.idiv, 1) := by decide +kernel
theorem dX5_bears_19 : decode cX5_bears 19 = .ok (.invokevirtual 34, 3) := by decide +kernel
theorem dX5_bears_22 : decode cX5_bears 22 = .ok (.ireturn, 1) := by decide +kernel
set_option maxRecDepth 20000 in
theorem ggX5_differs_X5_truth : GoodIn wsX5_differs wsX5_truth := goodIn_r _ [5] (by decide +kernel) (by decide +kernel)
set_option maxRecDepth 20000 in
theorem gX5_differs_X5_truth : GoodIn wsX5_differs (va_wsS RX5 65 yX5_truth wsX5_truth) := goodIn_app (goodIn_of _ (by decide +kernel)) ggX5_differs_X5_truth
theorem dX5_differs_0 : decode cX5_differs 0 = .ok (.iconst 0, 1) := by decide +kernel
theorem dX5_differs_1 : decode cX5_differs 1 = .ok (.istore_n 3, 1) := by decide +kernel
theorem dX5_differs_2 : decode cX5_differs 2 = .ok (.iload_n 2, 1) := by decide +kernel
theorem dX5_differs_3 : decode cX5_differs 3 = .ok (.istore 4, 2) := by decide +kernel
theorem dX5_differs_5 : decode cX5_differs 5 = .ok (.iconst 0, 1) := by decide +kernel
theorem dX5_differs_6 : decode cX5_differs 6 = .ok (.istore 5, 2) := by decide +kernel
theorem dX5_differs_8 : decode cX5_differs 8 = .ok (.iload 5, 2) := by decide +kernel
theorem dX5_differs_10 : decode cX5_differs 10 = .ok (.aload_n 0, 1) := by decide +kernel
theorem dX5_differs_11 : decode cX5_differs 11 = .ok (.getfield 7, 3) := by decide +kernel
theorem dX5_differs_14 : decode cX5_differs 14 = .ok (.iconst 3, 1) := by decide +kernel
theorem dX5_differs_15 : decode cX5_differs 15 = .ok (.iaload, 1) := by decide +kernel
theorem dX5_differs_16 : decode cX5_differs 16 = .ok (.if_icmp .ge 60, 3) := by decide +kernel
theorem dX5_differs_19 : decode cX5_differs 19 = .ok (.iload_n 3, 1) := by decide +kernel
theorem dX5_differs_20 : decode cX5_differs 20 = .ok (.iload_n 1, 1) := by decide +kernel
theorem dX5_differs_21 : decode cX5_differs 21 = .ok (.aload_n 0, 1) := by decide +kernel
theorem dX5_differs_22 : decode cX5_differs 22 = .ok (.getfield 7, 3) := by decide +kernel
theorem dX5_differs_25 : decode cX5_differs 25 = .ok (.bipush 127, 2) := by decide +kernel
theorem dX5_differs_27 : decode cX5_differs 27 = .ok (.iconst 2, 1) := by decide +kernel
theorem dX5_differs_28 : decode cX5_differs 28 = .ok (.iload 5, 2) := by decide +kernel
theorem dX5_differs_30 : decode cX5_differs 30 = .ok (.imul, 1) := by decide +kernel
theorem dX5_differs_31 : decode cX5_differs 31 = .ok (.iadd, 1) := by decide +kernel
theorem dX5_differs_32 : decode cX5_differs 32 = .ok (.iaload, 1) := by decide +kernel
theorem dX5_differs_33 : decode cX5_differs 33 = .ok (.aload_n 0, 1) := by decide +kernel
theorem dX5_differs_34 : decode cX5_differs 34 = .ok (.getfield 7, 3) := by decide +kernel
theorem dX5_differs_37 : decode cX5_differs 37 = .ok (.bipush 127, 2) := by decide +kernel
theorem dX5_differs_39 : decode cX5_differs 39 = .ok (.iconst 2, 1) := by decide +kernel
theorem dX5_differs_40 : decode cX5_differs 40 = .ok (.iload 5, 2) := by decide +kernel
theorem dX5_differs_42 : decode cX5_differs 42 = .ok (.imul, 1) := by decide +kernel
theorem dX5_differs_43 : decode cX5_differs 43 = .ok (.iadd, 1) := by decide +kernel
theorem dX5_differs_44 : decode cX5_differs 44 = .ok (.iconst 1, 1) := by decide +kernel
theorem dX5_differs_45 : decode cX5_differs 45 = .ok (.iadd, 1) := by decide +kernel
theorem dX5_differs_46 : decode cX5_differs 46 = .ok (.iaload, 1) := by decide +kernel
theorem dX5_differs_47 : decode cX5_differs 47 = .ok (.invokestatic 65, 3) := by decide +kernel
theorem dX5_differs_50 : decode cX5_differs 50 = .ok (.iload 4, 2) := by decide +kernel
theorem dX5_differs_52 : decode cX5_differs 52 = .ok (.iconst 3, 1) := by decide +kernel
theorem dX5_differs_53 : decode cX5_differs 53 = .ok (.irem, 1) := by decide +kernel
theorem dX5_differs_54 : decode cX5_differs 54 = .ok (.if_icmp .ne 7, 3) := by decide +kernel
theorem dX5_differs_57 : decode cX5_differs 57 = .ok (.iconst 0, 1) := by decide +kernel
theorem dX5_differs_58 : decode cX5_differs 58 = .ok (.goto 4, 3) := by decide +kernel
theorem dX5_differs_61 : decode cX5_differs 61 = .ok (.iconst 1, 1) := by decide +kernel
theorem dX5_differs_62 : decode cX5_differs 62 = .ok (.iadd, 1) := by decide +kernel
theorem dX5_differs_63 : decode cX5_differs 63 = .ok (.istore_n 3, 1) := by decide +kernel
theorem dX5_differs_64 : decode cX5_differs 64 = .ok (.iload 4, 2) := by decide +kernel
theorem dX5_differs_66 : decode cX5_differs 66 = .ok (.iconst 3, 1) := by decide +kernel
theorem dX5_differs_67 : decode cX5_differs 67 = .ok (.idiv, 1) := by decide +kernel
theorem dX5_differs_68 : decode cX5_differs 68 = .ok (.istore 4, 2) := by decide +kernel
theorem dX5_differs_70 : decode cX5_differs 70 = .ok (.iinc 5 1, 3) := by decide +kernel
theorem dX5_differs_73 : decode cX5_differs 73 = .ok (.goto (-65), 3) := by decide +kernel
theorem dX5_differs_76 : decode cX5_differs 76 = .ok (.iload_n 3, 1) := by decide +kernel
theorem dX5_differs_77 : decode cX5_differs 77 = .ok (.ireturn, 1) := by decide +kernel
set_option maxRecDepth 20000 in
theorem ggX5_decode_X5_in : GoodIn wsX5_decode wsX5_in := goodIn_r _ [5] (by decide +kernel) (by decide +kernel)
set_option maxRecDepth 20000 in
theorem gX5_decode_X5_in : GoodIn wsX5_decode (va_wsS RX5 42 yX5_in wsX5_in) := goodIn_app (goodIn_of _ (by decide +kernel)) ggX5_decode_X5_in
set_option maxRecDepth 20000 in
theorem ggX5_decode_X5_fails : GoodIn wsX5_decode wsX5_fails := goodIn_r _ [9, 10, 26, 27, 28, 29, 30, 31, 32, 33, 34, 35, 36] (by decide +kernel) (by decide +kernel)
set_option maxRecDepth 20000 in
theorem gX5_decode_X5_fails : GoodIn wsX5_decode (wsV RX5 53 RX5 yX5_fails wsX5_fails) := goodIn_app (goodIn_of _ (by decide +kernel)) ggX5_decode_X5_fails
set_option maxRecDepth 20000 in
theorem ggX5_decode_X5_cases : GoodIn wsX5_decode wsX5_cases := goodIn_r _ [14, 1, 26, 27, 28, 29, 30, 31, 32, 33, 34, 35, 36] (by decide +kernel) (by decide +kernel)
set_option maxRecDepth 20000 in
theorem gX5_decode_X5_cases : GoodIn wsX5_decode (wsV RX5 38 RX5 yX5_cases wsX5_cases) := goodIn_app (goodIn_of _ (by decide +kernel)) ggX5_decode_X5_cases
set_option maxRecDepth 20000 in
theorem ggX5_decode_X5_differs : GoodIn wsX5_decode wsX5_differs := goodIn_r _ [18, 1, 19, 20, 4, 21, 26, 27, 28, 29, 30, 31, 32, 33, 34, 35, 36] (by decide +kernel) (by decide +kernel)
set_option maxRecDepth 20000 in
theorem gX5_decode_X5_differs : GoodIn wsX5_decode (wsV RX5 127 RX5 yX5_differs wsX5_differs) := goodIn_app (goodIn_of _ (by decide +kernel)) ggX5_decode_X5_differs
set_option maxRecDepth 20000 in
theorem ggX5_decode_X5_tells : GoodIn wsX5_decode wsX5_tells := goodIn_r _ [25, 10, 26, 27, 28, 29, 30, 31, 32, 33, 34, 35, 36] (by decide +kernel) (by decide +kernel)
set_option maxRecDepth 20000 in
theorem gX5_decode_X5_tells : GoodIn wsX5_decode (wsV RX5 34 RX5 yX5_tells wsX5_tells) := goodIn_app (goodIn_of _ (by decide +kernel)) ggX5_decode_X5_tells
theorem dX5_decode_0 : decode cX5_decode 0 = .ok (.iconst 1, 1) := by decide +kernel
theorem dX5_decode_1 : decode cX5_decode 1 = .ok (.istore_n 2, 1) := by decide +kernel
theorem dX5_decode_2 : decode cX5_decode 2 = .ok (.iconst 0, 1) := by decide +kernel
theorem dX5_decode_3 : decode cX5_decode 3 = .ok (.istore_n 3, 1) := by decide +kernel
theorem dX5_decode_4 : decode cX5_decode 4 = .ok (.iload_n 3, 1) := by decide +kernel
theorem dX5_decode_5 : decode cX5_decode 5 = .ok (.aload_n 0, 1) := by decide +kernel
theorem dX5_decode_6 : decode cX5_decode 6 = .ok (.getfield 7, 3) := by decide +kernel
theorem dX5_decode_9 : decode cX5_decode 9 = .ok (.iconst 3, 1) := by decide +kernel
theorem dX5_decode_10 : decode cX5_decode 10 = .ok (.iaload, 1) := by decide +kernel
theorem dX5_decode_11 : decode cX5_decode 11 = .ok (.if_icmp .ge 13, 3) := by decide +kernel
theorem dX5_decode_14 : decode cX5_decode 14 = .ok (.iload_n 2, 1) := by decide +kernel
theorem dX5_decode_15 : decode cX5_decode 15 = .ok (.iconst 3, 1) := by decide +kernel
theorem dX5_decode_16 : decode cX5_decode 16 = .ok (.imul, 1) := by decide +kernel
theorem dX5_decode_17 : decode cX5_decode 17 = .ok (.istore_n 2, 1) := by decide +kernel
theorem dX5_decode_18 : decode cX5_decode 18 = .ok (.iinc 3 1, 3) := by decide +kernel
theorem dX5_decode_21 : decode cX5_decode 21 = .ok (.goto (-17), 3) := by decide +kernel
theorem dX5_decode_24 : decode cX5_decode 24 = .ok (.iload_n 1, 1) := by decide +kernel
theorem dX5_decode_25 : decode cX5_decode 25 = .ok (.iconst 0, 1) := by decide +kernel
theorem dX5_decode_26 : decode cX5_decode 26 = .ok (.iload_n 2, 1) := by decide +kernel
theorem dX5_decode_27 : decode cX5_decode 27 = .ok (.iconst 1, 1) := by decide +kernel
theorem dX5_decode_28 : decode cX5_decode 28 = .ok (.isub, 1) := by decide +kernel
theorem dX5_decode_29 : decode cX5_decode 29 = .ok (.invokestatic 42, 3) := by decide +kernel
theorem dX5_decode_32 : decode cX5_decode 32 = .ok (.ifCond .ne 9, 3) := by decide +kernel
theorem dX5_decode_35 : decode cX5_decode 35 = .ok (.aload_n 0, 1) := by decide +kernel
theorem dX5_decode_36 : decode cX5_decode 36 = .ok (.iconst 1, 1) := by decide +kernel
theorem dX5_decode_37 : decode cX5_decode 37 = .ok (.invokevirtual 53, 3) := by decide +kernel
theorem dX5_decode_40 : decode cX5_decode 40 = .ok (.ireturn, 1) := by decide +kernel
theorem dX5_decode_41 : decode cX5_decode 41 = .ok (.iconst (-1), 1) := by decide +kernel
theorem dX5_decode_42 : decode cX5_decode 42 = .ok (.istore_n 3, 1) := by decide +kernel
theorem dX5_decode_43 : decode cX5_decode 43 = .ok (.bipush 9, 2) := by decide +kernel
theorem dX5_decode_45 : decode cX5_decode 45 = .ok (.istore 4, 2) := by decide +kernel
theorem dX5_decode_47 : decode cX5_decode 47 = .ok (.iconst 0, 1) := by decide +kernel
theorem dX5_decode_48 : decode cX5_decode 48 = .ok (.istore 5, 2) := by decide +kernel
theorem dX5_decode_50 : decode cX5_decode 50 = .ok (.iload 5, 2) := by decide +kernel
theorem dX5_decode_52 : decode cX5_decode 52 = .ok (.aload_n 0, 1) := by decide +kernel
theorem dX5_decode_53 : decode cX5_decode 53 = .ok (.invokevirtual 38, 3) := by decide +kernel
theorem dX5_decode_56 : decode cX5_decode 56 = .ok (.if_icmp .ge 59, 3) := by decide +kernel
theorem dX5_decode_59 : decode cX5_decode 59 = .ok (.aload_n 0, 1) := by decide +kernel
theorem dX5_decode_60 : decode cX5_decode 60 = .ok (.iload 5, 2) := by decide +kernel
theorem dX5_decode_62 : decode cX5_decode 62 = .ok (.iload_n 1, 1) := by decide +kernel
theorem dX5_decode_63 : decode cX5_decode 63 = .ok (.invokevirtual 127, 3) := by decide +kernel
theorem dX5_decode_66 : decode cX5_decode 66 = .ok (.istore 6, 2) := by decide +kernel
theorem dX5_decode_68 : decode cX5_decode 68 = .ok (.iload 6, 2) := by decide +kernel
theorem dX5_decode_70 : decode cX5_decode 70 = .ok (.iload 4, 2) := by decide +kernel
theorem dX5_decode_72 : decode cX5_decode 72 = .ok (.if_icmp .ge 8, 3) := by decide +kernel
theorem dX5_decode_75 : decode cX5_decode 75 = .ok (.iload 5, 2) := by decide +kernel
theorem dX5_decode_77 : decode cX5_decode 77 = .ok (.goto 15, 3) := by decide +kernel
theorem dX5_decode_80 : decode cX5_decode 80 = .ok (.iload 6, 2) := by decide +kernel
theorem dX5_decode_82 : decode cX5_decode 82 = .ok (.iload 4, 2) := by decide +kernel
theorem dX5_decode_84 : decode cX5_decode 84 = .ok (.if_icmp .ne 7, 3) := by decide +kernel
theorem dX5_decode_87 : decode cX5_decode 87 = .ok (.iconst (-1), 1) := by decide +kernel
theorem dX5_decode_88 : decode cX5_decode 88 = .ok (.goto 4, 3) := by decide +kernel
theorem dX5_decode_91 : decode cX5_decode 91 = .ok (.iload_n 3, 1) := by decide +kernel
theorem dX5_decode_92 : decode cX5_decode 92 = .ok (.istore_n 3, 1) := by decide +kernel
theorem dX5_decode_93 : decode cX5_decode 93 = .ok (.iload 6, 2) := by decide +kernel
theorem dX5_decode_95 : decode cX5_decode 95 = .ok (.iload 4, 2) := by decide +kernel
theorem dX5_decode_97 : decode cX5_decode 97 = .ok (.if_icmp .ge 8, 3) := by decide +kernel
theorem dX5_decode_100 : decode cX5_decode 100 = .ok (.iload 6, 2) := by decide +kernel
theorem dX5_decode_102 : decode cX5_decode 102 = .ok (.goto 5, 3) := by decide +kernel
theorem dX5_decode_105 : decode cX5_decode 105 = .ok (.iload 4, 2) := by decide +kernel
theorem dX5_decode_107 : decode cX5_decode 107 = .ok (.istore 4, 2) := by decide +kernel
theorem dX5_decode_109 : decode cX5_decode 109 = .ok (.iinc 5 1, 3) := by decide +kernel
theorem dX5_decode_112 : decode cX5_decode 112 = .ok (.goto (-62), 3) := by decide +kernel
theorem dX5_decode_115 : decode cX5_decode 115 = .ok (.aload_n 0, 1) := by decide +kernel
theorem dX5_decode_116 : decode cX5_decode 116 = .ok (.iload_n 3, 1) := by decide +kernel
theorem dX5_decode_117 : decode cX5_decode 117 = .ok (.invokevirtual 34, 3) := by decide +kernel
theorem dX5_decode_120 : decode cX5_decode 120 = .ok (.ireturn, 1) := by decide +kernel
set_option maxRecDepth 20000 in
theorem ggX5_share_X5_lefts : GoodIn wsX5_share wsX5_lefts := goodIn_r _ [6, 7, 8, 9, 5, 10, 11, 12, 13, 14, 15, 16, 17, 18, 19, 20, 21, 22, 23, 24, 25, 26] (by decide +kernel) (by decide +kernel)
set_option maxRecDepth 20000 in
theorem gX5_share_X5_lefts : GoodIn wsX5_share (wsV RX5 62 RX5 yX5_lefts wsX5_lefts) := goodIn_app (goodIn_of _ (by decide +kernel)) ggX5_share_X5_lefts
set_option maxRecDepth 20000 in
theorem ggX5_share_X5_cases : GoodIn wsX5_share wsX5_cases := goodIn_r _ [10, 11, 16, 17, 18, 19, 20, 21, 22, 23, 24, 25, 26] (by decide +kernel) (by decide +kernel)
set_option maxRecDepth 20000 in
theorem gX5_share_X5_cases : GoodIn wsX5_share (wsV RX5 38 RX5 yX5_cases wsX5_cases) := goodIn_app (goodIn_of _ (by decide +kernel)) ggX5_share_X5_cases
theorem dX5_share_0 : decode cX5_share 0 = .ok (.aload_n 0, 1) := by decide +kernel
theorem dX5_share_1 : decode cX5_share 1 = .ok (.iconst 0, 1) := by decide +kernel
theorem dX5_share_2 : decode cX5_share 2 = .ok (.putfield 27, 3) := by decide +kernel
theorem dX5_share_5 : decode cX5_share 5 = .ok (.aload_n 0, 1) := by decide +kernel
theorem dX5_share_6 : decode cX5_share 6 = .ok (.invokevirtual 62, 3) := by decide +kernel
theorem dX5_share_9 : decode cX5_share 9 = .ok (.i2d, 1) := by decide +kernel
theorem dX5_share_10 : decode cX5_share 10 = .ok (.aload_n 0, 1) := by decide +kernel
theorem dX5_share_11 : decode cX5_share 11 = .ok (.invokevirtual 38, 3) := by decide +kernel
theorem dX5_share_14 : decode cX5_share 14 = .ok (.i2d, 1) := by decide +kernel
theorem dX5_share_15 : decode cX5_share 15 = .ok (.ddiv, 1) := by decide +kernel
theorem dX5_share_16 : decode cX5_share 16 = .ok (.dreturn, 1) := by decide +kernel
set_option maxRecDepth 20000 in
theorem ggX5_append_X5_in : GoodIn wsX5_append wsX5_in := goodIn_r _ [6] (by decide +kernel) (by decide +kernel)
set_option maxRecDepth 20000 in
theorem gX5_append_X5_in : GoodIn wsX5_append (va_wsS RX5 42 yX5_in wsX5_in) := goodIn_app (goodIn_of _ (by decide +kernel)) ggX5_append_X5_in
set_option maxRecDepth 20000 in
theorem ggX5_append_X5_fails : GoodIn wsX5_append wsX5_fails := goodIn_r _ [10, 11, 16, 17, 18, 19, 20, 21, 22, 23, 24, 25, 26] (by decide +kernel) (by decide +kernel)
set_option maxRecDepth 20000 in
theorem gX5_append_X5_fails : GoodIn wsX5_append (wsV RX5 53 RX5 yX5_fails wsX5_fails) := goodIn_app (goodIn_of _ (by decide +kernel)) ggX5_append_X5_fails
set_option maxRecDepth 20000 in
theorem ggX5_append_X5_tells : GoodIn wsX5_append wsX5_tells := goodIn_r _ [15, 11, 16, 17, 18, 19, 20, 21, 22, 23, 24, 25, 26] (by decide +kernel) (by decide +kernel)
set_option maxRecDepth 20000 in
theorem gX5_append_X5_tells : GoodIn wsX5_append (wsV RX5 34 RX5 yX5_tells wsX5_tells) := goodIn_app (goodIn_of _ (by decide +kernel)) ggX5_append_X5_tells
theorem dX5_append_0 : decode cX5_append 0 = .ok (.iload_n 1, 1) := by decide +kernel
theorem dX5_append_1 : decode cX5_append 1 = .ok (.iconst 0, 1) := by decide +kernel
theorem dX5_append_2 : decode cX5_append 2 = .ok (.bipush 127, 2) := by decide +kernel
theorem dX5_append_4 : decode cX5_append 4 = .ok (.invokestatic 42, 3) := by decide +kernel
theorem dX5_append_7 : decode cX5_append 7 = .ok (.ifCond .ne 9, 3) := by decide +kernel
theorem dX5_append_10 : decode cX5_append 10 = .ok (.aload_n 0, 1) := by decide +kernel
theorem dX5_append_11 : decode cX5_append 11 = .ok (.iconst 1, 1) := by decide +kernel
theorem dX5_append_12 : decode cX5_append 12 = .ok (.invokevirtual 53, 3) := by decide +kernel
theorem dX5_append_15 : decode cX5_append 15 = .ok (.ireturn, 1) := by decide +kernel
theorem dX5_append_16 : decode cX5_append 16 = .ok (.aload_n 0, 1) := by decide +kernel
theorem dX5_append_17 : decode cX5_append 17 = .ok (.getfield 130, 3) := by decide +kernel
theorem dX5_append_20 : decode cX5_append 20 = .ok (.bipush 100, 2) := by decide +kernel
theorem dX5_append_22 : decode cX5_append 22 = .ok (.if_icmp .ne 9, 3) := by decide +kernel
theorem dX5_append_25 : decode cX5_append 25 = .ok (.aload_n 0, 1) := by decide +kernel
theorem dX5_append_26 : decode cX5_append 26 = .ok (.iconst 2, 1) := by decide +kernel
theorem dX5_append_27 : decode cX5_append 27 = .ok (.invokevirtual 53, 3) := by decide +kernel
theorem dX5_append_30 : decode cX5_append 30 = .ok (.ireturn, 1) := by decide +kernel
theorem dX5_append_31 : decode cX5_append 31 = .ok (.aload_n 0, 1) := by decide +kernel
theorem dX5_append_32 : decode cX5_append 32 = .ok (.getfield 19, 3) := by decide +kernel
theorem dX5_append_35 : decode cX5_append 35 = .ok (.aload_n 0, 1) := by decide +kernel
theorem dX5_append_36 : decode cX5_append 36 = .ok (.getfield 130, 3) := by decide +kernel
theorem dX5_append_39 : decode cX5_append 39 = .ok (.iload_n 1, 1) := by decide +kernel
theorem dX5_append_40 : decode cX5_append 40 = .ok (.i2b, 1) := by decide +kernel
theorem dX5_append_41 : decode cX5_append 41 = .ok (.bastore, 1) := by decide +kernel
theorem dX5_append_42 : decode cX5_append 42 = .ok (.aload_n 0, 1) := by decide +kernel
theorem dX5_append_43 : decode cX5_append 43 = .ok (.dup, 1) := by decide +kernel
theorem dX5_append_44 : decode cX5_append 44 = .ok (.getfield 130, 3) := by decide +kernel
theorem dX5_append_47 : decode cX5_append 47 = .ok (.iconst 1, 1) := by decide +kernel
theorem dX5_append_48 : decode cX5_append 48 = .ok (.iadd, 1) := by decide +kernel
theorem dX5_append_49 : decode cX5_append 49 = .ok (.putfield 130, 3) := by decide +kernel
theorem dX5_append_52 : decode cX5_append 52 = .ok (.aload_n 0, 1) := by decide +kernel
theorem dX5_append_53 : decode cX5_append 53 = .ok (.aload_n 0, 1) := by decide +kernel
theorem dX5_append_54 : decode cX5_append 54 = .ok (.getfield 130, 3) := by decide +kernel
theorem dX5_append_57 : decode cX5_append 57 = .ok (.invokevirtual 34, 3) := by decide +kernel
theorem dX5_append_60 : decode cX5_append 60 = .ok (.ireturn, 1) := by decide +kernel
set_option maxRecDepth 20000 in
theorem ggX5_clearText_X5_tells : GoodIn wsX5_clearText wsX5_tells := goodIn_r _ [6, 7, 8, 9, 10, 11, 12, 13, 14, 15, 16, 17, 18] (by decide +kernel) (by decide +kernel)
set_option maxRecDepth 20000 in
theorem gX5_clearText_X5_tells : GoodIn wsX5_clearText (wsV RX5 34 RX5 yX5_tells wsX5_tells) := goodIn_app (goodIn_of _ (by decide +kernel)) ggX5_clearText_X5_tells
theorem dX5_clearText_0 : decode cX5_clearText 0 = .ok (.aload_n 0, 1) := by decide +kernel
theorem dX5_clearText_1 : decode cX5_clearText 1 = .ok (.getfield 130, 3) := by decide +kernel
theorem dX5_clearText_4 : decode cX5_clearText 4 = .ok (.istore_n 1, 1) := by decide +kernel
theorem dX5_clearText_5 : decode cX5_clearText 5 = .ok (.aload_n 0, 1) := by decide +kernel
theorem dX5_clearText_6 : decode cX5_clearText 6 = .ok (.iconst 0, 1) := by decide +kernel
theorem dX5_clearText_7 : decode cX5_clearText 7 = .ok (.putfield 130, 3) := by decide +kernel
theorem dX5_clearText_10 : decode cX5_clearText 10 = .ok (.aload_n 0, 1) := by decide +kernel
theorem dX5_clearText_11 : decode cX5_clearText 11 = .ok (.iload_n 1, 1) := by decide +kernel
theorem dX5_clearText_12 : decode cX5_clearText 12 = .ok (.invokevirtual 34, 3) := by decide +kernel
theorem dX5_clearText_15 : decode cX5_clearText 15 = .ok (.ireturn, 1) := by decide +kernel
theorem dX5_sign_0 : decode cX5_sign 0 = .ok (.aload_n 0, 1) := by decide +kernel
theorem dX5_sign_1 : decode cX5_sign 1 = .ok (.getfield 133, 3) := by decide +kernel
theorem dX5_sign_4 : decode cX5_sign 4 = .ok (.aload_n 0, 1) := by decide +kernel
theorem dX5_sign_5 : decode cX5_sign 5 = .ok (.getfield 130, 3) := by decide +kernel
theorem dX5_sign_8 : decode cX5_sign 8 = .ok (.if_icmp .ge 15, 3) := by decide +kernel
theorem dX5_sign_11 : decode cX5_sign 11 = .ok (.aload_n 0, 1) := by decide +kernel
theorem dX5_sign_12 : decode cX5_sign 12 = .ok (.getfield 19, 3) := by decide +kernel
theorem dX5_sign_15 : decode cX5_sign 15 = .ok (.aload_n 0, 1) := by decide +kernel
theorem dX5_sign_16 : decode cX5_sign 16 = .ok (.getfield 133, 3) := by decide +kernel
theorem dX5_sign_19 : decode cX5_sign 19 = .ok (.baload, 1) := by decide +kernel
theorem dX5_sign_20 : decode cX5_sign 20 = .ok (.goto 4, 3) := by decide +kernel
theorem dX5_sign_23 : decode cX5_sign 23 = .ok (.iconst (-1), 1) := by decide +kernel
theorem dX5_sign_24 : decode cX5_sign 24 = .ok (.ireturn, 1) := by decide +kernel
set_option maxRecDepth 20000 in
theorem ggX5_side_X5_sign : GoodIn wsX5_side wsX5_sign := goodIn_r _ [6, 1, 7, 8, 12, 13, 14, 15, 16, 17, 18, 19, 20, 21, 22] (by decide +kernel) (by decide +kernel)
set_option maxRecDepth 20000 in
theorem gX5_side_X5_sign : GoodIn wsX5_side (wsV RX5 136 RX5 yX5_sign wsX5_sign) := goodIn_app (goodIn_of _ (by decide +kernel)) ggX5_side_X5_sign
set_option maxRecDepth 20000 in
theorem ggX5_side_X5_in : GoodIn wsX5_side wsX5_in := goodIn_r _ [11] (by decide +kernel) (by decide +kernel)
set_option maxRecDepth 20000 in
theorem gX5_side_X5_in : GoodIn wsX5_side (va_wsS RX5 42 yX5_in wsX5_in) := goodIn_app (goodIn_of _ (by decide +kernel)) ggX5_side_X5_in
theorem dX5_side_0 : decode cX5_side 0 = .ok (.iconst 0, 1) := by decide +kernel
theorem dX5_side_1 : decode cX5_side 1 = .ok (.istore_n 2, 1) := by decide +kernel
theorem dX5_side_2 : decode cX5_side 2 = .ok (.aload_n 0, 1) := by decide +kernel
theorem dX5_side_3 : decode cX5_side 3 = .ok (.invokevirtual 136, 3) := by decide +kernel
theorem dX5_side_6 : decode cX5_side 6 = .ok (.bipush 97, 2) := by decide +kernel
theorem dX5_side_8 : decode cX5_side 8 = .ok (.bipush 112, 2) := by decide +kernel
theorem dX5_side_10 : decode cX5_side 10 = .ok (.invokestatic 42, 3) := by decide +kernel
theorem dX5_side_13 : decode cX5_side 13 = .ok (.ifCond .eq 44, 3) := by decide +kernel
theorem dX5_side_16 : decode cX5_side 16 = .ok (.iconst 1, 1) := by decide +kernel
theorem dX5_side_17 : decode cX5_side 17 = .ok (.aload_n 0, 1) := by decide +kernel
theorem dX5_side_18 : decode cX5_side 18 = .ok (.invokevirtual 136, 3) := by decide +kernel
theorem dX5_side_21 : decode cX5_side 21 = .ok (.bipush 97, 2) := by decide +kernel
theorem dX5_side_23 : decode cX5_side 23 = .ok (.isub, 1) := by decide +kernel
theorem dX5_side_24 : decode cX5_side 24 = .ok (.ishl, 1) := by decide +kernel
theorem dX5_side_25 : decode cX5_side 25 = .ok (.iload_n 1, 1) := by decide +kernel
theorem dX5_side_26 : decode cX5_side 26 = .ok (.iload_n 2, 1) := by decide +kernel
theorem dX5_side_27 : decode cX5_side 27 = .ok (.ior, 1) := by decide +kernel
theorem dX5_side_28 : decode cX5_side 28 = .ok (.iand, 1) := by decide +kernel
theorem dX5_side_29 : decode cX5_side 29 = .ok (.ifCond .ne 28, 3) := by decide +kernel
theorem dX5_side_32 : decode cX5_side 32 = .ok (.iload_n 2, 1) := by decide +kernel
theorem dX5_side_33 : decode cX5_side 33 = .ok (.iconst 1, 1) := by decide +kernel
theorem dX5_side_34 : decode cX5_side 34 = .ok (.aload_n 0, 1) := by decide +kernel
theorem dX5_side_35 : decode cX5_side 35 = .ok (.invokevirtual 136, 3) := by decide +kernel
theorem dX5_side_38 : decode cX5_side 38 = .ok (.bipush 97, 2) := by decide +kernel
theorem dX5_side_40 : decode cX5_side 40 = .ok (.isub, 1) := by decide +kernel
theorem dX5_side_41 : decode cX5_side 41 = .ok (.ishl, 1) := by decide +kernel
theorem dX5_side_42 : decode cX5_side 42 = .ok (.ior, 1) := by decide +kernel
theorem dX5_side_43 : decode cX5_side 43 = .ok (.istore_n 2, 1) := by decide +kernel
theorem dX5_side_44 : decode cX5_side 44 = .ok (.aload_n 0, 1) := by decide +kernel
theorem dX5_side_45 : decode cX5_side 45 = .ok (.dup, 1) := by decide +kernel
theorem dX5_side_46 : decode cX5_side 46 = .ok (.getfield 133, 3) := by decide +kernel
theorem dX5_side_49 : decode cX5_side 49 = .ok (.iconst 1, 1) := by decide +kernel
theorem dX5_side_50 : decode cX5_side 50 = .ok (.iadd, 1) := by decide +kernel
theorem dX5_side_51 : decode cX5_side 51 = .ok (.putfield 133, 3) := by decide +kernel
theorem dX5_side_54 : decode cX5_side 54 = .ok (.goto (-52), 3) := by decide +kernel
theorem dX5_side_57 : decode cX5_side 57 = .ok (.iload_n 2, 1) := by decide +kernel
theorem dX5_side_58 : decode cX5_side 58 = .ok (.ireturn, 1) := by decide +kernel
set_option maxRecDepth 20000 in
theorem ggX5_takes_X5_sign : GoodIn wsX5_takes wsX5_sign := goodIn_r _ [6, 1, 7, 8, 9, 10, 11, 12, 13, 14, 15, 16, 17, 18, 19] (by decide +kernel) (by decide +kernel)
set_option maxRecDepth 20000 in
theorem gX5_takes_X5_sign : GoodIn wsX5_takes (wsV RX5 136 RX5 yX5_sign wsX5_sign) := goodIn_app (goodIn_of _ (by decide +kernel)) ggX5_takes_X5_sign
theorem dX5_takes_0 : decode cX5_takes 0 = .ok (.aload_n 0, 1) := by decide +kernel
theorem dX5_takes_1 : decode cX5_takes 1 = .ok (.invokevirtual 136, 3) := by decide +kernel
theorem dX5_takes_4 : decode cX5_takes 4 = .ok (.iload_n 1, 1) := by decide +kernel
theorem dX5_takes_5 : decode cX5_takes 5 = .ok (.if_icmp .ne 7, 3) := by decide +kernel
theorem dX5_takes_8 : decode cX5_takes 8 = .ok (.iconst 1, 1) := by decide +kernel
theorem dX5_takes_9 : decode cX5_takes 9 = .ok (.goto 4, 3) := by decide +kernel
theorem dX5_takes_12 : decode cX5_takes 12 = .ok (.iconst 0, 1) := by decide +kernel
theorem dX5_takes_13 : decode cX5_takes 13 = .ok (.istore_n 2, 1) := by decide +kernel
theorem dX5_takes_14 : decode cX5_takes 14 = .ok (.aload_n 0, 1) := by decide +kernel
theorem dX5_takes_15 : decode cX5_takes 15 = .ok (.dup, 1) := by decide +kernel
theorem dX5_takes_16 : decode cX5_takes 16 = .ok (.getfield 133, 3) := by decide +kernel
theorem dX5_takes_19 : decode cX5_takes 19 = .ok (.iload_n 2, 1) := by decide +kernel
theorem dX5_takes_20 : decode cX5_takes 20 = .ok (.ifCond .eq 7, 3) := by decide +kernel
theorem dX5_takes_23 : decode cX5_takes 23 = .ok (.iconst 1, 1) := by decide +kernel
theorem dX5_takes_24 : decode cX5_takes 24 = .ok (.goto 4, 3) := by decide +kernel
theorem dX5_takes_27 : decode cX5_takes 27 = .ok (.iconst 0, 1) := by decide +kernel
theorem dX5_takes_28 : decode cX5_takes 28 = .ok (.iadd, 1) := by decide +kernel
theorem dX5_takes_29 : decode cX5_takes 29 = .ok (.putfield 133, 3) := by decide +kernel
theorem dX5_takes_32 : decode cX5_takes 32 = .ok (.iload_n 2, 1) := by decide +kernel
theorem dX5_takes_33 : decode cX5_takes 33 = .ok (.ireturn, 1) := by decide +kernel
set_option maxRecDepth 20000 in
theorem ggX5_kind_X5_takes : GoodIn wsX5_kind wsX5_takes := goodIn_r _ [5, 6, 7, 8, 9, 4, 10, 11, 12, 13, 14, 15, 16, 17, 18, 19, 20, 21, 22, 23] (by decide +kernel) (by decide +kernel)
set_option maxRecDepth 20000 in
theorem gX5_kind_X5_takes : GoodIn wsX5_kind (wsV RX5 139 RX5 yX5_takes wsX5_takes) := goodIn_app (goodIn_of _ (by decide +kernel)) ggX5_kind_X5_takes
theorem dX5_kind_0 : decode cX5_kind 0 = .ok (.aload_n 0, 1) := by decide +kernel
theorem dX5_kind_1 : decode cX5_kind 1 = .ok (.bipush 63, 2) := by decide +kernel
theorem dX5_kind_3 : decode cX5_kind 3 = .ok (.invokevirtual 139, 3) := by decide +kernel
theorem dX5_kind_6 : decode cX5_kind 6 = .ok (.ifCond .eq 5, 3) := by decide +kernel
theorem dX5_kind_9 : decode cX5_kind 9 = .ok (.iconst 3, 1) := by decide +kernel
theorem dX5_kind_10 : decode cX5_kind 10 = .ok (.ireturn, 1) := by decide +kernel
theorem dX5_kind_11 : decode cX5_kind 11 = .ok (.aload_n 0, 1) := by decide +kernel
theorem dX5_kind_12 : decode cX5_kind 12 = .ok (.bipush 43, 2) := by decide +kernel
theorem dX5_kind_14 : decode cX5_kind 14 = .ok (.invokevirtual 139, 3) := by decide +kernel
theorem dX5_kind_17 : decode cX5_kind 17 = .ok (.ifCond .eq 5, 3) := by decide +kernel
theorem dX5_kind_20 : decode cX5_kind 20 = .ok (.iconst 4, 1) := by decide +kernel
theorem dX5_kind_21 : decode cX5_kind 21 = .ok (.ireturn, 1) := by decide +kernel
theorem dX5_kind_22 : decode cX5_kind 22 = .ok (.aload_n 0, 1) := by decide +kernel
theorem dX5_kind_23 : decode cX5_kind 23 = .ok (.bipush 61, 2) := by decide +kernel
theorem dX5_kind_25 : decode cX5_kind 25 = .ok (.invokevirtual 139, 3) := by decide +kernel
theorem dX5_kind_28 : decode cX5_kind 28 = .ok (.ifCond .ne 5, 3) := by decide +kernel
theorem dX5_kind_31 : decode cX5_kind 31 = .ok (.iconst (-1), 1) := by decide +kernel
theorem dX5_kind_32 : decode cX5_kind 32 = .ok (.ireturn, 1) := by decide +kernel
theorem dX5_kind_33 : decode cX5_kind 33 = .ok (.aload_n 0, 1) := by decide +kernel
theorem dX5_kind_34 : decode cX5_kind 34 = .ok (.bipush 108, 2) := by decide +kernel
theorem dX5_kind_36 : decode cX5_kind 36 = .ok (.invokevirtual 139, 3) := by decide +kernel
theorem dX5_kind_39 : decode cX5_kind 39 = .ok (.ifCond .eq 7, 3) := by decide +kernel
theorem dX5_kind_42 : decode cX5_kind 42 = .ok (.iconst 0, 1) := by decide +kernel
theorem dX5_kind_43 : decode cX5_kind 43 = .ok (.goto 30, 3) := by decide +kernel
theorem dX5_kind_46 : decode cX5_kind 46 = .ok (.aload_n 0, 1) := by decide +kernel
theorem dX5_kind_47 : decode cX5_kind 47 = .ok (.bipush 114, 2) := by decide +kernel
theorem dX5_kind_49 : decode cX5_kind 49 = .ok (.invokevirtual 139, 3) := by decide +kernel
theorem dX5_kind_52 : decode cX5_kind 52 = .ok (.ifCond .eq 7, 3) := by decide +kernel
theorem dX5_kind_55 : decode cX5_kind 55 = .ok (.iconst 1, 1) := by decide +kernel
theorem dX5_kind_56 : decode cX5_kind 56 = .ok (.goto 17, 3) := by decide +kernel
theorem dX5_kind_59 : decode cX5_kind 59 = .ok (.aload_n 0, 1) := by decide +kernel
theorem dX5_kind_60 : decode cX5_kind 60 = .ok (.bipush 101, 2) := by decide +kernel
theorem dX5_kind_62 : decode cX5_kind 62 = .ok (.invokevirtual 139, 3) := by decide +kernel
theorem dX5_kind_65 : decode cX5_kind 65 = .ok (.ifCond .eq 7, 3) := by decide +kernel
theorem dX5_kind_68 : decode cX5_kind 68 = .ok (.iconst 2, 1) := by decide +kernel
theorem dX5_kind_69 : decode cX5_kind 69 = .ok (.goto 4, 3) := by decide +kernel
theorem dX5_kind_72 : decode cX5_kind 72 = .ok (.iconst (-1), 1) := by decide +kernel
theorem dX5_kind_73 : decode cX5_kind 73 = .ok (.ireturn, 1) := by decide +kernel
set_option maxRecDepth 20000 in
theorem ggX5_reads_X5_side : GoodIn wsX5_reads wsX5_side := goodIn_r _ [8, 9, 10, 11, 12, 7, 13, 14, 15, 16, 17, 18, 27, 28, 29, 30, 31, 32, 33, 34, 35, 36, 37] (by decide +kernel) (by decide +kernel)
set_option maxRecDepth 20000 in
theorem gX5_reads_X5_side : GoodIn wsX5_reads (wsV RX5 142 RX5 yX5_side wsX5_side) := goodIn_app (goodIn_of _ (by decide +kernel)) ggX5_reads_X5_side
set_option maxRecDepth 20000 in
theorem ggX5_reads_X5_takes : GoodIn wsX5_reads wsX5_takes := goodIn_r _ [22, 9, 10, 11, 12, 7, 13, 14, 15, 27, 28, 29, 30, 31, 32, 33, 34, 35, 36, 37] (by decide +kernel) (by decide +kernel)
set_option maxRecDepth 20000 in
theorem gX5_reads_X5_takes : GoodIn wsX5_reads (wsV RX5 139 RX5 yX5_takes wsX5_takes) := goodIn_app (goodIn_of _ (by decide +kernel)) ggX5_reads_X5_takes
set_option maxRecDepth 20000 in
theorem ggX5_reads_X5_kind : GoodIn wsX5_reads wsX5_kind := goodIn_r _ [26, 19, 20, 21, 7, 22, 9, 10, 11, 12, 13, 14, 15, 27, 28, 29, 30, 31, 32, 33, 34, 35, 36, 37] (by decide +kernel) (by decide +kernel)
set_option maxRecDepth 20000 in
theorem gX5_reads_X5_kind : GoodIn wsX5_reads (wsV RX5 151 RX5 yX5_kind wsX5_kind) := goodIn_app (goodIn_of _ (by decide +kernel)) ggX5_reads_X5_kind
theorem dX5_reads_0 : decode cX5_reads 0 = .ok (.aload_n 0, 1) := by decide +kernel
theorem dX5_reads_1 : decode cX5_reads 1 = .ok (.aload_n 0, 1) := by decide +kernel
theorem dX5_reads_2 : decode cX5_reads 2 = .ok (.iconst 0, 1) := by decide +kernel
theorem dX5_reads_3 : decode cX5_reads 3 = .ok (.invokevirtual 142, 3) := by decide +kernel
theorem dX5_reads_6 : decode cX5_reads 6 = .ok (.putfield 145, 3) := by decide +kernel
theorem dX5_reads_9 : decode cX5_reads 9 = .ok (.aload_n 0, 1) := by decide +kernel
theorem dX5_reads_10 : decode cX5_reads 10 = .ok (.getfield 145, 3) := by decide +kernel
theorem dX5_reads_13 : decode cX5_reads 13 = .ok (.ifCond .eq 12, 3) := by decide +kernel
theorem dX5_reads_16 : decode cX5_reads 16 = .ok (.aload_n 0, 1) := by decide +kernel
theorem dX5_reads_17 : decode cX5_reads 17 = .ok (.bipush 47, 2) := by decide +kernel
theorem dX5_reads_19 : decode cX5_reads 19 = .ok (.invokevirtual 139, 3) := by decide +kernel
theorem dX5_reads_22 : decode cX5_reads 22 = .ok (.ifCond .ne 5, 3) := by decide +kernel
theorem dX5_reads_25 : decode cX5_reads 25 = .ok (.iconst 0, 1) := by decide +kernel
theorem dX5_reads_26 : decode cX5_reads 26 = .ok (.ireturn, 1) := by decide +kernel
theorem dX5_reads_27 : decode cX5_reads 27 = .ok (.aload_n 0, 1) := by decide +kernel
theorem dX5_reads_28 : decode cX5_reads 28 = .ok (.aload_n 0, 1) := by decide +kernel
theorem dX5_reads_29 : decode cX5_reads 29 = .ok (.aload_n 0, 1) := by decide +kernel
theorem dX5_reads_30 : decode cX5_reads 30 = .ok (.getfield 145, 3) := by decide +kernel
theorem dX5_reads_33 : decode cX5_reads 33 = .ok (.invokevirtual 142, 3) := by decide +kernel
theorem dX5_reads_36 : decode cX5_reads 36 = .ok (.putfield 148, 3) := by decide +kernel
theorem dX5_reads_39 : decode cX5_reads 39 = .ok (.aload_n 0, 1) := by decide +kernel
theorem dX5_reads_40 : decode cX5_reads 40 = .ok (.getfield 148, 3) := by decide +kernel
theorem dX5_reads_43 : decode cX5_reads 43 = .ok (.ifCond .ne 5, 3) := by decide +kernel
theorem dX5_reads_46 : decode cX5_reads 46 = .ok (.iconst 0, 1) := by decide +kernel
theorem dX5_reads_47 : decode cX5_reads 47 = .ok (.ireturn, 1) := by decide +kernel
theorem dX5_reads_48 : decode cX5_reads 48 = .ok (.aload_n 0, 1) := by decide +kernel
theorem dX5_reads_49 : decode cX5_reads 49 = .ok (.aload_n 0, 1) := by decide +kernel
theorem dX5_reads_50 : decode cX5_reads 50 = .ok (.invokevirtual 151, 3) := by decide +kernel
theorem dX5_reads_53 : decode cX5_reads 53 = .ok (.putfield 154, 3) := by decide +kernel
theorem dX5_reads_56 : decode cX5_reads 56 = .ok (.aload_n 0, 1) := by decide +kernel
theorem dX5_reads_57 : decode cX5_reads 57 = .ok (.getfield 154, 3) := by decide +kernel
theorem dX5_reads_60 : decode cX5_reads 60 = .ok (.ifCond .lt 16, 3) := by decide +kernel
theorem dX5_reads_63 : decode cX5_reads 63 = .ok (.aload_n 0, 1) := by decide +kernel
theorem dX5_reads_64 : decode cX5_reads 64 = .ok (.bipush 59, 2) := by decide +kernel
theorem dX5_reads_66 : decode cX5_reads 66 = .ok (.invokevirtual 139, 3) := by decide +kernel
theorem dX5_reads_69 : decode cX5_reads 69 = .ok (.ifCond .eq 7, 3) := by decide +kernel
theorem dX5_reads_72 : decode cX5_reads 72 = .ok (.iconst 1, 1) := by decide +kernel
theorem dX5_reads_73 : decode cX5_reads 73 = .ok (.goto 4, 3) := by decide +kernel
theorem dX5_reads_76 : decode cX5_reads 76 = .ok (.iconst 0, 1) := by decide +kernel
theorem dX5_reads_77 : decode cX5_reads 77 = .ok (.ireturn, 1) := by decide +kernel
set_option maxRecDepth 20000 in
theorem ggX5_wrong_X5_reads : GoodIn wsX5_wrong wsX5_reads := goodIn_r _ [7, 8, 9, 10, 11, 12, 13, 6, 14, 1, 15, 16, 17, 18, 2, 19, 20, 21, 22, 23, 24, 25, 26, 27, 28, 29, 30, 31, 32, 33, 34, 35, 36, 37, 38, 39, 40, 41] (by decide +kernel) (by decide +kernel)
set_option maxRecDepth 20000 in
theorem gX5_wrong_X5_reads : GoodIn wsX5_wrong (wsV RX5 157 RX5 yX5_reads wsX5_reads) := goodIn_app (goodIn_of _ (by decide +kernel)) ggX5_wrong_X5_reads
theorem dX5_wrong_0 : decode cX5_wrong 0 = .ok (.aload_n 0, 1) := by decide +kernel
theorem dX5_wrong_1 : decode cX5_wrong 1 = .ok (.iconst 0, 1) := by decide +kernel
theorem dX5_wrong_2 : decode cX5_wrong 2 = .ok (.putfield 133, 3) := by decide +kernel
theorem dX5_wrong_5 : decode cX5_wrong 5 = .ok (.aload_n 0, 1) := by decide +kernel
theorem dX5_wrong_6 : decode cX5_wrong 6 = .ok (.getfield 133, 3) := by decide +kernel
theorem dX5_wrong_9 : decode cX5_wrong 9 = .ok (.aload_n 0, 1) := by decide +kernel
theorem dX5_wrong_10 : decode cX5_wrong 10 = .ok (.getfield 130, 3) := by decide +kernel
theorem dX5_wrong_13 : decode cX5_wrong 13 = .ok (.if_icmp .ge 15, 3) := by decide +kernel
theorem dX5_wrong_16 : decode cX5_wrong 16 = .ok (.aload_n 0, 1) := by decide +kernel
theorem dX5_wrong_17 : decode cX5_wrong 17 = .ok (.invokevirtual 157, 3) := by decide +kernel
theorem dX5_wrong_20 : decode cX5_wrong 20 = .ok (.ifCond .ne (-15), 3) := by decide +kernel
theorem dX5_wrong_23 : decode cX5_wrong 23 = .ok (.aload_n 0, 1) := by decide +kernel
theorem dX5_wrong_24 : decode cX5_wrong 24 = .ok (.getfield 133, 3) := by decide +kernel
theorem dX5_wrong_27 : decode cX5_wrong 27 = .ok (.ireturn, 1) := by decide +kernel
theorem dX5_wrong_28 : decode cX5_wrong 28 = .ok (.iconst (-1), 1) := by decide +kernel
theorem dX5_wrong_29 : decode cX5_wrong 29 = .ok (.ireturn, 1) := by decide +kernel
set_option maxRecDepth 20000 in
theorem ggX5_does_X5_whyNotTell : GoodIn wsX5_does wsX5_whyNotTell := goodIn_r _ [8, 9, 10, 11, 12, 7, 13, 14, 15, 16, 17, 18, 19, 47, 48, 49, 50, 51, 52, 53, 54, 55, 56, 57] (by decide +kernel) (by decide +kernel)
set_option maxRecDepth 20000 in
theorem gX5_does_X5_whyNotTell : GoodIn wsX5_does (wsV RX5 73 RX5 yX5_whyNotTell wsX5_whyNotTell) := goodIn_app (goodIn_of _ (by decide +kernel)) ggX5_does_X5_whyNotTell
set_option maxRecDepth 20000 in
theorem ggX5_does_X5_whyNotAsk : GoodIn wsX5_does wsX5_whyNotAsk := goodIn_r _ [23, 9, 10, 11, 12, 7, 13, 14, 15, 16, 17, 18, 19, 47, 48, 49, 50, 51, 52, 53, 54, 55, 56, 57] (by decide +kernel) (by decide +kernel)
set_option maxRecDepth 20000 in
theorem gX5_does_X5_whyNotAsk : GoodIn wsX5_does (wsV RX5 84 RX5 yX5_whyNotAsk wsX5_whyNotAsk) := goodIn_app (goodIn_of _ (by decide +kernel)) ggX5_does_X5_whyNotAsk
set_option maxRecDepth 20000 in
theorem ggX5_does_X5_whyNotAdd : GoodIn wsX5_does wsX5_whyNotAdd := goodIn_r _ [27, 9, 10, 11, 12, 7, 13, 14, 15, 16, 17, 18, 19, 47, 48, 49, 50, 51, 52, 53, 54, 55, 56, 57] (by decide +kernel) (by decide +kernel)
set_option maxRecDepth 20000 in
theorem gX5_does_X5_whyNotAdd : GoodIn wsX5_does (wsV RX5 91 RX5 yX5_whyNotAdd wsX5_whyNotAdd) := goodIn_app (goodIn_of _ (by decide +kernel)) ggX5_does_X5_whyNotAdd
set_option maxRecDepth 20000 in
theorem ggX5_does_X5_lays : GoodIn wsX5_does wsX5_lays := goodIn_r _ [31, 9, 32, 33, 34, 7, 35, 36, 37, 38, 47, 48, 49, 50, 51, 52, 53, 54, 55, 56, 57] (by decide +kernel) (by decide +kernel)
set_option maxRecDepth 20000 in
theorem gX5_does_X5_lays : GoodIn wsX5_does (wsV RX5 76 RX5 yX5_lays wsX5_lays) := goodIn_app (goodIn_of _ (by decide +kernel)) ggX5_does_X5_lays
set_option maxRecDepth 20000 in
theorem ggX5_does_X5_asks : GoodIn wsX5_does wsX5_asks := goodIn_r _ [42, 9, 36, 37, 7, 38, 28, 29, 30, 31, 32, 33, 34, 35, 47, 48, 49, 50, 51, 52, 53, 54, 55, 56, 57] (by decide +kernel) (by decide +kernel)
set_option maxRecDepth 20000 in
theorem gX5_does_X5_asks : GoodIn wsX5_does (wsV RX5 88 RX5 yX5_asks wsX5_asks) := goodIn_app (goodIn_of _ (by decide +kernel)) ggX5_does_X5_asks
set_option maxRecDepth 20000 in
theorem ggX5_does_X5_adds : GoodIn wsX5_does wsX5_adds := goodIn_r _ [46, 9, 47, 48, 49, 50, 51, 52, 53, 54, 55, 56, 57] (by decide +kernel) (by decide +kernel)
set_option maxRecDepth 20000 in
theorem gX5_does_X5_adds : GoodIn wsX5_does (wsV RX5 94 RX5 yX5_adds wsX5_adds) := goodIn_app (goodIn_of _ (by decide +kernel)) ggX5_does_X5_adds
theorem dX5_does_0 : decode cX5_does 0 = .ok (.aload_n 0, 1) := by decide +kernel
theorem dX5_does_1 : decode cX5_does 1 = .ok (.getfield 154, 3) := by decide +kernel
theorem dX5_does_4 : decode cX5_does 4 = .ok (.iconst 3, 1) := by decide +kernel
theorem dX5_does_5 : decode cX5_does 5 = .ok (.if_icmp .ge 22, 3) := by decide +kernel
theorem dX5_does_8 : decode cX5_does 8 = .ok (.aload_n 0, 1) := by decide +kernel
theorem dX5_does_9 : decode cX5_does 9 = .ok (.aload_n 0, 1) := by decide +kernel
theorem dX5_does_10 : decode cX5_does 10 = .ok (.getfield 145, 3) := by decide +kernel
theorem dX5_does_13 : decode cX5_does 13 = .ok (.aload_n 0, 1) := by decide +kernel
theorem dX5_does_14 : decode cX5_does 14 = .ok (.getfield 148, 3) := by decide +kernel
theorem dX5_does_17 : decode cX5_does 17 = .ok (.aload_n 0, 1) := by decide +kernel
theorem dX5_does_18 : decode cX5_does 18 = .ok (.getfield 154, 3) := by decide +kernel
theorem dX5_does_21 : decode cX5_does 21 = .ok (.invokevirtual 73, 3) := by decide +kernel
theorem dX5_does_24 : decode cX5_does 24 = .ok (.goto 38, 3) := by decide +kernel
theorem dX5_does_27 : decode cX5_does 27 = .ok (.aload_n 0, 1) := by decide +kernel
theorem dX5_does_28 : decode cX5_does 28 = .ok (.getfield 154, 3) := by decide +kernel
theorem dX5_does_31 : decode cX5_does 31 = .ok (.iconst 3, 1) := by decide +kernel
theorem dX5_does_32 : decode cX5_does 32 = .ok (.if_icmp .ne 18, 3) := by decide +kernel
theorem dX5_does_35 : decode cX5_does 35 = .ok (.aload_n 0, 1) := by decide +kernel
theorem dX5_does_36 : decode cX5_does 36 = .ok (.aload_n 0, 1) := by decide +kernel
theorem dX5_does_37 : decode cX5_does 37 = .ok (.getfield 145, 3) := by decide +kernel
theorem dX5_does_40 : decode cX5_does 40 = .ok (.aload_n 0, 1) := by decide +kernel
theorem dX5_does_41 : decode cX5_does 41 = .ok (.getfield 148, 3) := by decide +kernel
theorem dX5_does_44 : decode cX5_does 44 = .ok (.invokevirtual 84, 3) := by decide +kernel
theorem dX5_does_47 : decode cX5_does 47 = .ok (.goto 15, 3) := by decide +kernel
theorem dX5_does_50 : decode cX5_does 50 = .ok (.aload_n 0, 1) := by decide +kernel
theorem dX5_does_51 : decode cX5_does 51 = .ok (.aload_n 0, 1) := by decide +kernel
theorem dX5_does_52 : decode cX5_does 52 = .ok (.getfield 145, 3) := by decide +kernel
theorem dX5_does_55 : decode cX5_does 55 = .ok (.aload_n 0, 1) := by decide +kernel
theorem dX5_does_56 : decode cX5_does 56 = .ok (.getfield 148, 3) := by decide +kernel
theorem dX5_does_59 : decode cX5_does 59 = .ok (.invokevirtual 91, 3) := by decide +kernel
theorem dX5_does_62 : decode cX5_does 62 = .ok (.istore_n 1, 1) := by decide +kernel
theorem dX5_does_63 : decode cX5_does 63 = .ok (.iload_n 1, 1) := by decide +kernel
theorem dX5_does_64 : decode cX5_does 64 = .ok (.ifCond .le 5, 3) := by decide +kernel
theorem dX5_does_67 : decode cX5_does 67 = .ok (.iconst 0, 1) := by decide +kernel
theorem dX5_does_68 : decode cX5_does 68 = .ok (.ireturn, 1) := by decide +kernel
theorem dX5_does_69 : decode cX5_does 69 = .ok (.aload_n 0, 1) := by decide +kernel
theorem dX5_does_70 : decode cX5_does 70 = .ok (.getfield 154, 3) := by decide +kernel
theorem dX5_does_73 : decode cX5_does 73 = .ok (.iconst 3, 1) := by decide +kernel
theorem dX5_does_74 : decode cX5_does 74 = .ok (.if_icmp .ge 22, 3) := by decide +kernel
theorem dX5_does_77 : decode cX5_does 77 = .ok (.aload_n 0, 1) := by decide +kernel
theorem dX5_does_78 : decode cX5_does 78 = .ok (.aload_n 0, 1) := by decide +kernel
theorem dX5_does_79 : decode cX5_does 79 = .ok (.getfield 145, 3) := by decide +kernel
theorem dX5_does_82 : decode cX5_does 82 = .ok (.aload_n 0, 1) := by decide +kernel
theorem dX5_does_83 : decode cX5_does 83 = .ok (.getfield 148, 3) := by decide +kernel
theorem dX5_does_86 : decode cX5_does 86 = .ok (.aload_n 0, 1) := by decide +kernel
theorem dX5_does_87 : decode cX5_does 87 = .ok (.getfield 154, 3) := by decide +kernel
theorem dX5_does_90 : decode cX5_does 90 = .ok (.invokevirtual 76, 3) := by decide +kernel
theorem dX5_does_93 : decode cX5_does 93 = .ok (.goto 40, 3) := by decide +kernel
theorem dX5_does_96 : decode cX5_does 96 = .ok (.aload_n 0, 1) := by decide +kernel
theorem dX5_does_97 : decode cX5_does 97 = .ok (.getfield 154, 3) := by decide +kernel
theorem dX5_does_100 : decode cX5_does 100 = .ok (.iconst 3, 1) := by decide +kernel
theorem dX5_does_101 : decode cX5_does 101 = .ok (.if_icmp .ne 19, 3) := by decide +kernel
theorem dX5_does_104 : decode cX5_does 104 = .ok (.aload_n 0, 1) := by decide +kernel
theorem dX5_does_105 : decode cX5_does 105 = .ok (.aload_n 0, 1) := by decide +kernel
theorem dX5_does_106 : decode cX5_does 106 = .ok (.getfield 145, 3) := by decide +kernel
theorem dX5_does_109 : decode cX5_does 109 = .ok (.aload_n 0, 1) := by decide +kernel
theorem dX5_does_110 : decode cX5_does 110 = .ok (.getfield 148, 3) := by decide +kernel
theorem dX5_does_113 : decode cX5_does 113 = .ok (.invokevirtual 88, 3) := by decide +kernel
theorem dX5_does_116 : decode cX5_does 116 = .ok (.pop, 1) := by decide +kernel
theorem dX5_does_117 : decode cX5_does 117 = .ok (.goto 16, 3) := by decide +kernel
theorem dX5_does_120 : decode cX5_does 120 = .ok (.aload_n 0, 1) := by decide +kernel
theorem dX5_does_121 : decode cX5_does 121 = .ok (.aload_n 0, 1) := by decide +kernel
theorem dX5_does_122 : decode cX5_does 122 = .ok (.getfield 145, 3) := by decide +kernel
theorem dX5_does_125 : decode cX5_does 125 = .ok (.aload_n 0, 1) := by decide +kernel
theorem dX5_does_126 : decode cX5_does 126 = .ok (.getfield 148, 3) := by decide +kernel
theorem dX5_does_129 : decode cX5_does 129 = .ok (.invokevirtual 94, 3) := by decide +kernel
theorem dX5_does_132 : decode cX5_does 132 = .ok (.pop, 1) := by decide +kernel
theorem dX5_does_133 : decode cX5_does 133 = .ok (.iconst 1, 1) := by decide +kernel
theorem dX5_does_134 : decode cX5_does 134 = .ok (.ireturn, 1) := by decide +kernel
set_option maxRecDepth 20000 in
theorem ggX5_carryOut_X5_wrong : GoodIn wsX5_carryOut wsX5_wrong := goodIn_r _ [7, 1, 2, 8, 9, 10, 6, 11, 12, 13, 14, 15, 16, 17, 18, 19, 20, 21, 22, 23, 24, 25, 26, 27, 28, 29, 30, 31, 32, 33, 34, 94, 95, 96, 97, 98, 99, 100, 101, 102, 103, 104] (by decide +kernel) (by decide +kernel)
set_option maxRecDepth 20000 in
theorem gX5_carryOut_X5_wrong : GoodIn wsX5_carryOut (wsV RX5 161 RX5 yX5_wrong wsX5_wrong) := goodIn_app (goodIn_of _ (by decide +kernel)) ggX5_carryOut_X5_wrong
set_option maxRecDepth 20000 in
theorem ggX5_carryOut_X5_tells : GoodIn wsX5_carryOut wsX5_tells := goodIn_r _ [38, 39, 94, 95, 96, 97, 98, 99, 100, 101, 102, 103, 104] (by decide +kernel) (by decide +kernel)
set_option maxRecDepth 20000 in
theorem gX5_carryOut_X5_tells : GoodIn wsX5_carryOut (wsV RX5 34 RX5 yX5_tells wsX5_tells) := goodIn_app (goodIn_of _ (by decide +kernel)) ggX5_carryOut_X5_tells
set_option maxRecDepth 20000 in
theorem ggX5_carryOut_X5_begins : GoodIn wsX5_carryOut wsX5_begins := goodIn_r _ [43, 44, 45, 94, 95, 96, 97, 98, 99, 100, 101, 102, 103, 104] (by decide +kernel) (by decide +kernel)
set_option maxRecDepth 20000 in
theorem gX5_carryOut_X5_begins : GoodIn wsX5_carryOut (wsV RX5 56 RX5 yX5_begins wsX5_begins) := goodIn_app (goodIn_of _ (by decide +kernel)) ggX5_carryOut_X5_begins
set_option maxRecDepth 20000 in
theorem ggX5_carryOut_X5_reads : GoodIn wsX5_carryOut wsX5_reads := goodIn_r _ [11, 12, 13, 14, 15, 16, 17, 6, 18, 1, 19, 20, 21, 22, 2, 23, 24, 25, 26, 27, 28, 29, 30, 31, 32, 33, 34, 94, 95, 96, 97, 98, 99, 100, 101, 102, 103, 104] (by decide +kernel) (by decide +kernel)
set_option maxRecDepth 20000 in
theorem gX5_carryOut_X5_reads : GoodIn wsX5_carryOut (wsV RX5 157 RX5 yX5_reads wsX5_reads) := goodIn_app (goodIn_of _ (by decide +kernel)) ggX5_carryOut_X5_reads
set_option maxRecDepth 20000 in
theorem ggX5_carryOut_X5_does : GoodIn wsX5_carryOut wsX5_does := goodIn_r _ [49, 14, 12, 13, 50, 51, 52, 6, 53, 45, 54, 55, 56, 57, 24, 25, 26, 58, 59, 60, 61, 62, 63, 64, 65, 66, 67, 68, 69, 70, 71, 72, 73, 74, 75, 76, 77, 78, 79, 80, 81, 82, 83, 84, 85, 86, 87, 94, 95, 96, 97, 98, 99, 100, 101, 102, 103, 104] (by decide +kernel) (by decide +kernel)
set_option maxRecDepth 20000 in
theorem gX5_carryOut_X5_does : GoodIn wsX5_carryOut (wsV RX5 164 RX5 yX5_does wsX5_does) := goodIn_app (goodIn_of _ (by decide +kernel)) ggX5_carryOut_X5_does
set_option maxRecDepth 20000 in
theorem ggX5_carryOut_X5_saved : GoodIn wsX5_carryOut wsX5_saved := goodIn_r _ [91, 92, 93, 44, 35, 36, 37, 6, 38, 39, 94, 95, 96, 97, 98, 99, 100, 101, 102, 103, 104] (by decide +kernel) (by decide +kernel)
set_option maxRecDepth 20000 in
theorem gX5_carryOut_X5_saved : GoodIn wsX5_carryOut (wsV RX5 59 RX5 yX5_saved wsX5_saved) := goodIn_app (goodIn_of _ (by decide +kernel)) ggX5_carryOut_X5_saved
theorem dX5_carryOut_0 : decode cX5_carryOut 0 = .ok (.aload_n 0, 1) := by decide +kernel
theorem dX5_carryOut_1 : decode cX5_carryOut 1 = .ok (.invokevirtual 161, 3) := by decide +kernel
theorem dX5_carryOut_4 : decode cX5_carryOut 4 = .ok (.istore_n 1, 1) := by decide +kernel
theorem dX5_carryOut_5 : decode cX5_carryOut 5 = .ok (.iload_n 1, 1) := by decide +kernel
theorem dX5_carryOut_6 : decode cX5_carryOut 6 = .ok (.ifCond .lt 12, 3) := by decide +kernel
theorem dX5_carryOut_9 : decode cX5_carryOut 9 = .ok (.aload_n 0, 1) := by decide +kernel
theorem dX5_carryOut_10 : decode cX5_carryOut 10 = .ok (.bipush (-10), 2) := by decide +kernel
theorem dX5_carryOut_12 : decode cX5_carryOut 12 = .ok (.iload_n 1, 1) := by decide +kernel
theorem dX5_carryOut_13 : decode cX5_carryOut 13 = .ok (.isub, 1) := by decide +kernel
theorem dX5_carryOut_14 : decode cX5_carryOut 14 = .ok (.invokevirtual 34, 3) := by decide +kernel
theorem dX5_carryOut_17 : decode cX5_carryOut 17 = .ok (.ireturn, 1) := by decide +kernel
theorem dX5_carryOut_18 : decode cX5_carryOut 18 = .ok (.aload_n 0, 1) := by decide +kernel
theorem dX5_carryOut_19 : decode cX5_carryOut 19 = .ok (.invokevirtual 56, 3) := by decide +kernel
theorem dX5_carryOut_22 : decode cX5_carryOut 22 = .ok (.aload_n 0, 1) := by decide +kernel
theorem dX5_carryOut_23 : decode cX5_carryOut 23 = .ok (.iconst 0, 1) := by decide +kernel
theorem dX5_carryOut_24 : decode cX5_carryOut 24 = .ok (.putfield 133, 3) := by decide +kernel
theorem dX5_carryOut_27 : decode cX5_carryOut 27 = .ok (.iconst 0, 1) := by decide +kernel
theorem dX5_carryOut_28 : decode cX5_carryOut 28 = .ok (.istore_n 2, 1) := by decide +kernel
theorem dX5_carryOut_29 : decode cX5_carryOut 29 = .ok (.iconst 1, 1) := by decide +kernel
theorem dX5_carryOut_30 : decode cX5_carryOut 30 = .ok (.istore_n 3, 1) := by decide +kernel
theorem dX5_carryOut_31 : decode cX5_carryOut 31 = .ok (.aload_n 0, 1) := by decide +kernel
theorem dX5_carryOut_32 : decode cX5_carryOut 32 = .ok (.getfield 133, 3) := by decide +kernel
theorem dX5_carryOut_35 : decode cX5_carryOut 35 = .ok (.aload_n 0, 1) := by decide +kernel
theorem dX5_carryOut_36 : decode cX5_carryOut 36 = .ok (.getfield 130, 3) := by decide +kernel
theorem dX5_carryOut_39 : decode cX5_carryOut 39 = .ok (.if_icmp .ge 32, 3) := by decide +kernel
theorem dX5_carryOut_42 : decode cX5_carryOut 42 = .ok (.iload_n 3, 1) := by decide +kernel
theorem dX5_carryOut_43 : decode cX5_carryOut 43 = .ok (.ifCond .eq 28, 3) := by decide +kernel
theorem dX5_carryOut_46 : decode cX5_carryOut 46 = .ok (.aload_n 0, 1) := by decide +kernel
theorem dX5_carryOut_47 : decode cX5_carryOut 47 = .ok (.invokevirtual 157, 3) := by decide +kernel
theorem dX5_carryOut_50 : decode cX5_carryOut 50 = .ok (.pop, 1) := by decide +kernel
theorem dX5_carryOut_51 : decode cX5_carryOut 51 = .ok (.aload_n 0, 1) := by decide +kernel
theorem dX5_carryOut_52 : decode cX5_carryOut 52 = .ok (.invokevirtual 164, 3) := by decide +kernel
theorem dX5_carryOut_55 : decode cX5_carryOut 55 = .ok (.istore_n 3, 1) := by decide +kernel
theorem dX5_carryOut_56 : decode cX5_carryOut 56 = .ok (.iload_n 2, 1) := by decide +kernel
theorem dX5_carryOut_57 : decode cX5_carryOut 57 = .ok (.iload_n 3, 1) := by decide +kernel
theorem dX5_carryOut_58 : decode cX5_carryOut 58 = .ok (.ifCond .eq 7, 3) := by decide +kernel
theorem dX5_carryOut_61 : decode cX5_carryOut 61 = .ok (.iconst 1, 1) := by decide +kernel
theorem dX5_carryOut_62 : decode cX5_carryOut 62 = .ok (.goto 4, 3) := by decide +kernel
theorem dX5_carryOut_65 : decode cX5_carryOut 65 = .ok (.iconst 0, 1) := by decide +kernel
theorem dX5_carryOut_66 : decode cX5_carryOut 66 = .ok (.iadd, 1) := by decide +kernel
theorem dX5_carryOut_67 : decode cX5_carryOut 67 = .ok (.istore_n 2, 1) := by decide +kernel
theorem dX5_carryOut_68 : decode cX5_carryOut 68 = .ok (.goto (-37), 3) := by decide +kernel
theorem dX5_carryOut_71 : decode cX5_carryOut 71 = .ok (.aload_n 0, 1) := by decide +kernel
theorem dX5_carryOut_72 : decode cX5_carryOut 72 = .ok (.iload_n 2, 1) := by decide +kernel
theorem dX5_carryOut_73 : decode cX5_carryOut 73 = .ok (.invokevirtual 59, 3) := by decide +kernel
theorem dX5_carryOut_76 : decode cX5_carryOut 76 = .ok (.ireturn, 1) := by decide +kernel
set_option maxRecDepth 20000 in
theorem ggX5_undo_X5_fails : GoodIn wsX5_undo wsX5_fails := goodIn_r _ [8, 9, 14, 15, 16, 17, 18, 19, 20, 21, 22, 23, 24] (by decide +kernel) (by decide +kernel)
set_option maxRecDepth 20000 in
theorem gX5_undo_X5_fails : GoodIn wsX5_undo (wsV RX5 53 RX5 yX5_fails wsX5_fails) := goodIn_app (goodIn_of _ (by decide +kernel)) ggX5_undo_X5_fails
set_option maxRecDepth 20000 in
theorem ggX5_undo_X5_tells : GoodIn wsX5_undo wsX5_tells := goodIn_r _ [13, 9, 14, 15, 16, 17, 18, 19, 20, 21, 22, 23, 24] (by decide +kernel) (by decide +kernel)
set_option maxRecDepth 20000 in
theorem gX5_undo_X5_tells : GoodIn wsX5_undo (wsV RX5 34 RX5 yX5_tells wsX5_tells) := goodIn_app (goodIn_of _ (by decide +kernel)) ggX5_undo_X5_tells
theorem dX5_undo_0 : decode cX5_undo 0 = .ok (.aload_n 0, 1) := by decide +kernel
theorem dX5_undo_1 : decode cX5_undo 1 = .ok (.getfield 31, 3) := by decide +kernel
theorem dX5_undo_4 : decode cX5_undo 4 = .ok (.ifCond .ne 9, 3) := by decide +kernel
theorem dX5_undo_7 : decode cX5_undo 7 = .ok (.aload_n 0, 1) := by decide +kernel
theorem dX5_undo_8 : decode cX5_undo 8 = .ok (.iconst 1, 1) := by decide +kernel
theorem dX5_undo_9 : decode cX5_undo 9 = .ok (.invokevirtual 53, 3) := by decide +kernel
theorem dX5_undo_12 : decode cX5_undo 12 = .ok (.ireturn, 1) := by decide +kernel
theorem dX5_undo_13 : decode cX5_undo 13 = .ok (.aload_n 0, 1) := by decide +kernel
theorem dX5_undo_14 : decode cX5_undo 14 = .ok (.dup, 1) := by decide +kernel
theorem dX5_undo_15 : decode cX5_undo 15 = .ok (.getfield 31, 3) := by decide +kernel
theorem dX5_undo_18 : decode cX5_undo 18 = .ok (.iconst 1, 1) := by decide +kernel
theorem dX5_undo_19 : decode cX5_undo 19 = .ok (.isub, 1) := by decide +kernel
theorem dX5_undo_20 : decode cX5_undo 20 = .ok (.putfield 31, 3) := by decide +kernel
theorem dX5_undo_23 : decode cX5_undo 23 = .ok (.iconst 0, 1) := by decide +kernel
theorem dX5_undo_24 : decode cX5_undo 24 = .ok (.istore_n 1, 1) := by decide +kernel
theorem dX5_undo_25 : decode cX5_undo 25 = .ok (.iload_n 1, 1) := by decide +kernel
theorem dX5_undo_26 : decode cX5_undo 26 = .ok (.sipush 176, 3) := by decide +kernel
theorem dX5_undo_29 : decode cX5_undo 29 = .ok (.if_icmp .ge 30, 3) := by decide +kernel
theorem dX5_undo_32 : decode cX5_undo 32 = .ok (.aload_n 0, 1) := by decide +kernel
theorem dX5_undo_33 : decode cX5_undo 33 = .ok (.getfield 7, 3) := by decide +kernel
theorem dX5_undo_36 : decode cX5_undo 36 = .ok (.iload_n 1, 1) := by decide +kernel
theorem dX5_undo_37 : decode cX5_undo 37 = .ok (.aload_n 0, 1) := by decide +kernel
theorem dX5_undo_38 : decode cX5_undo 38 = .ok (.getfield 13, 3) := by decide +kernel
theorem dX5_undo_41 : decode cX5_undo 41 = .ok (.sipush 176, 3) := by decide +kernel
theorem dX5_undo_44 : decode cX5_undo 44 = .ok (.aload_n 0, 1) := by decide +kernel
theorem dX5_undo_45 : decode cX5_undo 45 = .ok (.getfield 31, 3) := by decide +kernel
theorem dX5_undo_48 : decode cX5_undo 48 = .ok (.imul, 1) := by decide +kernel
theorem dX5_undo_49 : decode cX5_undo 49 = .ok (.iload_n 1, 1) := by decide +kernel
theorem dX5_undo_50 : decode cX5_undo 50 = .ok (.iadd, 1) := by decide +kernel
theorem dX5_undo_51 : decode cX5_undo 51 = .ok (.iaload, 1) := by decide +kernel
theorem dX5_undo_52 : decode cX5_undo 52 = .ok (.iastore, 1) := by decide +kernel
theorem dX5_undo_53 : decode cX5_undo 53 = .ok (.iinc 1 1, 3) := by decide +kernel
theorem dX5_undo_56 : decode cX5_undo 56 = .ok (.goto (-31), 3) := by decide +kernel
theorem dX5_undo_59 : decode cX5_undo 59 = .ok (.aload_n 0, 1) := by decide +kernel
theorem dX5_undo_60 : decode cX5_undo 60 = .ok (.aload_n 0, 1) := by decide +kernel
theorem dX5_undo_61 : decode cX5_undo 61 = .ok (.getfield 31, 3) := by decide +kernel
theorem dX5_undo_64 : decode cX5_undo 64 = .ok (.invokevirtual 34, 3) := by decide +kernel
theorem dX5_undo_67 : decode cX5_undo 67 = .ok (.ireturn, 1) := by decide +kernel
set_option maxRecDepth 20000 in
theorem ggX5_digest_X5_number : GoodIn wsX5_digest wsX5_number := goodIn_r _ [11, 5, 12, 13, 14, 10, 15, 16, 17, 18, 19, 20, 21, 22, 23, 24, 25, 26, 27, 56, 57, 58, 59, 60, 61, 62, 63, 64, 65, 66] (by decide +kernel) (by decide +kernel)
set_option maxRecDepth 20000 in
theorem gX5_digest_X5_number : GoodIn wsX5_digest (wsV RX5 100 RX5 yX5_number wsX5_number) := goodIn_app (goodIn_of _ (by decide +kernel)) ggX5_digest_X5_number
set_option maxRecDepth 20000 in
theorem ggX5_digest_X5_cases : GoodIn wsX5_digest wsX5_cases := goodIn_r _ [19, 5, 56, 57, 58, 59, 60, 61, 62, 63, 64, 65, 66] (by decide +kernel) (by decide +kernel)
set_option maxRecDepth 20000 in
theorem gX5_digest_X5_cases : GoodIn wsX5_digest (wsV RX5 38 RX5 yX5_cases wsX5_cases) := goodIn_app (goodIn_of _ (by decide +kernel)) ggX5_digest_X5_cases
set_option maxRecDepth 20000 in
theorem ggX5_digest_X5_nearest : GoodIn wsX5_digest wsX5_nearest := goodIn_r _ [31, 16, 17, 18, 10, 19, 5, 32, 33, 34, 35, 36, 37, 38, 56, 57, 58, 59, 60, 61, 62, 63, 64, 65, 66] (by decide +kernel) (by decide +kernel)
set_option maxRecDepth 20000 in
theorem gX5_digest_X5_nearest : GoodIn wsX5_digest (wsV RX5 124 RX5 yX5_nearest wsX5_nearest) := goodIn_app (goodIn_of _ (by decide +kernel)) ggX5_digest_X5_nearest
set_option maxRecDepth 20000 in
theorem ggX5_digest_X5_least : GoodIn wsX5_digest wsX5_least := goodIn_r _ [42, 43, 44, 45, 46, 10, 47, 5, 16, 17, 18, 19, 36, 37, 38, 48, 49, 50, 51, 56, 57, 58, 59, 60, 61, 62, 63, 64, 65, 66] (by decide +kernel) (by decide +kernel)
set_option maxRecDepth 20000 in
theorem gX5_digest_X5_least : GoodIn wsX5_digest (wsV RX5 115 RX5 yX5_least wsX5_least) := goodIn_app (goodIn_of _ (by decide +kernel)) ggX5_digest_X5_least
set_option maxRecDepth 20000 in
theorem ggX5_digest_X5_weighs : GoodIn wsX5_digest wsX5_weighs := goodIn_r _ [47, 5, 16, 17, 18, 10, 19, 36, 37, 38, 48, 49, 50, 51, 56, 57, 58, 59, 60, 61, 62, 63, 64, 65, 66] (by decide +kernel) (by decide +kernel)
set_option maxRecDepth 20000 in
theorem gX5_digest_X5_weighs : GoodIn wsX5_digest (wsV RX5 109 RX5 yX5_weighs wsX5_weighs) := goodIn_app (goodIn_of _ (by decide +kernel)) ggX5_digest_X5_weighs
set_option maxRecDepth 20000 in
theorem ggX5_digest_X5_best : GoodIn wsX5_digest wsX5_best := goodIn_r _ [55, 5, 44, 45, 46, 10, 47, 16, 17, 18, 19, 36, 37, 38, 48, 49, 50, 51, 56, 57, 58, 59, 60, 61, 62, 63, 64, 65, 66] (by decide +kernel) (by decide +kernel)
set_option maxRecDepth 20000 in
theorem gX5_digest_X5_best : GoodIn wsX5_digest (wsV RX5 118 RX5 yX5_best wsX5_best) := goodIn_app (goodIn_of _ (by decide +kernel)) ggX5_digest_X5_best
theorem dX5_digest_0 : decode cX5_digest 0 = .ok (.aload_n 0, 1) := by decide +kernel
theorem dX5_digest_1 : decode cX5_digest 1 = .ok (.iconst 0, 1) := by decide +kernel
theorem dX5_digest_2 : decode cX5_digest 2 = .ok (.putfield 27, 3) := by decide +kernel
theorem dX5_digest_5 : decode cX5_digest 5 = .ok (.ldc2_w 167, 3) := by decide +kernel
theorem dX5_digest_8 : decode cX5_digest 8 = .ok (.aload_n 0, 1) := by decide +kernel
theorem dX5_digest_9 : decode cX5_digest 9 = .ok (.getfield 130, 3) := by decide +kernel
theorem dX5_digest_12 : decode cX5_digest 12 = .ok (.i2l, 1) := by decide +kernel
theorem dX5_digest_13 : decode cX5_digest 13 = .ok (.ladd, 1) := by decide +kernel
theorem dX5_digest_14 : decode cX5_digest 14 = .ok (.lstore_n 1, 1) := by decide +kernel
theorem dX5_digest_15 : decode cX5_digest 15 = .ok (.iconst 0, 1) := by decide +kernel
theorem dX5_digest_16 : decode cX5_digest 16 = .ok (.istore_n 3, 1) := by decide +kernel
theorem dX5_digest_17 : decode cX5_digest 17 = .ok (.iload_n 3, 1) := by decide +kernel
theorem dX5_digest_18 : decode cX5_digest 18 = .ok (.bipush 9, 2) := by decide +kernel
theorem dX5_digest_20 : decode cX5_digest 20 = .ok (.if_icmp .ge 22, 3) := by decide +kernel
theorem dX5_digest_23 : decode cX5_digest 23 = .ok (.ldc2_w 169, 3) := by decide +kernel
theorem dX5_digest_26 : decode cX5_digest 26 = .ok (.lload_n 1, 1) := by decide +kernel
theorem dX5_digest_27 : decode cX5_digest 27 = .ok (.lmul, 1) := by decide +kernel
theorem dX5_digest_28 : decode cX5_digest 28 = .ok (.aload_n 0, 1) := by decide +kernel
theorem dX5_digest_29 : decode cX5_digest 29 = .ok (.iload_n 3, 1) := by decide +kernel
theorem dX5_digest_30 : decode cX5_digest 30 = .ok (.invokevirtual 100, 3) := by decide +kernel
theorem dX5_digest_33 : decode cX5_digest 33 = .ok (.i2l, 1) := by decide +kernel
theorem dX5_digest_34 : decode cX5_digest 34 = .ok (.ladd, 1) := by decide +kernel
theorem dX5_digest_35 : decode cX5_digest 35 = .ok (.lstore_n 1, 1) := by decide +kernel
theorem dX5_digest_36 : decode cX5_digest 36 = .ok (.iinc 3 1, 3) := by decide +kernel
theorem dX5_digest_39 : decode cX5_digest 39 = .ok (.goto (-22), 3) := by decide +kernel
theorem dX5_digest_42 : decode cX5_digest 42 = .ok (.iconst 0, 1) := by decide +kernel
theorem dX5_digest_43 : decode cX5_digest 43 = .ok (.istore_n 3, 1) := by decide +kernel
theorem dX5_digest_44 : decode cX5_digest 44 = .ok (.iload_n 3, 1) := by decide +kernel
theorem dX5_digest_45 : decode cX5_digest 45 = .ok (.iconst 3, 1) := by decide +kernel
theorem dX5_digest_46 : decode cX5_digest 46 = .ok (.aload_n 0, 1) := by decide +kernel
theorem dX5_digest_47 : decode cX5_digest 47 = .ok (.getfield 7, 3) := by decide +kernel
theorem dX5_digest_50 : decode cX5_digest 50 = .ok (.iconst 2, 1) := by decide +kernel
theorem dX5_digest_51 : decode cX5_digest 51 = .ok (.iaload, 1) := by decide +kernel
theorem dX5_digest_52 : decode cX5_digest 52 = .ok (.imul, 1) := by decide +kernel
theorem dX5_digest_53 : decode cX5_digest 53 = .ok (.if_icmp .ge 26, 3) := by decide +kernel
theorem dX5_digest_56 : decode cX5_digest 56 = .ok (.ldc2_w 169, 3) := by decide +kernel
theorem dX5_digest_59 : decode cX5_digest 59 = .ok (.lload_n 1, 1) := by decide +kernel
theorem dX5_digest_60 : decode cX5_digest 60 = .ok (.lmul, 1) := by decide +kernel
theorem dX5_digest_61 : decode cX5_digest 61 = .ok (.aload_n 0, 1) := by decide +kernel
theorem dX5_digest_62 : decode cX5_digest 62 = .ok (.getfield 7, 3) := by decide +kernel
theorem dX5_digest_65 : decode cX5_digest 65 = .ok (.bipush 7, 2) := by decide +kernel
theorem dX5_digest_67 : decode cX5_digest 67 = .ok (.iload_n 3, 1) := by decide +kernel
theorem dX5_digest_68 : decode cX5_digest 68 = .ok (.iadd, 1) := by decide +kernel
theorem dX5_digest_69 : decode cX5_digest 69 = .ok (.iaload, 1) := by decide +kernel
theorem dX5_digest_70 : decode cX5_digest 70 = .ok (.i2l, 1) := by decide +kernel
theorem dX5_digest_71 : decode cX5_digest 71 = .ok (.ladd, 1) := by decide +kernel
theorem dX5_digest_72 : decode cX5_digest 72 = .ok (.lstore_n 1, 1) := by decide +kernel
theorem dX5_digest_73 : decode cX5_digest 73 = .ok (.iinc 3 1, 3) := by decide +kernel
theorem dX5_digest_76 : decode cX5_digest 76 = .ok (.goto (-32), 3) := by decide +kernel
theorem dX5_digest_79 : decode cX5_digest 79 = .ok (.iconst 0, 1) := by decide +kernel
theorem dX5_digest_80 : decode cX5_digest 80 = .ok (.istore_n 3, 1) := by decide +kernel
theorem dX5_digest_81 : decode cX5_digest 81 = .ok (.iload_n 3, 1) := by decide +kernel
theorem dX5_digest_82 : decode cX5_digest 82 = .ok (.aload_n 0, 1) := by decide +kernel
theorem dX5_digest_83 : decode cX5_digest 83 = .ok (.invokevirtual 38, 3) := by decide +kernel
theorem dX5_digest_86 : decode cX5_digest 86 = .ok (.if_icmp .ge 27, 3) := by decide +kernel
theorem dX5_digest_89 : decode cX5_digest 89 = .ok (.ldc2_w 169, 3) := by decide +kernel
theorem dX5_digest_92 : decode cX5_digest 92 = .ok (.lload_n 1, 1) := by decide +kernel
theorem dX5_digest_93 : decode cX5_digest 93 = .ok (.lmul, 1) := by decide +kernel
theorem dX5_digest_94 : decode cX5_digest 94 = .ok (.aload_n 0, 1) := by decide +kernel
theorem dX5_digest_95 : decode cX5_digest 95 = .ok (.getfield 7, 3) := by decide +kernel
theorem dX5_digest_98 : decode cX5_digest 98 = .ok (.sipush 143, 3) := by decide +kernel
theorem dX5_digest_101 : decode cX5_digest 101 = .ok (.iload_n 3, 1) := by decide +kernel
theorem dX5_digest_102 : decode cX5_digest 102 = .ok (.iadd, 1) := by decide +kernel
theorem dX5_digest_103 : decode cX5_digest 103 = .ok (.iaload, 1) := by decide +kernel
theorem dX5_digest_104 : decode cX5_digest 104 = .ok (.i2l, 1) := by decide +kernel
theorem dX5_digest_105 : decode cX5_digest 105 = .ok (.ladd, 1) := by decide +kernel
theorem dX5_digest_106 : decode cX5_digest 106 = .ok (.lstore_n 1, 1) := by decide +kernel
theorem dX5_digest_107 : decode cX5_digest 107 = .ok (.iinc 3 1, 3) := by decide +kernel
theorem dX5_digest_110 : decode cX5_digest 110 = .ok (.goto (-29), 3) := by decide +kernel
theorem dX5_digest_113 : decode cX5_digest 113 = .ok (.iconst 0, 1) := by decide +kernel
theorem dX5_digest_114 : decode cX5_digest 114 = .ok (.istore_n 3, 1) := by decide +kernel
theorem dX5_digest_115 : decode cX5_digest 115 = .ok (.iload_n 3, 1) := by decide +kernel
theorem dX5_digest_116 : decode cX5_digest 116 = .ok (.iconst 2, 1) := by decide +kernel
theorem dX5_digest_117 : decode cX5_digest 117 = .ok (.aload_n 0, 1) := by decide +kernel
theorem dX5_digest_118 : decode cX5_digest 118 = .ok (.getfield 7, 3) := by decide +kernel
theorem dX5_digest_121 : decode cX5_digest 121 = .ok (.iconst 3, 1) := by decide +kernel
theorem dX5_digest_122 : decode cX5_digest 122 = .ok (.iaload, 1) := by decide +kernel
theorem dX5_digest_123 : decode cX5_digest 123 = .ok (.imul, 1) := by decide +kernel
theorem dX5_digest_124 : decode cX5_digest 124 = .ok (.if_icmp .ge 26, 3) := by decide +kernel
theorem dX5_digest_127 : decode cX5_digest 127 = .ok (.ldc2_w 169, 3) := by decide +kernel
theorem dX5_digest_130 : decode cX5_digest 130 = .ok (.lload_n 1, 1) := by decide +kernel
theorem dX5_digest_131 : decode cX5_digest 131 = .ok (.lmul, 1) := by decide +kernel
theorem dX5_digest_132 : decode cX5_digest 132 = .ok (.aload_n 0, 1) := by decide +kernel
theorem dX5_digest_133 : decode cX5_digest 133 = .ok (.getfield 7, 3) := by decide +kernel
theorem dX5_digest_136 : decode cX5_digest 136 = .ok (.bipush 127, 2) := by decide +kernel
theorem dX5_digest_138 : decode cX5_digest 138 = .ok (.iload_n 3, 1) := by decide +kernel
theorem dX5_digest_139 : decode cX5_digest 139 = .ok (.iadd, 1) := by decide +kernel
theorem dX5_digest_140 : decode cX5_digest 140 = .ok (.iaload, 1) := by decide +kernel
theorem dX5_digest_141 : decode cX5_digest 141 = .ok (.i2l, 1) := by decide +kernel
theorem dX5_digest_142 : decode cX5_digest 142 = .ok (.ladd, 1) := by decide +kernel
theorem dX5_digest_143 : decode cX5_digest 143 = .ok (.lstore_n 1, 1) := by decide +kernel
theorem dX5_digest_144 : decode cX5_digest 144 = .ok (.iinc 3 1, 3) := by decide +kernel
theorem dX5_digest_147 : decode cX5_digest 147 = .ok (.goto (-32), 3) := by decide +kernel
theorem dX5_digest_150 : decode cX5_digest 150 = .ok (.ldc2_w 169, 3) := by decide +kernel
theorem dX5_digest_153 : decode cX5_digest 153 = .ok (.lload_n 1, 1) := by decide +kernel
theorem dX5_digest_154 : decode cX5_digest 154 = .ok (.lmul, 1) := by decide +kernel
theorem dX5_digest_155 : decode cX5_digest 155 = .ok (.aload_n 0, 1) := by decide +kernel
theorem dX5_digest_156 : decode cX5_digest 156 = .ok (.invokevirtual 124, 3) := by decide +kernel
theorem dX5_digest_159 : decode cX5_digest 159 = .ok (.i2l, 1) := by decide +kernel
theorem dX5_digest_160 : decode cX5_digest 160 = .ok (.ladd, 1) := by decide +kernel
theorem dX5_digest_161 : decode cX5_digest 161 = .ok (.lstore_n 1, 1) := by decide +kernel
theorem dX5_digest_162 : decode cX5_digest 162 = .ok (.ldc2_w 169, 3) := by decide +kernel
theorem dX5_digest_165 : decode cX5_digest 165 = .ok (.lload_n 1, 1) := by decide +kernel
theorem dX5_digest_166 : decode cX5_digest 166 = .ok (.lmul, 1) := by decide +kernel
theorem dX5_digest_167 : decode cX5_digest 167 = .ok (.aload_n 0, 1) := by decide +kernel
theorem dX5_digest_168 : decode cX5_digest 168 = .ok (.invokevirtual 115, 3) := by decide +kernel
theorem dX5_digest_171 : decode cX5_digest 171 = .ok (.i2l, 1) := by decide +kernel
theorem dX5_digest_172 : decode cX5_digest 172 = .ok (.ladd, 1) := by decide +kernel
theorem dX5_digest_173 : decode cX5_digest 173 = .ok (.lstore_n 1, 1) := by decide +kernel
theorem dX5_digest_174 : decode cX5_digest 174 = .ok (.ldc2_w 169, 3) := by decide +kernel
theorem dX5_digest_177 : decode cX5_digest 177 = .ok (.lload_n 1, 1) := by decide +kernel
theorem dX5_digest_178 : decode cX5_digest 178 = .ok (.lmul, 1) := by decide +kernel
theorem dX5_digest_179 : decode cX5_digest 179 = .ok (.aload_n 0, 1) := by decide +kernel
theorem dX5_digest_180 : decode cX5_digest 180 = .ok (.iconst 0, 1) := by decide +kernel
theorem dX5_digest_181 : decode cX5_digest 181 = .ok (.iconst 0, 1) := by decide +kernel
theorem dX5_digest_182 : decode cX5_digest 182 = .ok (.iconst 0, 1) := by decide +kernel
theorem dX5_digest_183 : decode cX5_digest 183 = .ok (.iconst 5, 1) := by decide +kernel
theorem dX5_digest_184 : decode cX5_digest 184 = .ok (.invokevirtual 109, 3) := by decide +kernel
theorem dX5_digest_187 : decode cX5_digest 187 = .ok (.ladd, 1) := by decide +kernel
theorem dX5_digest_188 : decode cX5_digest 188 = .ok (.lstore_n 1, 1) := by decide +kernel
theorem dX5_digest_189 : decode cX5_digest 189 = .ok (.ldc2_w 169, 3) := by decide +kernel
theorem dX5_digest_192 : decode cX5_digest 192 = .ok (.lload_n 1, 1) := by decide +kernel
theorem dX5_digest_193 : decode cX5_digest 193 = .ok (.lmul, 1) := by decide +kernel
theorem dX5_digest_194 : decode cX5_digest 194 = .ok (.aload_n 0, 1) := by decide +kernel
theorem dX5_digest_195 : decode cX5_digest 195 = .ok (.iconst 3, 1) := by decide +kernel
theorem dX5_digest_196 : decode cX5_digest 196 = .ok (.invokevirtual 118, 3) := by decide +kernel
theorem dX5_digest_199 : decode cX5_digest 199 = .ok (.i2l, 1) := by decide +kernel
theorem dX5_digest_200 : decode cX5_digest 200 = .ok (.ladd, 1) := by decide +kernel
theorem dX5_digest_201 : decode cX5_digest 201 = .ok (.lstore_n 1, 1) := by decide +kernel
theorem dX5_digest_202 : decode cX5_digest 202 = .ok (.ldc2_w 169, 3) := by decide +kernel
theorem dX5_digest_205 : decode cX5_digest 205 = .ok (.lload_n 1, 1) := by decide +kernel
theorem dX5_digest_206 : decode cX5_digest 206 = .ok (.lmul, 1) := by decide +kernel
theorem dX5_digest_207 : decode cX5_digest 207 = .ok (.aload_n 0, 1) := by decide +kernel
theorem dX5_digest_208 : decode cX5_digest 208 = .ok (.getfield 31, 3) := by decide +kernel
theorem dX5_digest_211 : decode cX5_digest 211 = .ok (.i2l, 1) := by decide +kernel
theorem dX5_digest_212 : decode cX5_digest 212 = .ok (.ladd, 1) := by decide +kernel
theorem dX5_digest_213 : decode cX5_digest 213 = .ok (.lreturn, 1) := by decide +kernel
theorem dJ6_bitCount_0f7a4_0 : decode cJ6_bitCount_0f7a4 0 = .ok (.iload_n 0, 1) := by decide +kernel
theorem dJ6_bitCount_0f7a4_1 : decode cJ6_bitCount_0f7a4 1 = .ok (.iload_n 0, 1) := by decide +kernel
theorem dJ6_bitCount_0f7a4_2 : decode cJ6_bitCount_0f7a4 2 = .ok (.iconst 1, 1) := by decide +kernel
theorem dJ6_bitCount_0f7a4_3 : decode cJ6_bitCount_0f7a4 3 = .ok (.iushr, 1) := by decide +kernel
theorem dJ6_bitCount_0f7a4_4 : decode cJ6_bitCount_0f7a4 4 = .ok (.ldc_w 265, 3) := by decide +kernel
theorem dJ6_bitCount_0f7a4_7 : decode cJ6_bitCount_0f7a4 7 = .ok (.iand, 1) := by decide +kernel
theorem dJ6_bitCount_0f7a4_8 : decode cJ6_bitCount_0f7a4 8 = .ok (.isub, 1) := by decide +kernel
theorem dJ6_bitCount_0f7a4_9 : decode cJ6_bitCount_0f7a4 9 = .ok (.istore_n 0, 1) := by decide +kernel
theorem dJ6_bitCount_0f7a4_10 : decode cJ6_bitCount_0f7a4 10 = .ok (.iload_n 0, 1) := by decide +kernel
theorem dJ6_bitCount_0f7a4_11 : decode cJ6_bitCount_0f7a4 11 = .ok (.ldc_w 266, 3) := by decide +kernel
theorem dJ6_bitCount_0f7a4_14 : decode cJ6_bitCount_0f7a4 14 = .ok (.iand, 1) := by decide +kernel
theorem dJ6_bitCount_0f7a4_15 : decode cJ6_bitCount_0f7a4 15 = .ok (.iload_n 0, 1) := by decide +kernel
theorem dJ6_bitCount_0f7a4_16 : decode cJ6_bitCount_0f7a4 16 = .ok (.iconst 2, 1) := by decide +kernel
theorem dJ6_bitCount_0f7a4_17 : decode cJ6_bitCount_0f7a4 17 = .ok (.iushr, 1) := by decide +kernel
theorem dJ6_bitCount_0f7a4_18 : decode cJ6_bitCount_0f7a4 18 = .ok (.ldc_w 266, 3) := by decide +kernel
theorem dJ6_bitCount_0f7a4_21 : decode cJ6_bitCount_0f7a4 21 = .ok (.iand, 1) := by decide +kernel
theorem dJ6_bitCount_0f7a4_22 : decode cJ6_bitCount_0f7a4 22 = .ok (.iadd, 1) := by decide +kernel
theorem dJ6_bitCount_0f7a4_23 : decode cJ6_bitCount_0f7a4 23 = .ok (.istore_n 0, 1) := by decide +kernel
theorem dJ6_bitCount_0f7a4_24 : decode cJ6_bitCount_0f7a4 24 = .ok (.iload_n 0, 1) := by decide +kernel
theorem dJ6_bitCount_0f7a4_25 : decode cJ6_bitCount_0f7a4 25 = .ok (.iload_n 0, 1) := by decide +kernel
theorem dJ6_bitCount_0f7a4_26 : decode cJ6_bitCount_0f7a4 26 = .ok (.iconst 4, 1) := by decide +kernel
theorem dJ6_bitCount_0f7a4_27 : decode cJ6_bitCount_0f7a4 27 = .ok (.iushr, 1) := by decide +kernel
theorem dJ6_bitCount_0f7a4_28 : decode cJ6_bitCount_0f7a4 28 = .ok (.iadd, 1) := by decide +kernel
theorem dJ6_bitCount_0f7a4_29 : decode cJ6_bitCount_0f7a4 29 = .ok (.ldc_w 267, 3) := by decide +kernel
theorem dJ6_bitCount_0f7a4_32 : decode cJ6_bitCount_0f7a4 32 = .ok (.iand, 1) := by decide +kernel
theorem dJ6_bitCount_0f7a4_33 : decode cJ6_bitCount_0f7a4 33 = .ok (.istore_n 0, 1) := by decide +kernel
theorem dJ6_bitCount_0f7a4_34 : decode cJ6_bitCount_0f7a4 34 = .ok (.iload_n 0, 1) := by decide +kernel
theorem dJ6_bitCount_0f7a4_35 : decode cJ6_bitCount_0f7a4 35 = .ok (.iload_n 0, 1) := by decide +kernel
theorem dJ6_bitCount_0f7a4_36 : decode cJ6_bitCount_0f7a4 36 = .ok (.bipush 8, 2) := by decide +kernel
theorem dJ6_bitCount_0f7a4_38 : decode cJ6_bitCount_0f7a4 38 = .ok (.iushr, 1) := by decide +kernel
theorem dJ6_bitCount_0f7a4_39 : decode cJ6_bitCount_0f7a4 39 = .ok (.iadd, 1) := by decide +kernel
theorem dJ6_bitCount_0f7a4_40 : decode cJ6_bitCount_0f7a4 40 = .ok (.istore_n 0, 1) := by decide +kernel
theorem dJ6_bitCount_0f7a4_41 : decode cJ6_bitCount_0f7a4 41 = .ok (.iload_n 0, 1) := by decide +kernel
theorem dJ6_bitCount_0f7a4_42 : decode cJ6_bitCount_0f7a4 42 = .ok (.iload_n 0, 1) := by decide +kernel
theorem dJ6_bitCount_0f7a4_43 : decode cJ6_bitCount_0f7a4 43 = .ok (.bipush 16, 2) := by decide +kernel
theorem dJ6_bitCount_0f7a4_45 : decode cJ6_bitCount_0f7a4 45 = .ok (.iushr, 1) := by decide +kernel
theorem dJ6_bitCount_0f7a4_46 : decode cJ6_bitCount_0f7a4 46 = .ok (.iadd, 1) := by decide +kernel
theorem dJ6_bitCount_0f7a4_47 : decode cJ6_bitCount_0f7a4 47 = .ok (.istore_n 0, 1) := by decide +kernel
theorem dJ6_bitCount_0f7a4_48 : decode cJ6_bitCount_0f7a4 48 = .ok (.iload_n 0, 1) := by decide +kernel
theorem dJ6_bitCount_0f7a4_49 : decode cJ6_bitCount_0f7a4 49 = .ok (.bipush 63, 2) := by decide +kernel
theorem dJ6_bitCount_0f7a4_51 : decode cJ6_bitCount_0f7a4 51 = .ok (.iand, 1) := by decide +kernel
theorem dJ6_bitCount_0f7a4_52 : decode cJ6_bitCount_0f7a4 52 = .ok (.ireturn, 1) := by decide +kernel
theorem dJ9_max_7cf53_0 : decode cJ9_max_7cf53 0 = .ok (.iload_n 0, 1) := by decide +kernel
theorem dJ9_max_7cf53_1 : decode cJ9_max_7cf53 1 = .ok (.iload_n 1, 1) := by decide +kernel
theorem dJ9_max_7cf53_2 : decode cJ9_max_7cf53 2 = .ok (.if_icmp .lt 7, 3) := by decide +kernel
theorem dJ9_max_7cf53_5 : decode cJ9_max_7cf53 5 = .ok (.iload_n 0, 1) := by decide +kernel
theorem dJ9_max_7cf53_6 : decode cJ9_max_7cf53 6 = .ok (.goto 4, 3) := by decide +kernel
theorem dJ9_max_7cf53_9 : decode cJ9_max_7cf53 9 = .ok (.iload_n 1, 1) := by decide +kernel
theorem dJ9_max_7cf53_10 : decode cJ9_max_7cf53 10 = .ok (.ireturn, 1) := by decide +kernel
theorem dJ9_max_f86c9_0 : decode cJ9_max_f86c9 0 = .ok (.lload_n 0, 1) := by decide +kernel
theorem dJ9_max_f86c9_1 : decode cJ9_max_f86c9 1 = .ok (.lload_n 2, 1) := by decide +kernel
theorem dJ9_max_f86c9_2 : decode cJ9_max_f86c9 2 = .ok (.lcmp, 1) := by decide +kernel
theorem dJ9_max_f86c9_3 : decode cJ9_max_f86c9 3 = .ok (.ifCond .lt 7, 3) := by decide +kernel
theorem dJ9_max_f86c9_6 : decode cJ9_max_f86c9 6 = .ok (.lload_n 0, 1) := by decide +kernel
theorem dJ9_max_f86c9_7 : decode cJ9_max_f86c9 7 = .ok (.goto 4, 3) := by decide +kernel
theorem dJ9_max_f86c9_10 : decode cJ9_max_f86c9 10 = .ok (.lload_n 2, 1) := by decide +kernel
theorem dJ9_max_f86c9_11 : decode cJ9_max_f86c9 11 = .ok (.lreturn, 1) := by decide +kernel
theorem dJ9_min_7cf53_0 : decode cJ9_min_7cf53 0 = .ok (.iload_n 0, 1) := by decide +kernel
theorem dJ9_min_7cf53_1 : decode cJ9_min_7cf53 1 = .ok (.iload_n 1, 1) := by decide +kernel
theorem dJ9_min_7cf53_2 : decode cJ9_min_7cf53 2 = .ok (.if_icmp .gt 7, 3) := by decide +kernel
theorem dJ9_min_7cf53_5 : decode cJ9_min_7cf53 5 = .ok (.iload_n 0, 1) := by decide +kernel
theorem dJ9_min_7cf53_6 : decode cJ9_min_7cf53 6 = .ok (.goto 4, 3) := by decide +kernel
theorem dJ9_min_7cf53_9 : decode cJ9_min_7cf53 9 = .ok (.iload_n 1, 1) := by decide +kernel
theorem dJ9_min_7cf53_10 : decode cJ9_min_7cf53 10 = .ok (.ireturn, 1) := by decide +kernel
