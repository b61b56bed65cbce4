set_option maxRecDepth 20000 in
theorem ggX0_init_X2_init : GoodIn wsX0_init wsX2_init := goodIn_r _ [10, 11, 2, 3, 12, 13, 14, 15, 16, 17, 18, 19, 20, 21, 22, 23, 24, 25, 26, 27, 28, 29, 30, 31, 32, 33, 7, 34, 35, 36, 37, 38, 39, 40, 41, 42, 43, 44, 45, 46, 47, 48, 49, 50, 62, 63, 64, 65, 53, 54, 55, 56, 57, 58, 59, 60, 61] (by decide +kernel) (by decide +kernel)
set_option maxRecDepth 20000 in
theorem gX0_init_X2_init : GoodIn wsX0_init (wsX2_init) := ggX0_init_X2_init
theorem dX0_init_0 : decode cX0_init 0 = .ok (.aload_n 0, 1) := by decide +kernel
theorem dX0_init_1 : decode cX0_init 1 = .ok (.invokespecial 3, 3) := by decide +kernel
theorem dX0_init_4 : decode cX0_init 4 = .ok (.aload_n 0, 1) := by decide +kernel
theorem dX0_init_5 : decode cX0_init 5 = .ok (.iconst 4, 1) := by decide +kernel
theorem dX0_init_6 : decode cX0_init 6 = .ok (.anewarray 9, 3) := by decide +kernel
theorem dX0_init_9 : decode cX0_init 9 = .ok (.putfield 11, 3) := by decide +kernel
theorem dX0_init_12 : decode cX0_init 12 = .ok (.iconst 0, 1) := by decide +kernel
theorem dX0_init_13 : decode cX0_init 13 = .ok (.istore_n 1, 1) := by decide +kernel
theorem dX0_init_14 : decode cX0_init 14 = .ok (.iload_n 1, 1) := by decide +kernel
theorem dX0_init_15 : decode cX0_init 15 = .ok (.aload_n 0, 1) := by decide +kernel
theorem dX0_init_16 : decode cX0_init 16 = .ok (.getfield 11, 3) := by decide +kernel
theorem dX0_init_19 : decode cX0_init 19 = .ok (.arraylength, 1) := by decide +kernel
theorem dX0_init_20 : decode cX0_init 20 = .ok (.if_icmp .ge 22, 3) := by decide +kernel
theorem dX0_init_23 : decode cX0_init 23 = .ok (.aload_n 0, 1) := by decide +kernel
theorem dX0_init_24 : decode cX0_init 24 = .ok (.getfield 11, 3) := by decide +kernel
theorem dX0_init_27 : decode cX0_init 27 = .ok (.iload_n 1, 1) := by decide +kernel
theorem dX0_init_28 : decode cX0_init 28 = .ok (.new 9, 3) := by decide +kernel
theorem dX0_init_31 : decode cX0_init 31 = .ok (.dup, 1) := by decide +kernel
theorem dX0_init_32 : decode cX0_init 32 = .ok (.invokespecial 17, 3) := by decide +kernel
theorem dX0_init_35 : decode cX0_init 35 = .ok (.aastore, 1) := by decide +kernel
theorem dX0_init_36 : decode cX0_init 36 = .ok (.iinc 1 1, 3) := by decide +kernel
theorem dX0_init_39 : decode cX0_init 39 = .ok (.goto (-25), 3) := by decide +kernel
theorem dX0_init_42 : decode cX0_init 42 = .ok (.return_, 1) := by decide +kernel
set_option maxRecDepth 20000 in
theorem ggX0_save_X0_dropOldest : GoodIn wsX0_save wsX0_dropOldest := goodIn_r _ [7, 2, 1, 8, 9, 10, 6, 11, 45, 46] (by decide +kernel) (by decide +kernel)
set_option maxRecDepth 20000 in
theorem gX0_save_X0_dropOldest : GoodIn wsX0_save (wsV RX0 22 RX0 yX0_dropOldest wsX0_dropOldest) := goodIn_app (goodIn_of _ (by decide +kernel)) ggX0_save_X0_dropOldest
set_option maxRecDepth 20000 in
theorem ggX0_save_X0_stateAt : GoodIn wsX0_save wsX0_stateAt := goodIn_r _ [11, 2, 45, 46] (by decide +kernel) (by decide +kernel)
set_option maxRecDepth 20000 in
theorem gX0_save_X0_stateAt : GoodIn wsX0_save (wsV RX0 25 RX0 yX0_stateAt wsX0_stateAt) := goodIn_app (goodIn_of _ (by decide +kernel)) ggX0_save_X0_stateAt
set_option maxRecDepth 20000 in
theorem ggX0_save_X2_copyFrom : GoodIn wsX0_save wsX2_copyFrom := goodIn_r _ [16, 17, 18, 19, 20, 21, 22, 23, 24, 25, 26, 27, 28, 29, 30, 31, 32, 33, 34, 35, 36, 37, 38, 39, 40, 41, 42, 43, 44, 47, 48, 49, 50, 51, 52, 53, 54, 55, 56, 57, 58, 59] (by decide +kernel) (by decide +kernel)
set_option maxRecDepth 20000 in
theorem gX0_save_X2_copyFrom : GoodIn wsX0_save (wsV RX0 29 RX2 yX2_copyFrom wsX2_copyFrom) := goodIn_app (goodIn_of _ (by decide +kernel)) ggX0_save_X2_copyFrom
theorem dX0_save_0 : decode cX0_save 0 = .ok (.aload_n 0, 1) := by decide +kernel
theorem dX0_save_1 : decode cX0_save 1 = .ok (.getfield 18, 3) := by decide +kernel
theorem dX0_save_4 : decode cX0_save 4 = .ok (.aload_n 0, 1) := by decide +kernel
theorem dX0_save_5 : decode cX0_save 5 = .ok (.getfield 11, 3) := by decide +kernel
theorem dX0_save_8 : decode cX0_save 8 = .ok (.arraylength, 1) := by decide +kernel
theorem dX0_save_9 : decode cX0_save 9 = .ok (.if_icmp .lt 7, 3) := by decide +kernel
theorem dX0_save_12 : decode cX0_save 12 = .ok (.aload_n 0, 1) := by decide +kernel
theorem dX0_save_13 : decode cX0_save 13 = .ok (.invokevirtual 22, 3) := by decide +kernel
theorem dX0_save_16 : decode cX0_save 16 = .ok (.aload_n 0, 1) := by decide +kernel
theorem dX0_save_17 : decode cX0_save 17 = .ok (.aload_n 0, 1) := by decide +kernel
theorem dX0_save_18 : decode cX0_save 18 = .ok (.getfield 18, 3) := by decide +kernel
theorem dX0_save_21 : decode cX0_save 21 = .ok (.invokevirtual 25, 3) := by decide +kernel
theorem dX0_save_24 : decode cX0_save 24 = .ok (.astore_n 2, 1) := by decide +kernel
theorem dX0_save_25 : decode cX0_save 25 = .ok (.aload_n 2, 1) := by decide +kernel
theorem dX0_save_26 : decode cX0_save 26 = .ok (.ifnull 18, 3) := by decide +kernel
theorem dX0_save_29 : decode cX0_save 29 = .ok (.aload_n 2, 1) := by decide +kernel
theorem dX0_save_30 : decode cX0_save 30 = .ok (.aload_n 1, 1) := by decide +kernel
theorem dX0_save_31 : decode cX0_save 31 = .ok (.invokevirtual 29, 3) := by decide +kernel
theorem dX0_save_34 : decode cX0_save 34 = .ok (.aload_n 0, 1) := by decide +kernel
theorem dX0_save_35 : decode cX0_save 35 = .ok (.dup, 1) := by decide +kernel
theorem dX0_save_36 : decode cX0_save 36 = .ok (.getfield 18, 3) := by decide +kernel
theorem dX0_save_39 : decode cX0_save 39 = .ok (.iconst 1, 1) := by decide +kernel
theorem dX0_save_40 : decode cX0_save 40 = .ok (.iadd, 1) := by decide +kernel
theorem dX0_save_41 : decode cX0_save 41 = .ok (.putfield 18, 3) := by decide +kernel
theorem dX0_save_44 : decode cX0_save 44 = .ok (.return_, 1) := by decide +kernel
set_option maxRecDepth 20000 in
theorem ggX0_restore_X0_stateAt : GoodIn wsX0_restore wsX0_stateAt := goodIn_r _ [6, 7, 41, 42] (by decide +kernel) (by decide +kernel)
set_option maxRecDepth 20000 in
theorem gX0_restore_X0_stateAt : GoodIn wsX0_restore (wsV RX0 25 RX0 yX0_stateAt wsX0_stateAt) := goodIn_app (goodIn_of _ (by decide +kernel)) ggX0_restore_X0_stateAt
set_option maxRecDepth 20000 in
theorem ggX0_restore_X2_copyFrom : GoodIn wsX0_restore wsX2_copyFrom := goodIn_r _ [12, 13, 14, 15, 16, 17, 18, 19, 20, 21, 22, 23, 24, 25, 26, 27, 28, 29, 30, 31, 32, 33, 34, 35, 36, 37, 38, 39, 40, 43, 44, 45, 46, 47, 48, 49, 50, 51, 52, 53, 54, 55] (by decide +kernel) (by decide +kernel)
set_option maxRecDepth 20000 in
theorem gX0_restore_X2_copyFrom : GoodIn wsX0_restore (wsV RX0 29 RX2 yX2_copyFrom wsX2_copyFrom) := goodIn_app (goodIn_of _ (by decide +kernel)) ggX0_restore_X2_copyFrom
theorem dX0_restore_0 : decode cX0_restore 0 = .ok (.aload_n 0, 1) := by decide +kernel
theorem dX0_restore_1 : decode cX0_restore 1 = .ok (.aload_n 0, 1) := by decide +kernel
theorem dX0_restore_2 : decode cX0_restore 2 = .ok (.getfield 18, 3) := by decide +kernel
theorem dX0_restore_5 : decode cX0_restore 5 = .ok (.iconst 1, 1) := by decide +kernel
theorem dX0_restore_6 : decode cX0_restore 6 = .ok (.isub, 1) := by decide +kernel
theorem dX0_restore_7 : decode cX0_restore 7 = .ok (.invokevirtual 25, 3) := by decide +kernel
theorem dX0_restore_10 : decode cX0_restore 10 = .ok (.astore_n 2, 1) := by decide +kernel
theorem dX0_restore_11 : decode cX0_restore 11 = .ok (.aload_n 2, 1) := by decide +kernel
theorem dX0_restore_12 : decode cX0_restore 12 = .ok (.ifnull 18, 3) := by decide +kernel
theorem dX0_restore_15 : decode cX0_restore 15 = .ok (.aload_n 1, 1) := by decide +kernel
theorem dX0_restore_16 : decode cX0_restore 16 = .ok (.aload_n 2, 1) := by decide +kernel
theorem dX0_restore_17 : decode cX0_restore 17 = .ok (.invokevirtual 29, 3) := by decide +kernel
theorem dX0_restore_20 : decode cX0_restore 20 = .ok (.aload_n 0, 1) := by decide +kernel
theorem dX0_restore_21 : decode cX0_restore 21 = .ok (.dup, 1) := by decide +kernel
theorem dX0_restore_22 : decode cX0_restore 22 = .ok (.getfield 18, 3) := by decide +kernel
theorem dX0_restore_25 : decode cX0_restore 25 = .ok (.iconst 1, 1) := by decide +kernel
theorem dX0_restore_26 : decode cX0_restore 26 = .ok (.isub, 1) := by decide +kernel
theorem dX0_restore_27 : decode cX0_restore 27 = .ok (.putfield 18, 3) := by decide +kernel
theorem dX0_restore_30 : decode cX0_restore 30 = .ok (.return_, 1) := by decide +kernel
theorem dX0_stateAt_0 : decode cX0_stateAt 0 = .ok (.iload_n 1, 1) := by decide +kernel
theorem dX0_stateAt_1 : decode cX0_stateAt 1 = .ok (.ifCond .lt 21, 3) := by decide +kernel
theorem dX0_stateAt_4 : decode cX0_stateAt 4 = .ok (.iload_n 1, 1) := by decide +kernel
theorem dX0_stateAt_5 : decode cX0_stateAt 5 = .ok (.aload_n 0, 1) := by decide +kernel
theorem dX0_stateAt_6 : decode cX0_stateAt 6 = .ok (.getfield 11, 3) := by decide +kernel
theorem dX0_stateAt_9 : decode cX0_stateAt 9 = .ok (.arraylength, 1) := by decide +kernel
theorem dX0_stateAt_10 : decode cX0_stateAt 10 = .ok (.if_icmp .ge 12, 3) := by decide +kernel
theorem dX0_stateAt_13 : decode cX0_stateAt 13 = .ok (.aload_n 0, 1) := by decide +kernel
theorem dX0_stateAt_14 : decode cX0_stateAt 14 = .ok (.getfield 11, 3) := by decide +kernel
theorem dX0_stateAt_17 : decode cX0_stateAt 17 = .ok (.iload_n 1, 1) := by decide +kernel
theorem dX0_stateAt_18 : decode cX0_stateAt 18 = .ok (.aaload, 1) := by decide +kernel
theorem dX0_stateAt_19 : decode cX0_stateAt 19 = .ok (.goto 4, 3) := by decide +kernel
theorem dX0_stateAt_22 : decode cX0_stateAt 22 = .ok (.aconst_null, 1) := by decide +kernel
theorem dX0_stateAt_23 : decode cX0_stateAt 23 = .ok (.areturn, 1) := by decide +kernel
set_option maxRecDepth 20000 in
theorem ggX0_dropOldest_X0_stateAt : GoodIn wsX0_dropOldest wsX0_stateAt := goodIn_r _ [7, 1, 8, 9] (by decide +kernel) (by decide +kernel)
set_option maxRecDepth 20000 in
theorem gX0_dropOldest_X0_stateAt : GoodIn wsX0_dropOldest (wsV RX0 25 RX0 yX0_stateAt wsX0_stateAt) := goodIn_app (goodIn_of _ (by decide +kernel)) ggX0_dropOldest_X0_stateAt
theorem dX0_dropOldest_0 : decode cX0_dropOldest 0 = .ok (.aload_n 0, 1) := by decide +kernel
theorem dX0_dropOldest_1 : decode cX0_dropOldest 1 = .ok (.iconst 0, 1) := by decide +kernel
theorem dX0_dropOldest_2 : decode cX0_dropOldest 2 = .ok (.invokevirtual 25, 3) := by decide +kernel
theorem dX0_dropOldest_5 : decode cX0_dropOldest 5 = .ok (.astore_n 1, 1) := by decide +kernel
theorem dX0_dropOldest_6 : decode cX0_dropOldest 6 = .ok (.aload_n 0, 1) := by decide +kernel
theorem dX0_dropOldest_7 : decode cX0_dropOldest 7 = .ok (.getfield 11, 3) := by decide +kernel
theorem dX0_dropOldest_10 : decode cX0_dropOldest 10 = .ok (.arraylength, 1) := by decide +kernel
theorem dX0_dropOldest_11 : decode cX0_dropOldest 11 = .ok (.iconst 1, 1) := by decide +kernel
theorem dX0_dropOldest_12 : decode cX0_dropOldest 12 = .ok (.isub, 1) := by decide +kernel
theorem dX0_dropOldest_13 : decode cX0_dropOldest 13 = .ok (.istore_n 2, 1) := by decide +kernel
theorem dX0_dropOldest_14 : decode cX0_dropOldest 14 = .ok (.iconst 0, 1) := by decide +kernel
theorem dX0_dropOldest_15 : decode cX0_dropOldest 15 = .ok (.istore_n 3, 1) := by decide +kernel
theorem dX0_dropOldest_16 : decode cX0_dropOldest 16 = .ok (.iload_n 3, 1) := by decide +kernel
theorem dX0_dropOldest_17 : decode cX0_dropOldest 17 = .ok (.iload_n 2, 1) := by decide +kernel
theorem dX0_dropOldest_18 : decode cX0_dropOldest 18 = .ok (.if_icmp .ge 23, 3) := by decide +kernel
theorem dX0_dropOldest_21 : decode cX0_dropOldest 21 = .ok (.aload_n 0, 1) := by decide +kernel
theorem dX0_dropOldest_22 : decode cX0_dropOldest 22 = .ok (.getfield 11, 3) := by decide +kernel
theorem dX0_dropOldest_25 : decode cX0_dropOldest 25 = .ok (.iload_n 3, 1) := by decide +kernel
theorem dX0_dropOldest_26 : decode cX0_dropOldest 26 = .ok (.aload_n 0, 1) := by decide +kernel
theorem dX0_dropOldest_27 : decode cX0_dropOldest 27 = .ok (.getfield 11, 3) := by decide +kernel
theorem dX0_dropOldest_30 : decode cX0_dropOldest 30 = .ok (.iload_n 3, 1) := by decide +kernel
theorem dX0_dropOldest_31 : decode cX0_dropOldest 31 = .ok (.iconst 1, 1) := by decide +kernel
theorem dX0_dropOldest_32 : decode cX0_dropOldest 32 = .ok (.iadd, 1) := by decide +kernel
theorem dX0_dropOldest_33 : decode cX0_dropOldest 33 = .ok (.aaload, 1) := by decide +kernel
theorem dX0_dropOldest_34 : decode cX0_dropOldest 34 = .ok (.aastore, 1) := by decide +kernel
theorem dX0_dropOldest_35 : decode cX0_dropOldest 35 = .ok (.iinc 3 1, 3) := by decide +kernel
theorem dX0_dropOldest_38 : decode cX0_dropOldest 38 = .ok (.goto (-22), 3) := by decide +kernel
theorem dX0_dropOldest_41 : decode cX0_dropOldest 41 = .ok (.iload_n 2, 1) := by decide +kernel
theorem dX0_dropOldest_42 : decode cX0_dropOldest 42 = .ok (.ifCond .lt 15, 3) := by decide +kernel
theorem dX0_dropOldest_45 : decode cX0_dropOldest 45 = .ok (.aload_n 0, 1) := by decide +kernel
theorem dX0_dropOldest_46 : decode cX0_dropOldest 46 = .ok (.getfield 11, 3) := by decide +kernel
theorem dX0_dropOldest_49 : decode cX0_dropOldest 49 = .ok (.iload_n 2, 1) := by decide +kernel
theorem dX0_dropOldest_50 : decode cX0_dropOldest 50 = .ok (.aload_n 1, 1) := by decide +kernel
theorem dX0_dropOldest_51 : decode cX0_dropOldest 51 = .ok (.aastore, 1) := by decide +kernel
theorem dX0_dropOldest_52 : decode cX0_dropOldest 52 = .ok (.aload_n 0, 1) := by decide +kernel
theorem dX0_dropOldest_53 : decode cX0_dropOldest 53 = .ok (.iload_n 2, 1) := by decide +kernel
theorem dX0_dropOldest_54 : decode cX0_dropOldest 54 = .ok (.putfield 18, 3) := by decide +kernel
theorem dX0_dropOldest_57 : decode cX0_dropOldest 57 = .ok (.return_, 1) := by decide +kernel
theorem dX1_init_0 : decode cX1_init 0 = .ok (.aload_n 0, 1) := by decide +kernel
theorem dX1_init_1 : decode cX1_init 1 = .ok (.invokespecial 3, 3) := by decide +kernel
theorem dX1_init_4 : decode cX1_init 4 = .ok (.aload_n 0, 1) := by decide +kernel
theorem dX1_init_5 : decode cX1_init 5 = .ok (.bipush 100, 2) := by decide +kernel
theorem dX1_init_7 : decode cX1_init 7 = .ok (.newarray .int, 2) := by decide +kernel
theorem dX1_init_9 : decode cX1_init 9 = .ok (.putfield 9, 3) := by decide +kernel
theorem dX1_init_12 : decode cX1_init 12 = .ok (.aload_n 0, 1) := by decide +kernel
theorem dX1_init_13 : decode cX1_init 13 = .ok (.bipush 20, 2) := by decide +kernel
theorem dX1_init_15 : decode cX1_init 15 = .ok (.newarray .int, 2) := by decide +kernel
theorem dX1_init_17 : decode cX1_init 17 = .ok (.putfield 15, 3) := by decide +kernel
theorem dX1_init_20 : decode cX1_init 20 = .ok (.aload_n 0, 1) := by decide +kernel
theorem dX1_init_21 : decode cX1_init 21 = .ok (.bipush 20, 2) := by decide +kernel
theorem dX1_init_23 : decode cX1_init 23 = .ok (.newarray .int, 2) := by decide +kernel
theorem dX1_init_25 : decode cX1_init 25 = .ok (.putfield 18, 3) := by decide +kernel
theorem dX1_init_28 : decode cX1_init 28 = .ok (.aload_n 0, 1) := by decide +kernel
theorem dX1_init_29 : decode cX1_init 29 = .ok (.bipush 20, 2) := by decide +kernel
theorem dX1_init_31 : decode cX1_init 31 = .ok (.newarray .int, 2) := by decide +kernel
theorem dX1_init_33 : decode cX1_init 33 = .ok (.putfield 21, 3) := by decide +kernel
theorem dX1_init_36 : decode cX1_init 36 = .ok (.return_, 1) := by decide +kernel
set_option maxRecDepth 20000 in
theorem ggX2_init_X3_init : GoodIn wsX2_init wsX3_init := goodIn_r _ [14, 15, 2, 3, 16, 17, 18, 19, 9, 20, 21, 22, 44, 45, 46, 47] (by decide +kernel) (by decide +kernel)
set_option maxRecDepth 20000 in
theorem gX2_init_X3_init : GoodIn wsX2_init (wsX3_init) := ggX2_init_X3_init
set_option maxRecDepth 20000 in
theorem ggX2_init_X2_start : GoodIn wsX2_init wsX2_start := goodIn_r _ [27, 28, 29, 8, 30, 31, 32, 26, 33, 34, 35, 36, 37, 38, 39, 40, 7, 10, 41, 42, 43, 48, 49, 50, 51, 52, 53, 54, 55, 56, 44, 45, 46, 47] (by decide +kernel) (by decide +kernel)
set_option maxRecDepth 20000 in
theorem gX2_init_X2_start : GoodIn wsX2_init (wsV RX2 30 RX2 yX2_start wsX2_start) := goodIn_app (goodIn_of _ (by decide +kernel)) ggX2_init_X2_start
theorem dX2_init_0 : decode cX2_init 0 = .ok (.aload_n 0, 1) := by decide +kernel
theorem dX2_init_1 : decode cX2_init 1 = .ok (.invokespecial 3, 3) := by decide +kernel
theorem dX2_init_4 : decode cX2_init 4 = .ok (.aload_n 0, 1) := by decide +kernel
theorem dX2_init_5 : decode cX2_init 5 = .ok (.new 9, 3) := by decide +kernel
theorem dX2_init_8 : decode cX2_init 8 = .ok (.dup, 1) := by decide +kernel
theorem dX2_init_9 : decode cX2_init 9 = .ok (.bipush 40, 2) := by decide +kernel
theorem dX2_init_11 : decode cX2_init 11 = .ok (.invokespecial 11, 3) := by decide +kernel
theorem dX2_init_14 : decode cX2_init 14 = .ok (.putfield 14, 3) := by decide +kernel
theorem dX2_init_17 : decode cX2_init 17 = .ok (.aload_n 0, 1) := by decide +kernel
theorem dX2_init_18 : decode cX2_init 18 = .ok (.new 9, 3) := by decide +kernel
theorem dX2_init_21 : decode cX2_init 21 = .ok (.dup, 1) := by decide +kernel
theorem dX2_init_22 : decode cX2_init 22 = .ok (.bipush 8, 2) := by decide +kernel
theorem dX2_init_24 : decode cX2_init 24 = .ok (.invokespecial 11, 3) := by decide +kernel
theorem dX2_init_27 : decode cX2_init 27 = .ok (.putfield 20, 3) := by decide +kernel
theorem dX2_init_30 : decode cX2_init 30 = .ok (.aload_n 0, 1) := by decide +kernel
theorem dX2_init_31 : decode cX2_init 31 = .ok (.bipush 33, 2) := by decide +kernel
theorem dX2_init_33 : decode cX2_init 33 = .ok (.newarray .int, 2) := by decide +kernel
theorem dX2_init_35 : decode cX2_init 35 = .ok (.putfield 23, 3) := by decide +kernel
theorem dX2_init_38 : decode cX2_init 38 = .ok (.aload_n 0, 1) := by decide +kernel
theorem dX2_init_39 : decode cX2_init 39 = .ok (.bipush 33, 2) := by decide +kernel
theorem dX2_init_41 : decode cX2_init 41 = .ok (.newarray .int, 2) := by decide +kernel
theorem dX2_init_43 : decode cX2_init 43 = .ok (.putfield 27, 3) := by decide +kernel
theorem dX2_init_46 : decode cX2_init 46 = .ok (.aload_n 0, 1) := by decide +kernel
theorem dX2_init_47 : decode cX2_init 47 = .ok (.bipush 8, 2) := by decide +kernel
theorem dX2_init_49 : decode cX2_init 49 = .ok (.invokevirtual 30, 3) := by decide +kernel
theorem dX2_init_52 : decode cX2_init 52 = .ok (.return_, 1) := by decide +kernel
set_option maxRecDepth 20000 in
theorem ggX2_start_X2_hideCase : GoodIn wsX2_start wsX2_hideCase := goodIn_r _ [8, 9, 10, 11, 21, 22, 23, 24, 25, 26, 27, 28, 29] (by decide +kernel) (by decide +kernel)
set_option maxRecDepth 20000 in
theorem gX2_start_X2_hideCase : GoodIn wsX2_start (wsV RX2 43 RX2 yX2_hideCase wsX2_hideCase) := goodIn_app (goodIn_of _ (by decide +kernel)) ggX2_start_X2_hideCase
set_option maxRecDepth 20000 in
theorem ggX2_start_X2_forgetTold : GoodIn wsX2_start wsX2_forgetTold := goodIn_r _ [15, 16, 17, 18, 19, 20, 21, 22, 23, 24, 25, 26, 27, 28, 29, 30, 31, 32, 33] (by decide +kernel) (by decide +kernel)
set_option maxRecDepth 20000 in
theorem gX2_start_X2_forgetTold : GoodIn wsX2_start (wsV RX2 47 RX2 yX2_forgetTold wsX2_forgetTold) := goodIn_app (goodIn_of _ (by decide +kernel)) ggX2_start_X2_forgetTold
theorem dX2_start_0 : decode cX2_start 0 = .ok (.aload_n 0, 1) := by decide +kernel
theorem dX2_start_1 : decode cX2_start 1 = .ok (.iload_n 1, 1) := by decide +kernel
theorem dX2_start_2 : decode cX2_start 2 = .ok (.putfield 33, 3) := by decide +kernel
theorem dX2_start_5 : decode cX2_start 5 = .ok (.aload_n 0, 1) := by decide +kernel
theorem dX2_start_6 : decode cX2_start 6 = .ok (.iconst 1, 1) := by decide +kernel
theorem dX2_start_7 : decode cX2_start 7 = .ok (.putfield 37, 3) := by decide +kernel
theorem dX2_start_10 : decode cX2_start 10 = .ok (.aload_n 0, 1) := by decide +kernel
theorem dX2_start_11 : decode cX2_start 11 = .ok (.getfield 20, 3) := by decide +kernel
theorem dX2_start_14 : decode cX2_start 14 = .ok (.iconst 0, 1) := by decide +kernel
theorem dX2_start_15 : decode cX2_start 15 = .ok (.putfield 40, 3) := by decide +kernel
theorem dX2_start_18 : decode cX2_start 18 = .ok (.aload_n 0, 1) := by decide +kernel
theorem dX2_start_19 : decode cX2_start 19 = .ok (.iconst (-1), 1) := by decide +kernel
theorem dX2_start_20 : decode cX2_start 20 = .ok (.iconst 0, 1) := by decide +kernel
theorem dX2_start_21 : decode cX2_start 21 = .ok (.invokevirtual 43, 3) := by decide +kernel
theorem dX2_start_24 : decode cX2_start 24 = .ok (.aload_n 0, 1) := by decide +kernel
theorem dX2_start_25 : decode cX2_start 25 = .ok (.invokevirtual 47, 3) := by decide +kernel
theorem dX2_start_28 : decode cX2_start 28 = .ok (.return_, 1) := by decide +kernel
set_option maxRecDepth 20000 in
theorem ggX2_copyFrom_X3_copyFrom : GoodIn wsX2_copyFrom wsX3_copyFrom := goodIn_r _ [13, 14, 15, 16, 17, 18, 19, 20, 21, 22, 23, 24, 25, 26, 27, 28, 38, 39, 40, 41] (by decide +kernel) (by decide +kernel)
set_option maxRecDepth 20000 in
theorem gX2_copyFrom_X3_copyFrom : GoodIn wsX2_copyFrom (wsV RX2 50 RX3 yX3_copyFrom wsX3_copyFrom) := goodIn_app (goodIn_of _ (by decide +kernel)) ggX2_copyFrom_X3_copyFrom
set_option maxRecDepth 20000 in
theorem ggX2_copyFrom_X4_copyRow : GoodIn wsX2_copyFrom wsX4_copyRow := goodIn_r _ [20, 21, 22, 23, 24, 25, 26, 27, 28] (by decide +kernel) (by decide +kernel)
set_option maxRecDepth 20000 in
theorem gX2_copyFrom_X4_copyRow_n54 : GoodIn wsX2_copyFrom (wsX4_copyRow) := ggX2_copyFrom_X4_copyRow
theorem dX2_copyFrom_0 : decode cX2_copyFrom 0 = .ok (.aload_n 0, 1) := by decide +kernel
theorem dX2_copyFrom_1 : decode cX2_copyFrom 1 = .ok (.getfield 14, 3) := by decide +kernel
theorem dX2_copyFrom_4 : decode cX2_copyFrom 4 = .ok (.aload_n 1, 1) := by decide +kernel
theorem dX2_copyFrom_5 : decode cX2_copyFrom 5 = .ok (.getfield 14, 3) := by decide +kernel
theorem dX2_copyFrom_8 : decode cX2_copyFrom 8 = .ok (.invokevirtual 50, 3) := by decide +kernel
theorem dX2_copyFrom_11 : decode cX2_copyFrom 11 = .ok (.aload_n 0, 1) := by decide +kernel
theorem dX2_copyFrom_12 : decode cX2_copyFrom 12 = .ok (.getfield 20, 3) := by decide +kernel
theorem dX2_copyFrom_15 : decode cX2_copyFrom 15 = .ok (.aload_n 1, 1) := by decide +kernel
theorem dX2_copyFrom_16 : decode cX2_copyFrom 16 = .ok (.getfield 20, 3) := by decide +kernel
theorem dX2_copyFrom_19 : decode cX2_copyFrom 19 = .ok (.invokevirtual 50, 3) := by decide +kernel
theorem dX2_copyFrom_22 : decode cX2_copyFrom 22 = .ok (.aload_n 1, 1) := by decide +kernel
theorem dX2_copyFrom_23 : decode cX2_copyFrom 23 = .ok (.getfield 23, 3) := by decide +kernel
theorem dX2_copyFrom_26 : decode cX2_copyFrom 26 = .ok (.aload_n 0, 1) := by decide +kernel
theorem dX2_copyFrom_27 : decode cX2_copyFrom 27 = .ok (.getfield 23, 3) := by decide +kernel
theorem dX2_copyFrom_30 : decode cX2_copyFrom 30 = .ok (.invokestatic 54, 3) := by decide +kernel
theorem dX2_copyFrom_33 : decode cX2_copyFrom 33 = .ok (.aload_n 0, 1) := by decide +kernel
theorem dX2_copyFrom_34 : decode cX2_copyFrom 34 = .ok (.aload_n 1, 1) := by decide +kernel
theorem dX2_copyFrom_35 : decode cX2_copyFrom 35 = .ok (.getfield 33, 3) := by decide +kernel
theorem dX2_copyFrom_38 : decode cX2_copyFrom 38 = .ok (.putfield 33, 3) := by decide +kernel
theorem dX2_copyFrom_41 : decode cX2_copyFrom 41 = .ok (.aload_n 0, 1) := by decide +kernel
theorem dX2_copyFrom_42 : decode cX2_copyFrom 42 = .ok (.aload_n 1, 1) := by decide +kernel
theorem dX2_copyFrom_43 : decode cX2_copyFrom 43 = .ok (.getfield 37, 3) := by decide +kernel
theorem dX2_copyFrom_46 : decode cX2_copyFrom 46 = .ok (.putfield 37, 3) := by decide +kernel
theorem dX2_copyFrom_49 : decode cX2_copyFrom 49 = .ok (.aload_n 0, 1) := by decide +kernel
theorem dX2_copyFrom_50 : decode cX2_copyFrom 50 = .ok (.aload_n 1, 1) := by decide +kernel
theorem dX2_copyFrom_51 : decode cX2_copyFrom 51 = .ok (.getfield 58, 3) := by decide +kernel
theorem dX2_copyFrom_54 : decode cX2_copyFrom 54 = .ok (.putfield 58, 3) := by decide +kernel
theorem dX2_copyFrom_57 : decode cX2_copyFrom 57 = .ok (.aload_n 0, 1) := by decide +kernel
theorem dX2_copyFrom_58 : decode cX2_copyFrom 58 = .ok (.aload_n 1, 1) := by decide +kernel
theorem dX2_copyFrom_59 : decode cX2_copyFrom 59 = .ok (.getfield 61, 3) := by decide +kernel
theorem dX2_copyFrom_62 : decode cX2_copyFrom 62 = .ok (.putfield 61, 3) := by decide +kernel
theorem dX2_copyFrom_65 : decode cX2_copyFrom 65 = .ok (.aload_n 0, 1) := by decide +kernel
theorem dX2_copyFrom_66 : decode cX2_copyFrom 66 = .ok (.aload_n 1, 1) := by decide +kernel
theorem dX2_copyFrom_67 : decode cX2_copyFrom 67 = .ok (.getfield 64, 3) := by decide +kernel
theorem dX2_copyFrom_70 : decode cX2_copyFrom 70 = .ok (.putfield 64, 3) := by decide +kernel
theorem dX2_copyFrom_73 : decode cX2_copyFrom 73 = .ok (.return_, 1) := by decide +kernel
theorem dX2_cases_0 : decode cX2_cases 0 = .ok (.iconst 2, 1) := by decide +kernel
theorem dX2_cases_1 : decode cX2_cases 1 = .ok (.aload_n 0, 1) := by decide +kernel
theorem dX2_cases_2 : decode cX2_cases 2 = .ok (.getfield 33, 3) := by decide +kernel
theorem dX2_cases_5 : decode cX2_cases 5 = .ok (.imul, 1) := by decide +kernel
theorem dX2_cases_6 : decode cX2_cases 6 = .ok (.iconst 1, 1) := by decide +kernel
theorem dX2_cases_7 : decode cX2_cases 7 = .ok (.iadd, 1) := by decide +kernel
theorem dX2_cases_8 : decode cX2_cases 8 = .ok (.ireturn, 1) := by decide +kernel
set_option maxRecDepth 20000 in
theorem ggX2_isCase_X2_cases : GoodIn wsX2_isCase wsX2_cases := goodIn_r _ [5, 6, 7, 8, 9, 10, 11, 12, 13, 14, 15] (by decide +kernel) (by decide +kernel)
set_option maxRecDepth 20000 in
theorem gX2_isCase_X2_cases : GoodIn wsX2_isCase (wsV RX2 67 RX2 yX2_cases wsX2_cases) := goodIn_app (goodIn_of _ (by decide +kernel)) ggX2_isCase_X2_cases
theorem dX2_isCase_0 : decode cX2_isCase 0 = .ok (.iload_n 1, 1) := by decide +kernel
theorem dX2_isCase_1 : decode cX2_isCase 1 = .ok (.ifCond .lt 15, 3) := by decide +kernel
theorem dX2_isCase_4 : decode cX2_isCase 4 = .ok (.iload_n 1, 1) := by decide +kernel
theorem dX2_isCase_5 : decode cX2_isCase 5 = .ok (.aload_n 0, 1) := by decide +kernel
theorem dX2_isCase_6 : decode cX2_isCase 6 = .ok (.invokevirtual 67, 3) := by decide +kernel
theorem dX2_isCase_9 : decode cX2_isCase 9 = .ok (.if_icmp .ge 7, 3) := by decide +kernel
theorem dX2_isCase_12 : decode cX2_isCase 12 = .ok (.iconst 1, 1) := by decide +kernel
theorem dX2_isCase_13 : decode cX2_isCase 13 = .ok (.goto 4, 3) := by decide +kernel
theorem dX2_isCase_16 : decode cX2_isCase 16 = .ok (.iconst 0, 1) := by decide +kernel
theorem dX2_isCase_17 : decode cX2_isCase 17 = .ok (.ireturn, 1) := by decide +kernel
set_option maxRecDepth 20000 in
theorem ggX2_isWeighing_J6_bitCount_0f7a4 : GoodIn wsX2_isWeighing wsJ6_bitCount_0f7a4 := goodIn_r _ [5, 6, 7, 8] (by decide +kernel) (by decide +kernel)
set_option maxRecDepth 20000 in
theorem gX2_isWeighing_J6_bitCount_0f7a4 : GoodIn wsX2_isWeighing (va_wsS RX2 71 yJ6_bitCount_0f7a4 wsJ6_bitCount_0f7a4) := goodIn_app (goodIn_of _ (by decide +kernel)) ggX2_isWeighing_J6_bitCount_0f7a4
theorem dX2_isWeighing_0 : decode cX2_isWeighing 0 = .ok (.iload_n 1, 1) := by decide +kernel
theorem dX2_isWeighing_1 : decode cX2_isWeighing 1 = .ok (.ifCond .eq 35, 3) := by decide +kernel
theorem dX2_isWeighing_4 : decode cX2_isWeighing 4 = .ok (.iload_n 1, 1) := by decide +kernel
theorem dX2_isWeighing_5 : decode cX2_isWeighing 5 = .ok (.iload_n 2, 1) := by decide +kernel
theorem dX2_isWeighing_6 : decode cX2_isWeighing 6 = .ok (.iand, 1) := by decide +kernel
theorem dX2_isWeighing_7 : decode cX2_isWeighing 7 = .ok (.ifCond .ne 29, 3) := by decide +kernel
theorem dX2_isWeighing_10 : decode cX2_isWeighing 10 = .ok (.iload_n 1, 1) := by decide +kernel
theorem dX2_isWeighing_11 : decode cX2_isWeighing 11 = .ok (.iload_n 2, 1) := by decide +kernel
theorem dX2_isWeighing_12 : decode cX2_isWeighing 12 = .ok (.ior, 1) := by decide +kernel
theorem dX2_isWeighing_13 : decode cX2_isWeighing 13 = .ok (.aload_n 0, 1) := by decide +kernel
theorem dX2_isWeighing_14 : decode cX2_isWeighing 14 = .ok (.getfield 33, 3) := by decide +kernel
theorem dX2_isWeighing_17 : decode cX2_isWeighing 17 = .ok (.iushr, 1) := by decide +kernel
theorem dX2_isWeighing_18 : decode cX2_isWeighing 18 = .ok (.ifCond .ne 18, 3) := by decide +kernel
theorem dX2_isWeighing_21 : decode cX2_isWeighing 21 = .ok (.iload_n 1, 1) := by decide +kernel
theorem dX2_isWeighing_22 : decode cX2_isWeighing 22 = .ok (.invokestatic 71, 3) := by decide +kernel
theorem dX2_isWeighing_25 : decode cX2_isWeighing 25 = .ok (.iload_n 2, 1) := by decide +kernel
theorem dX2_isWeighing_26 : decode cX2_isWeighing 26 = .ok (.invokestatic 71, 3) := by decide +kernel
theorem dX2_isWeighing_29 : decode cX2_isWeighing 29 = .ok (.if_icmp .ne 7, 3) := by decide +kernel
theorem dX2_isWeighing_32 : decode cX2_isWeighing 32 = .ok (.iconst 1, 1) := by decide +kernel
theorem dX2_isWeighing_33 : decode cX2_isWeighing 33 = .ok (.goto 4, 3) := by decide +kernel
theorem dX2_isWeighing_36 : decode cX2_isWeighing 36 = .ok (.iconst 0, 1) := by decide +kernel
theorem dX2_isWeighing_37 : decode cX2_isWeighing 37 = .ok (.ireturn, 1) := by decide +kernel
theorem dX2_canLearn_0 : decode cX2_canLearn 0 = .ok (.aload_n 0, 1) := by decide +kernel
theorem dX2_canLearn_1 : decode cX2_canLearn 1 = .ok (.getfield 14, 3) := by decide +kernel
theorem dX2_canLearn_4 : decode cX2_canLearn 4 = .ok (.getfield 40, 3) := by decide +kernel
theorem dX2_canLearn_7 : decode cX2_canLearn 7 = .ok (.bipush 40, 2) := by decide +kernel
theorem dX2_canLearn_9 : decode cX2_canLearn 9 = .ok (.if_icmp .ge 7, 3) := by decide +kernel
theorem dX2_canLearn_12 : decode cX2_canLearn 12 = .ok (.iconst 1, 1) := by decide +kernel
theorem dX2_canLearn_13 : decode cX2_canLearn 13 = .ok (.goto 4, 3) := by decide +kernel
theorem dX2_canLearn_16 : decode cX2_canLearn 16 = .ok (.iconst 0, 1) := by decide +kernel
theorem dX2_canLearn_17 : decode cX2_canLearn 17 = .ok (.ireturn, 1) := by decide +kernel
set_option maxRecDepth 20000 in
theorem ggX2_learn_X3_write : GoodIn wsX2_learn wsX3_write := goodIn_r _ [7, 8, 9, 10, 11, 12, 13, 14, 41, 42, 43, 44] (by decide +kernel) (by decide +kernel)
set_option maxRecDepth 20000 in
theorem gX2_learn_X3_write : GoodIn wsX2_learn (wsV RX2 77 RX3 yX3_write wsX3_write) := goodIn_app (goodIn_of _ (by decide +kernel)) ggX2_learn_X3_write
set_option maxRecDepth 20000 in
theorem ggX2_learn_X2_cases : GoodIn wsX2_learn wsX2_cases := goodIn_r _ [19, 20, 32, 33, 34, 35, 36, 37, 38, 39, 40] (by decide +kernel) (by decide +kernel)
set_option maxRecDepth 20000 in
theorem gX2_learn_X2_cases : GoodIn wsX2_learn (wsV RX2 67 RX2 yX2_cases wsX2_cases) := goodIn_app (goodIn_of _ (by decide +kernel)) ggX2_learn_X2_cases
set_option maxRecDepth 20000 in
theorem ggX2_learn_X2_liesIfTold : GoodIn wsX2_learn wsX2_liesIfTold := goodIn_r _ [24, 2, 25, 13, 26, 27, 28, 29, 30, 31, 32, 33, 34, 35, 36, 37, 38, 39, 40] (by decide +kernel) (by decide +kernel)
set_option maxRecDepth 20000 in
theorem gX2_learn_X2_liesIfTold : GoodIn wsX2_learn (wsV RX2 81 RX2 yX2_liesIfTold wsX2_liesIfTold) := goodIn_app (goodIn_of _ (by decide +kernel)) ggX2_learn_X2_liesIfTold
set_option maxRecDepth 20000 in
theorem ggX2_learn_X4_put : GoodIn wsX2_learn wsX4_put := goodIn_r _ [14] (by decide +kernel) (by decide +kernel)
set_option maxRecDepth 20000 in
theorem gX2_learn_X4_put_n85 : GoodIn wsX2_learn (wsX4_put) := ggX2_learn_X4_put
theorem dX2_learn_0 : decode cX2_learn 0 = .ok (.aload_n 0, 1) := by decide +kernel
theorem dX2_learn_1 : decode cX2_learn 1 = .ok (.getfield 14, 3) := by decide +kernel
theorem dX2_learn_4 : decode cX2_learn 4 = .ok (.iload_n 1, 1) := by decide +kernel
theorem dX2_learn_5 : decode cX2_learn 5 = .ok (.iload_n 2, 1) := by decide +kernel
theorem dX2_learn_6 : decode cX2_learn 6 = .ok (.iload_n 3, 1) := by decide +kernel
theorem dX2_learn_7 : decode cX2_learn 7 = .ok (.invokevirtual 77, 3) := by decide +kernel
theorem dX2_learn_10 : decode cX2_learn 10 = .ok (.iconst 0, 1) := by decide +kernel
theorem dX2_learn_11 : decode cX2_learn 11 = .ok (.istore 4, 2) := by decide +kernel
theorem dX2_learn_13 : decode cX2_learn 13 = .ok (.iload 4, 2) := by decide +kernel
theorem dX2_learn_15 : decode cX2_learn 15 = .ok (.aload_n 0, 1) := by decide +kernel
theorem dX2_learn_16 : decode cX2_learn 16 = .ok (.invokevirtual 67, 3) := by decide +kernel
theorem dX2_learn_19 : decode cX2_learn 19 = .ok (.if_icmp .ge 27, 3) := by decide +kernel
theorem dX2_learn_22 : decode cX2_learn 22 = .ok (.aload_n 0, 1) := by decide +kernel
theorem dX2_learn_23 : decode cX2_learn 23 = .ok (.getfield 23, 3) := by decide +kernel
theorem dX2_learn_26 : decode cX2_learn 26 = .ok (.iload 4, 2) := by decide +kernel
theorem dX2_learn_28 : decode cX2_learn 28 = .ok (.aload_n 0, 1) := by decide +kernel
theorem dX2_learn_29 : decode cX2_learn 29 = .ok (.iload 4, 2) := by decide +kernel
theorem dX2_learn_31 : decode cX2_learn 31 = .ok (.iload_n 1, 1) := by decide +kernel
theorem dX2_learn_32 : decode cX2_learn 32 = .ok (.iload_n 2, 1) := by decide +kernel
theorem dX2_learn_33 : decode cX2_learn 33 = .ok (.iload_n 3, 1) := by decide +kernel
theorem dX2_learn_34 : decode cX2_learn 34 = .ok (.invokevirtual 81, 3) := by decide +kernel
theorem dX2_learn_37 : decode cX2_learn 37 = .ok (.invokestatic 85, 3) := by decide +kernel
theorem dX2_learn_40 : decode cX2_learn 40 = .ok (.iinc 4 1, 3) := by decide +kernel
theorem dX2_learn_43 : decode cX2_learn 43 = .ok (.goto (-30), 3) := by decide +kernel
theorem dX2_learn_46 : decode cX2_learn 46 = .ok (.return_, 1) := by decide +kernel
set_option maxRecDepth 20000 in
theorem ggX2_liesIfTold_X4_at : GoodIn wsX2_liesIfTold wsX4_at := goodIn_r _ [4] (by decide +kernel) (by decide +kernel)
set_option maxRecDepth 20000 in
theorem gX2_liesIfTold_X4_at_n89 : GoodIn wsX2_liesIfTold (wsX4_at) := ggX2_liesIfTold_X4_at
set_option maxRecDepth 20000 in
theorem ggX2_liesIfTold_X4_trueAnswer : GoodIn wsX2_liesIfTold wsX4_trueAnswer := goodIn_r _ [6, 7, 8, 3, 9] (by decide +kernel) (by decide +kernel)
set_option maxRecDepth 20000 in
theorem gX2_liesIfTold_X4_trueAnswer_n93 : GoodIn wsX2_liesIfTold (wsX4_trueAnswer) := ggX2_liesIfTold_X4_trueAnswer
theorem dX2_liesIfTold_0 : decode cX2_liesIfTold 0 = .ok (.aload_n 0, 1) := by decide +kernel
theorem dX2_liesIfTold_1 : decode cX2_liesIfTold 1 = .ok (.getfield 23, 3) := by decide +kernel
theorem dX2_liesIfTold_4 : decode cX2_liesIfTold 4 = .ok (.iload_n 1, 1) := by decide +kernel
theorem dX2_liesIfTold_5 : decode cX2_liesIfTold 5 = .ok (.invokestatic 89, 3) := by decide +kernel
theorem dX2_liesIfTold_8 : decode cX2_liesIfTold 8 = .ok (.istore 5, 2) := by decide +kernel
theorem dX2_liesIfTold_10 : decode cX2_liesIfTold 10 = .ok (.iload_n 1, 1) := by decide +kernel
theorem dX2_liesIfTold_11 : decode cX2_liesIfTold 11 = .ok (.iload_n 2, 1) := by decide +kernel
theorem dX2_liesIfTold_12 : decode cX2_liesIfTold 12 = .ok (.iload_n 3, 1) := by decide +kernel
theorem dX2_liesIfTold_13 : decode cX2_liesIfTold 13 = .ok (.invokestatic 93, 3) := by decide +kernel
theorem dX2_liesIfTold_16 : decode cX2_liesIfTold 16 = .ok (.iload 4, 2) := by decide +kernel
theorem dX2_liesIfTold_18 : decode cX2_liesIfTold 18 = .ok (.if_icmp .ne 8, 3) := by decide +kernel
theorem dX2_liesIfTold_21 : decode cX2_liesIfTold 21 = .ok (.iload 5, 2) := by decide +kernel
theorem dX2_liesIfTold_23 : decode cX2_liesIfTold 23 = .ok (.goto 7, 3) := by decide +kernel
theorem dX2_liesIfTold_26 : decode cX2_liesIfTold 26 = .ok (.iload 5, 2) := by decide +kernel
theorem dX2_liesIfTold_28 : decode cX2_liesIfTold 28 = .ok (.iconst 1, 1) := by decide +kernel
theorem dX2_liesIfTold_29 : decode cX2_liesIfTold 29 = .ok (.iadd, 1) := by decide +kernel
theorem dX2_liesIfTold_30 : decode cX2_liesIfTold 30 = .ok (.ireturn, 1) := by decide +kernel
set_option maxRecDepth 20000 in
theorem ggX2_forgetTold_X4_put : GoodIn wsX2_forgetTold wsX4_put := goodIn_r _ [5] (by decide +kernel) (by decide +kernel)
set_option maxRecDepth 20000 in
theorem gX2_forgetTold_X4_put_n85 : GoodIn wsX2_forgetTold (wsX4_put) := ggX2_forgetTold_X4_put
theorem dX2_forgetTold_0 : decode cX2_forgetTold 0 = .ok (.aload_n 0, 1) := by decide +kernel
theorem dX2_forgetTold_1 : decode cX2_forgetTold 1 = .ok (.getfield 14, 3) := by decide +kernel
theorem dX2_forgetTold_4 : decode cX2_forgetTold 4 = .ok (.iconst 0, 1) := by decide +kernel
theorem dX2_forgetTold_5 : decode cX2_forgetTold 5 = .ok (.putfield 40, 3) := by decide +kernel
theorem dX2_forgetTold_8 : decode cX2_forgetTold 8 = .ok (.iconst 0, 1) := by decide +kernel
theorem dX2_forgetTold_9 : decode cX2_forgetTold 9 = .ok (.istore_n 1, 1) := by decide +kernel
theorem dX2_forgetTold_10 : decode cX2_forgetTold 10 = .ok (.iload_n 1, 1) := by decide +kernel
theorem dX2_forgetTold_11 : decode cX2_forgetTold 11 = .ok (.bipush 33, 2) := by decide +kernel
theorem dX2_forgetTold_13 : decode cX2_forgetTold 13 = .ok (.if_icmp .ge 18, 3) := by decide +kernel
theorem dX2_forgetTold_16 : decode cX2_forgetTold 16 = .ok (.aload_n 0, 1) := by decide +kernel
theorem dX2_forgetTold_17 : decode cX2_forgetTold 17 = .ok (.getfield 23, 3) := by decide +kernel
theorem dX2_forgetTold_20 : decode cX2_forgetTold 20 = .ok (.iload_n 1, 1) := by decide +kernel
theorem dX2_forgetTold_21 : decode cX2_forgetTold 21 = .ok (.iconst 0, 1) := by decide +kernel
theorem dX2_forgetTold_22 : decode cX2_forgetTold 22 = .ok (.invokestatic 85, 3) := by decide +kernel
theorem dX2_forgetTold_25 : decode cX2_forgetTold 25 = .ok (.iinc 1 1, 3) := by decide +kernel
theorem dX2_forgetTold_28 : decode cX2_forgetTold 28 = .ok (.goto (-18), 3) := by decide +kernel
theorem dX2_forgetTold_31 : decode cX2_forgetTold 31 = .ok (.return_, 1) := by decide +kernel
theorem dX2_hideCase_0 : decode cX2_hideCase 0 = .ok (.aload_n 0, 1) := by decide +kernel
theorem dX2_hideCase_1 : decode cX2_hideCase 1 = .ok (.iload_n 1, 1) := by decide +kernel
theorem dX2_hideCase_2 : decode cX2_hideCase 2 = .ok (.putfield 58, 3) := by decide +kernel
theorem dX2_hideCase_5 : decode cX2_hideCase 5 = .ok (.aload_n 0, 1) := by decide +kernel
theorem dX2_hideCase_6 : decode cX2_hideCase 6 = .ok (.iload_n 2, 1) := by decide +kernel
theorem dX2_hideCase_7 : decode cX2_hideCase 7 = .ok (.putfield 61, 3) := by decide +kernel
theorem dX2_hideCase_10 : decode cX2_hideCase 10 = .ok (.aload_n 0, 1) := by decide +kernel
theorem dX2_hideCase_11 : decode cX2_hideCase 11 = .ok (.iconst 0, 1) := by decide +kernel
theorem dX2_hideCase_12 : decode cX2_hideCase 12 = .ok (.putfield 64, 3) := by decide +kernel
theorem dX2_hideCase_15 : decode cX2_hideCase 15 = .ok (.return_, 1) := by decide +kernel
set_option maxRecDepth 20000 in
theorem ggX2_canReply_X2_canLearn : GoodIn wsX2_canReply wsX2_canLearn := goodIn_r _ [7, 8, 9, 10, 11, 12, 13, 14, 15, 16, 17, 18, 19, 20, 21] (by decide +kernel) (by decide +kernel)
set_option maxRecDepth 20000 in
theorem gX2_canReply_X2_canLearn : GoodIn wsX2_canReply (wsV RX2 97 RX2 yX2_canLearn wsX2_canLearn) := goodIn_app (goodIn_of _ (by decide +kernel)) ggX2_canReply_X2_canLearn
theorem dX2_canReply_0 : decode cX2_canReply 0 = .ok (.aload_n 0, 1) := by decide +kernel
theorem dX2_canReply_1 : decode cX2_canReply 1 = .ok (.getfield 58, 3) := by decide +kernel
theorem dX2_canReply_4 : decode cX2_canReply 4 = .ok (.iconst (-1), 1) := by decide +kernel
theorem dX2_canReply_5 : decode cX2_canReply 5 = .ok (.if_icmp .eq 23, 3) := by decide +kernel
theorem dX2_canReply_8 : decode cX2_canReply 8 = .ok (.aload_n 0, 1) := by decide +kernel
theorem dX2_canReply_9 : decode cX2_canReply 9 = .ok (.invokevirtual 97, 3) := by decide +kernel
theorem dX2_canReply_12 : decode cX2_canReply 12 = .ok (.ifCond .eq 16, 3) := by decide +kernel
theorem dX2_canReply_15 : decode cX2_canReply 15 = .ok (.aload_n 0, 1) := by decide +kernel
theorem dX2_canReply_16 : decode cX2_canReply 16 = .ok (.getfield 64, 3) := by decide +kernel
theorem dX2_canReply_19 : decode cX2_canReply 19 = .ok (.bipush 30, 2) := by decide +kernel
theorem dX2_canReply_21 : decode cX2_canReply 21 = .ok (.if_icmp .ge 7, 3) := by decide +kernel
theorem dX2_canReply_24 : decode cX2_canReply 24 = .ok (.iconst 1, 1) := by decide +kernel
theorem dX2_canReply_25 : decode cX2_canReply 25 = .ok (.goto 4, 3) := by decide +kernel
theorem dX2_canReply_28 : decode cX2_canReply 28 = .ok (.iconst 0, 1) := by decide +kernel
theorem dX2_canReply_29 : decode cX2_canReply 29 = .ok (.ireturn, 1) := by decide +kernel
set_option maxRecDepth 20000 in
theorem ggX2_reply_X4_trueAnswer : GoodIn wsX2_reply wsX4_trueAnswer := goodIn_r _ [6, 7, 8, 5, 9] (by decide +kernel) (by decide +kernel)
set_option maxRecDepth 20000 in
theorem gX2_reply_X4_trueAnswer_n93 : GoodIn wsX2_reply (wsX4_trueAnswer) := ggX2_reply_X4_trueAnswer
set_option maxRecDepth 20000 in
theorem ggX2_reply_X2_learn : GoodIn wsX2_reply wsX2_learn := goodIn_r _ [14, 15, 16, 17, 18, 19, 20, 21, 22, 23, 24, 25, 26, 5, 27, 28, 29, 30, 13, 31, 32, 33, 34, 35, 36, 37, 38, 4, 6, 7, 8, 9, 39, 40, 41, 42, 43, 44, 45, 46, 47, 48, 49, 50, 51] (by decide +kernel) (by decide +kernel)
set_option maxRecDepth 20000 in
theorem gX2_reply_X2_learn : GoodIn wsX2_reply (wsV RX2 101 RX2 yX2_learn wsX2_learn) := goodIn_app (goodIn_of _ (by decide +kernel)) ggX2_reply_X2_learn
theorem dX2_reply_0 : decode cX2_reply 0 = .ok (.aload_n 0, 1) := by decide +kernel
theorem dX2_reply_1 : decode cX2_reply 1 = .ok (.getfield 58, 3) := by decide +kernel
theorem dX2_reply_4 : decode cX2_reply 4 = .ok (.iload_n 1, 1) := by decide +kernel
theorem dX2_reply_5 : decode cX2_reply 5 = .ok (.iload_n 2, 1) := by decide +kernel
theorem dX2_reply_6 : decode cX2_reply 6 = .ok (.invokestatic 93, 3) := by decide +kernel
theorem dX2_reply_9 : decode cX2_reply 9 = .ok (.istore_n 3, 1) := by decide +kernel
theorem dX2_reply_10 : decode cX2_reply 10 = .ok (.aload_n 0, 1) := by decide +kernel
theorem dX2_reply_11 : decode cX2_reply 11 = .ok (.getfield 61, 3) := by decide +kernel
theorem dX2_reply_14 : decode cX2_reply 14 = .ok (.aload_n 0, 1) := by decide +kernel
theorem dX2_reply_15 : decode cX2_reply 15 = .ok (.getfield 64, 3) := by decide +kernel
theorem dX2_reply_18 : decode cX2_reply 18 = .ok (.iushr, 1) := by decide +kernel
theorem dX2_reply_19 : decode cX2_reply 19 = .ok (.iconst 1, 1) := by decide +kernel
theorem dX2_reply_20 : decode cX2_reply 20 = .ok (.iand, 1) := by decide +kernel
theorem dX2_reply_21 : decode cX2_reply 21 = .ok (.iconst 1, 1) := by decide +kernel
theorem dX2_reply_22 : decode cX2_reply 22 = .ok (.if_icmp .ne 16, 3) := by decide +kernel
theorem dX2_reply_25 : decode cX2_reply 25 = .ok (.iload_n 3, 1) := by decide +kernel
theorem dX2_reply_26 : decode cX2_reply 26 = .ok (.iconst 2, 1) := by decide +kernel
theorem dX2_reply_27 : decode cX2_reply 27 = .ok (.if_icmp .ne 7, 3) := by decide +kernel
theorem dX2_reply_30 : decode cX2_reply 30 = .ok (.iconst 0, 1) := by decide +kernel
theorem dX2_reply_31 : decode cX2_reply 31 = .ok (.goto 6, 3) := by decide +kernel
theorem dX2_reply_34 : decode cX2_reply 34 = .ok (.iload_n 3, 1) := by decide +kernel
theorem dX2_reply_35 : decode cX2_reply 35 = .ok (.iconst 1, 1) := by decide +kernel
theorem dX2_reply_36 : decode cX2_reply 36 = .ok (.iadd, 1) := by decide +kernel
theorem dX2_reply_37 : decode cX2_reply 37 = .ok (.istore_n 3, 1) := by decide +kernel
theorem dX2_reply_38 : decode cX2_reply 38 = .ok (.aload_n 0, 1) := by decide +kernel
theorem dX2_reply_39 : decode cX2_reply 39 = .ok (.dup, 1) := by decide +kernel
theorem dX2_reply_40 : decode cX2_reply 40 = .ok (.getfield 64, 3) := by decide +kernel
theorem dX2_reply_43 : decode cX2_reply 43 = .ok (.iconst 1, 1) := by decide +kernel
theorem dX2_reply_44 : decode cX2_reply 44 = .ok (.iadd, 1) := by decide +kernel
theorem dX2_reply_45 : decode cX2_reply 45 = .ok (.putfield 64, 3) := by decide +kernel
theorem dX2_reply_48 : decode cX2_reply 48 = .ok (.aload_n 0, 1) := by decide +kernel
theorem dX2_reply_49 : decode cX2_reply 49 = .ok (.iload_n 1, 1) := by decide +kernel
theorem dX2_reply_50 : decode cX2_reply 50 = .ok (.iload_n 2, 1) := by decide +kernel
theorem dX2_reply_51 : decode cX2_reply 51 = .ok (.iload_n 3, 1) := by decide +kernel
theorem dX2_reply_52 : decode cX2_reply 52 = .ok (.invokevirtual 101, 3) := by decide +kernel
theorem dX2_reply_55 : decode cX2_reply 55 = .ok (.iload_n 3, 1) := by decide +kernel
theorem dX2_reply_56 : decode cX2_reply 56 = .ok (.ireturn, 1) := by decide +kernel
set_option maxRecDepth 20000 in
theorem ggX2_isLeft_X4_at : GoodIn wsX2_isLeft wsX4_at := goodIn_r _ [5] (by decide +kernel) (by decide +kernel)
set_option maxRecDepth 20000 in
theorem gX2_isLeft_X4_at_n89 : GoodIn wsX2_isLeft (wsX4_at) := ggX2_isLeft_X4_at
theorem dX2_isLeft_0 : decode cX2_isLeft 0 = .ok (.aload_n 0, 1) := by decide +kernel
theorem dX2_isLeft_1 : decode cX2_isLeft 1 = .ok (.getfield 23, 3) := by decide +kernel
theorem dX2_isLeft_4 : decode cX2_isLeft 4 = .ok (.iload_n 1, 1) := by decide +kernel
theorem dX2_isLeft_5 : decode cX2_isLeft 5 = .ok (.invokestatic 89, 3) := by decide +kernel
theorem dX2_isLeft_8 : decode cX2_isLeft 8 = .ok (.aload_n 0, 1) := by decide +kernel
theorem dX2_isLeft_9 : decode cX2_isLeft 9 = .ok (.getfield 37, 3) := by decide +kernel
theorem dX2_isLeft_12 : decode cX2_isLeft 12 = .ok (.if_icmp .gt 7, 3) := by decide +kernel
theorem dX2_isLeft_15 : decode cX2_isLeft 15 = .ok (.iconst 1, 1) := by decide +kernel
theorem dX2_isLeft_16 : decode cX2_isLeft 16 = .ok (.goto 4, 3) := by decide +kernel
theorem dX2_isLeft_19 : decode cX2_isLeft 19 = .ok (.iconst 0, 1) := by decide +kernel
theorem dX2_isLeft_20 : decode cX2_isLeft 20 = .ok (.ireturn, 1) := by decide +kernel
set_option maxRecDepth 20000 in
theorem ggX2_countLeft_X2_cases : GoodIn wsX2_countLeft wsX2_cases := goodIn_r _ [5, 6, 16, 17, 18, 19, 20, 21, 22, 23, 24] (by decide +kernel) (by decide +kernel)
set_option maxRecDepth 20000 in
theorem gX2_countLeft_X2_cases : GoodIn wsX2_countLeft (wsV RX2 67 RX2 yX2_cases wsX2_cases) := goodIn_app (goodIn_of _ (by decide +kernel)) ggX2_countLeft_X2_cases
set_option maxRecDepth 20000 in
theorem ggX2_countLeft_X2_isLeft : GoodIn wsX2_countLeft wsX2_isLeft := goodIn_r _ [10, 11, 12, 13, 14, 15, 16, 17, 18, 19, 20, 21, 22, 23, 24] (by decide +kernel) (by decide +kernel)
set_option maxRecDepth 20000 in
theorem gX2_countLeft_X2_isLeft : GoodIn wsX2_countLeft (wsV RX2 125 RX2 yX2_isLeft wsX2_isLeft) := goodIn_app (goodIn_of _ (by decide +kernel)) ggX2_countLeft_X2_isLeft
theorem dX2_countLeft_0 : decode cX2_countLeft 0 = .ok (.iconst 0, 1) := by decide +kernel
theorem dX2_countLeft_1 : decode cX2_countLeft 1 = .ok (.istore_n 1, 1) := by decide +kernel
theorem dX2_countLeft_2 : decode cX2_countLeft 2 = .ok (.iconst 0, 1) := by decide +kernel
theorem dX2_countLeft_3 : decode cX2_countLeft 3 = .ok (.istore_n 2, 1) := by decide +kernel
theorem dX2_countLeft_4 : decode cX2_countLeft 4 = .ok (.iload_n 2, 1) := by decide +kernel
theorem dX2_countLeft_5 : decode cX2_countLeft 5 = .ok (.aload_n 0, 1) := by decide +kernel
theorem dX2_countLeft_6 : decode cX2_countLeft 6 = .ok (.invokevirtual 67, 3) := by decide +kernel
theorem dX2_countLeft_9 : decode cX2_countLeft 9 = .ok (.if_icmp .ge 20, 3) := by decide +kernel
theorem dX2_countLeft_12 : decode cX2_countLeft 12 = .ok (.aload_n 0, 1) := by decide +kernel
theorem dX2_countLeft_13 : decode cX2_countLeft 13 = .ok (.iload_n 2, 1) := by decide +kernel
theorem dX2_countLeft_14 : decode cX2_countLeft 14 = .ok (.invokevirtual 125, 3) := by decide +kernel
theorem dX2_countLeft_17 : decode cX2_countLeft 17 = .ok (.ifCond .eq 6, 3) := by decide +kernel
theorem dX2_countLeft_20 : decode cX2_countLeft 20 = .ok (.iinc 1 1, 3) := by decide +kernel
theorem dX2_countLeft_23 : decode cX2_countLeft 23 = .ok (.iinc 2 1, 3) := by decide +kernel
theorem dX2_countLeft_26 : decode cX2_countLeft 26 = .ok (.goto (-22), 3) := by decide +kernel
theorem dX2_countLeft_29 : decode cX2_countLeft 29 = .ok (.iload_n 1, 1) := by decide +kernel
theorem dX2_countLeft_30 : decode cX2_countLeft 30 = .ok (.ireturn, 1) := by decide +kernel
set_option maxRecDepth 20000 in
theorem ggX2_falseCoins_X2_cases : GoodIn wsX2_falseCoins wsX2_cases := goodIn_r _ [5, 6, 18, 19, 20, 21, 22, 23, 24, 25, 26] (by decide +kernel) (by decide +kernel)
set_option maxRecDepth 20000 in
theorem gX2_falseCoins_X2_cases : GoodIn wsX2_falseCoins (wsV RX2 67 RX2 yX2_cases wsX2_cases) := goodIn_app (goodIn_of _ (by decide +kernel)) ggX2_falseCoins_X2_cases
set_option maxRecDepth 20000 in
theorem ggX2_falseCoins_X2_isLeft : GoodIn wsX2_falseCoins wsX2_isLeft := goodIn_r _ [10, 11, 12, 13, 14, 15, 18, 19, 20, 21, 22, 23, 24, 25, 26] (by decide +kernel) (by decide +kernel)
set_option maxRecDepth 20000 in
theorem gX2_falseCoins_X2_isLeft : GoodIn wsX2_falseCoins (wsV RX2 125 RX2 yX2_isLeft wsX2_isLeft) := goodIn_app (goodIn_of _ (by decide +kernel)) ggX2_falseCoins_X2_isLeft
set_option maxRecDepth 20000 in
theorem ggX2_falseCoins_X4_coinBit : GoodIn wsX2_falseCoins wsX4_coinBit := goodIn_r _ [17] (by decide +kernel) (by decide +kernel)
set_option maxRecDepth 20000 in
theorem gX2_falseCoins_X4_coinBit_n128 : GoodIn wsX2_falseCoins (wsX4_coinBit) := ggX2_falseCoins_X4_coinBit
theorem dX2_falseCoins_0 : decode cX2_falseCoins 0 = .ok (.iconst 0, 1) := by decide +kernel
theorem dX2_falseCoins_1 : decode cX2_falseCoins 1 = .ok (.istore_n 1, 1) := by decide +kernel
theorem dX2_falseCoins_2 : decode cX2_falseCoins 2 = .ok (.iconst 0, 1) := by decide +kernel
theorem dX2_falseCoins_3 : decode cX2_falseCoins 3 = .ok (.istore_n 2, 1) := by decide +kernel
theorem dX2_falseCoins_4 : decode cX2_falseCoins 4 = .ok (.iload_n 2, 1) := by decide +kernel
theorem dX2_falseCoins_5 : decode cX2_falseCoins 5 = .ok (.aload_n 0, 1) := by decide +kernel
theorem dX2_falseCoins_6 : decode cX2_falseCoins 6 = .ok (.invokevirtual 67, 3) := by decide +kernel
theorem dX2_falseCoins_9 : decode cX2_falseCoins 9 = .ok (.if_icmp .ge 24, 3) := by decide +kernel
theorem dX2_falseCoins_12 : decode cX2_falseCoins 12 = .ok (.aload_n 0, 1) := by decide +kernel
theorem dX2_falseCoins_13 : decode cX2_falseCoins 13 = .ok (.iload_n 2, 1) := by decide +kernel
theorem dX2_falseCoins_14 : decode cX2_falseCoins 14 = .ok (.invokevirtual 125, 3) := by decide +kernel
theorem dX2_falseCoins_17 : decode cX2_falseCoins 17 = .ok (.ifCond .eq 10, 3) := by decide +kernel
theorem dX2_falseCoins_20 : decode cX2_falseCoins 20 = .ok (.iload_n 1, 1) := by decide +kernel
theorem dX2_falseCoins_21 : decode cX2_falseCoins 21 = .ok (.iload_n 2, 1) := by decide +kernel
theorem dX2_falseCoins_22 : decode cX2_falseCoins 22 = .ok (.invokestatic 128, 3) := by decide +kernel
theorem dX2_falseCoins_25 : decode cX2_falseCoins 25 = .ok (.ior, 1) := by decide +kernel
theorem dX2_falseCoins_26 : decode cX2_falseCoins 26 = .ok (.istore_n 1, 1) := by decide +kernel
theorem dX2_falseCoins_27 : decode cX2_falseCoins 27 = .ok (.iinc 2 1, 3) := by decide +kernel
theorem dX2_falseCoins_30 : decode cX2_falseCoins 30 = .ok (.goto (-26), 3) := by decide +kernel
theorem dX2_falseCoins_33 : decode cX2_falseCoins 33 = .ok (.iload_n 1, 1) := by decide +kernel
theorem dX2_falseCoins_34 : decode cX2_falseCoins 34 = .ok (.ireturn, 1) := by decide +kernel
set_option maxRecDepth 20000 in
theorem ggX2_number_X2_countLeft : GoodIn wsX2_number wsX2_countLeft := goodIn_r _ [11, 12, 13, 14, 10, 15, 1, 16, 17, 18, 19, 20, 2, 21, 22, 23, 30, 31, 32, 33, 34, 35, 36, 37, 38] (by decide +kernel) (by decide +kernel)
set_option maxRecDepth 20000 in
theorem gX2_number_X2_countLeft : GoodIn wsX2_number (wsV RX2 131 RX2 yX2_countLeft wsX2_countLeft) := goodIn_app (goodIn_of _ (by decide +kernel)) ggX2_number_X2_countLeft
set_option maxRecDepth 20000 in
theorem ggX2_number_X2_falseCoins : GoodIn wsX2_number wsX2_falseCoins := goodIn_r _ [27, 12, 13, 14, 10, 15, 1, 16, 17, 18, 19, 20, 2, 21, 22, 23, 28, 29, 30, 31, 32, 33, 34, 35, 36, 37, 38] (by decide +kernel) (by decide +kernel)
set_option maxRecDepth 20000 in
theorem gX2_number_X2_falseCoins : GoodIn wsX2_number (wsV RX2 134 RX2 yX2_falseCoins wsX2_falseCoins) := goodIn_app (goodIn_of _ (by decide +kernel)) ggX2_number_X2_falseCoins
set_option maxRecDepth 20000 in
theorem ggX2_number_X2_isLeft : GoodIn wsX2_number wsX2_isLeft := goodIn_r _ [19, 20, 2, 21, 22, 23, 30, 31, 32, 33, 34, 35, 36, 37, 38] (by decide +kernel) (by decide +kernel)
set_option maxRecDepth 20000 in
theorem gX2_number_X2_isLeft : GoodIn wsX2_number (wsV RX2 125 RX2 yX2_isLeft wsX2_isLeft) := goodIn_app (goodIn_of _ (by decide +kernel)) ggX2_number_X2_isLeft
theorem dX2_number_0 : decode cX2_number 0 = .ok (.iload_n 1, 1) := by decide +kernel
theorem dX2_number_1 : decode cX2_number 1 = .ok (.tableswitch 93 0 7 #[47, 52, 57, 65, 70, 78, 83, 88], 47) := by decide +kernel
theorem dX2_number_48 : decode cX2_number 48 = .ok (.aload_n 0, 1) := by decide +kernel
theorem dX2_number_49 : decode cX2_number 49 = .ok (.getfield 33, 3) := by decide +kernel
theorem dX2_number_52 : decode cX2_number 52 = .ok (.ireturn, 1) := by decide +kernel
theorem dX2_number_53 : decode cX2_number 53 = .ok (.aload_n 0, 1) := by decide +kernel
theorem dX2_number_54 : decode cX2_number 54 = .ok (.getfield 37, 3) := by decide +kernel
theorem dX2_number_57 : decode cX2_number 57 = .ok (.ireturn, 1) := by decide +kernel
theorem dX2_number_58 : decode cX2_number 58 = .ok (.aload_n 0, 1) := by decide +kernel
theorem dX2_number_59 : decode cX2_number 59 = .ok (.getfield 14, 3) := by decide +kernel
theorem dX2_number_62 : decode cX2_number 62 = .ok (.getfield 40, 3) := by decide +kernel
theorem dX2_number_65 : decode cX2_number 65 = .ok (.ireturn, 1) := by decide +kernel
theorem dX2_number_66 : decode cX2_number 66 = .ok (.aload_n 0, 1) := by decide +kernel
theorem dX2_number_67 : decode cX2_number 67 = .ok (.invokevirtual 131, 3) := by decide +kernel
theorem dX2_number_70 : decode cX2_number 70 = .ok (.ireturn, 1) := by decide +kernel
theorem dX2_number_71 : decode cX2_number 71 = .ok (.aload_n 0, 1) := by decide +kernel
theorem dX2_number_72 : decode cX2_number 72 = .ok (.getfield 20, 3) := by decide +kernel
theorem dX2_number_75 : decode cX2_number 75 = .ok (.getfield 40, 3) := by decide +kernel
theorem dX2_number_78 : decode cX2_number 78 = .ok (.ireturn, 1) := by decide +kernel
theorem dX2_number_79 : decode cX2_number 79 = .ok (.aload_n 0, 1) := by decide +kernel
theorem dX2_number_80 : decode cX2_number 80 = .ok (.getfield 58, 3) := by decide +kernel
theorem dX2_number_83 : decode cX2_number 83 = .ok (.ireturn, 1) := by decide +kernel
theorem dX2_number_84 : decode cX2_number 84 = .ok (.aload_n 0, 1) := by decide +kernel
theorem dX2_number_85 : decode cX2_number 85 = .ok (.getfield 64, 3) := by decide +kernel
theorem dX2_number_88 : decode cX2_number 88 = .ok (.ireturn, 1) := by decide +kernel
theorem dX2_number_89 : decode cX2_number 89 = .ok (.aload_n 0, 1) := by decide +kernel
theorem dX2_number_90 : decode cX2_number 90 = .ok (.invokevirtual 134, 3) := by decide +kernel
theorem dX2_number_93 : decode cX2_number 93 = .ok (.ireturn, 1) := by decide +kernel
theorem dX2_number_94 : decode cX2_number 94 = .ok (.aload_n 0, 1) := by decide +kernel
theorem dX2_number_95 : decode cX2_number 95 = .ok (.iconst 0, 1) := by decide +kernel
theorem dX2_number_96 : decode cX2_number 96 = .ok (.invokevirtual 125, 3) := by decide +kernel
theorem dX2_number_99 : decode cX2_number 99 = .ok (.ifCond .eq 7, 3) := by decide +kernel
theorem dX2_number_102 : decode cX2_number 102 = .ok (.iconst 1, 1) := by decide +kernel
theorem dX2_number_103 : decode cX2_number 103 = .ok (.goto 4, 3) := by decide +kernel
theorem dX2_number_106 : decode cX2_number 106 = .ok (.iconst 0, 1) := by decide +kernel
theorem dX2_number_107 : decode cX2_number 107 = .ok (.ireturn, 1) := by decide +kernel
set_option maxRecDepth 20000 in
theorem ggX2_weightAhead_X2_cases : GoodIn wsX2_weightAhead wsX2_cases := goodIn_r _ [6, 7, 22, 23, 24, 25, 26, 27, 28, 29, 30] (by decide +kernel) (by decide +kernel)
set_option maxRecDepth 20000 in
theorem gX2_weightAhead_X2_cases : GoodIn wsX2_weightAhead (wsV RX2 67 RX2 yX2_cases wsX2_cases) := goodIn_app (goodIn_of _ (by decide +kernel)) ggX2_weightAhead_X2_cases
set_option maxRecDepth 20000 in
theorem ggX2_weightAhead_X4_at : GoodIn wsX2_weightAhead wsX4_at := goodIn_r _ [10] (by decide +kernel) (by decide +kernel)
set_option maxRecDepth 20000 in
theorem gX2_weightAhead_X4_at_n89 : GoodIn wsX2_weightAhead (wsX4_at) := ggX2_weightAhead_X4_at
set_option maxRecDepth 20000 in
theorem ggX2_weightAhead_X2_volumeLeft : GoodIn wsX2_weightAhead wsX2_volumeLeft := goodIn_r _ [14, 15, 16, 9, 17, 18, 19, 20, 21, 22, 23, 24, 25, 26, 27, 28, 29, 30] (by decide +kernel) (by decide +kernel)
set_option maxRecDepth 20000 in
theorem gX2_weightAhead_X2_volumeLeft : GoodIn wsX2_weightAhead (wsV RX2 137 RX2 yX2_volumeLeft wsX2_volumeLeft) := goodIn_app (goodIn_of _ (by decide +kernel)) ggX2_weightAhead_X2_volumeLeft
theorem dX2_weightAhead_0 : decode cX2_weightAhead 0 = .ok (.lconst 0, 1) := by decide +kernel
theorem dX2_weightAhead_1 : decode cX2_weightAhead 1 = .ok (.lstore_n 2, 1) := by decide +kernel
theorem dX2_weightAhead_2 : decode cX2_weightAhead 2 = .ok (.iconst 0, 1) := by decide +kernel
theorem dX2_weightAhead_3 : decode cX2_weightAhead 3 = .ok (.istore 4, 2) := by decide +kernel
theorem dX2_weightAhead_5 : decode cX2_weightAhead 5 = .ok (.iload 4, 2) := by decide +kernel
theorem dX2_weightAhead_7 : decode cX2_weightAhead 7 = .ok (.aload_n 0, 1) := by decide +kernel
theorem dX2_weightAhead_8 : decode cX2_weightAhead 8 = .ok (.invokevirtual 67, 3) := by decide +kernel
theorem dX2_weightAhead_11 : decode cX2_weightAhead 11 = .ok (.if_icmp .ge 26, 3) := by decide +kernel
theorem dX2_weightAhead_14 : decode cX2_weightAhead 14 = .ok (.lload_n 2, 1) := by decide +kernel
theorem dX2_weightAhead_15 : decode cX2_weightAhead 15 = .ok (.aload_n 0, 1) := by decide +kernel
theorem dX2_weightAhead_16 : decode cX2_weightAhead 16 = .ok (.aload_n 0, 1) := by decide +kernel
theorem dX2_weightAhead_17 : decode cX2_weightAhead 17 = .ok (.getfield 23, 3) := by decide +kernel
theorem dX2_weightAhead_20 : decode cX2_weightAhead 20 = .ok (.iload 4, 2) := by decide +kernel
theorem dX2_weightAhead_22 : decode cX2_weightAhead 22 = .ok (.invokestatic 89, 3) := by decide +kernel
theorem dX2_weightAhead_25 : decode cX2_weightAhead 25 = .ok (.iload_n 1, 1) := by decide +kernel
theorem dX2_weightAhead_26 : decode cX2_weightAhead 26 = .ok (.invokevirtual 137, 3) := by decide +kernel
theorem dX2_weightAhead_29 : decode cX2_weightAhead 29 = .ok (.ladd, 1) := by decide +kernel
theorem dX2_weightAhead_30 : decode cX2_weightAhead 30 = .ok (.lstore_n 2, 1) := by decide +kernel
theorem dX2_weightAhead_31 : decode cX2_weightAhead 31 = .ok (.iinc 4 1, 3) := by decide +kernel
theorem dX2_weightAhead_34 : decode cX2_weightAhead 34 = .ok (.goto (-29), 3) := by decide +kernel
theorem dX2_weightAhead_37 : decode cX2_weightAhead 37 = .ok (.lload_n 2, 1) := by decide +kernel
theorem dX2_weightAhead_38 : decode cX2_weightAhead 38 = .ok (.lreturn, 1) := by decide +kernel
set_option maxRecDepth 20000 in
theorem ggX2_weightIfTold_X2_cases : GoodIn wsX2_weightIfTold wsX2_cases := goodIn_r _ [5, 6, 31, 32, 33, 34, 35, 36, 37, 38, 39] (by decide +kernel) (by decide +kernel)
set_option maxRecDepth 20000 in
theorem gX2_weightIfTold_X2_cases : GoodIn wsX2_weightIfTold (wsV RX2 67 RX2 yX2_cases wsX2_cases) := goodIn_app (goodIn_of _ (by decide +kernel)) ggX2_weightIfTold_X2_cases
set_option maxRecDepth 20000 in
theorem ggX2_weightIfTold_X2_liesIfTold : GoodIn wsX2_weightIfTold wsX2_liesIfTold := goodIn_r _ [10, 11, 12, 13, 14, 15, 16, 17, 18, 19, 31, 32, 33, 34, 35, 36, 37, 38, 39] (by decide +kernel) (by decide +kernel)
set_option maxRecDepth 20000 in
theorem gX2_weightIfTold_X2_liesIfTold : GoodIn wsX2_weightIfTold (wsV RX2 81 RX2 yX2_liesIfTold wsX2_liesIfTold) := goodIn_app (goodIn_of _ (by decide +kernel)) ggX2_weightIfTold_X2_liesIfTold
set_option maxRecDepth 20000 in
theorem ggX2_weightIfTold_X2_volumeLeft : GoodIn wsX2_weightIfTold wsX2_volumeLeft := goodIn_r _ [23, 24, 25, 13, 26, 27, 28, 29, 30, 31, 32, 33, 34, 35, 36, 37, 38, 39] (by decide +kernel) (by decide +kernel)
set_option maxRecDepth 20000 in
theorem gX2_weightIfTold_X2_volumeLeft : GoodIn wsX2_weightIfTold (wsV RX2 137 RX2 yX2_volumeLeft wsX2_volumeLeft) := goodIn_app (goodIn_of _ (by decide +kernel)) ggX2_weightIfTold_X2_volumeLeft
theorem dX2_weightIfTold_0 : decode cX2_weightIfTold 0 = .ok (.lconst 0, 1) := by decide +kernel
theorem dX2_weightIfTold_1 : decode cX2_weightIfTold 1 = .ok (.lstore 5, 2) := by decide +kernel
theorem dX2_weightIfTold_3 : decode cX2_weightIfTold 3 = .ok (.iconst 0, 1) := by decide +kernel
theorem dX2_weightIfTold_4 : decode cX2_weightIfTold 4 = .ok (.istore 7, 2) := by decide +kernel
theorem dX2_weightIfTold_6 : decode cX2_weightIfTold 6 = .ok (.iload 7, 2) := by decide +kernel
theorem dX2_weightIfTold_8 : decode cX2_weightIfTold 8 = .ok (.aload_n 0, 1) := by decide +kernel
theorem dX2_weightIfTold_9 : decode cX2_weightIfTold 9 = .ok (.invokevirtual 67, 3) := by decide +kernel
theorem dX2_weightIfTold_12 : decode cX2_weightIfTold 12 = .ok (.if_icmp .ge 29, 3) := by decide +kernel
theorem dX2_weightIfTold_15 : decode cX2_weightIfTold 15 = .ok (.lload 5, 2) := by decide +kernel
theorem dX2_weightIfTold_17 : decode cX2_weightIfTold 17 = .ok (.aload_n 0, 1) := by decide +kernel
theorem dX2_weightIfTold_18 : decode cX2_weightIfTold 18 = .ok (.aload_n 0, 1) := by decide +kernel
theorem dX2_weightIfTold_19 : decode cX2_weightIfTold 19 = .ok (.iload 7, 2) := by decide +kernel
theorem dX2_weightIfTold_21 : decode cX2_weightIfTold 21 = .ok (.iload_n 1, 1) := by decide +kernel
theorem dX2_weightIfTold_22 : decode cX2_weightIfTold 22 = .ok (.iload_n 2, 1) := by decide +kernel
