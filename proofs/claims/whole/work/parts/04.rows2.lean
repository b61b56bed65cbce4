set_option maxRecDepth 20000 in
theorem ggX0_init_X2_init : GoodIn wsX0_init wsX2_init := goodIn_r _ [10, 11, 2, 3, 12, 13, 14, 15, 16, 17, 18, 19, 20, 21, 22, 23, 24, 25, 26, 27, 28, 29, 30, 31, 32, 33, 7, 34, 35, 36, 37, 38, 39, 40, 41, 42, 43, 44, 45, 46, 47, 48, 49, 50, 62, 63, 64, 65, 53, 54, 55, 56, 57, 58, 59, 60, 61] (by decide +kernel) (by decide +kernel)
set_option maxRecDepth 20000 in
theorem gX0_init_X2_init : GoodIn wsX0_init (wsX2_init) := ggX0_init_X2_init
theorem dX0_init_0 : decode cX0_init 0 = .ok (.aload_n 0, 1) := by decide +kernel
theorem dX0_init_1 : decode cX0_init 1 = .ok (.invokespecial 3, 3) := by decide +kernel
theorem dX0_init_4 : decode cX0_init 4 = .ok (.aload_n 0, 1) := by decide +kernel
theorem dX0_init_5 : decode cX0_init 5 = .ok (.iconst 4, 1) := by decide +kernel
theorem dX0_init_6 : decode cX0_init 6 = .ok (.anewarray 9, 3) := by decide +kernel
theorem dX0_init_9 : decode cX0_init 9 = .ok (.putfield 11, 3) := by decide +kernel
theorem dX0_init_12 : decode cX0_init 12 = .ok (.iconst 0, 1) := by decide +kernel
theorem dX0_init_13 : decode cX0_init 13 = .ok (.istore_n 1, 1) := by decide +kernel
theorem dX0_init_14 : decode cX0_init 14 = .ok (.iload_n 1, 1) := by decide +kernel
theorem dX0_init_15 : decode cX0_init 15 = .ok (.aload_n 0, 1) := by decide +kernel
theorem dX0_init_16 : decode cX0_init 16 = .ok (.getfield 11, 3) := by decide +kernel
theorem dX0_init_19 : decode cX0_init 19 = .ok (.arraylength, 1) := by decide +kernel
theorem dX0_init_20 : decode cX0_init 20 = .ok (.if_icmp .ge 22, 3) := by decide +kernel
theorem dX0_init_23 : decode cX0_init 23 = .ok (.aload_n 0, 1) := by decide +kernel
theorem dX0_init_24 : decode cX0_init 24 = .ok (.getfield 11, 3) := by decide +kernel
theorem dX0_init_27 : decode cX0_init 27 = .ok (.iload_n 1, 1) := by decide +kernel
theorem dX0_init_28 : decode cX0_init 28 = .ok (.new 9, 3) := by decide +kernel
theorem dX0_init_31 : decode cX0_init 31 = .ok (.dup, 1) := by decide +kernel
theorem dX0_init_32 : decode cX0_init 32 = .ok (.invokespecial 17, 3) := by decide +kernel
theorem dX0_init_35 : decode cX0_init 35 = .ok (.aastore, 1) := by decide +kernel
theorem dX0_init_36 : decode cX0_init 36 = .ok (.iinc 1 1, 3) := by decide +kernel
theorem dX0_init_39 : decode cX0_init 39 = .ok (.goto (-25), 3) := by decide +kernel
theorem dX0_init_42 : decode cX0_init 42 = .ok (.return_, 1) := by decide +kernel
set_option maxRecDepth 20000 in
theorem ggX0_save_X0_dropOldest : GoodIn wsX0_save wsX0_dropOldest := goodIn_r _ [7, 2, 1, 8, 9, 10, 6, 11, 45, 46] (by decide +kernel) (by decide +kernel)
set_option maxRecDepth 20000 in
theorem gX0_save_X0_dropOldest : GoodIn wsX0_save (wsV RX0 22 RX0 yX0_dropOldest wsX0_dropOldest) := goodIn_app (goodIn_of _ (by decide +kernel)) ggX0_save_X0_dropOldest
set_option maxRecDepth 20000 in
theorem ggX0_save_X0_stateAt : GoodIn wsX0_save wsX0_stateAt := goodIn_r _ [11, 2, 45, 46] (by decide +kernel) (by decide +kernel)
set_option maxRecDepth 20000 in
theorem gX0_save_X0_stateAt : GoodIn wsX0_save (wsV RX0 25 RX0 yX0_stateAt wsX0_stateAt) := goodIn_app (goodIn_of _ (by decide +kernel)) ggX0_save_X0_stateAt
set_option maxRecDepth 20000 in
theorem ggX0_save_X2_copyFrom : GoodIn wsX0_save wsX2_copyFrom := goodIn_r _ [16, 17, 18, 19, 20, 21, 22, 23, 24, 25, 26, 27, 28, 29, 30, 31, 32, 33, 34, 35, 36, 37, 38, 39, 40, 41, 42, 43, 44, 47, 48, 49, 50, 51, 52, 53, 54, 55, 56, 57, 58, 59] (by decide +kernel) (by decide +kernel)
set_option maxRecDepth 20000 in
theorem gX0_save_X2_copyFrom : GoodIn wsX0_save (wsV RX0 29 RX2 yX2_copyFrom wsX2_copyFrom) := goodIn_app (goodIn_of _ (by decide +kernel)) ggX0_save_X2_copyFrom
theorem dX0_save_0 : decode cX0_save 0 = .ok (.aload_n 0, 1) := by decide +kernel
theorem dX0_save_1 : decode cX0_save 1 = .ok (.getfield 18, 3) := by decide +kernel
theorem dX0_save_4 : decode cX0_save 4 = .ok (.aload_n 0, 1) := by decide +kernel
theorem dX0_save_5 : decode cX0_save 5 = .ok (.getfield 11, 3) := by decide +kernel
theorem dX0_save_8 : decode cX0_save 8 = .ok (.arraylength, 1) := by decide +kernel
theorem dX0_save_9 : decode cX0_save 9 = .ok (.if_icmp .lt 7, 3) := by decide +kernel
theorem dX0_save_12 : decode cX0_save 12 = .ok (.aload_n 0, 1) := by decide +kernel
theorem dX0_save_13 : decode cX0_save 13 = .ok (.invokevirtual 22, 3) := by decide +kernel
theorem dX0_save_16 : decode cX0_save 16 = .ok (.aload_n 0, 1) := by decide +kernel
theorem dX0_save_17 : decode cX0_save 17 = .ok (.aload_n 0, 1) := by decide +kernel
theorem dX0_save_18 : decode cX0_save 18 = .ok (.getfield 18, 3) := by decide +kernel
theorem dX0_save_21 : decode cX0_save 21 = .ok (.invokevirtual 25, 3) := by decide +kernel
theorem dX0_save_24 : decode cX0_save 24 = .ok (.astore_n 2, 1) := by decide +kernel
theorem dX0_save_25 : decode cX0_save 25 = .ok (.aload_n 2, 1) := by decide +kernel
theorem dX0_save_26 : decode cX0_save 26 = .ok (.ifnull 18, 3) := by decide +kernel
theorem dX0_save_29 : decode cX0_save 29 = .ok (.aload_n 2, 1) := by decide +kernel
theorem dX0_save_30 : decode cX0_save 30 = .ok (.aload_n 1, 1) := by decide +kernel
theorem dX0_save_31 : decode cX0_save 31 = .ok (.invokevirtual 29, 3) := by decide +kernel
theorem dX0_save_34 : decode cX0_save 34 = .ok (.aload_n 0, 1) := by decide +kernel
theorem dX0_save_35 : decode cX0_save 35 = .ok (.dup, 1) := by decide +kernel
theorem dX0_save_36 : decode cX0_save 36 = .ok (.getfield 18, 3) := by decide +kernel
theorem dX0_save_39 : decode cX0_save 39 = .ok (.iconst 1, 1) := by decide +kernel
theorem dX0_save_40 : decode cX0_save 40 = .ok (.iadd, 1) := by decide +kernel
theorem dX0_save_41 : decode cX0_save 41 = .ok (.putfield 18, 3) := by decide +kernel
theorem dX0_save_44 : decode cX0_save 44 = .ok (.return_, 1) := by decide +kernel
set_option maxRecDepth 20000 in
theorem ggX0_restore_X0_stateAt : GoodIn wsX0_restore wsX0_stateAt := goodIn_r _ [6, 7, 41, 42] (by decide +kernel) (by decide +kernel)
set_option maxRecDepth 20000 in
theorem gX0_restore_X0_stateAt : GoodIn wsX0_restore (wsV RX0 25 RX0 yX0_stateAt wsX0_stateAt) := goodIn_app (goodIn_of _ (by decide +kernel)) ggX0_restore_X0_stateAt
set_option maxRecDepth 20000 in
theorem ggX0_restore_X2_copyFrom : GoodIn wsX0_restore wsX2_copyFrom := goodIn_r _ [12, 13, 14, 15, 16, 17, 18, 19, 20, 21, 22, 23, 24, 25, 26, 27, 28, 29, 30, 31, 32, 33, 34, 35, 36, 37, 38, 39, 40, 43, 44, 45, 46, 47, 48, 49, 50, 51, 52, 53, 54, 55] (by decide +kernel) (by decide +kernel)
set_option maxRecDepth 20000 in
theorem gX0_restore_X2_copyFrom : GoodIn wsX0_restore (wsV RX0 29 RX2 yX2_copyFrom wsX2_copyFrom) := goodIn_app (goodIn_of _ (by decide +kernel)) ggX0_restore_X2_copyFrom
theorem dX0_restore_0 : decode cX0_restore 0 = .ok (.aload_n 0, 1) := by decide +kernel
theorem dX0_restore_1 : decode cX0_restore 1 = .ok (.aload_n 0, 1) := by decide +kernel
theorem dX0_restore_2 : decode cX0_restore 2 = .ok (.getfield 18, 3) := by decide +kernel
theorem dX0_restore_5 : decode cX0_restore 5 = .ok (.iconst 1, 1) := by decide +kernel
theorem dX0_restore_6 : decode cX0_restore 6 = .ok (.isub, 1) := by decide +kernel
theorem dX0_restore_7 : decode cX0_restore 7 = .ok (.invokevirtual 25, 3) := by decide +kernel
theorem dX0_restore_10 : decode cX0_restore 10 = .ok (.astore_n 2, 1) := by decide +kernel
theorem dX0_restore_11 : decode cX0_restore 11 = .ok (.aload_n 2, 1) := by decide +kernel
theorem dX0_restore_12 : decode cX0_restore 12 = .ok (.ifnull 18, 3) := by decide +kernel
theorem dX0_restore_15 : decode cX0_restore 15 = .ok (.aload_n 1, 1) := by decide +kernel
theorem dX0_restore_16 : decode cX0_restore 16 = .ok (.aload_n 2, 1) := by decide +kernel
theorem dX0_restore_17 : decode cX0_restore 17 = .ok (.invokevirtual 29, 3) := by decide +kernel
theorem dX0_restore_20 : decode cX0_restore 20 = .ok (.aload_n 0, 1) := by decide +kernel
theorem dX0_restore_21 : decode cX0_restore 21 = .ok (.dup, 1) := by decide +kernel
theorem dX0_restore_22 : decode cX0_restore 22 = .ok (.getfield 18, 3) := by decide +kernel
theorem dX0_restore_25 : decode cX0_restore 25 = .ok (.iconst 1, 1) := by decide +kernel
theorem dX0_restore_26 : decode cX0_restore 26 = .ok (.isub, 1) := by decide +kernel
theorem dX0_restore_27 : decode cX0_restore 27 = .ok (.putfield 18, 3) := by decide +kernel
theorem dX0_restore_30 : decode cX0_restore 30 = .ok (.return_, 1) := by decide +kernel
theorem dX0_stateAt_0 : decode cX0_stateAt 0 = .ok (.iload_n 1, 1) := by decide +kernel
theorem dX0_stateAt_1 : decode cX0_stateAt 1 = .ok (.ifCond .lt 21, 3) := by decide +kernel
theorem dX0_stateAt_4 : decode cX0_stateAt 4 = .ok (.iload_n 1, 1) := by decide +kernel
theorem dX0_stateAt_5 : decode cX0_stateAt 5 = .ok (.aload_n 0, 1) := by decide +kernel
theorem dX0_stateAt_6 : decode cX0_stateAt 6 = .ok (.getfield 11, 3) := by decide +kernel
theorem dX0_stateAt_9 : decode cX0_stateAt 9 = .ok (.arraylength, 1) := by decide +kernel
theorem dX0_stateAt_10 : decode cX0_stateAt 10 = .ok (.if_icmp .ge 12, 3) := by decide +kernel
theorem dX0_stateAt_13 : decode cX0_stateAt 13 = .ok (.aload_n 0, 1) := by decide +kernel
theorem dX0_stateAt_14 : decode cX0_stateAt 14 = .ok (.getfield 11, 3) := by decide +kernel
theorem dX0_stateAt_17 : decode cX0_stateAt 17 = .ok (.iload_n 1, 1) := by decide +kernel
theorem dX0_stateAt_18 : decode cX0_stateAt 18 = .ok (.aaload, 1) := by decide +kernel
theorem dX0_stateAt_19 : decode cX0_stateAt 19 = .ok (.goto 4, 3) := by decide +kernel
theorem dX0_stateAt_22 : decode cX0_stateAt 22 = .ok (.aconst_null, 1) := by decide +kernel
theorem dX0_stateAt_23 : decode cX0_stateAt 23 = .ok (.areturn, 1) := by decide +kernel
set_option maxRecDepth 20000 in
theorem ggX0_dropOldest_X0_stateAt : GoodIn wsX0_dropOldest wsX0_stateAt := goodIn_r _ [7, 1, 8, 9] (by decide +kernel) (by decide +kernel)
set_option maxRecDepth 20000 in
theorem gX0_dropOldest_X0_stateAt : GoodIn wsX0_dropOldest (wsV RX0 25 RX0 yX0_stateAt wsX0_stateAt) := goodIn_app (goodIn_of _ (by decide +kernel)) ggX0_dropOldest_X0_stateAt
theorem dX0_dropOldest_0 : decode cX0_dropOldest 0 = .ok (.aload_n 0, 1) := by decide +kernel
theorem dX0_dropOldest_1 : decode cX0_dropOldest 1 = .ok (.iconst 0, 1) := by decide +kernel
theorem dX0_dropOldest_2 : decode cX0_dropOldest 2 = .ok (.invokevirtual 25, 3) := by decide +kernel
theorem dX0_dropOldest_5 : decode cX0_dropOldest 5 = .ok (.astore_n 1, 1) := by decide +kernel
theorem dX0_dropOldest_6 : decode cX0_dropOldest 6 = .ok (.aload_n 0, 1) := by decide +kernel
theorem dX0_dropOldest_7 : decode cX0_dropOldest 7 = .ok (.getfield 11, 3) := by decide +kernel
theorem dX0_dropOldest_10 : decode cX0_dropOldest 10 = .ok (.arraylength, 1) := by decide +kernel
theorem dX0_dropOldest_11 : decode cX0_dropOldest 11 = .ok (.iconst 1, 1) := by decide +kernel
theorem dX0_dropOldest_12 : decode cX0_dropOldest 12 = .ok (.isub, 1) := by decide +kernel
theorem dX0_dropOldest_13 : decode cX0_dropOldest 13 = .ok (.istore_n 2, 1) := by decide +kernel
theorem dX0_dropOldest_14 : decode cX0_dropOldest 14 = .ok (.iconst 0, 1) := by decide +kernel
theorem dX0_dropOldest_15 : decode cX0_dropOldest 15 = .ok (.istore_n 3, 1) := by decide +kernel
theorem dX0_dropOldest_16 : decode cX0_dropOldest 16 = .ok (.iload_n 3, 1) := by decide +kernel
theorem dX0_dropOldest_17 : decode cX0_dropOldest 17 = .ok (.iload_n 2, 1) := by decide +kernel
theorem dX0_dropOldest_18 : decode cX0_dropOldest 18 = .ok (.if_icmp .ge 23, 3) := by decide +kernel
theorem dX0_dropOldest_21 : decode cX0_dropOldest 21 = .ok (.aload_n 0, 1) := by decide +kernel
theorem dX0_dropOldest_22 : decode cX0_dropOldest 22 = .ok (.getfield 11, 3) := by decide +kernel
theorem dX0_dropOldest_25 : decode cX0_dropOldest 25 = .ok (.iload_n 3, 1) := by decide +kernel
theorem dX0_dropOldest_26 : decode cX0_dropOldest 26 = .ok (.aload_n 0, 1) := by decide +kernel
theorem dX0_dropOldest_27 : decode cX0_dropOldest 27 = .ok (.getfield 11, 3) := by decide +kernel
theorem dX0_dropOldest_30 : decode cX0_dropOldest 30 = .ok (.iload_n 3, 1) := by decide +kernel
theorem dX0_dropOldest_31 : decode cX0_dropOldest 31 = .ok (.iconst 1, 1) := by decide +kernel
theorem dX0_dropOldest_32 : decode cX0_dropOldest 32 = .ok (.iadd, 1) := by decide +kernel
theorem dX0_dropOldest_33 : decode cX0_dropOldest 33 = .ok (.aaload, 1) := by decide +kernel
theorem dX0_dropOldest_34 : decode cX0_dropOldest 34 = .ok (.aastore, 1) := by decide +kernel
theorem dX0_dropOldest_35 : decode cX0_dropOldest 35 = .ok (.iinc 3 1, 3) := by decide +kernel
theorem dX0_dropOldest_38 : decode cX0_dropOldest 38 = .ok (.goto (-22), 3) := by decide +kernel
theorem dX0_dropOldest_41 : decode cX0_dropOldest 41 = .ok (.iload_n 2, 1) := by decide +kernel
theorem dX0_dropOldest_42 : decode cX0_dropOldest 42 = .ok (.ifCond .lt 15, 3) := by decide +kernel
theorem dX0_dropOldest_45 : decode cX0_dropOldest 45 = .ok (.aload_n 0, 1) := by decide +kernel
theorem dX0_dropOldest_46 : decode cX0_dropOldest 46 = .ok (.getfield 11, 3) := by decide +kernel
theorem dX0_dropOldest_49 : decode cX0_dropOldest 49 = .ok (.iload_n 2, 1) := by decide +kernel
theorem dX0_dropOldest_50 : decode cX0_dropOldest 50 = .ok (.aload_n 1, 1) := by decide +kernel
theorem dX0_dropOldest_51 : decode cX0_dropOldest 51 = .ok (.aastore, 1) := by decide +kernel
theorem dX0_dropOldest_52 : decode cX0_dropOldest 52 = .ok (.aload_n 0, 1) := by decide +kernel
theorem dX0_dropOldest_53 : decode cX0_dropOldest 53 = .ok (.iload_n 2, 1) := by decide +kernel
theorem dX0_dropOldest_54 : decode cX0_dropOldest 54 = .ok (.putfield 18, 3) := by decide +kernel
theorem dX0_dropOldest_57 : decode cX0_dropOldest 57 = .ok (.return_, 1) := by decide +kernel
theorem dX1_init_0 : decode cX1_init 0 = .ok (.aload_n 0, 1) := by decide +kernel
theorem dX1_init_1 : decode cX1_init 1 = .ok (.invokespecial 3, 3) := by decide +kernel
theorem dX1_init_4 : decode cX1_init 4 = .ok (.aload_n 0, 1) := by decide +kernel
theorem dX1_init_5 : decode cX1_init 5 = .ok (.bipush 100, 2) := by decide +kernel
theorem dX1_init_7 : decode cX1_init 7 = .ok (.newarray .int, 2) := by decide +kernel
theorem dX1_init_9 : decode cX1_init 9 = .ok (.putfield 9, 3) := by decide +kernel
theorem dX1_init_12 : decode cX1_init 12 = .ok (.aload_n 0, 1) := by decide +kernel
theorem dX1_init_13 : decode cX1_init 13 = .ok (.bipush 20, 2) := by decide +kernel
theorem dX1_init_15 : decode cX1_init 15 = .ok (.newarray .int, 2) := by decide +kernel
theorem dX1_init_17 : decode cX1_init 17 = .ok (.putfield 15, 3) := by decide +kernel
theorem dX1_init_20 : decode cX1_init 20 = .ok (.aload_n 0, 1) := by decide +kernel
theorem dX1_init_21 : decode cX1_init 21 = .ok (.bipush 20, 2) := by decide +kernel
theorem dX1_init_23 : decode cX1_init 23 = .ok (.newarray .int, 2) := by decide +kernel
theorem dX1_init_25 : decode cX1_init 25 = .ok (.putfield 18, 3) := by decide +kernel
theorem dX1_init_28 : decode cX1_init 28 = .ok (.aload_n 0, 1) := by decide +kernel
theorem dX1_init_29 : decode cX1_init 29 = .ok (.bipush 20, 2) := by decide +kernel
theorem dX1_init_31 : decode cX1_init 31 = .ok (.newarray .int, 2) := by decide +kernel
theorem dX1_init_33 : decode cX1_init 33 = .ok (.putfield 21, 3) := by decide +kernel
theorem dX1_init_36 : decode cX1_init 36 = .ok (.return_, 1) := by decide +kernel
set_option maxRecDepth 20000 in
theorem ggX1_write_X4_put : GoodIn wsX1_write wsX4_put := goodIn_r _ [5] (by decide +kernel) (by decide +kernel)
set_option maxRecDepth 20000 in
theorem gX1_write_X4_put_n28 : GoodIn wsX1_write (wsX4_put) := ggX1_write_X4_put
theorem dX1_write_0 : decode cX1_write 0 = .ok (.aload_n 0, 1) := by decide +kernel
theorem dX1_write_1 : decode cX1_write 1 = .ok (.getfield 24, 3) := by decide +kernel
theorem dX1_write_4 : decode cX1_write 4 = .ok (.aload_n 0, 1) := by decide +kernel
theorem dX1_write_5 : decode cX1_write 5 = .ok (.getfield 9, 3) := by decide +kernel
theorem dX1_write_8 : decode cX1_write 8 = .ok (.arraylength, 1) := by decide +kernel
theorem dX1_write_9 : decode cX1_write 9 = .ok (.if_icmp .ge 25, 3) := by decide +kernel
theorem dX1_write_12 : decode cX1_write 12 = .ok (.aload_n 0, 1) := by decide +kernel
theorem dX1_write_13 : decode cX1_write 13 = .ok (.getfield 9, 3) := by decide +kernel
theorem dX1_write_16 : decode cX1_write 16 = .ok (.aload_n 0, 1) := by decide +kernel
theorem dX1_write_17 : decode cX1_write 17 = .ok (.getfield 24, 3) := by decide +kernel
theorem dX1_write_20 : decode cX1_write 20 = .ok (.iload_n 1, 1) := by decide +kernel
theorem dX1_write_21 : decode cX1_write 21 = .ok (.invokestatic 28, 3) := by decide +kernel
theorem dX1_write_24 : decode cX1_write 24 = .ok (.aload_n 0, 1) := by decide +kernel
theorem dX1_write_25 : decode cX1_write 25 = .ok (.dup, 1) := by decide +kernel
theorem dX1_write_26 : decode cX1_write 26 = .ok (.getfield 24, 3) := by decide +kernel
theorem dX1_write_29 : decode cX1_write 29 = .ok (.iconst 1, 1) := by decide +kernel
theorem dX1_write_30 : decode cX1_write 30 = .ok (.iadd, 1) := by decide +kernel
theorem dX1_write_31 : decode cX1_write 31 = .ok (.putfield 24, 3) := by decide +kernel
theorem dX1_write_34 : decode cX1_write 34 = .ok (.return_, 1) := by decide +kernel
set_option maxRecDepth 20000 in
theorem ggX1_read_X4_at : GoodIn wsX1_read wsX4_at := goodIn_r _ [7] (by decide +kernel) (by decide +kernel)
set_option maxRecDepth 20000 in
theorem gX1_read_X4_at_n38 : GoodIn wsX1_read (wsX4_at) := ggX1_read_X4_at
set_option maxRecDepth 20000 in
theorem ggX1_read_X1_take : GoodIn wsX1_read wsX1_take := goodIn_r _ [12, 2, 13, 14, 15, 16, 17, 11, 18, 19, 20, 21, 22, 23, 24, 25, 26, 27, 28, 29, 30, 31, 32, 33, 34, 35, 36, 37, 38, 39, 1, 40, 41, 42, 6, 43, 44, 45, 46, 47, 48, 49, 50, 51, 52, 53, 54, 55, 56, 57, 58, 59, 60] (by decide +kernel) (by decide +kernel)
set_option maxRecDepth 20000 in
theorem gX1_read_X1_take : GoodIn wsX1_read (wsV RX1 42 RX1 yX1_take wsX1_take) := goodIn_app (goodIn_of _ (by decide +kernel)) ggX1_read_X1_take
theorem dX1_read_0 : decode cX1_read 0 = .ok (.aload_n 0, 1) := by decide +kernel
theorem dX1_read_1 : decode cX1_read 1 = .ok (.iconst 0, 1) := by decide +kernel
theorem dX1_read_2 : decode cX1_read 2 = .ok (.putfield 32, 3) := by decide +kernel
theorem dX1_read_5 : decode cX1_read 5 = .ok (.aload_n 0, 1) := by decide +kernel
theorem dX1_read_6 : decode cX1_read 6 = .ok (.iconst 0, 1) := by decide +kernel
theorem dX1_read_7 : decode cX1_read 7 = .ok (.putfield 35, 3) := by decide +kernel
theorem dX1_read_10 : decode cX1_read 10 = .ok (.iconst 0, 1) := by decide +kernel
theorem dX1_read_11 : decode cX1_read 11 = .ok (.istore_n 1, 1) := by decide +kernel
theorem dX1_read_12 : decode cX1_read 12 = .ok (.iload_n 1, 1) := by decide +kernel
theorem dX1_read_13 : decode cX1_read 13 = .ok (.aload_n 0, 1) := by decide +kernel
theorem dX1_read_14 : decode cX1_read 14 = .ok (.getfield 24, 3) := by decide +kernel
theorem dX1_read_17 : decode cX1_read 17 = .ok (.if_icmp .ge 26, 3) := by decide +kernel
theorem dX1_read_20 : decode cX1_read 20 = .ok (.aload_n 0, 1) := by decide +kernel
theorem dX1_read_21 : decode cX1_read 21 = .ok (.aload_n 0, 1) := by decide +kernel
theorem dX1_read_22 : decode cX1_read 22 = .ok (.getfield 9, 3) := by decide +kernel
theorem dX1_read_25 : decode cX1_read 25 = .ok (.iload_n 1, 1) := by decide +kernel
theorem dX1_read_26 : decode cX1_read 26 = .ok (.invokestatic 38, 3) := by decide +kernel
theorem dX1_read_29 : decode cX1_read 29 = .ok (.invokevirtual 42, 3) := by decide +kernel
theorem dX1_read_32 : decode cX1_read 32 = .ok (.ifCond .ne 5, 3) := by decide +kernel
theorem dX1_read_35 : decode cX1_read 35 = .ok (.iload_n 1, 1) := by decide +kernel
theorem dX1_read_36 : decode cX1_read 36 = .ok (.ireturn, 1) := by decide +kernel
theorem dX1_read_37 : decode cX1_read 37 = .ok (.iinc 1 1, 3) := by decide +kernel
theorem dX1_read_40 : decode cX1_read 40 = .ok (.goto (-28), 3) := by decide +kernel
theorem dX1_read_43 : decode cX1_read 43 = .ok (.aload_n 0, 1) := by decide +kernel
theorem dX1_read_44 : decode cX1_read 44 = .ok (.getfield 35, 3) := by decide +kernel
theorem dX1_read_47 : decode cX1_read 47 = .ok (.ifCond .ne 7, 3) := by decide +kernel
theorem dX1_read_50 : decode cX1_read 50 = .ok (.iconst (-1), 1) := by decide +kernel
theorem dX1_read_51 : decode cX1_read 51 = .ok (.goto 7, 3) := by decide +kernel
theorem dX1_read_54 : decode cX1_read 54 = .ok (.aload_n 0, 1) := by decide +kernel
theorem dX1_read_55 : decode cX1_read 55 = .ok (.getfield 24, 3) := by decide +kernel
theorem dX1_read_58 : decode cX1_read 58 = .ok (.ireturn, 1) := by decide +kernel
set_option maxRecDepth 20000 in
theorem ggX1_take_X1_takeLeft : GoodIn wsX1_take wsX1_takeLeft := goodIn_r _ [8, 2, 9, 10, 11, 7, 12, 3, 13, 14, 15, 16, 1, 44, 45, 46, 47, 48, 49, 50, 51, 52] (by decide +kernel) (by decide +kernel)
set_option maxRecDepth 20000 in
theorem gX1_take_X1_takeLeft : GoodIn wsX1_take (wsV RX1 52 RX1 yX1_takeLeft wsX1_takeLeft) := goodIn_app (goodIn_of _ (by decide +kernel)) ggX1_take_X1_takeLeft
set_option maxRecDepth 20000 in
theorem ggX1_take_X1_goTo : GoodIn wsX1_take wsX1_goTo := goodIn_r _ [16, 1, 44, 45, 46, 47, 48, 49, 50, 51, 52] (by decide +kernel) (by decide +kernel)
set_option maxRecDepth 20000 in
theorem gX1_take_X1_goTo : GoodIn wsX1_take (wsV RX1 55 RX1 yX1_goTo wsX1_goTo) := goodIn_app (goodIn_of _ (by decide +kernel)) ggX1_take_X1_goTo
set_option maxRecDepth 20000 in
theorem ggX1_take_X1_takeRight : GoodIn wsX1_take wsX1_takeRight := goodIn_r _ [20, 3, 9, 10, 11, 7, 12, 2, 13, 14, 15, 16, 1, 44, 45, 46, 47, 48, 49, 50, 51, 52] (by decide +kernel) (by decide +kernel)
set_option maxRecDepth 20000 in
theorem gX1_take_X1_takeRight : GoodIn wsX1_take (wsV RX1 58 RX1 yX1_takeRight wsX1_takeRight) := goodIn_app (goodIn_of _ (by decide +kernel)) ggX1_take_X1_takeRight
set_option maxRecDepth 20000 in
theorem ggX1_take_X1_takeDeed : GoodIn wsX1_take wsX1_takeDeed := goodIn_r _ [24, 13, 14, 15, 7, 16, 1, 25, 26, 27, 28, 29, 30, 2, 31, 3, 32, 33, 34, 35, 44, 45, 46, 47, 48, 49, 50, 51, 52] (by decide +kernel) (by decide +kernel)
set_option maxRecDepth 20000 in
theorem gX1_take_X1_takeDeed : GoodIn wsX1_take (wsV RX1 61 RX1 yX1_takeDeed wsX1_takeDeed) := goodIn_app (goodIn_of _ (by decide +kernel)) ggX1_take_X1_takeDeed
set_option maxRecDepth 20000 in
theorem ggX1_take_X1_takeAnswer : GoodIn wsX1_take wsX1_takeAnswer := goodIn_r _ [39, 25, 26, 27, 7, 28, 29, 30, 2, 31, 3, 32, 33, 34, 35, 13, 14, 15, 16, 1, 44, 45, 46, 47, 48, 49, 50, 51, 52] (by decide +kernel) (by decide +kernel)
set_option maxRecDepth 20000 in
theorem gX1_take_X1_takeAnswer : GoodIn wsX1_take (wsV RX1 64 RX1 yX1_takeAnswer wsX1_takeAnswer) := goodIn_app (goodIn_of _ (by decide +kernel)) ggX1_take_X1_takeAnswer
set_option maxRecDepth 20000 in
theorem ggX1_take_X1_close : GoodIn wsX1_take wsX1_close := goodIn_r _ [43, 30, 13, 14, 15, 7, 16, 1, 44, 45, 46, 47, 48, 49, 50, 51, 52] (by decide +kernel) (by decide +kernel)
set_option maxRecDepth 20000 in
theorem gX1_take_X1_close : GoodIn wsX1_take (wsV RX1 67 RX1 yX1_close wsX1_close) := goodIn_app (goodIn_of _ (by decide +kernel)) ggX1_take_X1_close
theorem dX1_take_0 : decode cX1_take 0 = .ok (.aload_n 0, 1) := by decide +kernel
theorem dX1_take_1 : decode cX1_take 1 = .ok (.getfield 35, 3) := by decide +kernel
theorem dX1_take_4 : decode cX1_take 4 = .ok (.tableswitch 106 0 4 #[36, 52, 72, 78, 100], 36) := by decide +kernel
theorem dX1_take_40 : decode cX1_take 40 = .ok (.aload_n 0, 1) := by decide +kernel
theorem dX1_take_41 : decode cX1_take 41 = .ok (.iconst 0, 1) := by decide +kernel
theorem dX1_take_42 : decode cX1_take 42 = .ok (.putfield 46, 3) := by decide +kernel
theorem dX1_take_45 : decode cX1_take 45 = .ok (.aload_n 0, 1) := by decide +kernel
theorem dX1_take_46 : decode cX1_take 46 = .ok (.iconst 0, 1) := by decide +kernel
theorem dX1_take_47 : decode cX1_take 47 = .ok (.putfield 49, 3) := by decide +kernel
theorem dX1_take_50 : decode cX1_take 50 = .ok (.aload_n 0, 1) := by decide +kernel
theorem dX1_take_51 : decode cX1_take 51 = .ok (.iload_n 1, 1) := by decide +kernel
theorem dX1_take_52 : decode cX1_take 52 = .ok (.invokevirtual 52, 3) := by decide +kernel
theorem dX1_take_55 : decode cX1_take 55 = .ok (.ireturn, 1) := by decide +kernel
theorem dX1_take_56 : decode cX1_take 56 = .ok (.iload_n 1, 1) := by decide +kernel
theorem dX1_take_57 : decode cX1_take 57 = .ok (.bipush 47, 2) := by decide +kernel
theorem dX1_take_59 : decode cX1_take 59 = .ok (.if_icmp .ne 11, 3) := by decide +kernel
theorem dX1_take_62 : decode cX1_take 62 = .ok (.aload_n 0, 1) := by decide +kernel
theorem dX1_take_63 : decode cX1_take 63 = .ok (.iconst 2, 1) := by decide +kernel
theorem dX1_take_64 : decode cX1_take 64 = .ok (.invokevirtual 55, 3) := by decide +kernel
theorem dX1_take_67 : decode cX1_take 67 = .ok (.goto 8, 3) := by decide +kernel
theorem dX1_take_70 : decode cX1_take 70 = .ok (.aload_n 0, 1) := by decide +kernel
theorem dX1_take_71 : decode cX1_take 71 = .ok (.iload_n 1, 1) := by decide +kernel
theorem dX1_take_72 : decode cX1_take 72 = .ok (.invokevirtual 52, 3) := by decide +kernel
theorem dX1_take_75 : decode cX1_take 75 = .ok (.ireturn, 1) := by decide +kernel
theorem dX1_take_76 : decode cX1_take 76 = .ok (.aload_n 0, 1) := by decide +kernel
theorem dX1_take_77 : decode cX1_take 77 = .ok (.iload_n 1, 1) := by decide +kernel
theorem dX1_take_78 : decode cX1_take 78 = .ok (.invokevirtual 58, 3) := by decide +kernel
theorem dX1_take_81 : decode cX1_take 81 = .ok (.ireturn, 1) := by decide +kernel
theorem dX1_take_82 : decode cX1_take 82 = .ok (.aload_n 0, 1) := by decide +kernel
theorem dX1_take_83 : decode cX1_take 83 = .ok (.iload_n 1, 1) := by decide +kernel
theorem dX1_take_84 : decode cX1_take 84 = .ok (.invokevirtual 61, 3) := by decide +kernel
theorem dX1_take_87 : decode cX1_take 87 = .ok (.ifCond .ne 11, 3) := by decide +kernel
theorem dX1_take_90 : decode cX1_take 90 = .ok (.aload_n 0, 1) := by decide +kernel
theorem dX1_take_91 : decode cX1_take 91 = .ok (.iload_n 1, 1) := by decide +kernel
theorem dX1_take_92 : decode cX1_take 92 = .ok (.invokevirtual 58, 3) := by decide +kernel
theorem dX1_take_95 : decode cX1_take 95 = .ok (.ifCond .eq 7, 3) := by decide +kernel
theorem dX1_take_98 : decode cX1_take 98 = .ok (.iconst 1, 1) := by decide +kernel
theorem dX1_take_99 : decode cX1_take 99 = .ok (.goto 4, 3) := by decide +kernel
theorem dX1_take_102 : decode cX1_take 102 = .ok (.iconst 0, 1) := by decide +kernel
theorem dX1_take_103 : decode cX1_take 103 = .ok (.ireturn, 1) := by decide +kernel
theorem dX1_take_104 : decode cX1_take 104 = .ok (.aload_n 0, 1) := by decide +kernel
theorem dX1_take_105 : decode cX1_take 105 = .ok (.iload_n 1, 1) := by decide +kernel
theorem dX1_take_106 : decode cX1_take 106 = .ok (.invokevirtual 64, 3) := by decide +kernel
theorem dX1_take_109 : decode cX1_take 109 = .ok (.ireturn, 1) := by decide +kernel
theorem dX1_take_110 : decode cX1_take 110 = .ok (.iload_n 1, 1) := by decide +kernel
theorem dX1_take_111 : decode cX1_take 111 = .ok (.bipush 59, 2) := by decide +kernel
theorem dX1_take_113 : decode cX1_take 113 = .ok (.if_icmp .ne 14, 3) := by decide +kernel
theorem dX1_take_116 : decode cX1_take 116 = .ok (.aload_n 0, 1) := by decide +kernel
theorem dX1_take_117 : decode cX1_take 117 = .ok (.invokevirtual 67, 3) := by decide +kernel
theorem dX1_take_120 : decode cX1_take 120 = .ok (.ifCond .eq 7, 3) := by decide +kernel
theorem dX1_take_123 : decode cX1_take 123 = .ok (.iconst 1, 1) := by decide +kernel
theorem dX1_take_124 : decode cX1_take 124 = .ok (.goto 4, 3) := by decide +kernel
theorem dX1_take_127 : decode cX1_take 127 = .ok (.iconst 0, 1) := by decide +kernel
theorem dX1_take_128 : decode cX1_take 128 = .ok (.ireturn, 1) := by decide +kernel
theorem dX1_goTo_0 : decode cX1_goTo 0 = .ok (.aload_n 0, 1) := by decide +kernel
theorem dX1_goTo_1 : decode cX1_goTo 1 = .ok (.iload_n 1, 1) := by decide +kernel
theorem dX1_goTo_2 : decode cX1_goTo 2 = .ok (.putfield 35, 3) := by decide +kernel
theorem dX1_goTo_5 : decode cX1_goTo 5 = .ok (.iconst 1, 1) := by decide +kernel
theorem dX1_goTo_6 : decode cX1_goTo 6 = .ok (.ireturn, 1) := by decide +kernel
theorem dX1_coinOf_0 : decode cX1_coinOf 0 = .ok (.iload_n 1, 1) := by decide +kernel
theorem dX1_coinOf_1 : decode cX1_coinOf 1 = .ok (.bipush 97, 2) := by decide +kernel
theorem dX1_coinOf_3 : decode cX1_coinOf 3 = .ok (.if_icmp .lt 9, 3) := by decide +kernel
theorem dX1_coinOf_6 : decode cX1_coinOf 6 = .ok (.iload_n 1, 1) := by decide +kernel
theorem dX1_coinOf_7 : decode cX1_coinOf 7 = .ok (.bipush 112, 2) := by decide +kernel
theorem dX1_coinOf_9 : decode cX1_coinOf 9 = .ok (.if_icmp .le 5, 3) := by decide +kernel
theorem dX1_coinOf_12 : decode cX1_coinOf 12 = .ok (.iconst 0, 1) := by decide +kernel
theorem dX1_coinOf_13 : decode cX1_coinOf 13 = .ok (.ireturn, 1) := by decide +kernel
theorem dX1_coinOf_14 : decode cX1_coinOf 14 = .ok (.iconst 1, 1) := by decide +kernel
theorem dX1_coinOf_15 : decode cX1_coinOf 15 = .ok (.iload_n 1, 1) := by decide +kernel
theorem dX1_coinOf_16 : decode cX1_coinOf 16 = .ok (.bipush 97, 2) := by decide +kernel
theorem dX1_coinOf_18 : decode cX1_coinOf 18 = .ok (.isub, 1) := by decide +kernel
theorem dX1_coinOf_19 : decode cX1_coinOf 19 = .ok (.ishl, 1) := by decide +kernel
theorem dX1_coinOf_20 : decode cX1_coinOf 20 = .ok (.aload_n 0, 1) := by decide +kernel
theorem dX1_coinOf_21 : decode cX1_coinOf 21 = .ok (.getfield 46, 3) := by decide +kernel
theorem dX1_coinOf_24 : decode cX1_coinOf 24 = .ok (.aload_n 0, 1) := by decide +kernel
theorem dX1_coinOf_25 : decode cX1_coinOf 25 = .ok (.getfield 49, 3) := by decide +kernel
theorem dX1_coinOf_28 : decode cX1_coinOf 28 = .ok (.ior, 1) := by decide +kernel
theorem dX1_coinOf_29 : decode cX1_coinOf 29 = .ok (.iconst (-1), 1) := by decide +kernel
theorem dX1_coinOf_30 : decode cX1_coinOf 30 = .ok (.ixor, 1) := by decide +kernel
theorem dX1_coinOf_31 : decode cX1_coinOf 31 = .ok (.iand, 1) := by decide +kernel
theorem dX1_coinOf_32 : decode cX1_coinOf 32 = .ok (.ireturn, 1) := by decide +kernel
set_option maxRecDepth 20000 in
theorem ggX1_takeLeft_X1_coinOf : GoodIn wsX1_takeLeft wsX1_coinOf := goodIn_r _ [6, 1, 7, 13, 14, 15, 16, 17, 18, 19, 20, 21] (by decide +kernel) (by decide +kernel)
set_option maxRecDepth 20000 in
theorem gX1_takeLeft_X1_coinOf : GoodIn wsX1_takeLeft (wsV RX1 71 RX1 yX1_coinOf wsX1_coinOf) := goodIn_app (goodIn_of _ (by decide +kernel)) ggX1_takeLeft_X1_coinOf
set_option maxRecDepth 20000 in
theorem ggX1_takeLeft_X1_goTo : GoodIn wsX1_takeLeft wsX1_goTo := goodIn_r _ [11, 12, 13, 14, 15, 16, 17, 18, 19, 20, 21] (by decide +kernel) (by decide +kernel)
set_option maxRecDepth 20000 in
theorem gX1_takeLeft_X1_goTo : GoodIn wsX1_takeLeft (wsV RX1 55 RX1 yX1_goTo wsX1_goTo) := goodIn_app (goodIn_of _ (by decide +kernel)) ggX1_takeLeft_X1_goTo
theorem dX1_takeLeft_0 : decode cX1_takeLeft 0 = .ok (.aload_n 0, 1) := by decide +kernel
theorem dX1_takeLeft_1 : decode cX1_takeLeft 1 = .ok (.iload_n 1, 1) := by decide +kernel
theorem dX1_takeLeft_2 : decode cX1_takeLeft 2 = .ok (.invokevirtual 71, 3) := by decide +kernel
theorem dX1_takeLeft_5 : decode cX1_takeLeft 5 = .ok (.istore_n 2, 1) := by decide +kernel
theorem dX1_takeLeft_6 : decode cX1_takeLeft 6 = .ok (.aload_n 0, 1) := by decide +kernel
theorem dX1_takeLeft_7 : decode cX1_takeLeft 7 = .ok (.dup, 1) := by decide +kernel
theorem dX1_takeLeft_8 : decode cX1_takeLeft 8 = .ok (.getfield 46, 3) := by decide +kernel
theorem dX1_takeLeft_11 : decode cX1_takeLeft 11 = .ok (.iload_n 2, 1) := by decide +kernel
theorem dX1_takeLeft_12 : decode cX1_takeLeft 12 = .ok (.ior, 1) := by decide +kernel
theorem dX1_takeLeft_13 : decode cX1_takeLeft 13 = .ok (.putfield 46, 3) := by decide +kernel
theorem dX1_takeLeft_16 : decode cX1_takeLeft 16 = .ok (.iload_n 2, 1) := by decide +kernel
theorem dX1_takeLeft_17 : decode cX1_takeLeft 17 = .ok (.ifCond .eq 15, 3) := by decide +kernel
theorem dX1_takeLeft_20 : decode cX1_takeLeft 20 = .ok (.aload_n 0, 1) := by decide +kernel
theorem dX1_takeLeft_21 : decode cX1_takeLeft 21 = .ok (.iconst 1, 1) := by decide +kernel
theorem dX1_takeLeft_22 : decode cX1_takeLeft 22 = .ok (.invokevirtual 55, 3) := by decide +kernel
theorem dX1_takeLeft_25 : decode cX1_takeLeft 25 = .ok (.ifCond .eq 7, 3) := by decide +kernel
theorem dX1_takeLeft_28 : decode cX1_takeLeft 28 = .ok (.iconst 1, 1) := by decide +kernel
theorem dX1_takeLeft_29 : decode cX1_takeLeft 29 = .ok (.goto 4, 3) := by decide +kernel
theorem dX1_takeLeft_32 : decode cX1_takeLeft 32 = .ok (.iconst 0, 1) := by decide +kernel
theorem dX1_takeLeft_33 : decode cX1_takeLeft 33 = .ok (.ireturn, 1) := by decide +kernel
set_option maxRecDepth 20000 in
theorem ggX1_takeRight_X1_coinOf : GoodIn wsX1_takeRight wsX1_coinOf := goodIn_r _ [6, 7, 1, 13, 14, 15, 16, 17, 18, 19, 20, 21] (by decide +kernel) (by decide +kernel)
set_option maxRecDepth 20000 in
theorem gX1_takeRight_X1_coinOf : GoodIn wsX1_takeRight (wsV RX1 71 RX1 yX1_coinOf wsX1_coinOf) := goodIn_app (goodIn_of _ (by decide +kernel)) ggX1_takeRight_X1_coinOf
set_option maxRecDepth 20000 in
theorem ggX1_takeRight_X1_goTo : GoodIn wsX1_takeRight wsX1_goTo := goodIn_r _ [11, 12, 13, 14, 15, 16, 17, 18, 19, 20, 21] (by decide +kernel) (by decide +kernel)
set_option maxRecDepth 20000 in
theorem gX1_takeRight_X1_goTo : GoodIn wsX1_takeRight (wsV RX1 55 RX1 yX1_goTo wsX1_goTo) := goodIn_app (goodIn_of _ (by decide +kernel)) ggX1_takeRight_X1_goTo
theorem dX1_takeRight_0 : decode cX1_takeRight 0 = .ok (.aload_n 0, 1) := by decide +kernel
theorem dX1_takeRight_1 : decode cX1_takeRight 1 = .ok (.iload_n 1, 1) := by decide +kernel
theorem dX1_takeRight_2 : decode cX1_takeRight 2 = .ok (.invokevirtual 71, 3) := by decide +kernel
theorem dX1_takeRight_5 : decode cX1_takeRight 5 = .ok (.istore_n 2, 1) := by decide +kernel
theorem dX1_takeRight_6 : decode cX1_takeRight 6 = .ok (.aload_n 0, 1) := by decide +kernel
theorem dX1_takeRight_7 : decode cX1_takeRight 7 = .ok (.dup, 1) := by decide +kernel
theorem dX1_takeRight_8 : decode cX1_takeRight 8 = .ok (.getfield 49, 3) := by decide +kernel
theorem dX1_takeRight_11 : decode cX1_takeRight 11 = .ok (.iload_n 2, 1) := by decide +kernel
theorem dX1_takeRight_12 : decode cX1_takeRight 12 = .ok (.ior, 1) := by decide +kernel
theorem dX1_takeRight_13 : decode cX1_takeRight 13 = .ok (.putfield 49, 3) := by decide +kernel
theorem dX1_takeRight_16 : decode cX1_takeRight 16 = .ok (.iload_n 2, 1) := by decide +kernel
theorem dX1_takeRight_17 : decode cX1_takeRight 17 = .ok (.ifCond .eq 15, 3) := by decide +kernel
theorem dX1_takeRight_20 : decode cX1_takeRight 20 = .ok (.aload_n 0, 1) := by decide +kernel
theorem dX1_takeRight_21 : decode cX1_takeRight 21 = .ok (.iconst 3, 1) := by decide +kernel
theorem dX1_takeRight_22 : decode cX1_takeRight 22 = .ok (.invokevirtual 55, 3) := by decide +kernel
theorem dX1_takeRight_25 : decode cX1_takeRight 25 = .ok (.ifCond .eq 7, 3) := by decide +kernel
theorem dX1_takeRight_28 : decode cX1_takeRight 28 = .ok (.iconst 1, 1) := by decide +kernel
theorem dX1_takeRight_29 : decode cX1_takeRight 29 = .ok (.goto 4, 3) := by decide +kernel
theorem dX1_takeRight_32 : decode cX1_takeRight 32 = .ok (.iconst 0, 1) := by decide +kernel
theorem dX1_takeRight_33 : decode cX1_takeRight 33 = .ok (.ireturn, 1) := by decide +kernel
set_option maxRecDepth 20000 in
theorem ggX1_takeDeed_X1_goTo : GoodIn wsX1_takeDeed wsX1_goTo := goodIn_r _ [5, 6, 20, 21, 22, 23, 24, 25, 26, 27, 28] (by decide +kernel) (by decide +kernel)
set_option maxRecDepth 20000 in
theorem gX1_takeDeed_X1_goTo : GoodIn wsX1_takeDeed (wsV RX1 55 RX1 yX1_goTo wsX1_goTo) := goodIn_app (goodIn_of _ (by decide +kernel)) ggX1_takeDeed_X1_goTo
set_option maxRecDepth 20000 in
theorem ggX1_takeDeed_X1_decide : GoodIn wsX1_takeDeed wsX1_decide := goodIn_r _ [10, 11, 12, 13, 14, 15, 16, 17, 18, 19, 1, 2, 3, 4, 5, 6, 20, 21, 22, 23, 24, 25, 26, 27, 28] (by decide +kernel) (by decide +kernel)
set_option maxRecDepth 20000 in
theorem gX1_takeDeed_X1_decide : GoodIn wsX1_takeDeed (wsV RX1 75 RX1 yX1_decide wsX1_decide) := goodIn_app (goodIn_of _ (by decide +kernel)) ggX1_takeDeed_X1_decide
theorem dX1_takeDeed_0 : decode cX1_takeDeed 0 = .ok (.iload_n 1, 1) := by decide +kernel
theorem dX1_takeDeed_1 : decode cX1_takeDeed 1 = .ok (.lookupswitch 53 #[(43, 47), (61, 35), (63, 41)], 35) := by decide +kernel
theorem dX1_takeDeed_36 : decode cX1_takeDeed 36 = .ok (.aload_n 0, 1) := by decide +kernel
theorem dX1_takeDeed_37 : decode cX1_takeDeed 37 = .ok (.iconst 4, 1) := by decide +kernel
theorem dX1_takeDeed_38 : decode cX1_takeDeed 38 = .ok (.invokevirtual 55, 3) := by decide +kernel
theorem dX1_takeDeed_41 : decode cX1_takeDeed 41 = .ok (.ireturn, 1) := by decide +kernel
theorem dX1_takeDeed_42 : decode cX1_takeDeed 42 = .ok (.aload_n 0, 1) := by decide +kernel
theorem dX1_takeDeed_43 : decode cX1_takeDeed 43 = .ok (.iconst 3, 1) := by decide +kernel
theorem dX1_takeDeed_44 : decode cX1_takeDeed 44 = .ok (.invokevirtual 75, 3) := by decide +kernel
theorem dX1_takeDeed_47 : decode cX1_takeDeed 47 = .ok (.ireturn, 1) := by decide +kernel
theorem dX1_takeDeed_48 : decode cX1_takeDeed 48 = .ok (.aload_n 0, 1) := by decide +kernel
theorem dX1_takeDeed_49 : decode cX1_takeDeed 49 = .ok (.iconst 4, 1) := by decide +kernel
theorem dX1_takeDeed_50 : decode cX1_takeDeed 50 = .ok (.invokevirtual 75, 3) := by decide +kernel
theorem dX1_takeDeed_53 : decode cX1_takeDeed 53 = .ok (.ireturn, 1) := by decide +kernel
theorem dX1_takeDeed_54 : decode cX1_takeDeed 54 = .ok (.iconst 0, 1) := by decide +kernel
theorem dX1_takeDeed_55 : decode cX1_takeDeed 55 = .ok (.ireturn, 1) := by decide +kernel
set_option maxRecDepth 20000 in
theorem ggX1_takeAnswer_X1_decide : GoodIn wsX1_takeAnswer wsX1_decide := goodIn_r _ [5, 6, 7, 8, 9, 10, 11, 12, 13, 14, 15, 16, 17, 4, 18, 19, 20, 21, 22, 23, 24, 25, 26, 27, 28] (by decide +kernel) (by decide +kernel)
set_option maxRecDepth 20000 in
theorem gX1_takeAnswer_X1_decide : GoodIn wsX1_takeAnswer (wsV RX1 75 RX1 yX1_decide wsX1_decide) := goodIn_app (goodIn_of _ (by decide +kernel)) ggX1_takeAnswer_X1_decide
theorem dX1_takeAnswer_0 : decode cX1_takeAnswer 0 = .ok (.iload_n 1, 1) := by decide +kernel
theorem dX1_takeAnswer_1 : decode cX1_takeAnswer 1 = .ok (.lookupswitch 53 #[(101, 47), (108, 35), (114, 41)], 35) := by decide +kernel
theorem dX1_takeAnswer_36 : decode cX1_takeAnswer 36 = .ok (.aload_n 0, 1) := by decide +kernel
theorem dX1_takeAnswer_37 : decode cX1_takeAnswer 37 = .ok (.iconst 0, 1) := by decide +kernel
theorem dX1_takeAnswer_38 : decode cX1_takeAnswer 38 = .ok (.invokevirtual 75, 3) := by decide +kernel
theorem dX1_takeAnswer_41 : decode cX1_takeAnswer 41 = .ok (.ireturn, 1) := by decide +kernel
theorem dX1_takeAnswer_42 : decode cX1_takeAnswer 42 = .ok (.aload_n 0, 1) := by decide +kernel
theorem dX1_takeAnswer_43 : decode cX1_takeAnswer 43 = .ok (.iconst 1, 1) := by decide +kernel
theorem dX1_takeAnswer_44 : decode cX1_takeAnswer 44 = .ok (.invokevirtual 75, 3) := by decide +kernel
theorem dX1_takeAnswer_47 : decode cX1_takeAnswer 47 = .ok (.ireturn, 1) := by decide +kernel
theorem dX1_takeAnswer_48 : decode cX1_takeAnswer 48 = .ok (.aload_n 0, 1) := by decide +kernel
theorem dX1_takeAnswer_49 : decode cX1_takeAnswer 49 = .ok (.iconst 2, 1) := by decide +kernel
theorem dX1_takeAnswer_50 : decode cX1_takeAnswer 50 = .ok (.invokevirtual 75, 3) := by decide +kernel
theorem dX1_takeAnswer_53 : decode cX1_takeAnswer 53 = .ok (.ireturn, 1) := by decide +kernel
theorem dX1_takeAnswer_54 : decode cX1_takeAnswer 54 = .ok (.iconst 0, 1) := by decide +kernel
theorem dX1_takeAnswer_55 : decode cX1_takeAnswer 55 = .ok (.ireturn, 1) := by decide +kernel
set_option maxRecDepth 20000 in
theorem ggX1_decide_X4_put : GoodIn wsX1_decide wsX4_put := goodIn_r _ [9] (by decide +kernel) (by decide +kernel)
set_option maxRecDepth 20000 in
theorem gX1_decide_X4_put_n28 : GoodIn wsX1_decide (wsX4_put) := ggX1_decide_X4_put
set_option maxRecDepth 20000 in
theorem ggX1_decide_X1_goTo : GoodIn wsX1_decide wsX1_goTo := goodIn_r _ [14, 15, 16, 17, 18, 19, 20, 21, 22, 23, 24] (by decide +kernel) (by decide +kernel)
set_option maxRecDepth 20000 in
theorem gX1_decide_X1_goTo : GoodIn wsX1_decide (wsV RX1 55 RX1 yX1_goTo wsX1_goTo) := goodIn_app (goodIn_of _ (by decide +kernel)) ggX1_decide_X1_goTo
theorem dX1_decide_0 : decode cX1_decide 0 = .ok (.aload_n 0, 1) := by decide +kernel
theorem dX1_decide_1 : decode cX1_decide 1 = .ok (.getfield 15, 3) := by decide +kernel
theorem dX1_decide_4 : decode cX1_decide 4 = .ok (.aload_n 0, 1) := by decide +kernel
theorem dX1_decide_5 : decode cX1_decide 5 = .ok (.getfield 32, 3) := by decide +kernel
theorem dX1_decide_8 : decode cX1_decide 8 = .ok (.aload_n 0, 1) := by decide +kernel
theorem dX1_decide_9 : decode cX1_decide 9 = .ok (.getfield 46, 3) := by decide +kernel
theorem dX1_decide_12 : decode cX1_decide 12 = .ok (.invokestatic 28, 3) := by decide +kernel
theorem dX1_decide_15 : decode cX1_decide 15 = .ok (.aload_n 0, 1) := by decide +kernel
theorem dX1_decide_16 : decode cX1_decide 16 = .ok (.getfield 18, 3) := by decide +kernel
theorem dX1_decide_19 : decode cX1_decide 19 = .ok (.aload_n 0, 1) := by decide +kernel
theorem dX1_decide_20 : decode cX1_decide 20 = .ok (.getfield 32, 3) := by decide +kernel
theorem dX1_decide_23 : decode cX1_decide 23 = .ok (.aload_n 0, 1) := by decide +kernel
theorem dX1_decide_24 : decode cX1_decide 24 = .ok (.getfield 49, 3) := by decide +kernel
theorem dX1_decide_27 : decode cX1_decide 27 = .ok (.invokestatic 28, 3) := by decide +kernel
theorem dX1_decide_30 : decode cX1_decide 30 = .ok (.aload_n 0, 1) := by decide +kernel
theorem dX1_decide_31 : decode cX1_decide 31 = .ok (.getfield 21, 3) := by decide +kernel
theorem dX1_decide_34 : decode cX1_decide 34 = .ok (.aload_n 0, 1) := by decide +kernel
theorem dX1_decide_35 : decode cX1_decide 35 = .ok (.getfield 32, 3) := by decide +kernel
theorem dX1_decide_38 : decode cX1_decide 38 = .ok (.iload_n 1, 1) := by decide +kernel
theorem dX1_decide_39 : decode cX1_decide 39 = .ok (.invokestatic 28, 3) := by decide +kernel
theorem dX1_decide_42 : decode cX1_decide 42 = .ok (.aload_n 0, 1) := by decide +kernel
theorem dX1_decide_43 : decode cX1_decide 43 = .ok (.iconst 5, 1) := by decide +kernel
theorem dX1_decide_44 : decode cX1_decide 44 = .ok (.invokevirtual 55, 3) := by decide +kernel
theorem dX1_decide_47 : decode cX1_decide 47 = .ok (.ireturn, 1) := by decide +kernel
set_option maxRecDepth 20000 in
theorem ggX1_close_X1_goTo : GoodIn wsX1_close wsX1_goTo := goodIn_r _ [6, 7, 8, 9, 10, 11, 12, 13, 14, 15, 16] (by decide +kernel) (by decide +kernel)
set_option maxRecDepth 20000 in
theorem gX1_close_X1_goTo : GoodIn wsX1_close (wsV RX1 55 RX1 yX1_goTo wsX1_goTo) := goodIn_app (goodIn_of _ (by decide +kernel)) ggX1_close_X1_goTo
theorem dX1_close_0 : decode cX1_close 0 = .ok (.aload_n 0, 1) := by decide +kernel
theorem dX1_close_1 : decode cX1_close 1 = .ok (.dup, 1) := by decide +kernel
theorem dX1_close_2 : decode cX1_close 2 = .ok (.getfield 32, 3) := by decide +kernel
theorem dX1_close_5 : decode cX1_close 5 = .ok (.iconst 1, 1) := by decide +kernel
theorem dX1_close_6 : decode cX1_close 6 = .ok (.iadd, 1) := by decide +kernel
theorem dX1_close_7 : decode cX1_close 7 = .ok (.putfield 32, 3) := by decide +kernel
theorem dX1_close_10 : decode cX1_close 10 = .ok (.aload_n 0, 1) := by decide +kernel
theorem dX1_close_11 : decode cX1_close 11 = .ok (.iconst 0, 1) := by decide +kernel
theorem dX1_close_12 : decode cX1_close 12 = .ok (.invokevirtual 55, 3) := by decide +kernel
theorem dX1_close_15 : decode cX1_close 15 = .ok (.ireturn, 1) := by decide +kernel
set_option maxRecDepth 20000 in
theorem ggX2_init_X3_init : GoodIn wsX2_init wsX3_init := goodIn_r _ [14, 15, 2, 3, 16, 17, 18, 19, 9, 20, 21, 22, 44, 45, 46, 47] (by decide +kernel) (by decide +kernel)
set_option maxRecDepth 20000 in
theorem gX2_init_X3_init : GoodIn wsX2_init (wsX3_init) := ggX2_init_X3_init
set_option maxRecDepth 20000 in
theorem ggX2_init_X2_start : GoodIn wsX2_init wsX2_start := goodIn_r _ [27, 28, 29, 8, 30, 31, 32, 26, 33, 34, 35, 36, 37, 38, 39, 40, 7, 10, 41, 42, 43, 48, 49, 50, 51, 52, 53, 54, 55, 56, 44, 45, 46, 47] (by decide +kernel) (by decide +kernel)
set_option maxRecDepth 20000 in
theorem gX2_init_X2_start : GoodIn wsX2_init (wsV RX2 30 RX2 yX2_start wsX2_start) := goodIn_app (goodIn_of _ (by decide +kernel)) ggX2_init_X2_start
theorem dX2_init_0 : decode cX2_init 0 = .ok (.aload_n 0, 1) := by decide +kernel
theorem dX2_init_1 : decode cX2_init 1 = .ok (.invokespecial 3, 3) := by decide +kernel
theorem dX2_init_4 : decode cX2_init 4 = .ok (.aload_n 0, 1) := by decide +kernel
theorem dX2_init_5 : decode cX2_init 5 = .ok (.new 9, 3) := by decide +kernel
theorem dX2_init_8 : decode cX2_init 8 = .ok (.dup, 1) := by decide +kernel
theorem dX2_init_9 : decode cX2_init 9 = .ok (.bipush 40, 2) := by decide +kernel
theorem dX2_init_11 : decode cX2_init 11 = .ok (.invokespecial 11, 3) := by decide +kernel
theorem dX2_init_14 : decode cX2_init 14 = .ok (.putfield 14, 3) := by decide +kernel
theorem dX2_init_17 : decode cX2_init 17 = .ok (.aload_n 0, 1) := by decide +kernel
theorem dX2_init_18 : decode cX2_init 18 = .ok (.new 9, 3) := by decide +kernel
theorem dX2_init_21 : decode cX2_init 21 = .ok (.dup, 1) := by decide +kernel
theorem dX2_init_22 : decode cX2_init 22 = .ok (.bipush 8, 2) := by decide +kernel
theorem dX2_init_24 : decode cX2_init 24 = .ok (.invokespecial 11, 3) := by decide +kernel
theorem dX2_init_27 : decode cX2_init 27 = .ok (.putfield 20, 3) := by decide +kernel
theorem dX2_init_30 : decode cX2_init 30 = .ok (.aload_n 0, 1) := by decide +kernel
theorem dX2_init_31 : decode cX2_init 31 = .ok (.bipush 33, 2) := by decide +kernel
theorem dX2_init_33 : decode cX2_init 33 = .ok (.newarray .int, 2) := by decide +kernel
theorem dX2_init_35 : decode cX2_init 35 = .ok (.putfield 23, 3) := by decide +kernel
theorem dX2_init_38 : decode cX2_init 38 = .ok (.aload_n 0, 1) := by decide +kernel
theorem dX2_init_39 : decode cX2_init 39 = .ok (.bipush 33, 2) := by decide +kernel
theorem dX2_init_41 : decode cX2_init 41 = .ok (.newarray .int, 2) := by decide +kernel
theorem dX2_init_43 : decode cX2_init 43 = .ok (.putfield 27, 3) := by decide +kernel
theorem dX2_init_46 : decode cX2_init 46 = .ok (.aload_n 0, 1) := by decide +kernel
theorem dX2_init_47 : decode cX2_init 47 = .ok (.bipush 8, 2) := by decide +kernel
theorem dX2_init_49 : decode cX2_init 49 = .ok (.invokevirtual 30, 3) := by decide +kernel
theorem dX2_init_52 : decode cX2_init 52 = .ok (.return_, 1) := by decide +kernel
set_option maxRecDepth 20000 in
theorem ggX2_start_X2_hideCase : GoodIn wsX2_start wsX2_hideCase := goodIn_r _ [8, 9, 10, 11, 21, 22, 23, 24, 25, 26, 27, 28, 29] (by decide +kernel) (by decide +kernel)
set_option maxRecDepth 20000 in
theorem gX2_start_X2_hideCase : GoodIn wsX2_start (wsV RX2 43 RX2 yX2_hideCase wsX2_hideCase) := goodIn_app (goodIn_of _ (by decide +kernel)) ggX2_start_X2_hideCase
set_option maxRecDepth 20000 in
theorem ggX2_start_X2_forgetTold : GoodIn wsX2_start wsX2_forgetTold := goodIn_r _ [15, 16, 17, 18, 19, 20, 21, 22, 23, 24, 25, 26, 27, 28, 29, 30, 31, 32, 33] (by decide +kernel) (by decide +kernel)
set_option maxRecDepth 20000 in
theorem gX2_start_X2_forgetTold : GoodIn wsX2_start (wsV RX2 47 RX2 yX2_forgetTold wsX2_forgetTold) := goodIn_app (goodIn_of _ (by decide +kernel)) ggX2_start_X2_forgetTold
theorem dX2_start_0 : decode cX2_start 0 = .ok (.aload_n 0, 1) := by decide +kernel
theorem dX2_start_1 : decode cX2_start 1 = .ok (.iload_n 1, 1) := by decide +kernel
theorem dX2_start_2 : decode cX2_start 2 = .ok (.putfield 33, 3) := by decide +kernel
theorem dX2_start_5 : decode cX2_start 5 = .ok (.aload_n 0, 1) := by decide +kernel
theorem dX2_start_6 : decode cX2_start 6 = .ok (.iconst 1, 1) := by decide +kernel
theorem dX2_start_7 : decode cX2_start 7 = .ok (.putfield 37, 3) := by decide +kernel
theorem dX2_start_10 : decode cX2_start 10 = .ok (.aload_n 0, 1) := by decide +kernel
theorem dX2_start_11 : decode cX2_start 11 = .ok (.getfield 20, 3) := by decide +kernel
theorem dX2_start_14 : decode cX2_start 14 = .ok (.iconst 0, 1) := by decide +kernel
theorem dX2_start_15 : decode cX2_start 15 = .ok (.putfield 40, 3) := by decide +kernel
theorem dX2_start_18 : decode cX2_start 18 = .ok (.aload_n 0, 1) := by decide +kernel
theorem dX2_start_19 : decode cX2_start 19 = .ok (.iconst (-1), 1) := by decide +kernel
theorem dX2_start_20 : decode cX2_start 20 = .ok (.iconst 0, 1) := by decide +kernel
theorem dX2_start_21 : decode cX2_start 21 = .ok (.invokevirtual 43, 3) := by decide +kernel
theorem dX2_start_24 : decode cX2_start 24 = .ok (.aload_n 0, 1) := by decide +kernel
theorem dX2_start_25 : decode cX2_start 25 = .ok (.invokevirtual 47, 3) := by decide +kernel
theorem dX2_start_28 : decode cX2_start 28 = .ok (.return_, 1) := by decide +kernel
set_option maxRecDepth 20000 in
theorem ggX2_copyFrom_X3_copyFrom : GoodIn wsX2_copyFrom wsX3_copyFrom := goodIn_r _ [13, 14, 15, 16, 17, 18, 19, 20, 21, 22, 23, 24, 25, 26, 27, 28, 38, 39, 40, 41] (by decide +kernel) (by decide +kernel)
set_option maxRecDepth 20000 in
theorem gX2_copyFrom_X3_copyFrom : GoodIn wsX2_copyFrom (wsV RX2 50 RX3 yX3_copyFrom wsX3_copyFrom) := goodIn_app (goodIn_of _ (by decide +kernel)) ggX2_copyFrom_X3_copyFrom
set_option maxRecDepth 20000 in
theorem ggX2_copyFrom_X4_copyRow : GoodIn wsX2_copyFrom wsX4_copyRow := goodIn_r _ [20, 21, 22, 23, 24, 25, 26, 27, 28] (by decide +kernel) (by decide +kernel)
set_option maxRecDepth 20000 in
theorem gX2_copyFrom_X4_copyRow_n54 : GoodIn wsX2_copyFrom (wsX4_copyRow) := ggX2_copyFrom_X4_copyRow
theorem dX2_copyFrom_0 : decode cX2_copyFrom 0 = .ok (.aload_n 0, 1) := by decide +kernel
theorem dX2_copyFrom_1 : decode cX2_copyFrom 1 = .ok (.getfield 14, 3) := by decide +kernel
theorem dX2_copyFrom_4 : decode cX2_copyFrom 4 = .ok (.aload_n 1, 1) := by decide +kernel
theorem dX2_copyFrom_5 : decode cX2_copyFrom 5 = .ok (.getfield 14, 3) := by decide +kernel
theorem dX2_copyFrom_8 : decode cX2_copyFrom 8 = .ok (.invokevirtual 50, 3) := by decide +kernel
theorem dX2_copyFrom_11 : decode cX2_copyFrom 11 = .ok (.aload_n 0, 1) := by decide +kernel
theorem dX2_copyFrom_12 : decode cX2_copyFrom 12 = .ok (.getfield 20, 3) := by decide +kernel
theorem dX2_copyFrom_15 : decode cX2_copyFrom 15 = .ok (.aload_n 1, 1) := by decide +kernel
theorem dX2_copyFrom_16 : decode cX2_copyFrom 16 = .ok (.getfield 20, 3) := by decide +kernel
theorem dX2_copyFrom_19 : decode cX2_copyFrom 19 = .ok (.invokevirtual 50, 3) := by decide +kernel
theorem dX2_copyFrom_22 : decode cX2_copyFrom 22 = .ok (.aload_n 1, 1) := by decide +kernel
theorem dX2_copyFrom_23 : decode cX2_copyFrom 23 = .ok (.getfield 23, 3) := by decide +kernel
theorem dX2_copyFrom_26 : decode cX2_copyFrom 26 = .ok (.aload_n 0, 1) := by decide +kernel
theorem dX2_copyFrom_27 : decode cX2_copyFrom 27 = .ok (.getfield 23, 3) := by decide +kernel
theorem dX2_copyFrom_30 : decode cX2_copyFrom 30 = .ok (.invokestatic 54, 3) := by decide +kernel
theorem dX2_copyFrom_33 : decode cX2_copyFrom 33 = .ok (.aload_n 0, 1) := by decide +kernel
theorem dX2_copyFrom_34 : decode cX2_copyFrom 34 = .ok (.aload_n 1, 1) := by decide +kernel
theorem dX2_copyFrom_35 : decode cX2_copyFrom 35 = .ok (.getfield 33, 3) := by decide +kernel
theorem dX2_copyFrom_38 : decode cX2_copyFrom 38 = .ok (.putfield 33, 3) := by decide +kernel
theorem dX2_copyFrom_41 : decode cX2_copyFrom 41 = .ok (.aload_n 0, 1) := by decide +kernel
theorem dX2_copyFrom_42 : decode cX2_copyFrom 42 = .ok (.aload_n 1, 1) := by decide +kernel
theorem dX2_copyFrom_43 : decode cX2_copyFrom 43 = .ok (.getfield 37, 3) := by decide +kernel
theorem dX2_copyFrom_46 : decode cX2_copyFrom 46 = .ok (.putfield 37, 3) := by decide +kernel
theorem dX2_copyFrom_49 : decode cX2_copyFrom 49 = .ok (.aload_n 0, 1) := by decide +kernel
theorem dX2_copyFrom_50 : decode cX2_copyFrom 50 = .ok (.aload_n 1, 1) := by decide +kernel
theorem dX2_copyFrom_51 : decode cX2_copyFrom 51 = .ok (.getfield 58, 3) := by decide +kernel
theorem dX2_copyFrom_54 : decode cX2_copyFrom 54 = .ok (.putfield 58, 3) := by decide +kernel
theorem dX2_copyFrom_57 : decode cX2_copyFrom 57 = .ok (.aload_n 0, 1) := by decide +kernel
theorem dX2_copyFrom_58 : decode cX2_copyFrom 58 = .ok (.aload_n 1, 1) := by decide +kernel
theorem dX2_copyFrom_59 : decode cX2_copyFrom 59 = .ok (.getfield 61, 3) := by decide +kernel
theorem dX2_copyFrom_62 : decode cX2_copyFrom 62 = .ok (.putfield 61, 3) := by decide +kernel
theorem dX2_copyFrom_65 : decode cX2_copyFrom 65 = .ok (.aload_n 0, 1) := by decide +kernel
theorem dX2_copyFrom_66 : decode cX2_copyFrom 66 = .ok (.aload_n 1, 1) := by decide +kernel
theorem dX2_copyFrom_67 : decode cX2_copyFrom 67 = .ok (.getfield 64, 3) := by decide +kernel
theorem dX2_copyFrom_70 : decode cX2_copyFrom 70 = .ok (.putfield 64, 3) := by decide +kernel
theorem dX2_copyFrom_73 : decode cX2_copyFrom 73 = .ok (.return_, 1) := by decide +kernel
theorem dX2_cases_0 : decode cX2_cases 0 = .ok (.iconst 2, 1) := by decide +kernel
theorem dX2_cases_1 : decode cX2_cases 1 = .ok (.aload_n 0, 1) := by decide +kernel
theorem dX2_cases_2 : decode cX2_cases 2 = .ok (.getfield 33, 3) := by decide +kernel
theorem dX2_cases_5 : decode cX2_cases 5 = .ok (.imul, 1) := by decide +kernel
theorem dX2_cases_6 : decode cX2_cases 6 = .ok (.iconst 1, 1) := by decide +kernel
theorem dX2_cases_7 : decode cX2_cases 7 = .ok (.iadd, 1) := by decide +kernel
theorem dX2_cases_8 : decode cX2_cases 8 = .ok (.ireturn, 1) := by decide +kernel
set_option maxRecDepth 20000 in
theorem ggX2_isCase_X2_cases : GoodIn wsX2_isCase wsX2_cases := goodIn_r _ [5, 6, 7, 8, 9, 10, 11, 12, 13, 14, 15] (by decide +kernel) (by decide +kernel)
set_option maxRecDepth 20000 in
theorem gX2_isCase_X2_cases : GoodIn wsX2_isCase (wsV RX2 67 RX2 yX2_cases wsX2_cases) := goodIn_app (goodIn_of _ (by decide +kernel)) ggX2_isCase_X2_cases
theorem dX2_isCase_0 : decode cX2_isCase 0 = .ok (.iload_n 1, 1) := by decide +kernel
theorem dX2_isCase_1 : decode cX2_isCase 1 = .ok (.ifCond .lt 15, 3) := by decide +kernel
theorem dX2_isCase_4 : decode cX2_isCase 4 = .ok (.iload_n 1, 1) := by decide +kernel
theorem dX2_isCase_5 : decode cX2_isCase 5 = .ok (.aload_n 0, 1) := by decide +kernel
theorem dX2_isCase_6 : decode cX2_isCase 6 = .ok (.invokevirtual 67, 3) := by decide +kernel
theorem dX2_isCase_9 : decode cX2_isCase 9 = .ok (.if_icmp .ge 7, 3) := by decide +kernel
theorem dX2_isCase_12 : decode cX2_isCase 12 = .ok (.iconst 1, 1) := by decide +kernel
theorem dX2_isCase_13 : decode cX2_isCase 13 = .ok (.goto 4, 3) := by decide +kernel
theorem dX2_isCase_16 : decode cX2_isCase 16 = .ok (.iconst 0, 1) := by decide +kernel
theorem dX2_isCase_17 : decode cX2_isCase 17 = .ok (.ireturn, 1) := by decide +kernel
set_option maxRecDepth 20000 in
theorem ggX2_isWeighing_J6_bitCount_0f7a4 : GoodIn wsX2_isWeighing wsJ6_bitCount_0f7a4 := goodIn_r _ [5, 6, 7, 8] (by decide +kernel) (by decide +kernel)
set_option maxRecDepth 20000 in
theorem gX2_isWeighing_J6_bitCount_0f7a4 : GoodIn wsX2_isWeighing (va_wsS RX2 71 yJ6_bitCount_0f7a4 wsJ6_bitCount_0f7a4) := goodIn_app (goodIn_of _ (by decide +kernel)) ggX2_isWeighing_J6_bitCount_0f7a4
theorem dX2_isWeighing_0 : decode cX2_isWeighing 0 = .ok (.iload_n 1, 1) := by decide +kernel
theorem dX2_isWeighing_1 : decode cX2_isWeighing 1 = .ok (.ifCond .eq 35, 3) := by decide +kernel
theorem dX2_isWeighing_4 : decode cX2_isWeighing 4 = .ok (.iload_n 1, 1) := by decide +kernel
theorem dX2_isWeighing_5 : decode cX2_isWeighing 5 = .ok (.iload_n 2, 1) := by decide +kernel
theorem dX2_isWeighing_6 : decode cX2_isWeighing 6 = .ok (.iand, 1) := by decide +kernel
theorem dX2_isWeighing_7 : decode cX2_isWeighing 7 = .ok (.ifCond .ne 29, 3) := by decide +kernel
theorem dX2_isWeighing_10 : decode cX2_isWeighing 10 = .ok (.iload_n 1, 1) := by decide +kernel
theorem dX2_isWeighing_11 : decode cX2_isWeighing 11 = .ok (.iload_n 2, 1) := by decide +kernel
theorem dX2_isWeighing_12 : decode cX2_isWeighing 12 = .ok (.ior, 1) := by decide +kernel
theorem dX2_isWeighing_13 : decode cX2_isWeighing 13 = .ok (.aload_n 0, 1) := by decide +kernel
theorem dX2_isWeighing_14 : decode cX2_isWeighing 14 = .ok (.getfield 33, 3) := by decide +kernel
theorem dX2_isWeighing_17 : decode cX2_isWeighing 17 = .ok (.iushr, 1) := by decide +kernel
theorem dX2_isWeighing_18 : decode cX2_isWeighing 18 = .ok (.ifCond .ne 18, 3) := by decide +kernel
theorem dX2_isWeighing_21 : decode cX2_isWeighing 21 = .ok (.iload_n 1, 1) := by decide +kernel
theorem dX2_isWeighing_22 : decode cX2_isWeighing 22 = .ok (.invokestatic 71, 3) := by decide +kernel
theorem dX2_isWeighing_25 : decode cX2_isWeighing 25 = .ok (.iload_n 2, 1) := by decide +kernel
theorem dX2_isWeighing_26 : decode cX2_isWeighing 26 = .ok (.invokestatic 71, 3) := by decide +kernel
theorem dX2_isWeighing_29 : decode cX2_isWeighing 29 = .ok (.if_icmp .ne 7, 3) := by decide +kernel
theorem dX2_isWeighing_32 : decode cX2_isWeighing 32 = .ok (.iconst 1, 1) := by decide +kernel
theorem dX2_isWeighing_33 : decode cX2_isWeighing 33 = .ok (.goto 4, 3) := by decide +kernel
theorem dX2_isWeighing_36 : decode cX2_isWeighing 36 = .ok (.iconst 0, 1) := by decide +kernel
theorem dX2_isWeighing_37 : decode cX2_isWeighing 37 = .ok (.ireturn, 1) := by decide +kernel
theorem dX2_canLearn_0 : decode cX2_canLearn 0 = .ok (.aload_n 0, 1) := by decide +kernel
theorem dX2_canLearn_1 : decode cX2_canLearn 1 = .ok (.getfield 14, 3) := by decide +kernel
theorem dX2_canLearn_4 : decode cX2_canLearn 4 = .ok (.getfield 40, 3) := by decide +kernel
theorem dX2_canLearn_7 : decode cX2_canLearn 7 = .ok (.bipush 40, 2) := by decide +kernel
theorem dX2_canLearn_9 : decode cX2_canLearn 9 = .ok (.if_icmp .ge 7, 3) := by decide +kernel
theorem dX2_canLearn_12 : decode cX2_canLearn 12 = .ok (.iconst 1, 1) := by decide +kernel
theorem dX2_canLearn_13 : decode cX2_canLearn 13 = .ok (.goto 4, 3) := by decide +kernel
theorem dX2_canLearn_16 : decode cX2_canLearn 16 = .ok (.iconst 0, 1) := by decide +kernel
theorem dX2_canLearn_17 : decode cX2_canLearn 17 = .ok (.ireturn, 1) := by decide +kernel
set_option maxRecDepth 20000 in
theorem ggX2_learn_X3_write : GoodIn wsX2_learn wsX3_write := goodIn_r _ [7, 8, 9, 10, 11, 12, 13, 14, 41, 42, 43, 44] (by decide +kernel) (by decide +kernel)
set_option maxRecDepth 20000 in
theorem gX2_learn_X3_write : GoodIn wsX2_learn (wsV RX2 77 RX3 yX3_write wsX3_write) := goodIn_app (goodIn_of _ (by decide +kernel)) ggX2_learn_X3_write
set_option maxRecDepth 20000 in
theorem ggX2_learn_X2_cases : GoodIn wsX2_learn wsX2_cases := goodIn_r _ [19, 20, 32, 33, 34, 35, 36, 37, 38, 39, 40] (by decide +kernel) (by decide +kernel)
set_option maxRecDepth 20000 in
theorem gX2_learn_X2_cases : GoodIn wsX2_learn (wsV RX2 67 RX2 yX2_cases wsX2_cases) := goodIn_app (goodIn_of _ (by decide +kernel)) ggX2_learn_X2_cases
set_option maxRecDepth 20000 in
theorem ggX2_learn_X2_liesIfTold : GoodIn wsX2_learn wsX2_liesIfTold := goodIn_r _ [24, 2, 25, 13, 26, 27, 28, 29, 30, 31, 32, 33, 34, 35, 36, 37, 38, 39, 40] (by decide +kernel) (by decide +kernel)
set_option maxRecDepth 20000 in
theorem gX2_learn_X2_liesIfTold : GoodIn wsX2_learn (wsV RX2 81 RX2 yX2_liesIfTold wsX2_liesIfTold) := goodIn_app (goodIn_of _ (by decide +kernel)) ggX2_learn_X2_liesIfTold
set_option maxRecDepth 20000 in
theorem ggX2_learn_X4_put : GoodIn wsX2_learn wsX4_put := goodIn_r _ [14] (by decide +kernel) (by decide +kernel)
set_option maxRecDepth 20000 in
theorem gX2_learn_X4_put_n85 : GoodIn wsX2_learn (wsX4_put) := ggX2_learn_X4_put
theorem dX2_learn_0 : decode cX2_learn 0 = .ok (.aload_n 0, 1) := by decide +kernel
theorem dX2_learn_1 : decode cX2_learn 1 = .ok (.getfield 14, 3) := by decide +kernel
theorem dX2_learn_4 : decode cX2_learn 4 = .ok (.iload_n 1, 1) := by decide +kernel
theorem dX2_learn_5 : decode cX2_learn 5 = .ok (.iload_n 2, 1) := by decide +kernel
theorem dX2_learn_6 : decode cX2_learn 6 = .ok (.iload_n 3, 1) := by decide +kernel
theorem dX2_learn_7 : decode cX2_learn 7 = .ok (.invokevirtual 77, 3) := by decide +kernel
theorem dX2_learn_10 : decode cX2_learn 10 = .ok (.iconst 0, 1) := by decide +kernel
theorem dX2_learn_11 : decode cX2_learn 11 = .ok (.istore 4, 2) := by decide +kernel
theorem dX2_learn_13 : decode cX2_learn 13 = .ok (.iload 4, 2) := by decide +kernel
theorem dX2_learn_15 : decode cX2_learn 15 = .ok (.aload_n 0, 1) := by decide +kernel
theorem dX2_learn_16 : decode cX2_learn 16 = .ok (.invokevirtual 67, 3) := by decide +kernel
theorem dX2_learn_19 : decode cX2_learn 19 = .ok (.if_icmp .ge 27, 3) := by decide +kernel
theorem dX2_learn_22 : decode cX2_learn 22 = .ok (.aload_n 0, 1) := by decide +kernel
theorem dX2_learn_23 : decode cX2_learn 23 = .ok (.getfield 23, 3) := by decide +kernel
theorem dX2_learn_26 : decode cX2_learn 26 = .ok (.iload 4, 2) := by decide +kernel
theorem dX2_learn_28 : decode cX2_learn 28 = .ok (.aload_n 0, 1) := by decide +kernel
theorem dX2_learn_29 : decode cX2_learn 29 = .ok (.iload 4, 2) := by decide +kernel
theorem dX2_learn_31 : decode cX2_learn 31 = .ok (.iload_n 1, 1) := by decide +kernel
theorem dX2_learn_32 : decode cX2_learn 32 = .ok (.iload_n 2, 1) := by decide +kernel
theorem dX2_learn_33 : decode cX2_learn 33 = .ok (.iload_n 3, 1) := by decide +kernel
theorem dX2_learn_34 : decode cX2_learn 34 = .ok (.invokevirtual 81, 3) := by decide +kernel
theorem dX2_learn_37 : decode cX2_learn 37 = .ok (.invokestatic 85, 3) := by decide +kernel
theorem dX2_learn_40 : decode cX2_learn 40 = .ok (.iinc 4 1, 3) := by decide +kernel
theorem dX2_learn_43 : decode cX2_learn 43 = .ok (.goto (-30), 3) := by decide +kernel
theorem dX2_learn_46 : decode cX2_learn 46 = .ok (.return_, 1) := by decide +kernel
set_option maxRecDepth 20000 in
theorem ggX2_liesIfTold_X4_at : GoodIn wsX2_liesIfTold wsX4_at := goodIn_r _ [4] (by decide +kernel) (by decide +kernel)
set_option maxRecDepth 20000 in
theorem gX2_liesIfTold_X4_at_n89 : GoodIn wsX2_liesIfTold (wsX4_at) := ggX2_liesIfTold_X4_at
set_option maxRecDepth 20000 in
theorem ggX2_liesIfTold_X4_trueAnswer : GoodIn wsX2_liesIfTold wsX4_trueAnswer := goodIn_r _ [6, 7, 8, 3, 9] (by decide +kernel) (by decide +kernel)
set_option maxRecDepth 20000 in
theorem gX2_liesIfTold_X4_trueAnswer_n93 : GoodIn wsX2_liesIfTold (wsX4_trueAnswer) := ggX2_liesIfTold_X4_trueAnswer
theorem dX2_liesIfTold_0 : decode cX2_liesIfTold 0 = .ok (.aload_n 0, 1) := by decide +kernel
theorem dX2_liesIfTold_1 : decode cX2_liesIfTold 1 = .ok (.getfield 23, 3) := by decide +kernel
theorem dX2_liesIfTold_4 : decode cX2_liesIfTold 4 = .ok (.iload_n 1, 1) := by decide +kernel
theorem dX2_liesIfTold_5 : decode cX2_liesIfTold 5 = .ok (.invokestatic 89, 3) := by decide +kernel
theorem dX2_liesIfTold_8 : decode cX2_liesIfTold 8 = .ok (.istore 5, 2) := by decide +kernel
theorem dX2_liesIfTold_10 : decode cX2_liesIfTold 10 = .ok (.iload_n 1, 1) := by decide +kernel
theorem dX2_liesIfTold_11 : decode cX2_liesIfTold 11 = .ok (.iload_n 2, 1) := by decide +kernel
theorem dX2_liesIfTold_12 : decode cX2_liesIfTold 12 = .ok (.iload_n 3, 1) := by decide +kernel
theorem dX2_liesIfTold_13 : decode cX2_liesIfTold 13 = .ok (.invokestatic 93, 3) := by decide +kernel
theorem dX2_liesIfTold_16 : decode cX2_liesIfTold 16 = .ok (.iload 4, 2) := by decide +kernel
theorem dX2_liesIfTold_18 : decode cX2_liesIfTold 18 = .ok (.if_icmp .ne 8, 3) := by decide +kernel
theorem dX2_liesIfTold_21 : decode cX2_liesIfTold 21 = .ok (.iload 5, 2) := by decide +kernel
theorem dX2_liesIfTold_23 : decode cX2_liesIfTold 23 = .ok (.goto 7, 3) := by decide +kernel
theorem dX2_liesIfTold_26 : decode cX2_liesIfTold 26 = .ok (.iload 5, 2) := by decide +kernel
theorem dX2_liesIfTold_28 : decode cX2_liesIfTold 28 = .ok (.iconst 1, 1) := by decide +kernel
theorem dX2_liesIfTold_29 : decode cX2_liesIfTold 29 = .ok (.iadd, 1) := by decide +kernel
theorem dX2_liesIfTold_30 : decode cX2_liesIfTold 30 = .ok (.ireturn, 1) := by decide +kernel
set_option maxRecDepth 20000 in
theorem ggX2_forgetTold_X4_put : GoodIn wsX2_forgetTold wsX4_put := goodIn_r _ [5] (by decide +kernel) (by decide +kernel)
set_option maxRecDepth 20000 in
theorem gX2_forgetTold_X4_put_n85 : GoodIn wsX2_forgetTold (wsX4_put) := ggX2_forgetTold_X4_put
theorem dX2_forgetTold_0 : decode cX2_forgetTold 0 = .ok (.aload_n 0, 1) := by decide +kernel
theorem dX2_forgetTold_1 : decode cX2_forgetTold 1 = .ok (.getfield 14, 3) := by decide +kernel
theorem dX2_forgetTold_4 : decode cX2_forgetTold 4 = .ok (.iconst 0, 1) := by decide +kernel
theorem dX2_forgetTold_5 : decode cX2_forgetTold 5 = .ok (.putfield 40, 3) := by decide +kernel
theorem dX2_forgetTold_8 : decode cX2_forgetTold 8 = .ok (.iconst 0, 1) := by decide +kernel
theorem dX2_forgetTold_9 : decode cX2_forgetTold 9 = .ok (.istore_n 1, 1) := by decide +kernel
theorem dX2_forgetTold_10 : decode cX2_forgetTold 10 = .ok (.iload_n 1, 1) := by decide +kernel
theorem dX2_forgetTold_11 : decode cX2_forgetTold 11 = .ok (.bipush 33, 2) := by decide +kernel
theorem dX2_forgetTold_13 : decode cX2_forgetTold 13 = .ok (.if_icmp .ge 18, 3) := by decide +kernel
theorem dX2_forgetTold_16 : decode cX2_forgetTold 16 = .ok (.aload_n 0, 1) := by decide +kernel
theorem dX2_forgetTold_17 : decode cX2_forgetTold 17 = .ok (.getfield 23, 3) := by decide +kernel
theorem dX2_forgetTold_20 : decode cX2_forgetTold 20 = .ok (.iload_n 1, 1) := by decide +kernel
theorem dX2_forgetTold_21 : decode cX2_forgetTold 21 = .ok (.iconst 0, 1) := by decide +kernel
theorem dX2_forgetTold_22 : decode cX2_forgetTold 22 = .ok (.invokestatic 85, 3) := by decide +kernel
theorem dX2_forgetTold_25 : decode cX2_forgetTold 25 = .ok (.iinc 1 1, 3) := by decide +kernel
theorem dX2_forgetTold_28 : decode cX2_forgetTold 28 = .ok (.goto (-18), 3) := by decide +kernel
theorem dX2_forgetTold_31 : decode cX2_forgetTold 31 = .ok (.return_, 1) := by decide +kernel
theorem dX2_hideCase_0 : decode cX2_hideCase 0 = .ok (.aload_n 0, 1) := by decide +kernel
theorem dX2_hideCase_1 : decode cX2_hideCase 1 = .ok (.iload_n 1, 1) := by decide +kernel
theorem dX2_hideCase_2 : decode cX2_hideCase 2 = .ok (.putfield 58, 3) := by decide +kernel
theorem dX2_hideCase_5 : decode cX2_hideCase 5 = .ok (.aload_n 0, 1) := by decide +kernel
theorem dX2_hideCase_6 : decode cX2_hideCase 6 = .ok (.iload_n 2, 1) := by decide +kernel
theorem dX2_hideCase_7 : decode cX2_hideCase 7 = .ok (.putfield 61, 3) := by decide +kernel
theorem dX2_hideCase_10 : decode cX2_hideCase 10 = .ok (.aload_n 0, 1) := by decide +kernel
theorem dX2_hideCase_11 : decode cX2_hideCase 11 = .ok (.iconst 0, 1) := by decide +kernel
theorem dX2_hideCase_12 : decode cX2_hideCase 12 = .ok (.putfield 64, 3) := by decide +kernel
theorem dX2_hideCase_15 : decode cX2_hideCase 15 = .ok (.return_, 1) := by decide +kernel
set_option maxRecDepth 20000 in
theorem ggX2_canReply_X2_canLearn : GoodIn wsX2_canReply wsX2_canLearn := goodIn_r _ [7, 8, 9, 10, 11, 12, 13, 14, 15, 16, 17, 18, 19, 20, 21] (by decide +kernel) (by decide +kernel)
set_option maxRecDepth 20000 in
theorem gX2_canReply_X2_canLearn : GoodIn wsX2_canReply (wsV RX2 97 RX2 yX2_canLearn wsX2_canLearn) := goodIn_app (goodIn_of _ (by decide +kernel)) ggX2_canReply_X2_canLearn
theorem dX2_canReply_0 : decode cX2_canReply 0 = .ok (.aload_n 0, 1) := by decide +kernel
theorem dX2_canReply_1 : decode cX2_canReply 1 = .ok (.getfield 58, 3) := by decide +kernel
theorem dX2_canReply_4 : decode cX2_canReply 4 = .ok (.iconst (-1), 1) := by decide +kernel
theorem dX2_canReply_5 : decode cX2_canReply 5 = .ok (.if_icmp .eq 23, 3) := by decide +kernel
theorem dX2_canReply_8 : decode cX2_canReply 8 = .ok (.aload_n 0, 1) := by decide +kernel
theorem dX2_canReply_9 : decode cX2_canReply 9 = .ok (.invokevirtual 97, 3) := by decide +kernel
theorem dX2_canReply_12 : decode cX2_canReply 12 = .ok (.ifCond .eq 16, 3) := by decide +kernel
theorem dX2_canReply_15 : decode cX2_canReply 15 = .ok (.aload_n 0, 1) := by decide +kernel
theorem dX2_canReply_16 : decode cX2_canReply 16 = .ok (.getfield 64, 3) := by decide +kernel
theorem dX2_canReply_19 : decode cX2_canReply 19 = .ok (.bipush 30, 2) := by decide +kernel
theorem dX2_canReply_21 : decode cX2_canReply 21 = .ok (.if_icmp .ge 7, 3) := by decide +kernel
theorem dX2_canReply_24 : decode cX2_canReply 24 = .ok (.iconst 1, 1) := by decide +kernel
theorem dX2_canReply_25 : decode cX2_canReply 25 = .ok (.goto 4, 3) := by decide +kernel
theorem dX2_canReply_28 : decode cX2_canReply 28 = .ok (.iconst 0, 1) := by decide +kernel
theorem dX2_canReply_29 : decode cX2_canReply 29 = .ok (.ireturn, 1) := by decide +kernel
set_option maxRecDepth 20000 in
theorem ggX2_reply_X4_trueAnswer : GoodIn wsX2_reply wsX4_trueAnswer := goodIn_r _ [6, 7, 8, 5, 9] (by decide +kernel) (by decide +kernel)
set_option maxRecDepth 20000 in
theorem gX2_reply_X4_trueAnswer_n93 : GoodIn wsX2_reply (wsX4_trueAnswer) := ggX2_reply_X4_trueAnswer
set_option maxRecDepth 20000 in
theorem ggX2_reply_X2_learn : GoodIn wsX2_reply wsX2_learn := goodIn_r _ [14, 15, 16, 17, 18, 19, 20, 21, 22, 23, 24, 25, 26, 5, 27, 28, 29, 30, 13, 31, 32, 33, 34, 35, 36, 37, 38, 4, 6, 7, 8, 9, 39, 40, 41, 42, 43, 44, 45, 46, 47, 48, 49, 50, 51] (by decide +kernel) (by decide +kernel)
set_option maxRecDepth 20000 in
theorem gX2_reply_X2_learn : GoodIn wsX2_reply (wsV RX2 101 RX2 yX2_learn wsX2_learn) := goodIn_app (goodIn_of _ (by decide +kernel)) ggX2_reply_X2_learn
theorem dX2_reply_0 : decode cX2_reply 0 = .ok (.aload_n 0, 1) := by decide +kernel
theorem dX2_reply_1 : decode cX2_reply 1 = .ok (.getfield 58, 3) := by decide +kernel
theorem dX2_reply_4 : decode cX2_reply 4 = .ok (.iload_n 1, 1) := by decide +kernel
theorem dX2_reply_5 : decode cX2_reply 5 = .ok (.iload_n 2, 1) := by decide +kernel
theorem dX2_reply_6 : decode cX2_reply 6 = .ok (.invokestatic 93, 3) := by decide +kernel
theorem dX2_reply_9 : decode cX2_reply 9 = .ok (.istore_n 3, 1) := by decide +kernel
theorem dX2_reply_10 : decode cX2_reply 10 = .ok (.aload_n 0, 1) := by decide +kernel
theorem dX2_reply_11 : decode cX2_reply 11 = .ok (.getfield 61, 3) := by decide +kernel
theorem dX2_reply_14 : decode cX2_reply 14 = .ok (.aload_n 0, 1) := by decide +kernel
theorem dX2_reply_15 : decode cX2_reply 15 = .ok (.getfield 64, 3) := by decide +kernel
theorem dX2_reply_18 : decode cX2_reply 18 = .ok (.iushr, 1) := by decide +kernel
theorem dX2_reply_19 : decode cX2_reply 19 = .ok (.iconst 1, 1) := by decide +kernel
theorem dX2_reply_20 : decode cX2_reply 20 = .ok (.iand, 1) := by decide +kernel
theorem dX2_reply_21 : decode cX2_reply 21 = .ok (.iconst 1, 1) := by decide +kernel
theorem dX2_reply_22 : decode cX2_reply 22 = .ok (.if_icmp .ne 16, 3) := by decide +kernel
theorem dX2_reply_25 : decode cX2_reply 25 = .ok (.iload_n 3, 1) := by decide +kernel
theorem dX2_reply_26 : decode cX2_reply 26 = .ok (.iconst 2, 1) := by decide +kernel
theorem dX2_reply_27 : decode cX2_reply 27 = .ok (.if_icmp .ne 7, 3) := by decide +kernel
theorem dX2_reply_30 : decode cX2_reply 30 = .ok (.iconst 0, 1) := by decide +kernel
theorem dX2_reply_31 : decode cX2_reply 31 = .ok (.goto 6, 3) := by decide +kernel
theorem dX2_reply_34 : decode cX2_reply 34 = .ok (.iload_n 3, 1) := by decide +kernel
theorem dX2_reply_35 : decode cX2_reply 35 = .ok (.iconst 1, 1) := by decide +kernel
theorem dX2_reply_36 : decode cX2_reply 36 = .ok (.iadd, 1) := by decide +kernel
theorem dX2_reply_37 : decode cX2_reply 37 = .ok (.istore_n 3, 1) := by decide +kernel
theorem dX2_reply_38 : decode cX2_reply 38 = .ok (.aload_n 0, 1) := by decide +kernel
theorem dX2_reply_39 : decode cX2_reply 39 = .ok (.dup, 1) := by decide +kernel
theorem dX2_reply_40 : decode cX2_reply 40 = .ok (.getfield 64, 3) := by decide +kernel
theorem dX2_reply_43 : decode cX2_reply 43 = .ok (.iconst 1, 1) := by decide +kernel
theorem dX2_reply_44 : decode cX2_reply 44 = .ok (.iadd, 1) := by decide +kernel
theorem dX2_reply_45 : decode cX2_reply 45 = .ok (.putfield 64, 3) := by decide +kernel
theorem dX2_reply_48 : decode cX2_reply 48 = .ok (.aload_n 0, 1) := by decide +kernel
theorem dX2_reply_49 : decode cX2_reply 49 = .ok (.iload_n 1, 1) := by decide +kernel
theorem dX2_reply_50 : decode cX2_reply 50 = .ok (.iload_n 2, 1) := by decide +kernel
theorem dX2_reply_51 : decode cX2_reply 51 = .ok (.iload_n 3, 1) := by decide +kernel
theorem dX2_reply_52 : decode cX2_reply 52 = .ok (.invokevirtual 101, 3) := by decide +kernel
theorem dX2_reply_55 : decode cX2_reply 55 = .ok (.iload_n 3, 1) := by decide +kernel
theorem dX2_reply_56 : decode cX2_reply 56 = .ok (.ireturn, 1) := by decide +kernel
theorem dX2_canPlan_0 : decode cX2_canPlan 0 = .ok (.aload_n 0, 1) := by decide +kernel
theorem dX2_canPlan_1 : decode cX2_canPlan 1 = .ok (.getfield 20, 3) := by decide +kernel
theorem dX2_canPlan_4 : decode cX2_canPlan 4 = .ok (.getfield 40, 3) := by decide +kernel
theorem dX2_canPlan_7 : decode cX2_canPlan 7 = .ok (.bipush 8, 2) := by decide +kernel
theorem dX2_canPlan_9 : decode cX2_canPlan 9 = .ok (.if_icmp .ge 7, 3) := by decide +kernel
theorem dX2_canPlan_12 : decode cX2_canPlan 12 = .ok (.iconst 1, 1) := by decide +kernel
theorem dX2_canPlan_13 : decode cX2_canPlan 13 = .ok (.goto 4, 3) := by decide +kernel
theorem dX2_canPlan_16 : decode cX2_canPlan 16 = .ok (.iconst 0, 1) := by decide +kernel
theorem dX2_canPlan_17 : decode cX2_canPlan 17 = .ok (.ireturn, 1) := by decide +kernel
set_option maxRecDepth 20000 in
theorem ggX2_planWeighing_X3_write : GoodIn wsX2_planWeighing wsX3_write := goodIn_r _ [6, 7, 8, 9, 10, 11, 12, 13, 23, 24, 25, 26] (by decide +kernel) (by decide +kernel)
set_option maxRecDepth 20000 in
theorem gX2_planWeighing_X3_write : GoodIn wsX2_planWeighing (wsV RX2 77 RX3 yX3_write wsX3_write) := goodIn_app (goodIn_of _ (by decide +kernel)) ggX2_planWeighing_X3_write
theorem dX2_planWeighing_0 : decode cX2_planWeighing 0 = .ok (.aload_n 0, 1) := by decide +kernel
theorem dX2_planWeighing_1 : decode cX2_planWeighing 1 = .ok (.getfield 20, 3) := by decide +kernel
theorem dX2_planWeighing_4 : decode cX2_planWeighing 4 = .ok (.iload_n 1, 1) := by decide +kernel
theorem dX2_planWeighing_5 : decode cX2_planWeighing 5 = .ok (.iload_n 2, 1) := by decide +kernel
theorem dX2_planWeighing_6 : decode cX2_planWeighing 6 = .ok (.iconst 2, 1) := by decide +kernel
theorem dX2_planWeighing_7 : decode cX2_planWeighing 7 = .ok (.invokevirtual 77, 3) := by decide +kernel
theorem dX2_planWeighing_10 : decode cX2_planWeighing 10 = .ok (.return_, 1) := by decide +kernel
set_option maxRecDepth 20000 in
theorem ggX2_obey_X2_isWeighing : GoodIn wsX2_obey wsX2_isWeighing := goodIn_r _ [5, 6, 7, 8, 9, 10, 11, 12, 13, 75, 76, 77, 78, 79, 80, 81, 82, 83] (by decide +kernel) (by decide +kernel)
set_option maxRecDepth 20000 in
theorem gX2_obey_X2_isWeighing : GoodIn wsX2_obey (wsV RX2 104 RX2 yX2_isWeighing wsX2_isWeighing) := goodIn_app (goodIn_of _ (by decide +kernel)) ggX2_obey_X2_isWeighing
set_option maxRecDepth 20000 in
theorem ggX2_obey_X2_canDo : GoodIn wsX2_obey wsX2_canDo := goodIn_r _ [17, 18, 19, 20, 4, 21, 22, 23, 24, 25, 26, 27, 28, 29, 30, 31, 32, 33, 75, 76, 77, 78, 79, 80, 81, 82, 83, 84, 85, 86, 87] (by decide +kernel) (by decide +kernel)
set_option maxRecDepth 20000 in
theorem gX2_obey_X2_canDo : GoodIn wsX2_obey (wsV RX2 108 RX2 yX2_canDo wsX2_canDo) := goodIn_app (goodIn_of _ (by decide +kernel)) ggX2_obey_X2_canDo
set_option maxRecDepth 20000 in
theorem ggX2_obey_X2_reply : GoodIn wsX2_obey wsX2_reply := goodIn_r _ [37, 22, 38, 23, 39, 40, 41, 42, 43, 44, 45, 46, 47, 4, 48, 28, 49, 50, 51, 52, 53, 54, 55, 56, 57, 58, 59, 60, 61, 62, 63, 64, 6, 65, 66, 67, 68, 69, 70, 75, 76, 77, 78, 79, 80, 81, 82, 83, 84, 85, 86, 87] (by decide +kernel) (by decide +kernel)
set_option maxRecDepth 20000 in
theorem gX2_obey_X2_reply : GoodIn wsX2_obey (wsV RX2 112 RX2 yX2_reply wsX2_reply) := goodIn_app (goodIn_of _ (by decide +kernel)) ggX2_obey_X2_reply
set_option maxRecDepth 20000 in
theorem ggX2_obey_X2_planWeighing : GoodIn wsX2_obey wsX2_planWeighing := goodIn_r _ [74, 33, 50, 51, 52, 53, 54, 55, 56, 57, 58, 59, 40, 60, 75, 76, 77, 78, 79, 80, 81, 82, 83, 84, 85, 86, 87] (by decide +kernel) (by decide +kernel)
set_option maxRecDepth 20000 in
theorem gX2_obey_X2_planWeighing : GoodIn wsX2_obey (wsV RX2 116 RX2 yX2_planWeighing wsX2_planWeighing) := goodIn_app (goodIn_of _ (by decide +kernel)) ggX2_obey_X2_planWeighing
set_option maxRecDepth 20000 in
theorem ggX2_obey_X2_learn : GoodIn wsX2_obey wsX2_learn := goodIn_r _ [48, 28, 49, 50, 51, 52, 53, 54, 55, 56, 57, 58, 59, 40, 60, 61, 62, 63, 4, 64, 6, 65, 66, 67, 68, 69, 70, 39, 41, 42, 43, 44, 75, 76, 77, 78, 79, 80, 81, 82, 83, 84, 85, 86, 87] (by decide +kernel) (by decide +kernel)
set_option maxRecDepth 20000 in
theorem gX2_obey_X2_learn : GoodIn wsX2_obey (wsV RX2 101 RX2 yX2_learn wsX2_learn) := goodIn_app (goodIn_of _ (by decide +kernel)) ggX2_obey_X2_learn
theorem dX2_obey_0 : decode cX2_obey 0 = .ok (.aload_n 0, 1) := by decide +kernel
theorem dX2_obey_1 : decode cX2_obey 1 = .ok (.iload_n 1, 1) := by decide +kernel
theorem dX2_obey_2 : decode cX2_obey 2 = .ok (.iload_n 2, 1) := by decide +kernel
theorem dX2_obey_3 : decode cX2_obey 3 = .ok (.invokevirtual 104, 3) := by decide +kernel
theorem dX2_obey_6 : decode cX2_obey 6 = .ok (.ifCond .eq 11, 3) := by decide +kernel
theorem dX2_obey_9 : decode cX2_obey 9 = .ok (.aload_n 0, 1) := by decide +kernel
theorem dX2_obey_10 : decode cX2_obey 10 = .ok (.iload_n 3, 1) := by decide +kernel
theorem dX2_obey_11 : decode cX2_obey 11 = .ok (.invokevirtual 108, 3) := by decide +kernel
theorem dX2_obey_14 : decode cX2_obey 14 = .ok (.ifCond .ne 5, 3) := by decide +kernel
theorem dX2_obey_17 : decode cX2_obey 17 = .ok (.iconst 0, 1) := by decide +kernel
theorem dX2_obey_18 : decode cX2_obey 18 = .ok (.ireturn, 1) := by decide +kernel
theorem dX2_obey_19 : decode cX2_obey 19 = .ok (.iload_n 3, 1) := by decide +kernel
theorem dX2_obey_20 : decode cX2_obey 20 = .ok (.lookupswitch 47 #[(3, 28), (4, 38)], 28) := by decide +kernel
theorem dX2_obey_48 : decode cX2_obey 48 = .ok (.aload_n 0, 1) := by decide +kernel
theorem dX2_obey_49 : decode cX2_obey 49 = .ok (.iload_n 1, 1) := by decide +kernel
theorem dX2_obey_50 : decode cX2_obey 50 = .ok (.iload_n 2, 1) := by decide +kernel
theorem dX2_obey_51 : decode cX2_obey 51 = .ok (.invokevirtual 112, 3) := by decide +kernel
theorem dX2_obey_54 : decode cX2_obey 54 = .ok (.pop, 1) := by decide +kernel
theorem dX2_obey_55 : decode cX2_obey 55 = .ok (.goto 19, 3) := by decide +kernel
theorem dX2_obey_58 : decode cX2_obey 58 = .ok (.aload_n 0, 1) := by decide +kernel
theorem dX2_obey_59 : decode cX2_obey 59 = .ok (.iload_n 1, 1) := by decide +kernel
theorem dX2_obey_60 : decode cX2_obey 60 = .ok (.iload_n 2, 1) := by decide +kernel
theorem dX2_obey_61 : decode cX2_obey 61 = .ok (.invokevirtual 116, 3) := by decide +kernel
theorem dX2_obey_64 : decode cX2_obey 64 = .ok (.goto 10, 3) := by decide +kernel
theorem dX2_obey_67 : decode cX2_obey 67 = .ok (.aload_n 0, 1) := by decide +kernel
theorem dX2_obey_68 : decode cX2_obey 68 = .ok (.iload_n 1, 1) := by decide +kernel
theorem dX2_obey_69 : decode cX2_obey 69 = .ok (.iload_n 2, 1) := by decide +kernel
theorem dX2_obey_70 : decode cX2_obey 70 = .ok (.iload_n 3, 1) := by decide +kernel
theorem dX2_obey_71 : decode cX2_obey 71 = .ok (.invokevirtual 101, 3) := by decide +kernel
theorem dX2_obey_74 : decode cX2_obey 74 = .ok (.iconst 1, 1) := by decide +kernel
theorem dX2_obey_75 : decode cX2_obey 75 = .ok (.ireturn, 1) := by decide +kernel
set_option maxRecDepth 20000 in
theorem ggX2_canDo_X2_canReply : GoodIn wsX2_canDo wsX2_canReply := goodIn_r _ [5, 6, 7, 8, 9, 10, 4, 11, 12, 18, 19, 20, 21, 22, 23, 24, 25, 26, 27, 28, 29, 30] (by decide +kernel) (by decide +kernel)
set_option maxRecDepth 20000 in
theorem gX2_canDo_X2_canReply : GoodIn wsX2_canDo (wsV RX2 119 RX2 yX2_canReply wsX2_canReply) := goodIn_app (goodIn_of _ (by decide +kernel)) ggX2_canDo_X2_canReply
set_option maxRecDepth 20000 in
theorem ggX2_canDo_X2_canPlan : GoodIn wsX2_canDo wsX2_canPlan := goodIn_r _ [16, 17, 18, 19, 20, 21, 22, 23, 24, 25, 26, 27, 28, 29, 30] (by decide +kernel) (by decide +kernel)
set_option maxRecDepth 20000 in
theorem gX2_canDo_X2_canPlan : GoodIn wsX2_canDo (wsV RX2 122 RX2 yX2_canPlan wsX2_canPlan) := goodIn_app (goodIn_of _ (by decide +kernel)) ggX2_canDo_X2_canPlan
set_option maxRecDepth 20000 in
theorem ggX2_canDo_X2_canLearn : GoodIn wsX2_canDo wsX2_canLearn := goodIn_r _ [11, 12, 18, 19, 20, 21, 22, 23, 24, 25, 26, 27, 28, 29, 30] (by decide +kernel) (by decide +kernel)
set_option maxRecDepth 20000 in
theorem gX2_canDo_X2_canLearn : GoodIn wsX2_canDo (wsV RX2 97 RX2 yX2_canLearn wsX2_canLearn) := goodIn_app (goodIn_of _ (by decide +kernel)) ggX2_canDo_X2_canLearn
theorem dX2_canDo_0 : decode cX2_canDo 0 = .ok (.iload_n 1, 1) := by decide +kernel
theorem dX2_canDo_1 : decode cX2_canDo 1 = .ok (.lookupswitch 37 #[(3, 27), (4, 32)], 27) := by decide +kernel
theorem dX2_canDo_28 : decode cX2_canDo 28 = .ok (.aload_n 0, 1) := by decide +kernel
theorem dX2_canDo_29 : decode cX2_canDo 29 = .ok (.invokevirtual 119, 3) := by decide +kernel
theorem dX2_canDo_32 : decode cX2_canDo 32 = .ok (.ireturn, 1) := by decide +kernel
theorem dX2_canDo_33 : decode cX2_canDo 33 = .ok (.aload_n 0, 1) := by decide +kernel
theorem dX2_canDo_34 : decode cX2_canDo 34 = .ok (.invokevirtual 122, 3) := by decide +kernel
theorem dX2_canDo_37 : decode cX2_canDo 37 = .ok (.ireturn, 1) := by decide +kernel
theorem dX2_canDo_38 : decode cX2_canDo 38 = .ok (.aload_n 0, 1) := by decide +kernel
theorem dX2_canDo_39 : decode cX2_canDo 39 = .ok (.invokevirtual 97, 3) := by decide +kernel
theorem dX2_canDo_42 : decode cX2_canDo 42 = .ok (.ireturn, 1) := by decide +kernel
set_option maxRecDepth 20000 in
theorem ggX2_isLeft_X4_at : GoodIn wsX2_isLeft wsX4_at := goodIn_r _ [5] (by decide +kernel) (by decide +kernel)
set_option maxRecDepth 20000 in
theorem gX2_isLeft_X4_at_n89 : GoodIn wsX2_isLeft (wsX4_at) := ggX2_isLeft_X4_at
theorem dX2_isLeft_0 : decode cX2_isLeft 0 = .ok (.aload_n 0, 1) := by decide +kernel
theorem dX2_isLeft_1 : decode cX2_isLeft 1 = .ok (.getfield 23, 3) := by decide +kernel
theorem dX2_isLeft_4 : decode cX2_isLeft 4 = .ok (.iload_n 1, 1) := by decide +kernel
theorem dX2_isLeft_5 : decode cX2_isLeft 5 = .ok (.invokestatic 89, 3) := by decide +kernel
theorem dX2_isLeft_8 : decode cX2_isLeft 8 = .ok (.aload_n 0, 1) := by decide +kernel
theorem dX2_isLeft_9 : decode cX2_isLeft 9 = .ok (.getfield 37, 3) := by decide +kernel
theorem dX2_isLeft_12 : decode cX2_isLeft 12 = .ok (.if_icmp .gt 7, 3) := by decide +kernel
theorem dX2_isLeft_15 : decode cX2_isLeft 15 = .ok (.iconst 1, 1) := by decide +kernel
theorem dX2_isLeft_16 : decode cX2_isLeft 16 = .ok (.goto 4, 3) := by decide +kernel
theorem dX2_isLeft_19 : decode cX2_isLeft 19 = .ok (.iconst 0, 1) := by decide +kernel
theorem dX2_isLeft_20 : decode cX2_isLeft 20 = .ok (.ireturn, 1) := by decide +kernel
set_option maxRecDepth 20000 in
theorem ggX2_countLeft_X2_cases : GoodIn wsX2_countLeft wsX2_cases := goodIn_r _ [5, 6, 16, 17, 18, 19, 20, 21, 22, 23, 24] (by decide +kernel) (by decide +kernel)
set_option maxRecDepth 20000 in
theorem gX2_countLeft_X2_cases : GoodIn wsX2_countLeft (wsV RX2 67 RX2 yX2_cases wsX2_cases) := goodIn_app (goodIn_of _ (by decide +kernel)) ggX2_countLeft_X2_cases
set_option maxRecDepth 20000 in
theorem ggX2_countLeft_X2_isLeft : GoodIn wsX2_countLeft wsX2_isLeft := goodIn_r _ [10, 11, 12, 13, 14, 15, 16, 17, 18, 19, 20, 21, 22, 23, 24] (by decide +kernel) (by decide +kernel)
set_option maxRecDepth 20000 in
theorem gX2_countLeft_X2_isLeft : GoodIn wsX2_countLeft (wsV RX2 125 RX2 yX2_isLeft wsX2_isLeft) := goodIn_app (goodIn_of _ (by decide +kernel)) ggX2_countLeft_X2_isLeft
theorem dX2_countLeft_0 : decode cX2_countLeft 0 = .ok (.iconst 0, 1) := by decide +kernel
theorem dX2_countLeft_1 : decode cX2_countLeft 1 = .ok (.istore_n 1, 1) := by decide +kernel
theorem dX2_countLeft_2 : decode cX2_countLeft 2 = .ok (.iconst 0, 1) := by decide +kernel
theorem dX2_countLeft_3 : decode cX2_countLeft 3 = .ok (.istore_n 2, 1) := by decide +kernel
theorem dX2_countLeft_4 : decode cX2_countLeft 4 = .ok (.iload_n 2, 1) := by decide +kernel
theorem dX2_countLeft_5 : decode cX2_countLeft 5 = .ok (.aload_n 0, 1) := by decide +kernel
theorem dX2_countLeft_6 : decode cX2_countLeft 6 = .ok (.invokevirtual 67, 3) := by decide +kernel
theorem dX2_countLeft_9 : decode cX2_countLeft 9 = .ok (.if_icmp .ge 20, 3) := by decide +kernel
theorem dX2_countLeft_12 : decode cX2_countLeft 12 = .ok (.aload_n 0, 1) := by decide +kernel
theorem dX2_countLeft_13 : decode cX2_countLeft 13 = .ok (.iload_n 2, 1) := by decide +kernel
theorem dX2_countLeft_14 : decode cX2_countLeft 14 = .ok (.invokevirtual 125, 3) := by decide +kernel
theorem dX2_countLeft_17 : decode cX2_countLeft 17 = .ok (.ifCond .eq 6, 3) := by decide +kernel
theorem dX2_countLeft_20 : decode cX2_countLeft 20 = .ok (.iinc 1 1, 3) := by decide +kernel
theorem dX2_countLeft_23 : decode cX2_countLeft 23 = .ok (.iinc 2 1, 3) := by decide +kernel
theorem dX2_countLeft_26 : decode cX2_countLeft 26 = .ok (.goto (-22), 3) := by decide +kernel
theorem dX2_countLeft_29 : decode cX2_countLeft 29 = .ok (.iload_n 1, 1) := by decide +kernel
theorem dX2_countLeft_30 : decode cX2_countLeft 30 = .ok (.ireturn, 1) := by decide +kernel
set_option maxRecDepth 20000 in
theorem ggX2_findLeft_X2_cases : GoodIn wsX2_findLeft wsX2_cases := goodIn_r _ [5, 6, 16, 17, 18, 19, 20, 21, 22, 23, 24] (by decide +kernel) (by decide +kernel)
set_option maxRecDepth 20000 in
theorem gX2_findLeft_X2_cases : GoodIn wsX2_findLeft (wsV RX2 67 RX2 yX2_cases wsX2_cases) := goodIn_app (goodIn_of _ (by decide +kernel)) ggX2_findLeft_X2_cases
set_option maxRecDepth 20000 in
theorem ggX2_findLeft_X2_isLeft : GoodIn wsX2_findLeft wsX2_isLeft := goodIn_r _ [10, 11, 12, 13, 14, 15, 16, 17, 18, 19, 20, 21, 22, 23, 24] (by decide +kernel) (by decide +kernel)
set_option maxRecDepth 20000 in
theorem gX2_findLeft_X2_isLeft : GoodIn wsX2_findLeft (wsV RX2 125 RX2 yX2_isLeft wsX2_isLeft) := goodIn_app (goodIn_of _ (by decide +kernel)) ggX2_findLeft_X2_isLeft
theorem dX2_findLeft_0 : decode cX2_findLeft 0 = .ok (.iconst 0, 1) := by decide +kernel
theorem dX2_findLeft_1 : decode cX2_findLeft 1 = .ok (.istore_n 2, 1) := by decide +kernel
theorem dX2_findLeft_2 : decode cX2_findLeft 2 = .ok (.iconst 0, 1) := by decide +kernel
theorem dX2_findLeft_3 : decode cX2_findLeft 3 = .ok (.istore_n 3, 1) := by decide +kernel
theorem dX2_findLeft_4 : decode cX2_findLeft 4 = .ok (.iload_n 3, 1) := by decide +kernel
theorem dX2_findLeft_5 : decode cX2_findLeft 5 = .ok (.aload_n 0, 1) := by decide +kernel
theorem dX2_findLeft_6 : decode cX2_findLeft 6 = .ok (.invokevirtual 67, 3) := by decide +kernel
theorem dX2_findLeft_9 : decode cX2_findLeft 9 = .ok (.if_icmp .ge 27, 3) := by decide +kernel
theorem dX2_findLeft_12 : decode cX2_findLeft 12 = .ok (.aload_n 0, 1) := by decide +kernel
theorem dX2_findLeft_13 : decode cX2_findLeft 13 = .ok (.iload_n 3, 1) := by decide +kernel
theorem dX2_findLeft_14 : decode cX2_findLeft 14 = .ok (.invokevirtual 125, 3) := by decide +kernel
theorem dX2_findLeft_17 : decode cX2_findLeft 17 = .ok (.ifCond .eq 13, 3) := by decide +kernel
theorem dX2_findLeft_20 : decode cX2_findLeft 20 = .ok (.iload_n 2, 1) := by decide +kernel
theorem dX2_findLeft_21 : decode cX2_findLeft 21 = .ok (.iload_n 1, 1) := by decide +kernel
theorem dX2_findLeft_22 : decode cX2_findLeft 22 = .ok (.if_icmp .ne 5, 3) := by decide +kernel
theorem dX2_findLeft_25 : decode cX2_findLeft 25 = .ok (.iload_n 3, 1) := by decide +kernel
theorem dX2_findLeft_26 : decode cX2_findLeft 26 = .ok (.ireturn, 1) := by decide +kernel
theorem dX2_findLeft_27 : decode cX2_findLeft 27 = .ok (.iinc 2 1, 3) := by decide +kernel
theorem dX2_findLeft_30 : decode cX2_findLeft 30 = .ok (.iinc 3 1, 3) := by decide +kernel
theorem dX2_findLeft_33 : decode cX2_findLeft 33 = .ok (.goto (-29), 3) := by decide +kernel
theorem dX2_findLeft_36 : decode cX2_findLeft 36 = .ok (.iconst (-1), 1) := by decide +kernel
theorem dX2_findLeft_37 : decode cX2_findLeft 37 = .ok (.ireturn, 1) := by decide +kernel
set_option maxRecDepth 20000 in
theorem ggX2_falseCoins_X2_cases : GoodIn wsX2_falseCoins wsX2_cases := goodIn_r _ [5, 6, 18, 19, 20, 21, 22, 23, 24, 25, 26] (by decide +kernel) (by decide +kernel)
set_option maxRecDepth 20000 in
theorem gX2_falseCoins_X2_cases : GoodIn wsX2_falseCoins (wsV RX2 67 RX2 yX2_cases wsX2_cases) := goodIn_app (goodIn_of _ (by decide +kernel)) ggX2_falseCoins_X2_cases
set_option maxRecDepth 20000 in
theorem ggX2_falseCoins_X2_isLeft : GoodIn wsX2_falseCoins wsX2_isLeft := goodIn_r _ [10, 11, 12, 13, 14, 15, 18, 19, 20, 21, 22, 23, 24, 25, 26] (by decide +kernel) (by decide +kernel)
set_option maxRecDepth 20000 in
theorem gX2_falseCoins_X2_isLeft : GoodIn wsX2_falseCoins (wsV RX2 125 RX2 yX2_isLeft wsX2_isLeft) := goodIn_app (goodIn_of _ (by decide +kernel)) ggX2_falseCoins_X2_isLeft
set_option maxRecDepth 20000 in
theorem ggX2_falseCoins_X4_coinBit : GoodIn wsX2_falseCoins wsX4_coinBit := goodIn_r _ [17] (by decide +kernel) (by decide +kernel)
set_option maxRecDepth 20000 in
theorem gX2_falseCoins_X4_coinBit_n128 : GoodIn wsX2_falseCoins (wsX4_coinBit) := ggX2_falseCoins_X4_coinBit
theorem dX2_falseCoins_0 : decode cX2_falseCoins 0 = .ok (.iconst 0, 1) := by decide +kernel
theorem dX2_falseCoins_1 : decode cX2_falseCoins 1 = .ok (.istore_n 1, 1) := by decide +kernel
theorem dX2_falseCoins_2 : decode cX2_falseCoins 2 = .ok (.iconst 0, 1) := by decide +kernel
theorem dX2_falseCoins_3 : decode cX2_falseCoins 3 = .ok (.istore_n 2, 1) := by decide +kernel
theorem dX2_falseCoins_4 : decode cX2_falseCoins 4 = .ok (.iload_n 2, 1) := by decide +kernel
theorem dX2_falseCoins_5 : decode cX2_falseCoins 5 = .ok (.aload_n 0, 1) := by decide +kernel
theorem dX2_falseCoins_6 : decode cX2_falseCoins 6 = .ok (.invokevirtual 67, 3) := by decide +kernel
theorem dX2_falseCoins_9 : decode cX2_falseCoins 9 = .ok (.if_icmp .ge 24, 3) := by decide +kernel
theorem dX2_falseCoins_12 : decode cX2_falseCoins 12 = .ok (.aload_n 0, 1) := by decide +kernel
theorem dX2_falseCoins_13 : decode cX2_falseCoins 13 = .ok (.iload_n 2, 1) := by decide +kernel
theorem dX2_falseCoins_14 : decode cX2_falseCoins 14 = .ok (.invokevirtual 125, 3) := by decide +kernel
theorem dX2_falseCoins_17 : decode cX2_falseCoins 17 = .ok (.ifCond .eq 10, 3) := by decide +kernel
theorem dX2_falseCoins_20 : decode cX2_falseCoins 20 = .ok (.iload_n 1, 1) := by decide +kernel
theorem dX2_falseCoins_21 : decode cX2_falseCoins 21 = .ok (.iload_n 2, 1) := by decide +kernel
theorem dX2_falseCoins_22 : decode cX2_falseCoins 22 = .ok (.invokestatic 128, 3) := by decide +kernel
theorem dX2_falseCoins_25 : decode cX2_falseCoins 25 = .ok (.ior, 1) := by decide +kernel
theorem dX2_falseCoins_26 : decode cX2_falseCoins 26 = .ok (.istore_n 1, 1) := by decide +kernel
theorem dX2_falseCoins_27 : decode cX2_falseCoins 27 = .ok (.iinc 2 1, 3) := by decide +kernel
theorem dX2_falseCoins_30 : decode cX2_falseCoins 30 = .ok (.goto (-26), 3) := by decide +kernel
theorem dX2_falseCoins_33 : decode cX2_falseCoins 33 = .ok (.iload_n 1, 1) := by decide +kernel
theorem dX2_falseCoins_34 : decode cX2_falseCoins 34 = .ok (.ireturn, 1) := by decide +kernel
set_option maxRecDepth 20000 in
theorem ggX2_number_X2_countLeft : GoodIn wsX2_number wsX2_countLeft := goodIn_r _ [11, 12, 13, 14, 10, 15, 1, 16, 17, 18, 19, 20, 2, 21, 22, 23, 30, 31, 32, 33, 34, 35, 36, 37, 38] (by decide +kernel) (by decide +kernel)
set_option maxRecDepth 20000 in
theorem gX2_number_X2_countLeft : GoodIn wsX2_number (wsV RX2 131 RX2 yX2_countLeft wsX2_countLeft) := goodIn_app (goodIn_of _ (by decide +kernel)) ggX2_number_X2_countLeft
set_option maxRecDepth 20000 in
theorem ggX2_number_X2_falseCoins : GoodIn wsX2_number wsX2_falseCoins := goodIn_r _ [27, 12, 13, 14, 10, 15, 1, 16, 17, 18, 19, 20, 2, 21, 22, 23, 28, 29, 30, 31, 32, 33, 34, 35, 36, 37, 38] (by decide +kernel) (by decide +kernel)
set_option maxRecDepth 20000 in
theorem gX2_number_X2_falseCoins : GoodIn wsX2_number (wsV RX2 134 RX2 yX2_falseCoins wsX2_falseCoins) := goodIn_app (goodIn_of _ (by decide +kernel)) ggX2_number_X2_falseCoins
set_option maxRecDepth 20000 in
theorem ggX2_number_X2_isLeft : GoodIn wsX2_number wsX2_isLeft := goodIn_r _ [19, 20, 2, 21, 22, 23, 30, 31, 32, 33, 34, 35, 36, 37, 38] (by decide +kernel) (by decide +kernel)
set_option maxRecDepth 20000 in
theorem gX2_number_X2_isLeft : GoodIn wsX2_number (wsV RX2 125 RX2 yX2_isLeft wsX2_isLeft) := goodIn_app (goodIn_of _ (by decide +kernel)) ggX2_number_X2_isLeft
theorem dX2_number_0 : decode cX2_number 0 = .ok (.iload_n 1, 1) := by decide +kernel
theorem dX2_number_1 : decode cX2_number 1 = .ok (.tableswitch 93 0 7 #[47, 52, 57, 65, 70, 78, 83, 88], 47) := by decide +kernel
theorem dX2_number_48 : decode cX2_number 48 = .ok (.aload_n 0, 1) := by decide +kernel
theorem dX2_number_49 : decode cX2_number 49 = .ok (.getfield 33, 3) := by decide +kernel
theorem dX2_number_52 : decode cX2_number 52 = .ok (.ireturn, 1) := by decide +kernel
theorem dX2_number_53 : decode cX2_number 53 = .ok (.aload_n 0, 1) := by decide +kernel
theorem dX2_number_54 : decode cX2_number 54 = .ok (.getfield 37, 3) := by decide +kernel
theorem dX2_number_57 : decode cX2_number 57 = .ok (.ireturn, 1) := by decide +kernel
theorem dX2_number_58 : decode cX2_number 58 = .ok (.aload_n 0, 1) := by decide +kernel
theorem dX2_number_59 : decode cX2_number 59 = .ok (.getfield 14, 3) := by decide +kernel
theorem dX2_number_62 : decode cX2_number 62 = .ok (.getfield 40, 3) := by decide +kernel
theorem dX2_number_65 : decode cX2_number 65 = .ok (.ireturn, 1) := by decide +kernel
theorem dX2_number_66 : decode cX2_number 66 = .ok (.aload_n 0, 1) := by decide +kernel
theorem dX2_number_67 : decode cX2_number 67 = .ok (.invokevirtual 131, 3) := by decide +kernel
theorem dX2_number_70 : decode cX2_number 70 = .ok (.ireturn, 1) := by decide +kernel
theorem dX2_number_71 : decode cX2_number 71 = .ok (.aload_n 0, 1) := by decide +kernel
theorem dX2_number_72 : decode cX2_number 72 = .ok (.getfield 20, 3) := by decide +kernel
theorem dX2_number_75 : decode cX2_number 75 = .ok (.getfield 40, 3) := by decide +kernel
theorem dX2_number_78 : decode cX2_number 78 = .ok (.ireturn, 1) := by decide +kernel
theorem dX2_number_79 : decode cX2_number 79 = .ok (.aload_n 0, 1) := by decide +kernel
theorem dX2_number_80 : decode cX2_number 80 = .ok (.getfield 58, 3) := by decide +kernel
theorem dX2_number_83 : decode cX2_number 83 = .ok (.ireturn, 1) := by decide +kernel
theorem dX2_number_84 : decode cX2_number 84 = .ok (.aload_n 0, 1) := by decide +kernel
theorem dX2_number_85 : decode cX2_number 85 = .ok (.getfield 64, 3) := by decide +kernel
theorem dX2_number_88 : decode cX2_number 88 = .ok (.ireturn, 1) := by decide +kernel
theorem dX2_number_89 : decode cX2_number 89 = .ok (.aload_n 0, 1) := by decide +kernel
theorem dX2_number_90 : decode cX2_number 90 = .ok (.invokevirtual 134, 3) := by decide +kernel
theorem dX2_number_93 : decode cX2_number 93 = .ok (.ireturn, 1) := by decide +kernel
theorem dX2_number_94 : decode cX2_number 94 = .ok (.aload_n 0, 1) := by decide +kernel
theorem dX2_number_95 : decode cX2_number 95 = .ok (.iconst 0, 1) := by decide +kernel
theorem dX2_number_96 : decode cX2_number 96 = .ok (.invokevirtual 125, 3) := by decide +kernel
theorem dX2_number_99 : decode cX2_number 99 = .ok (.ifCond .eq 7, 3) := by decide +kernel
theorem dX2_number_102 : decode cX2_number 102 = .ok (.iconst 1, 1) := by decide +kernel
theorem dX2_number_103 : decode cX2_number 103 = .ok (.goto 4, 3) := by decide +kernel
theorem dX2_number_106 : decode cX2_number 106 = .ok (.iconst 0, 1) := by decide +kernel
theorem dX2_number_107 : decode cX2_number 107 = .ok (.ireturn, 1) := by decide +kernel
set_option maxRecDepth 20000 in
theorem ggX2_weightAhead_X2_cases : GoodIn wsX2_weightAhead wsX2_cases := goodIn_r _ [6, 7, 22, 23, 24, 25, 26, 27, 28, 29, 30] (by decide +kernel) (by decide +kernel)
set_option maxRecDepth 20000 in
theorem gX2_weightAhead_X2_cases : GoodIn wsX2_weightAhead (wsV RX2 67 RX2 yX2_cases wsX2_cases) := goodIn_app (goodIn_of _ (by decide +kernel)) ggX2_weightAhead_X2_cases
set_option maxRecDepth 20000 in
theorem ggX2_weightAhead_X4_at : GoodIn wsX2_weightAhead wsX4_at := goodIn_r _ [10] (by decide +kernel) (by decide +kernel)
set_option maxRecDepth 20000 in
theorem gX2_weightAhead_X4_at_n89 : GoodIn wsX2_weightAhead (wsX4_at) := ggX2_weightAhead_X4_at
set_option maxRecDepth 20000 in
theorem ggX2_weightAhead_X2_volumeLeft : GoodIn wsX2_weightAhead wsX2_volumeLeft := goodIn_r _ [14, 15, 16, 9, 17, 18, 19, 20, 21, 22, 23, 24, 25, 26, 27, 28, 29, 30] (by decide +kernel) (by decide +kernel)
set_option maxRecDepth 20000 in
theorem gX2_weightAhead_X2_volumeLeft : GoodIn wsX2_weightAhead (wsV RX2 137 RX2 yX2_volumeLeft wsX2_volumeLeft) := goodIn_app (goodIn_of _ (by decide +kernel)) ggX2_weightAhead_X2_volumeLeft
theorem dX2_weightAhead_0 : decode cX2_weightAhead 0 = .ok (.lconst 0, 1) := by decide +kernel
theorem dX2_weightAhead_1 : decode cX2_weightAhead 1 = .ok (.lstore_n 2, 1) := by decide +kernel
theorem dX2_weightAhead_2 : decode cX2_weightAhead 2 = .ok (.iconst 0, 1) := by decide +kernel
theorem dX2_weightAhead_3 : decode cX2_weightAhead 3 = .ok (.istore 4, 2) := by decide +kernel
theorem dX2_weightAhead_5 : decode cX2_weightAhead 5 = .ok (.iload 4, 2) := by decide +kernel
theorem dX2_weightAhead_7 : decode cX2_weightAhead 7 = .ok (.aload_n 0, 1) := by decide +kernel
theorem dX2_weightAhead_8 : decode cX2_weightAhead 8 = .ok (.invokevirtual 67, 3) := by decide +kernel
theorem dX2_weightAhead_11 : decode cX2_weightAhead 11 = .ok (.if_icmp .ge 26, 3) := by decide +kernel
theorem dX2_weightAhead_14 : decode cX2_weightAhead 14 = .ok (.lload_n 2, 1) := by decide +kernel
theorem dX2_weightAhead_15 : decode cX2_weightAhead 15 = .ok (.aload_n 0, 1) := by decide +kernel
theorem dX2_weightAhead_16 : decode cX2_weightAhead 16 = .ok (.aload_n 0, 1) := by decide +kernel
theorem dX2_weightAhead_17 : decode cX2_weightAhead 17 = .ok (.getfield 23, 3) := by decide +kernel
theorem dX2_weightAhead_20 : decode cX2_weightAhead 20 = .ok (.iload 4, 2) := by decide +kernel
theorem dX2_weightAhead_22 : decode cX2_weightAhead 22 = .ok (.invokestatic 89, 3) := by decide +kernel
theorem dX2_weightAhead_25 : decode cX2_weightAhead 25 = .ok (.iload_n 1, 1) := by decide +kernel
theorem dX2_weightAhead_26 : decode cX2_weightAhead 26 = .ok (.invokevirtual 137, 3) := by decide +kernel
theorem dX2_weightAhead_29 : decode cX2_weightAhead 29 = .ok (.ladd, 1) := by decide +kernel
theorem dX2_weightAhead_30 : decode cX2_weightAhead 30 = .ok (.lstore_n 2, 1) := by decide +kernel
theorem dX2_weightAhead_31 : decode cX2_weightAhead 31 = .ok (.iinc 4 1, 3) := by decide +kernel
theorem dX2_weightAhead_34 : decode cX2_weightAhead 34 = .ok (.goto (-29), 3) := by decide +kernel
theorem dX2_weightAhead_37 : decode cX2_weightAhead 37 = .ok (.lload_n 2, 1) := by decide +kernel
theorem dX2_weightAhead_38 : decode cX2_weightAhead 38 = .ok (.lreturn, 1) := by decide +kernel
set_option maxRecDepth 20000 in
theorem ggX2_weightIfTold_X2_cases : GoodIn wsX2_weightIfTold wsX2_cases := goodIn_r _ [5, 6, 31, 32, 33, 34, 35, 36, 37, 38, 39] (by decide +kernel) (by decide +kernel)
set_option maxRecDepth 20000 in
theorem gX2_weightIfTold_X2_cases : GoodIn wsX2_weightIfTold (wsV RX2 67 RX2 yX2_cases wsX2_cases) := goodIn_app (goodIn_of _ (by decide +kernel)) ggX2_weightIfTold_X2_cases
set_option maxRecDepth 20000 in
theorem ggX2_weightIfTold_X2_liesIfTold : GoodIn wsX2_weightIfTold wsX2_liesIfTold := goodIn_r _ [10, 11, 12, 13, 14, 15, 16, 17, 18, 19, 31, 32, 33, 34, 35, 36, 37, 38, 39] (by decide +kernel) (by decide +kernel)
set_option maxRecDepth 20000 in
theorem gX2_weightIfTold_X2_liesIfTold : GoodIn wsX2_weightIfTold (wsV RX2 81 RX2 yX2_liesIfTold wsX2_liesIfTold) := goodIn_app (goodIn_of _ (by decide +kernel)) ggX2_weightIfTold_X2_liesIfTold
set_option maxRecDepth 20000 in
theorem ggX2_weightIfTold_X2_volumeLeft : GoodIn wsX2_weightIfTold wsX2_volumeLeft := goodIn_r _ [23, 24, 25, 13, 26, 27, 28, 29, 30, 31, 32, 33, 34, 35, 36, 37, 38, 39] (by decide +kernel) (by decide +kernel)
set_option maxRecDepth 20000 in
theorem gX2_weightIfTold_X2_volumeLeft : GoodIn wsX2_weightIfTold (wsV RX2 137 RX2 yX2_volumeLeft wsX2_volumeLeft) := goodIn_app (goodIn_of _ (by decide +kernel)) ggX2_weightIfTold_X2_volumeLeft
theorem dX2_weightIfTold_0 : decode cX2_weightIfTold 0 = .ok (.lconst 0, 1) := by decide +kernel
theorem dX2_weightIfTold_1 : decode cX2_weightIfTold 1 = .ok (.lstore 5, 2) := by decide +kernel
theorem dX2_weightIfTold_3 : decode cX2_weightIfTold 3 = .ok (.iconst 0, 1) := by decide +kernel
theorem dX2_weightIfTold_4 : decode cX2_weightIfTold 4 = .ok (.istore 7, 2) := by decide +kernel
theorem dX2_weightIfTold_6 : decode cX2_weightIfTold 6 = .ok (.iload 7, 2) := by decide +kernel
theorem dX2_weightIfTold_8 : decode cX2_weightIfTold 8 = .ok (.aload_n 0, 1) := by decide +kernel
theorem dX2_weightIfTold_9 : decode cX2_weightIfTold 9 = .ok (.invokevirtual 67, 3) := by decide +kernel
theorem dX2_weightIfTold_12 : decode cX2_weightIfTold 12 = .ok (.if_icmp .ge 29, 3) := by decide +kernel
theorem dX2_weightIfTold_15 : decode cX2_weightIfTold 15 = .ok (.lload 5, 2) := by decide +kernel
theorem dX2_weightIfTold_17 : decode cX2_weightIfTold 17 = .ok (.aload_n 0, 1) := by decide +kernel
theorem dX2_weightIfTold_18 : decode cX2_weightIfTold 18 = .ok (.aload_n 0, 1) := by decide +kernel
theorem dX2_weightIfTold_19 : decode cX2_weightIfTold 19 = .ok (.iload 7, 2) := by decide +kernel
theorem dX2_weightIfTold_21 : decode cX2_weightIfTold 21 = .ok (.iload_n 1, 1) := by decide +kernel
theorem dX2_weightIfTold_22 : decode cX2_weightIfTold 22 = .ok (.iload_n 2, 1) := by decide +kernel
theorem dX2_weightIfTold_23 : decode cX2_weightIfTold 23 = .ok (.iload_n 3, 1) := by decide +kernel
theorem dX2_weightIfTold_24 : decode cX2_weightIfTold 24 = .ok (.invokevirtual 81, 3) := by decide +kernel
theorem dX2_weightIfTold_27 : decode cX2_weightIfTold 27 = .ok (.iload 4, 2) := by decide +kernel
theorem dX2_weightIfTold_29 : decode cX2_weightIfTold 29 = .ok (.invokevirtual 137, 3) := by decide +kernel
theorem dX2_weightIfTold_32 : decode cX2_weightIfTold 32 = .ok (.ladd, 1) := by decide +kernel
theorem dX2_weightIfTold_33 : decode cX2_weightIfTold 33 = .ok (.lstore 5, 2) := by decide +kernel
theorem dX2_weightIfTold_35 : decode cX2_weightIfTold 35 = .ok (.iinc 7 1, 3) := by decide +kernel
theorem dX2_weightIfTold_38 : decode cX2_weightIfTold 38 = .ok (.goto (-32), 3) := by decide +kernel
theorem dX2_weightIfTold_41 : decode cX2_weightIfTold 41 = .ok (.lload 5, 2) := by decide +kernel
theorem dX2_weightIfTold_43 : decode cX2_weightIfTold 43 = .ok (.lreturn, 1) := by decide +kernel
set_option maxRecDepth 20000 in
theorem ggX2_volumeLeft_X4_volume : GoodIn wsX2_volumeLeft wsX4_volume := goodIn_r _ [4, 5, 6, 7, 8] (by decide +kernel) (by decide +kernel)
set_option maxRecDepth 20000 in
theorem gX2_volumeLeft_X4_volume_n141 : GoodIn wsX2_volumeLeft (wsX4_volume) := ggX2_volumeLeft_X4_volume
theorem dX2_volumeLeft_0 : decode cX2_volumeLeft 0 = .ok (.iload_n 1, 1) := by decide +kernel
theorem dX2_volumeLeft_1 : decode cX2_volumeLeft 1 = .ok (.aload_n 0, 1) := by decide +kernel
theorem dX2_volumeLeft_2 : decode cX2_volumeLeft 2 = .ok (.getfield 37, 3) := by decide +kernel
theorem dX2_volumeLeft_5 : decode cX2_volumeLeft 5 = .ok (.if_icmp .le 7, 3) := by decide +kernel
theorem dX2_volumeLeft_8 : decode cX2_volumeLeft 8 = .ok (.lconst 0, 1) := by decide +kernel
theorem dX2_volumeLeft_9 : decode cX2_volumeLeft 9 = .ok (.goto 13, 3) := by decide +kernel
theorem dX2_volumeLeft_12 : decode cX2_volumeLeft 12 = .ok (.iload_n 2, 1) := by decide +kernel
theorem dX2_volumeLeft_13 : decode cX2_volumeLeft 13 = .ok (.aload_n 0, 1) := by decide +kernel
theorem dX2_volumeLeft_14 : decode cX2_volumeLeft 14 = .ok (.getfield 37, 3) := by decide +kernel
theorem dX2_volumeLeft_17 : decode cX2_volumeLeft 17 = .ok (.iload_n 1, 1) := by decide +kernel
theorem dX2_volumeLeft_18 : decode cX2_volumeLeft 18 = .ok (.isub, 1) := by decide +kernel
theorem dX2_volumeLeft_19 : decode cX2_volumeLeft 19 = .ok (.invokestatic 141, 3) := by decide +kernel
theorem dX2_volumeLeft_22 : decode cX2_volumeLeft 22 = .ok (.lreturn, 1) := by decide +kernel
set_option maxRecDepth 20000 in
theorem ggX2_badness_X2_weightIfTold : GoodIn wsX2_badness wsX2_weightIfTold := goodIn_r _ [9, 10, 11, 12, 8, 13, 14, 15, 16, 17, 18, 19, 20, 21, 22, 23, 24, 25, 26, 27, 28, 29, 30, 31, 32, 33, 34, 35, 36, 3, 37, 38, 39, 40, 41, 42, 43, 44, 45, 46] (by decide +kernel) (by decide +kernel)
set_option maxRecDepth 20000 in
theorem gX2_badness_X2_weightIfTold : GoodIn wsX2_badness (wsV RX2 144 RX2 yX2_weightIfTold wsX2_weightIfTold) := goodIn_app (goodIn_of _ (by decide +kernel)) ggX2_badness_X2_weightIfTold
theorem dX2_badness_0 : decode cX2_badness 0 = .ok (.iconst 1, 1) := by decide +kernel
theorem dX2_badness_1 : decode cX2_badness 1 = .ok (.iload_n 1, 1) := by decide +kernel
theorem dX2_badness_2 : decode cX2_badness 2 = .ok (.ishl, 1) := by decide +kernel
theorem dX2_badness_3 : decode cX2_badness 3 = .ok (.iconst 1, 1) := by decide +kernel
theorem dX2_badness_4 : decode cX2_badness 4 = .ok (.isub, 1) := by decide +kernel
theorem dX2_badness_5 : decode cX2_badness 5 = .ok (.istore_n 3, 1) := by decide +kernel
theorem dX2_badness_6 : decode cX2_badness 6 = .ok (.iload_n 3, 1) := by decide +kernel
theorem dX2_badness_7 : decode cX2_badness 7 = .ok (.iload_n 1, 1) := by decide +kernel
theorem dX2_badness_8 : decode cX2_badness 8 = .ok (.ishl, 1) := by decide +kernel
theorem dX2_badness_9 : decode cX2_badness 9 = .ok (.istore 4, 2) := by decide +kernel
theorem dX2_badness_11 : decode cX2_badness 11 = .ok (.lconst 0, 1) := by decide +kernel
theorem dX2_badness_12 : decode cX2_badness 12 = .ok (.lstore 5, 2) := by decide +kernel
theorem dX2_badness_14 : decode cX2_badness 14 = .ok (.iconst 0, 1) := by decide +kernel
theorem dX2_badness_15 : decode cX2_badness 15 = .ok (.istore 7, 2) := by decide +kernel
theorem dX2_badness_17 : decode cX2_badness 17 = .ok (.iload 7, 2) := by decide +kernel
theorem dX2_badness_19 : decode cX2_badness 19 = .ok (.iconst 3, 1) := by decide +kernel
theorem dX2_badness_20 : decode cX2_badness 20 = .ok (.if_icmp .ge 26, 3) := by decide +kernel
theorem dX2_badness_23 : decode cX2_badness 23 = .ok (.lload 5, 2) := by decide +kernel
theorem dX2_badness_25 : decode cX2_badness 25 = .ok (.aload_n 0, 1) := by decide +kernel
theorem dX2_badness_26 : decode cX2_badness 26 = .ok (.iload_n 3, 1) := by decide +kernel
theorem dX2_badness_27 : decode cX2_badness 27 = .ok (.iload 4, 2) := by decide +kernel
theorem dX2_badness_29 : decode cX2_badness 29 = .ok (.iload 7, 2) := by decide +kernel
theorem dX2_badness_31 : decode cX2_badness 31 = .ok (.iload_n 2, 1) := by decide +kernel
theorem dX2_badness_32 : decode cX2_badness 32 = .ok (.invokevirtual 144, 3) := by decide +kernel
theorem dX2_badness_35 : decode cX2_badness 35 = .ok (.invokestatic 148, 3) := by decide +kernel
theorem dX2_badness_38 : decode cX2_badness 38 = .ok (.lstore 5, 2) := by decide +kernel
theorem dX2_badness_40 : decode cX2_badness 40 = .ok (.iinc 7 1, 3) := by decide +kernel
theorem dX2_badness_43 : decode cX2_badness 43 = .ok (.goto (-26), 3) := by decide +kernel
theorem dX2_badness_46 : decode cX2_badness 46 = .ok (.lload 5, 2) := by decide +kernel
theorem dX2_badness_48 : decode cX2_badness 48 = .ok (.lreturn, 1) := by decide +kernel
set_option maxRecDepth 20000 in
theorem ggX2_findGroup_X2_badness : GoodIn wsX2_findGroup wsX2_badness := goodIn_r _ [6, 7, 8, 9, 10, 11, 12, 13, 5, 14, 15, 16, 17, 18, 1, 19, 20, 21, 22, 23, 24, 25, 26, 27, 28, 29, 30, 31, 32, 33, 34, 35, 36, 37, 38, 39, 40, 41, 42, 43, 44, 45, 46, 47, 48, 49, 50] (by decide +kernel) (by decide +kernel)
set_option maxRecDepth 20000 in
theorem gX2_findGroup_X2_badness : GoodIn wsX2_findGroup (wsV RX2 154 RX2 yX2_badness wsX2_badness) := goodIn_app (goodIn_of _ (by decide +kernel)) ggX2_findGroup_X2_badness
theorem dX2_findGroup_0 : decode cX2_findGroup 0 = .ok (.iconst 1, 1) := by decide +kernel
theorem dX2_findGroup_1 : decode cX2_findGroup 1 = .ok (.istore_n 2, 1) := by decide +kernel
theorem dX2_findGroup_2 : decode cX2_findGroup 2 = .ok (.aload_n 0, 1) := by decide +kernel
theorem dX2_findGroup_3 : decode cX2_findGroup 3 = .ok (.iconst 1, 1) := by decide +kernel
theorem dX2_findGroup_4 : decode cX2_findGroup 4 = .ok (.iload_n 1, 1) := by decide +kernel
theorem dX2_findGroup_5 : decode cX2_findGroup 5 = .ok (.invokevirtual 154, 3) := by decide +kernel
theorem dX2_findGroup_8 : decode cX2_findGroup 8 = .ok (.lstore_n 3, 1) := by decide +kernel
theorem dX2_findGroup_9 : decode cX2_findGroup 9 = .ok (.iconst 2, 1) := by decide +kernel
theorem dX2_findGroup_10 : decode cX2_findGroup 10 = .ok (.istore 5, 2) := by decide +kernel
theorem dX2_findGroup_12 : decode cX2_findGroup 12 = .ok (.iload 5, 2) := by decide +kernel
theorem dX2_findGroup_14 : decode cX2_findGroup 14 = .ok (.aload_n 0, 1) := by decide +kernel
theorem dX2_findGroup_15 : decode cX2_findGroup 15 = .ok (.getfield 33, 3) := by decide +kernel
theorem dX2_findGroup_18 : decode cX2_findGroup 18 = .ok (.iconst 2, 1) := by decide +kernel
theorem dX2_findGroup_19 : decode cX2_findGroup 19 = .ok (.idiv, 1) := by decide +kernel
theorem dX2_findGroup_20 : decode cX2_findGroup 20 = .ok (.if_icmp .gt 31, 3) := by decide +kernel
theorem dX2_findGroup_23 : decode cX2_findGroup 23 = .ok (.aload_n 0, 1) := by decide +kernel
theorem dX2_findGroup_24 : decode cX2_findGroup 24 = .ok (.iload 5, 2) := by decide +kernel
theorem dX2_findGroup_26 : decode cX2_findGroup 26 = .ok (.iload_n 1, 1) := by decide +kernel
theorem dX2_findGroup_27 : decode cX2_findGroup 27 = .ok (.invokevirtual 154, 3) := by decide +kernel
theorem dX2_findGroup_30 : decode cX2_findGroup 30 = .ok (.lstore 6, 2) := by decide +kernel
theorem dX2_findGroup_32 : decode cX2_findGroup 32 = .ok (.lload 6, 2) := by decide +kernel
theorem dX2_findGroup_34 : decode cX2_findGroup 34 = .ok (.lload_n 3, 1) := by decide +kernel
theorem dX2_findGroup_35 : decode cX2_findGroup 35 = .ok (.lcmp, 1) := by decide +kernel
theorem dX2_findGroup_36 : decode cX2_findGroup 36 = .ok (.ifCond .ge 9, 3) := by decide +kernel
theorem dX2_findGroup_39 : decode cX2_findGroup 39 = .ok (.lload 6, 2) := by decide +kernel
theorem dX2_findGroup_41 : decode cX2_findGroup 41 = .ok (.lstore_n 3, 1) := by decide +kernel
theorem dX2_findGroup_42 : decode cX2_findGroup 42 = .ok (.iload 5, 2) := by decide +kernel
theorem dX2_findGroup_44 : decode cX2_findGroup 44 = .ok (.istore_n 2, 1) := by decide +kernel
theorem dX2_findGroup_45 : decode cX2_findGroup 45 = .ok (.iinc 5 1, 3) := by decide +kernel
theorem dX2_findGroup_48 : decode cX2_findGroup 48 = .ok (.goto (-36), 3) := by decide +kernel
theorem dX2_findGroup_51 : decode cX2_findGroup 51 = .ok (.iload_n 2, 1) := by decide +kernel
theorem dX2_findGroup_52 : decode cX2_findGroup 52 = .ok (.ireturn, 1) := by decide +kernel
set_option maxRecDepth 20000 in
theorem ggX2_differs_X2_cases : GoodIn wsX2_differs wsX2_cases := goodIn_r _ [5, 6, 21, 22, 23, 24, 25, 26, 27, 28, 29] (by decide +kernel) (by decide +kernel)
set_option maxRecDepth 20000 in
theorem gX2_differs_X2_cases : GoodIn wsX2_differs (wsV RX2 67 RX2 yX2_cases wsX2_cases) := goodIn_app (goodIn_of _ (by decide +kernel)) ggX2_differs_X2_cases
set_option maxRecDepth 20000 in
theorem ggX2_differs_X2_isLeft : GoodIn wsX2_differs wsX2_isLeft := goodIn_r _ [10, 11, 12, 13, 14, 15, 21, 22, 23, 24, 25, 26, 27, 28, 29] (by decide +kernel) (by decide +kernel)
set_option maxRecDepth 20000 in
theorem gX2_differs_X2_isLeft : GoodIn wsX2_differs (wsV RX2 125 RX2 yX2_isLeft wsX2_isLeft) := goodIn_app (goodIn_of _ (by decide +kernel)) ggX2_differs_X2_isLeft
set_option maxRecDepth 20000 in
theorem ggX2_differs_X4_trueAnswer : GoodIn wsX2_differs wsX4_trueAnswer := goodIn_r _ [17, 18, 19, 14, 20] (by decide +kernel) (by decide +kernel)
set_option maxRecDepth 20000 in
theorem gX2_differs_X4_trueAnswer_n93 : GoodIn wsX2_differs (wsX4_trueAnswer) := ggX2_differs_X4_trueAnswer
theorem dX2_differs_0 : decode cX2_differs 0 = .ok (.iconst (-1), 1) := by decide +kernel
theorem dX2_differs_1 : decode cX2_differs 1 = .ok (.istore_n 3, 1) := by decide +kernel
theorem dX2_differs_2 : decode cX2_differs 2 = .ok (.iconst 0, 1) := by decide +kernel
theorem dX2_differs_3 : decode cX2_differs 3 = .ok (.istore 4, 2) := by decide +kernel
theorem dX2_differs_5 : decode cX2_differs 5 = .ok (.iload 4, 2) := by decide +kernel
theorem dX2_differs_7 : decode cX2_differs 7 = .ok (.aload_n 0, 1) := by decide +kernel
theorem dX2_differs_8 : decode cX2_differs 8 = .ok (.invokevirtual 67, 3) := by decide +kernel
theorem dX2_differs_11 : decode cX2_differs 11 = .ok (.if_icmp .ge 43, 3) := by decide +kernel
theorem dX2_differs_14 : decode cX2_differs 14 = .ok (.aload_n 0, 1) := by decide +kernel
theorem dX2_differs_15 : decode cX2_differs 15 = .ok (.iload 4, 2) := by decide +kernel
theorem dX2_differs_17 : decode cX2_differs 17 = .ok (.invokevirtual 125, 3) := by decide +kernel
theorem dX2_differs_20 : decode cX2_differs 20 = .ok (.ifCond .eq 28, 3) := by decide +kernel
theorem dX2_differs_23 : decode cX2_differs 23 = .ok (.iload 4, 2) := by decide +kernel
theorem dX2_differs_25 : decode cX2_differs 25 = .ok (.iload_n 1, 1) := by decide +kernel
theorem dX2_differs_26 : decode cX2_differs 26 = .ok (.iload_n 2, 1) := by decide +kernel
theorem dX2_differs_27 : decode cX2_differs 27 = .ok (.invokestatic 93, 3) := by decide +kernel
theorem dX2_differs_30 : decode cX2_differs 30 = .ok (.istore 5, 2) := by decide +kernel
theorem dX2_differs_32 : decode cX2_differs 32 = .ok (.iload_n 3, 1) := by decide +kernel
theorem dX2_differs_33 : decode cX2_differs 33 = .ok (.iconst (-1), 1) := by decide +kernel
theorem dX2_differs_34 : decode cX2_differs 34 = .ok (.if_icmp .eq 11, 3) := by decide +kernel
theorem dX2_differs_37 : decode cX2_differs 37 = .ok (.iload 5, 2) := by decide +kernel
theorem dX2_differs_39 : decode cX2_differs 39 = .ok (.iload_n 3, 1) := by decide +kernel
theorem dX2_differs_40 : decode cX2_differs 40 = .ok (.if_icmp .eq 5, 3) := by decide +kernel
theorem dX2_differs_43 : decode cX2_differs 43 = .ok (.iconst 1, 1) := by decide +kernel
theorem dX2_differs_44 : decode cX2_differs 44 = .ok (.ireturn, 1) := by decide +kernel
theorem dX2_differs_45 : decode cX2_differs 45 = .ok (.iload 5, 2) := by decide +kernel
theorem dX2_differs_47 : decode cX2_differs 47 = .ok (.istore_n 3, 1) := by decide +kernel
theorem dX2_differs_48 : decode cX2_differs 48 = .ok (.iinc 4 1, 3) := by decide +kernel
theorem dX2_differs_51 : decode cX2_differs 51 = .ok (.goto (-46), 3) := by decide +kernel
theorem dX2_differs_54 : decode cX2_differs 54 = .ok (.iconst 0, 1) := by decide +kernel
theorem dX2_differs_55 : decode cX2_differs 55 = .ok (.ireturn, 1) := by decide +kernel
set_option maxRecDepth 20000 in
theorem ggX2_leastDifferences_X2_cases : GoodIn wsX2_leastDifferences wsX2_cases := goodIn_r _ [11, 12, 40, 41, 42, 43, 44, 45, 46, 47, 48] (by decide +kernel) (by decide +kernel)
set_option maxRecDepth 20000 in
theorem gX2_leastDifferences_X2_cases : GoodIn wsX2_leastDifferences (wsV RX2 67 RX2 yX2_cases wsX2_cases) := goodIn_app (goodIn_of _ (by decide +kernel)) ggX2_leastDifferences_X2_cases
set_option maxRecDepth 20000 in
theorem ggX2_leastDifferences_X3_codeWord : GoodIn wsX2_leastDifferences wsX3_codeWord := goodIn_r _ [17, 18, 19, 20, 21, 22, 23, 24, 25, 26, 27, 28, 49, 50, 51, 52] (by decide +kernel) (by decide +kernel)
set_option maxRecDepth 20000 in
theorem gX2_leastDifferences_X3_codeWord : GoodIn wsX2_leastDifferences (wsV RX2 157 RX3 yX3_codeWord wsX3_codeWord) := goodIn_app (goodIn_of _ (by decide +kernel)) ggX2_leastDifferences_X3_codeWord
set_option maxRecDepth 20000 in
theorem ggX2_leastDifferences_X4_put : GoodIn wsX2_leastDifferences wsX4_put := goodIn_r _ [30] (by decide +kernel) (by decide +kernel)
set_option maxRecDepth 20000 in
theorem gX2_leastDifferences_X4_put_n85 : GoodIn wsX2_leastDifferences (wsX4_put) := ggX2_leastDifferences_X4_put
set_option maxRecDepth 20000 in
theorem ggX2_leastDifferences_X4_at : GoodIn wsX2_leastDifferences wsX4_at := goodIn_r _ [23] (by decide +kernel) (by decide +kernel)
set_option maxRecDepth 20000 in
theorem gX2_leastDifferences_X4_at_n89 : GoodIn wsX2_leastDifferences (wsX4_at) := ggX2_leastDifferences_X4_at
set_option maxRecDepth 20000 in
theorem ggX2_leastDifferences_X4_differences : GoodIn wsX2_leastDifferences wsX4_differences := goodIn_r _ [32, 33, 34, 35, 36, 37, 38, 39] (by decide +kernel) (by decide +kernel)
set_option maxRecDepth 20000 in
theorem gX2_leastDifferences_X4_differences_n160 : GoodIn wsX2_leastDifferences (wsX4_differences) := ggX2_leastDifferences_X4_differences
theorem dX2_leastDifferences_0 : decode cX2_leastDifferences 0 = .ok (.bipush 8, 2) := by decide +kernel
theorem dX2_leastDifferences_2 : decode cX2_leastDifferences 2 = .ok (.istore_n 1, 1) := by decide +kernel
theorem dX2_leastDifferences_3 : decode cX2_leastDifferences 3 = .ok (.iconst 0, 1) := by decide +kernel
theorem dX2_leastDifferences_4 : decode cX2_leastDifferences 4 = .ok (.istore_n 2, 1) := by decide +kernel
theorem dX2_leastDifferences_5 : decode cX2_leastDifferences 5 = .ok (.iload_n 2, 1) := by decide +kernel
theorem dX2_leastDifferences_6 : decode cX2_leastDifferences 6 = .ok (.aload_n 0, 1) := by decide +kernel
theorem dX2_leastDifferences_7 : decode cX2_leastDifferences 7 = .ok (.invokevirtual 67, 3) := by decide +kernel
theorem dX2_leastDifferences_10 : decode cX2_leastDifferences 10 = .ok (.if_icmp .ge 62, 3) := by decide +kernel
theorem dX2_leastDifferences_13 : decode cX2_leastDifferences 13 = .ok (.aload_n 0, 1) := by decide +kernel
theorem dX2_leastDifferences_14 : decode cX2_leastDifferences 14 = .ok (.getfield 27, 3) := by decide +kernel
theorem dX2_leastDifferences_17 : decode cX2_leastDifferences 17 = .ok (.iload_n 2, 1) := by decide +kernel
theorem dX2_leastDifferences_18 : decode cX2_leastDifferences 18 = .ok (.aload_n 0, 1) := by decide +kernel
theorem dX2_leastDifferences_19 : decode cX2_leastDifferences 19 = .ok (.getfield 20, 3) := by decide +kernel
theorem dX2_leastDifferences_22 : decode cX2_leastDifferences 22 = .ok (.iload_n 2, 1) := by decide +kernel
theorem dX2_leastDifferences_23 : decode cX2_leastDifferences 23 = .ok (.invokevirtual 157, 3) := by decide +kernel
theorem dX2_leastDifferences_26 : decode cX2_leastDifferences 26 = .ok (.invokestatic 85, 3) := by decide +kernel
theorem dX2_leastDifferences_29 : decode cX2_leastDifferences 29 = .ok (.iconst 0, 1) := by decide +kernel
theorem dX2_leastDifferences_30 : decode cX2_leastDifferences 30 = .ok (.istore_n 3, 1) := by decide +kernel
theorem dX2_leastDifferences_31 : decode cX2_leastDifferences 31 = .ok (.iload_n 3, 1) := by decide +kernel
theorem dX2_leastDifferences_32 : decode cX2_leastDifferences 32 = .ok (.iload_n 2, 1) := by decide +kernel
theorem dX2_leastDifferences_33 : decode cX2_leastDifferences 33 = .ok (.if_icmp .ge 33, 3) := by decide +kernel
theorem dX2_leastDifferences_36 : decode cX2_leastDifferences 36 = .ok (.iload_n 1, 1) := by decide +kernel
theorem dX2_leastDifferences_37 : decode cX2_leastDifferences 37 = .ok (.aload_n 0, 1) := by decide +kernel
theorem dX2_leastDifferences_38 : decode cX2_leastDifferences 38 = .ok (.getfield 27, 3) := by decide +kernel
theorem dX2_leastDifferences_41 : decode cX2_leastDifferences 41 = .ok (.iload_n 2, 1) := by decide +kernel
theorem dX2_leastDifferences_42 : decode cX2_leastDifferences 42 = .ok (.invokestatic 89, 3) := by decide +kernel
theorem dX2_leastDifferences_45 : decode cX2_leastDifferences 45 = .ok (.aload_n 0, 1) := by decide +kernel
theorem dX2_leastDifferences_46 : decode cX2_leastDifferences 46 = .ok (.getfield 27, 3) := by decide +kernel
theorem dX2_leastDifferences_49 : decode cX2_leastDifferences 49 = .ok (.iload_n 3, 1) := by decide +kernel
theorem dX2_leastDifferences_50 : decode cX2_leastDifferences 50 = .ok (.invokestatic 89, 3) := by decide +kernel
theorem dX2_leastDifferences_53 : decode cX2_leastDifferences 53 = .ok (.invokestatic 160, 3) := by decide +kernel
theorem dX2_leastDifferences_56 : decode cX2_leastDifferences 56 = .ok (.invokestatic 163, 3) := by decide +kernel
theorem dX2_leastDifferences_59 : decode cX2_leastDifferences 59 = .ok (.istore_n 1, 1) := by decide +kernel
theorem dX2_leastDifferences_60 : decode cX2_leastDifferences 60 = .ok (.iinc 3 1, 3) := by decide +kernel
theorem dX2_leastDifferences_63 : decode cX2_leastDifferences 63 = .ok (.goto (-32), 3) := by decide +kernel
theorem dX2_leastDifferences_66 : decode cX2_leastDifferences 66 = .ok (.iinc 2 1, 3) := by decide +kernel
theorem dX2_leastDifferences_69 : decode cX2_leastDifferences 69 = .ok (.goto (-64), 3) := by decide +kernel
theorem dX2_leastDifferences_72 : decode cX2_leastDifferences 72 = .ok (.iload_n 1, 1) := by decide +kernel
theorem dX2_leastDifferences_73 : decode cX2_leastDifferences 73 = .ok (.ireturn, 1) := by decide +kernel
set_option maxRecDepth 20000 in
theorem ggX2_nearestCase_X2_cases : GoodIn wsX2_nearestCase wsX2_cases := goodIn_r _ [6, 7, 33, 34, 35, 36, 37, 38, 39, 40, 41] (by decide +kernel) (by decide +kernel)
set_option maxRecDepth 20000 in
theorem gX2_nearestCase_X2_cases : GoodIn wsX2_nearestCase (wsV RX2 67 RX2 yX2_cases wsX2_cases) := goodIn_app (goodIn_of _ (by decide +kernel)) ggX2_nearestCase_X2_cases
set_option maxRecDepth 20000 in
theorem ggX2_nearestCase_X3_codeWord : GoodIn wsX2_nearestCase wsX3_codeWord := goodIn_r _ [12, 13, 14, 15, 16, 17, 18, 19, 20, 21, 22, 23, 42, 43, 44, 45] (by decide +kernel) (by decide +kernel)
set_option maxRecDepth 20000 in
theorem gX2_nearestCase_X3_codeWord : GoodIn wsX2_nearestCase (wsV RX2 157 RX3 yX3_codeWord wsX3_codeWord) := goodIn_app (goodIn_of _ (by decide +kernel)) ggX2_nearestCase_X3_codeWord
set_option maxRecDepth 20000 in
theorem ggX2_nearestCase_X4_differences : GoodIn wsX2_nearestCase wsX4_differences := goodIn_r _ [25, 26, 27, 28, 29, 30, 31, 32] (by decide +kernel) (by decide +kernel)
set_option maxRecDepth 20000 in
theorem gX2_nearestCase_X4_differences_n160 : GoodIn wsX2_nearestCase (wsX4_differences) := ggX2_nearestCase_X4_differences
theorem dX2_nearestCase_0 : decode cX2_nearestCase 0 = .ok (.iconst (-1), 1) := by decide +kernel
theorem dX2_nearestCase_1 : decode cX2_nearestCase 1 = .ok (.istore_n 2, 1) := by decide +kernel
theorem dX2_nearestCase_2 : decode cX2_nearestCase 2 = .ok (.bipush 9, 2) := by decide +kernel
theorem dX2_nearestCase_4 : decode cX2_nearestCase 4 = .ok (.istore_n 3, 1) := by decide +kernel
theorem dX2_nearestCase_5 : decode cX2_nearestCase 5 = .ok (.iconst 0, 1) := by decide +kernel
theorem dX2_nearestCase_6 : decode cX2_nearestCase 6 = .ok (.istore 4, 2) := by decide +kernel
theorem dX2_nearestCase_8 : decode cX2_nearestCase 8 = .ok (.iload 4, 2) := by decide +kernel
theorem dX2_nearestCase_10 : decode cX2_nearestCase 10 = .ok (.aload_n 0, 1) := by decide +kernel
theorem dX2_nearestCase_11 : decode cX2_nearestCase 11 = .ok (.invokevirtual 67, 3) := by decide +kernel
theorem dX2_nearestCase_14 : decode cX2_nearestCase 14 = .ok (.if_icmp .ge 47, 3) := by decide +kernel
theorem dX2_nearestCase_17 : decode cX2_nearestCase 17 = .ok (.aload_n 0, 1) := by decide +kernel
theorem dX2_nearestCase_18 : decode cX2_nearestCase 18 = .ok (.getfield 20, 3) := by decide +kernel
theorem dX2_nearestCase_21 : decode cX2_nearestCase 21 = .ok (.iload 4, 2) := by decide +kernel
theorem dX2_nearestCase_23 : decode cX2_nearestCase 23 = .ok (.invokevirtual 157, 3) := by decide +kernel
theorem dX2_nearestCase_26 : decode cX2_nearestCase 26 = .ok (.iload_n 1, 1) := by decide +kernel
theorem dX2_nearestCase_27 : decode cX2_nearestCase 27 = .ok (.invokestatic 160, 3) := by decide +kernel
theorem dX2_nearestCase_30 : decode cX2_nearestCase 30 = .ok (.istore 5, 2) := by decide +kernel
theorem dX2_nearestCase_32 : decode cX2_nearestCase 32 = .ok (.iload 5, 2) := by decide +kernel
theorem dX2_nearestCase_34 : decode cX2_nearestCase 34 = .ok (.iload_n 3, 1) := by decide +kernel
theorem dX2_nearestCase_35 : decode cX2_nearestCase 35 = .ok (.if_icmp .ge 12, 3) := by decide +kernel
theorem dX2_nearestCase_38 : decode cX2_nearestCase 38 = .ok (.iload 5, 2) := by decide +kernel
theorem dX2_nearestCase_40 : decode cX2_nearestCase 40 = .ok (.istore_n 3, 1) := by decide +kernel
theorem dX2_nearestCase_41 : decode cX2_nearestCase 41 = .ok (.iload 4, 2) := by decide +kernel
theorem dX2_nearestCase_43 : decode cX2_nearestCase 43 = .ok (.istore_n 2, 1) := by decide +kernel
theorem dX2_nearestCase_44 : decode cX2_nearestCase 44 = .ok (.goto 11, 3) := by decide +kernel
theorem dX2_nearestCase_47 : decode cX2_nearestCase 47 = .ok (.iload 5, 2) := by decide +kernel
theorem dX2_nearestCase_49 : decode cX2_nearestCase 49 = .ok (.iload_n 3, 1) := by decide +kernel
theorem dX2_nearestCase_50 : decode cX2_nearestCase 50 = .ok (.if_icmp .ne 5, 3) := by decide +kernel
theorem dX2_nearestCase_53 : decode cX2_nearestCase 53 = .ok (.iconst (-1), 1) := by decide +kernel
theorem dX2_nearestCase_54 : decode cX2_nearestCase 54 = .ok (.istore_n 2, 1) := by decide +kernel
theorem dX2_nearestCase_55 : decode cX2_nearestCase 55 = .ok (.iinc 4 1, 3) := by decide +kernel
theorem dX2_nearestCase_58 : decode cX2_nearestCase 58 = .ok (.goto (-50), 3) := by decide +kernel
theorem dX2_nearestCase_61 : decode cX2_nearestCase 61 = .ok (.iload_n 2, 1) := by decide +kernel
theorem dX2_nearestCase_62 : decode cX2_nearestCase 62 = .ok (.ireturn, 1) := by decide +kernel
theorem dX3_init_0 : decode cX3_init 0 = .ok (.aload_n 0, 1) := by decide +kernel
theorem dX3_init_1 : decode cX3_init 1 = .ok (.invokespecial 3, 3) := by decide +kernel
theorem dX3_init_4 : decode cX3_init 4 = .ok (.iload_n 1, 1) := by decide +kernel
theorem dX3_init_5 : decode cX3_init 5 = .ok (.iconst 0, 1) := by decide +kernel
theorem dX3_init_6 : decode cX3_init 6 = .ok (.invokestatic 9, 3) := by decide +kernel
theorem dX3_init_9 : decode cX3_init 9 = .ok (.istore_n 2, 1) := by decide +kernel
theorem dX3_init_10 : decode cX3_init 10 = .ok (.aload_n 0, 1) := by decide +kernel
theorem dX3_init_11 : decode cX3_init 11 = .ok (.iload_n 2, 1) := by decide +kernel
theorem dX3_init_12 : decode cX3_init 12 = .ok (.newarray .int, 2) := by decide +kernel
theorem dX3_init_14 : decode cX3_init 14 = .ok (.putfield 15, 3) := by decide +kernel
theorem dX3_init_17 : decode cX3_init 17 = .ok (.aload_n 0, 1) := by decide +kernel
theorem dX3_init_18 : decode cX3_init 18 = .ok (.iload_n 2, 1) := by decide +kernel
theorem dX3_init_19 : decode cX3_init 19 = .ok (.newarray .int, 2) := by decide +kernel
theorem dX3_init_21 : decode cX3_init 21 = .ok (.putfield 21, 3) := by decide +kernel
theorem dX3_init_24 : decode cX3_init 24 = .ok (.aload_n 0, 1) := by decide +kernel
theorem dX3_init_25 : decode cX3_init 25 = .ok (.iload_n 2, 1) := by decide +kernel
theorem dX3_init_26 : decode cX3_init 26 = .ok (.newarray .int, 2) := by decide +kernel
theorem dX3_init_28 : decode cX3_init 28 = .ok (.putfield 24, 3) := by decide +kernel
theorem dX3_init_31 : decode cX3_init 31 = .ok (.return_, 1) := by decide +kernel
set_option maxRecDepth 20000 in
theorem ggX3_copyFrom_X4_copyRow : GoodIn wsX3_copyFrom wsX4_copyRow := goodIn_r _ [7, 8, 9, 10, 11, 12, 13, 14, 15] (by decide +kernel) (by decide +kernel)
set_option maxRecDepth 20000 in
theorem gX3_copyFrom_X4_copyRow_n27 : GoodIn wsX3_copyFrom (wsX4_copyRow) := ggX3_copyFrom_X4_copyRow
theorem dX3_copyFrom_0 : decode cX3_copyFrom 0 = .ok (.aload_n 1, 1) := by decide +kernel
theorem dX3_copyFrom_1 : decode cX3_copyFrom 1 = .ok (.getfield 15, 3) := by decide +kernel
theorem dX3_copyFrom_4 : decode cX3_copyFrom 4 = .ok (.aload_n 0, 1) := by decide +kernel
theorem dX3_copyFrom_5 : decode cX3_copyFrom 5 = .ok (.getfield 15, 3) := by decide +kernel
theorem dX3_copyFrom_8 : decode cX3_copyFrom 8 = .ok (.invokestatic 27, 3) := by decide +kernel
theorem dX3_copyFrom_11 : decode cX3_copyFrom 11 = .ok (.aload_n 1, 1) := by decide +kernel
theorem dX3_copyFrom_12 : decode cX3_copyFrom 12 = .ok (.getfield 21, 3) := by decide +kernel
theorem dX3_copyFrom_15 : decode cX3_copyFrom 15 = .ok (.aload_n 0, 1) := by decide +kernel
theorem dX3_copyFrom_16 : decode cX3_copyFrom 16 = .ok (.getfield 21, 3) := by decide +kernel
theorem dX3_copyFrom_19 : decode cX3_copyFrom 19 = .ok (.invokestatic 27, 3) := by decide +kernel
theorem dX3_copyFrom_22 : decode cX3_copyFrom 22 = .ok (.aload_n 1, 1) := by decide +kernel
theorem dX3_copyFrom_23 : decode cX3_copyFrom 23 = .ok (.getfield 24, 3) := by decide +kernel
theorem dX3_copyFrom_26 : decode cX3_copyFrom 26 = .ok (.aload_n 0, 1) := by decide +kernel
theorem dX3_copyFrom_27 : decode cX3_copyFrom 27 = .ok (.getfield 24, 3) := by decide +kernel
theorem dX3_copyFrom_30 : decode cX3_copyFrom 30 = .ok (.invokestatic 27, 3) := by decide +kernel
theorem dX3_copyFrom_33 : decode cX3_copyFrom 33 = .ok (.aload_n 0, 1) := by decide +kernel
theorem dX3_copyFrom_34 : decode cX3_copyFrom 34 = .ok (.aload_n 1, 1) := by decide +kernel
theorem dX3_copyFrom_35 : decode cX3_copyFrom 35 = .ok (.getfield 31, 3) := by decide +kernel
theorem dX3_copyFrom_38 : decode cX3_copyFrom 38 = .ok (.putfield 31, 3) := by decide +kernel
theorem dX3_copyFrom_41 : decode cX3_copyFrom 41 = .ok (.return_, 1) := by decide +kernel
set_option maxRecDepth 20000 in
theorem ggX3_write_X4_put : GoodIn wsX3_write wsX4_put := goodIn_r _ [7] (by decide +kernel) (by decide +kernel)
set_option maxRecDepth 20000 in
theorem gX3_write_X4_put_n35 : GoodIn wsX3_write (wsX4_put) := ggX3_write_X4_put
theorem dX3_write_0 : decode cX3_write 0 = .ok (.aload_n 0, 1) := by decide +kernel
theorem dX3_write_1 : decode cX3_write 1 = .ok (.getfield 31, 3) := by decide +kernel
theorem dX3_write_4 : decode cX3_write 4 = .ok (.aload_n 0, 1) := by decide +kernel
theorem dX3_write_5 : decode cX3_write 5 = .ok (.getfield 15, 3) := by decide +kernel
theorem dX3_write_8 : decode cX3_write 8 = .ok (.arraylength, 1) := by decide +kernel
theorem dX3_write_9 : decode cX3_write 9 = .ok (.if_icmp .ge 49, 3) := by decide +kernel
theorem dX3_write_12 : decode cX3_write 12 = .ok (.aload_n 0, 1) := by decide +kernel
theorem dX3_write_13 : decode cX3_write 13 = .ok (.getfield 15, 3) := by decide +kernel
theorem dX3_write_16 : decode cX3_write 16 = .ok (.aload_n 0, 1) := by decide +kernel
theorem dX3_write_17 : decode cX3_write 17 = .ok (.getfield 31, 3) := by decide +kernel
theorem dX3_write_20 : decode cX3_write 20 = .ok (.iload_n 1, 1) := by decide +kernel
theorem dX3_write_21 : decode cX3_write 21 = .ok (.invokestatic 35, 3) := by decide +kernel
theorem dX3_write_24 : decode cX3_write 24 = .ok (.aload_n 0, 1) := by decide +kernel
theorem dX3_write_25 : decode cX3_write 25 = .ok (.getfield 21, 3) := by decide +kernel
theorem dX3_write_28 : decode cX3_write 28 = .ok (.aload_n 0, 1) := by decide +kernel
theorem dX3_write_29 : decode cX3_write 29 = .ok (.getfield 31, 3) := by decide +kernel
theorem dX3_write_32 : decode cX3_write 32 = .ok (.iload_n 2, 1) := by decide +kernel
theorem dX3_write_33 : decode cX3_write 33 = .ok (.invokestatic 35, 3) := by decide +kernel
theorem dX3_write_36 : decode cX3_write 36 = .ok (.aload_n 0, 1) := by decide +kernel
theorem dX3_write_37 : decode cX3_write 37 = .ok (.getfield 24, 3) := by decide +kernel
theorem dX3_write_40 : decode cX3_write 40 = .ok (.aload_n 0, 1) := by decide +kernel
theorem dX3_write_41 : decode cX3_write 41 = .ok (.getfield 31, 3) := by decide +kernel
theorem dX3_write_44 : decode cX3_write 44 = .ok (.iload_n 3, 1) := by decide +kernel
theorem dX3_write_45 : decode cX3_write 45 = .ok (.invokestatic 35, 3) := by decide +kernel
theorem dX3_write_48 : decode cX3_write 48 = .ok (.aload_n 0, 1) := by decide +kernel
theorem dX3_write_49 : decode cX3_write 49 = .ok (.dup, 1) := by decide +kernel
theorem dX3_write_50 : decode cX3_write 50 = .ok (.getfield 31, 3) := by decide +kernel
theorem dX3_write_53 : decode cX3_write 53 = .ok (.iconst 1, 1) := by decide +kernel
theorem dX3_write_54 : decode cX3_write 54 = .ok (.iadd, 1) := by decide +kernel
theorem dX3_write_55 : decode cX3_write 55 = .ok (.putfield 31, 3) := by decide +kernel
theorem dX3_write_58 : decode cX3_write 58 = .ok (.return_, 1) := by decide +kernel
theorem dX3_dropLast_0 : decode cX3_dropLast 0 = .ok (.aload_n 0, 1) := by decide +kernel
theorem dX3_dropLast_1 : decode cX3_dropLast 1 = .ok (.getfield 31, 3) := by decide +kernel
theorem dX3_dropLast_4 : decode cX3_dropLast 4 = .ok (.ifCond .le 13, 3) := by decide +kernel
theorem dX3_dropLast_7 : decode cX3_dropLast 7 = .ok (.aload_n 0, 1) := by decide +kernel
theorem dX3_dropLast_8 : decode cX3_dropLast 8 = .ok (.dup, 1) := by decide +kernel
theorem dX3_dropLast_9 : decode cX3_dropLast 9 = .ok (.getfield 31, 3) := by decide +kernel
theorem dX3_dropLast_12 : decode cX3_dropLast 12 = .ok (.iconst 1, 1) := by decide +kernel
theorem dX3_dropLast_13 : decode cX3_dropLast 13 = .ok (.isub, 1) := by decide +kernel
theorem dX3_dropLast_14 : decode cX3_dropLast 14 = .ok (.putfield 31, 3) := by decide +kernel
theorem dX3_dropLast_17 : decode cX3_dropLast 17 = .ok (.return_, 1) := by decide +kernel
set_option maxRecDepth 20000 in
theorem ggX3_part_X4_at : GoodIn wsX3_part wsX4_at := goodIn_r _ [6] (by decide +kernel) (by decide +kernel)
set_option maxRecDepth 20000 in
theorem gX3_part_X4_at_n39 : GoodIn wsX3_part (wsX4_at) := ggX3_part_X4_at
theorem dX3_part_0 : decode cX3_part 0 = .ok (.iload_n 2, 1) := by decide +kernel
theorem dX3_part_1 : decode cX3_part 1 = .ok (.lookupswitch 45 #[(0, 27), (1, 36)], 27) := by decide +kernel
theorem dX3_part_28 : decode cX3_part 28 = .ok (.aload_n 0, 1) := by decide +kernel
theorem dX3_part_29 : decode cX3_part 29 = .ok (.getfield 15, 3) := by decide +kernel
theorem dX3_part_32 : decode cX3_part 32 = .ok (.iload_n 1, 1) := by decide +kernel
theorem dX3_part_33 : decode cX3_part 33 = .ok (.invokestatic 39, 3) := by decide +kernel
theorem dX3_part_36 : decode cX3_part 36 = .ok (.ireturn, 1) := by decide +kernel
theorem dX3_part_37 : decode cX3_part 37 = .ok (.aload_n 0, 1) := by decide +kernel
theorem dX3_part_38 : decode cX3_part 38 = .ok (.getfield 21, 3) := by decide +kernel
theorem dX3_part_41 : decode cX3_part 41 = .ok (.iload_n 1, 1) := by decide +kernel
theorem dX3_part_42 : decode cX3_part 42 = .ok (.invokestatic 39, 3) := by decide +kernel
theorem dX3_part_45 : decode cX3_part 45 = .ok (.ireturn, 1) := by decide +kernel
theorem dX3_part_46 : decode cX3_part 46 = .ok (.aload_n 0, 1) := by decide +kernel
theorem dX3_part_47 : decode cX3_part 47 = .ok (.getfield 24, 3) := by decide +kernel
theorem dX3_part_50 : decode cX3_part 50 = .ok (.iload_n 1, 1) := by decide +kernel
theorem dX3_part_51 : decode cX3_part 51 = .ok (.invokestatic 39, 3) := by decide +kernel
theorem dX3_part_54 : decode cX3_part 54 = .ok (.ireturn, 1) := by decide +kernel
set_option maxRecDepth 20000 in
theorem ggX3_codeWord_X4_at : GoodIn wsX3_codeWord wsX4_at := goodIn_r _ [6] (by decide +kernel) (by decide +kernel)
set_option maxRecDepth 20000 in
theorem gX3_codeWord_X4_at_n39 : GoodIn wsX3_codeWord (wsX4_at) := ggX3_codeWord_X4_at
set_option maxRecDepth 20000 in
theorem ggX3_codeWord_X4_trueAnswer : GoodIn wsX3_codeWord wsX4_trueAnswer := goodIn_r _ [8, 9, 10, 5, 11] (by decide +kernel) (by decide +kernel)
set_option maxRecDepth 20000 in
theorem gX3_codeWord_X4_trueAnswer_n43 : GoodIn wsX3_codeWord (wsX4_trueAnswer) := ggX3_codeWord_X4_trueAnswer
theorem dX3_codeWord_0 : decode cX3_codeWord 0 = .ok (.iconst 0, 1) := by decide +kernel
theorem dX3_codeWord_1 : decode cX3_codeWord 1 = .ok (.istore_n 2, 1) := by decide +kernel
theorem dX3_codeWord_2 : decode cX3_codeWord 2 = .ok (.iconst 0, 1) := by decide +kernel
theorem dX3_codeWord_3 : decode cX3_codeWord 3 = .ok (.istore_n 3, 1) := by decide +kernel
theorem dX3_codeWord_4 : decode cX3_codeWord 4 = .ok (.iload_n 3, 1) := by decide +kernel
theorem dX3_codeWord_5 : decode cX3_codeWord 5 = .ok (.aload_n 0, 1) := by decide +kernel
theorem dX3_codeWord_6 : decode cX3_codeWord 6 = .ok (.getfield 31, 3) := by decide +kernel
theorem dX3_codeWord_9 : decode cX3_codeWord 9 = .ok (.if_icmp .ge 36, 3) := by decide +kernel
theorem dX3_codeWord_12 : decode cX3_codeWord 12 = .ok (.iload_n 2, 1) := by decide +kernel
theorem dX3_codeWord_13 : decode cX3_codeWord 13 = .ok (.iload_n 1, 1) := by decide +kernel
theorem dX3_codeWord_14 : decode cX3_codeWord 14 = .ok (.aload_n 0, 1) := by decide +kernel
theorem dX3_codeWord_15 : decode cX3_codeWord 15 = .ok (.getfield 15, 3) := by decide +kernel
theorem dX3_codeWord_18 : decode cX3_codeWord 18 = .ok (.iload_n 3, 1) := by decide +kernel
theorem dX3_codeWord_19 : decode cX3_codeWord 19 = .ok (.invokestatic 39, 3) := by decide +kernel
theorem dX3_codeWord_22 : decode cX3_codeWord 22 = .ok (.aload_n 0, 1) := by decide +kernel
theorem dX3_codeWord_23 : decode cX3_codeWord 23 = .ok (.getfield 21, 3) := by decide +kernel
theorem dX3_codeWord_26 : decode cX3_codeWord 26 = .ok (.iload_n 3, 1) := by decide +kernel
theorem dX3_codeWord_27 : decode cX3_codeWord 27 = .ok (.invokestatic 39, 3) := by decide +kernel
theorem dX3_codeWord_30 : decode cX3_codeWord 30 = .ok (.invokestatic 43, 3) := by decide +kernel
theorem dX3_codeWord_33 : decode cX3_codeWord 33 = .ok (.iconst 2, 1) := by decide +kernel
theorem dX3_codeWord_34 : decode cX3_codeWord 34 = .ok (.iload_n 3, 1) := by decide +kernel
theorem dX3_codeWord_35 : decode cX3_codeWord 35 = .ok (.imul, 1) := by decide +kernel
theorem dX3_codeWord_36 : decode cX3_codeWord 36 = .ok (.ishl, 1) := by decide +kernel
theorem dX3_codeWord_37 : decode cX3_codeWord 37 = .ok (.ior, 1) := by decide +kernel
theorem dX3_codeWord_38 : decode cX3_codeWord 38 = .ok (.istore_n 2, 1) := by decide +kernel
theorem dX3_codeWord_39 : decode cX3_codeWord 39 = .ok (.iinc 3 1, 3) := by decide +kernel
theorem dX3_codeWord_42 : decode cX3_codeWord 42 = .ok (.goto (-38), 3) := by decide +kernel
theorem dX3_codeWord_45 : decode cX3_codeWord 45 = .ok (.iload_n 2, 1) := by decide +kernel
theorem dX3_codeWord_46 : decode cX3_codeWord 46 = .ok (.ireturn, 1) := by decide +kernel
theorem dX3_answerRows_0 : decode cX3_answerRows 0 = .ok (.iconst 1, 1) := by decide +kernel
theorem dX3_answerRows_1 : decode cX3_answerRows 1 = .ok (.istore_n 1, 1) := by decide +kernel
theorem dX3_answerRows_2 : decode cX3_answerRows 2 = .ok (.iconst 0, 1) := by decide +kernel
theorem dX3_answerRows_3 : decode cX3_answerRows 3 = .ok (.istore_n 2, 1) := by decide +kernel
theorem dX3_answerRows_4 : decode cX3_answerRows 4 = .ok (.iload_n 2, 1) := by decide +kernel
theorem dX3_answerRows_5 : decode cX3_answerRows 5 = .ok (.aload_n 0, 1) := by decide +kernel
theorem dX3_answerRows_6 : decode cX3_answerRows 6 = .ok (.getfield 31, 3) := by decide +kernel
theorem dX3_answerRows_9 : decode cX3_answerRows 9 = .ok (.if_icmp .ge 13, 3) := by decide +kernel
theorem dX3_answerRows_12 : decode cX3_answerRows 12 = .ok (.iload_n 1, 1) := by decide +kernel
theorem dX3_answerRows_13 : decode cX3_answerRows 13 = .ok (.iconst 3, 1) := by decide +kernel
theorem dX3_answerRows_14 : decode cX3_answerRows 14 = .ok (.imul, 1) := by decide +kernel
theorem dX3_answerRows_15 : decode cX3_answerRows 15 = .ok (.istore_n 1, 1) := by decide +kernel
theorem dX3_answerRows_16 : decode cX3_answerRows 16 = .ok (.iinc 2 1, 3) := by decide +kernel
theorem dX3_answerRows_19 : decode cX3_answerRows 19 = .ok (.goto (-15), 3) := by decide +kernel
theorem dX3_answerRows_22 : decode cX3_answerRows 22 = .ok (.iload_n 1, 1) := by decide +kernel
theorem dX3_answerRows_23 : decode cX3_answerRows 23 = .ok (.ireturn, 1) := by decide +kernel
