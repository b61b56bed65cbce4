theorem dX2_weightIfTold_23 : decode cX2_weightIfTold 23 = .ok (.iload_n 3, 1) := by decide +kernel
theorem dX2_weightIfTold_24 : decode cX2_weightIfTold 24 = .ok (.invokevirtual 81, 3) := by decide +kernel
theorem dX2_weightIfTold_27 : decode cX2_weightIfTold 27 = .ok (.iload 4, 2) := by decide +kernel
theorem dX2_weightIfTold_29 : decode cX2_weightIfTold 29 = .ok (.invokevirtual 137, 3) := by decide +kernel
theorem dX2_weightIfTold_32 : decode cX2_weightIfTold 32 = .ok (.ladd, 1) := by decide +kernel
theorem dX2_weightIfTold_33 : decode cX2_weightIfTold 33 = .ok (.lstore 5, 2) := by decide +kernel
theorem dX2_weightIfTold_35 : decode cX2_weightIfTold 35 = .ok (.iinc 7 1, 3) := by decide +kernel
theorem dX2_weightIfTold_38 : decode cX2_weightIfTold 38 = .ok (.goto (-32), 3) := by decide +kernel
theorem dX2_weightIfTold_41 : decode cX2_weightIfTold 41 = .ok (.lload 5, 2) := by decide +kernel
theorem dX2_weightIfTold_43 : decode cX2_weightIfTold 43 = .ok (.lreturn, 1) := by decide +kernel
set_option maxRecDepth 20000 in
theorem ggX2_volumeLeft_X4_volume : GoodIn wsX2_volumeLeft wsX4_volume := goodIn_r _ [4, 5, 6, 7, 8] (by decide +kernel) (by decide +kernel)
set_option maxRecDepth 20000 in
theorem gX2_volumeLeft_X4_volume_n141 : GoodIn wsX2_volumeLeft (wsX4_volume) := ggX2_volumeLeft_X4_volume
theorem dX2_volumeLeft_0 : decode cX2_volumeLeft 0 = .ok (.iload_n 1, 1) := by decide +kernel
theorem dX2_volumeLeft_1 : decode cX2_volumeLeft 1 = .ok (.aload_n 0, 1) := by decide +kernel
theorem dX2_volumeLeft_2 : decode cX2_volumeLeft 2 = .ok (.getfield 37, 3) := by decide +kernel
theorem dX2_volumeLeft_5 : decode cX2_volumeLeft 5 = .ok (.if_icmp .le 7, 3) := by decide +kernel
theorem dX2_volumeLeft_8 : decode cX2_volumeLeft 8 = .ok (.lconst 0, 1) := by decide +kernel
theorem dX2_volumeLeft_9 : decode cX2_volumeLeft 9 = .ok (.goto 13, 3) := by decide +kernel
theorem dX2_volumeLeft_12 : decode cX2_volumeLeft 12 = .ok (.iload_n 2, 1) := by decide +kernel
theorem dX2_volumeLeft_13 : decode cX2_volumeLeft 13 = .ok (.aload_n 0, 1) := by decide +kernel
theorem dX2_volumeLeft_14 : decode cX2_volumeLeft 14 = .ok (.getfield 37, 3) := by decide +kernel
theorem dX2_volumeLeft_17 : decode cX2_volumeLeft 17 = .ok (.iload_n 1, 1) := by decide +kernel
theorem dX2_volumeLeft_18 : decode cX2_volumeLeft 18 = .ok (.isub, 1) := by decide +kernel
theorem dX2_volumeLeft_19 : decode cX2_volumeLeft 19 = .ok (.invokestatic 141, 3) := by decide +kernel
theorem dX2_volumeLeft_22 : decode cX2_volumeLeft 22 = .ok (.lreturn, 1) := by decide +kernel
theorem dX3_init_0 : decode cX3_init 0 = .ok (.aload_n 0, 1) := by decide +kernel
theorem dX3_init_1 : decode cX3_init 1 = .ok (.invokespecial 3, 3) := by decide +kernel
theorem dX3_init_4 : decode cX3_init 4 = .ok (.iload_n 1, 1) := by decide +kernel
theorem dX3_init_5 : decode cX3_init 5 = .ok (.iconst 0, 1) := by decide +kernel
theorem dX3_init_6 : decode cX3_init 6 = .ok (.invokestatic 9, 3) := by decide +kernel
theorem dX3_init_9 : decode cX3_init 9 = .ok (.istore_n 2, 1) := by decide +kernel
theorem dX3_init_10 : decode cX3_init 10 = .ok (.aload_n 0, 1) := by decide +kernel
theorem dX3_init_11 : decode cX3_init 11 = .ok (.iload_n 2, 1) := by decide +kernel
theorem dX3_init_12 : decode cX3_init 12 = .ok (.newarray .int, 2) := by decide +kernel
theorem dX3_init_14 : decode cX3_init 14 = .ok (.putfield 15, 3) := by decide +kernel
theorem dX3_init_17 : decode cX3_init 17 = .ok (.aload_n 0, 1) := by decide +kernel
theorem dX3_init_18 : decode cX3_init 18 = .ok (.iload_n 2, 1) := by decide +kernel
theorem dX3_init_19 : decode cX3_init 19 = .ok (.newarray .int, 2) := by decide +kernel
theorem dX3_init_21 : decode cX3_init 21 = .ok (.putfield 21, 3) := by decide +kernel
theorem dX3_init_24 : decode cX3_init 24 = .ok (.aload_n 0, 1) := by decide +kernel
theorem dX3_init_25 : decode cX3_init 25 = .ok (.iload_n 2, 1) := by decide +kernel
theorem dX3_init_26 : decode cX3_init 26 = .ok (.newarray .int, 2) := by decide +kernel
theorem dX3_init_28 : decode cX3_init 28 = .ok (.putfield 24, 3) := by decide +kernel
theorem dX3_init_31 : decode cX3_init 31 = .ok (.return_, 1) := by decide +kernel
set_option maxRecDepth 20000 in
theorem ggX3_copyFrom_X4_copyRow : GoodIn wsX3_copyFrom wsX4_copyRow := goodIn_r _ [7, 8, 9, 10, 11, 12, 13, 14, 15] (by decide +kernel) (by decide +kernel)
set_option maxRecDepth 20000 in
theorem gX3_copyFrom_X4_copyRow_n27 : GoodIn wsX3_copyFrom (wsX4_copyRow) := ggX3_copyFrom_X4_copyRow
theorem dX3_copyFrom_0 : decode cX3_copyFrom 0 = .ok (.aload_n 1, 1) := by decide +kernel
theorem dX3_copyFrom_1 : decode cX3_copyFrom 1 = .ok (.getfield 15, 3) := by decide +kernel
theorem dX3_copyFrom_4 : decode cX3_copyFrom 4 = .ok (.aload_n 0, 1) := by decide +kernel
theorem dX3_copyFrom_5 : decode cX3_copyFrom 5 = .ok (.getfield 15, 3) := by decide +kernel
theorem dX3_copyFrom_8 : decode cX3_copyFrom 8 = .ok (.invokestatic 27, 3) := by decide +kernel
theorem dX3_copyFrom_11 : decode cX3_copyFrom 11 = .ok (.aload_n 1, 1) := by decide +kernel
theorem dX3_copyFrom_12 : decode cX3_copyFrom 12 = .ok (.getfield 21, 3) := by decide +kernel
theorem dX3_copyFrom_15 : decode cX3_copyFrom 15 = .ok (.aload_n 0, 1) := by decide +kernel
theorem dX3_copyFrom_16 : decode cX3_copyFrom 16 = .ok (.getfield 21, 3) := by decide +kernel
theorem dX3_copyFrom_19 : decode cX3_copyFrom 19 = .ok (.invokestatic 27, 3) := by decide +kernel
theorem dX3_copyFrom_22 : decode cX3_copyFrom 22 = .ok (.aload_n 1, 1) := by decide +kernel
theorem dX3_copyFrom_23 : decode cX3_copyFrom 23 = .ok (.getfield 24, 3) := by decide +kernel
theorem dX3_copyFrom_26 : decode cX3_copyFrom 26 = .ok (.aload_n 0, 1) := by decide +kernel
theorem dX3_copyFrom_27 : decode cX3_copyFrom 27 = .ok (.getfield 24, 3) := by decide +kernel
theorem dX3_copyFrom_30 : decode cX3_copyFrom 30 = .ok (.invokestatic 27, 3) := by decide +kernel
theorem dX3_copyFrom_33 : decode cX3_copyFrom 33 = .ok (.aload_n 0, 1) := by decide +kernel
theorem dX3_copyFrom_34 : decode cX3_copyFrom 34 = .ok (.aload_n 1, 1) := by decide +kernel
theorem dX3_copyFrom_35 : decode cX3_copyFrom 35 = .ok (.getfield 31, 3) := by decide +kernel
theorem dX3_copyFrom_38 : decode cX3_copyFrom 38 = .ok (.putfield 31, 3) := by decide +kernel
theorem dX3_copyFrom_41 : decode cX3_copyFrom 41 = .ok (.return_, 1) := by decide +kernel
set_option maxRecDepth 20000 in
theorem ggX3_write_X4_put : GoodIn wsX3_write wsX4_put := goodIn_r _ [7] (by decide +kernel) (by decide +kernel)
set_option maxRecDepth 20000 in
theorem gX3_write_X4_put_n35 : GoodIn wsX3_write (wsX4_put) := ggX3_write_X4_put
theorem dX3_write_0 : decode cX3_write 0 = .ok (.aload_n 0, 1) := by decide +kernel
theorem dX3_write_1 : decode cX3_write 1 = .ok (.getfield 31, 3) := by decide +kernel
theorem dX3_write_4 : decode cX3_write 4 = .ok (.aload_n 0, 1) := by decide +kernel
theorem dX3_write_5 : decode cX3_write 5 = .ok (.getfield 15, 3) := by decide +kernel
theorem dX3_write_8 : decode cX3_write 8 = .ok (.arraylength, 1) := by decide +kernel
theorem dX3_write_9 : decode cX3_write 9 = .ok (.if_icmp .ge 49, 3) := by decide +kernel
theorem dX3_write_12 : decode cX3_write 12 = .ok (.aload_n 0, 1) := by decide +kernel
theorem dX3_write_13 : decode cX3_write 13 = .ok (.getfield 15, 3) := by decide +kernel
theorem dX3_write_16 : decode cX3_write 16 = .ok (.aload_n 0, 1) := by decide +kernel
theorem dX3_write_17 : decode cX3_write 17 = .ok (.getfield 31, 3) := by decide +kernel
theorem dX3_write_20 : decode cX3_write 20 = .ok (.iload_n 1, 1) := by decide +kernel
theorem dX3_write_21 : decode cX3_write 21 = .ok (.invokestatic 35, 3) := by decide +kernel
theorem dX3_write_24 : decode cX3_write 24 = .ok (.aload_n 0, 1) := by decide +kernel
theorem dX3_write_25 : decode cX3_write 25 = .ok (.getfield 21, 3) := by decide +kernel
theorem dX3_write_28 : decode cX3_write 28 = .ok (.aload_n 0, 1) := by decide +kernel
theorem dX3_write_29 : decode cX3_write 29 = .ok (.getfield 31, 3) := by decide +kernel
theorem dX3_write_32 : decode cX3_write 32 = .ok (.iload_n 2, 1) := by decide +kernel
theorem dX3_write_33 : decode cX3_write 33 = .ok (.invokestatic 35, 3) := by decide +kernel
theorem dX3_write_36 : decode cX3_write 36 = .ok (.aload_n 0, 1) := by decide +kernel
theorem dX3_write_37 : decode cX3_write 37 = .ok (.getfield 24, 3) := by decide +kernel
theorem dX3_write_40 : decode cX3_write 40 = .ok (.aload_n 0, 1) := by decide +kernel
theorem dX3_write_41 : decode cX3_write 41 = .ok (.getfield 31, 3) := by decide +kernel
theorem dX3_write_44 : decode cX3_write 44 = .ok (.iload_n 3, 1) := by decide +kernel
theorem dX3_write_45 : decode cX3_write 45 = .ok (.invokestatic 35, 3) := by decide +kernel
theorem dX3_write_48 : decode cX3_write 48 = .ok (.aload_n 0, 1) := by decide +kernel
theorem dX3_write_49 : decode cX3_write 49 = .ok (.dup, 1) := by decide +kernel
theorem dX3_write_50 : decode cX3_write 50 = .ok (.getfield 31, 3) := by decide +kernel
theorem dX3_write_53 : decode cX3_write 53 = .ok (.iconst 1, 1) := by decide +kernel
theorem dX3_write_54 : decode cX3_write 54 = .ok (.iadd, 1) := by decide +kernel
theorem dX3_write_55 : decode cX3_write 55 = .ok (.putfield 31, 3) := by decide +kernel
theorem dX3_write_58 : decode cX3_write 58 = .ok (.return_, 1) := by decide +kernel
set_option maxRecDepth 20000 in
theorem ggX4_init_X2_init : GoodIn wsX4_init wsX2_init := goodIn_r _ [18, 19, 2, 3, 20, 21, 22, 23, 24, 25, 26, 27, 28, 29, 30, 31, 32, 33, 34, 35, 36, 37, 38, 39, 40, 41, 6, 42, 43, 44, 45, 46, 47, 48, 49, 50, 51, 52, 53, 54, 55, 56, 57, 58, 97, 98, 99, 100, 74, 75, 76, 77, 78, 79, 80, 81, 82] (by decide +kernel) (by decide +kernel)
set_option maxRecDepth 20000 in
theorem gX4_init_X2_init : GoodIn wsX4_init (wsX2_init) := ggX4_init_X2_init
set_option maxRecDepth 20000 in
theorem ggX4_init_X0_init : GoodIn wsX4_init wsX0_init := goodIn_r _ [61, 62, 2, 3, 63, 64, 5, 6, 65, 17, 18, 19, 20, 21, 22, 23, 24, 25, 26, 27, 28, 29, 30, 31, 32, 33, 34, 35, 36, 37, 38, 39, 40, 41, 42, 43, 44, 45, 46, 47, 48, 49, 50, 51, 52, 53, 54, 55, 56, 57, 58, 86, 87, 74, 75, 76, 77, 78, 79, 80, 81, 82, 97, 98, 99, 100] (by decide +kernel) (by decide +kernel)
set_option maxRecDepth 20000 in
theorem gX4_init_X0_init : GoodIn wsX4_init (wsX0_init) := ggX4_init_X0_init
set_option maxRecDepth 20000 in
theorem ggX4_init_X1_init : GoodIn wsX4_init wsX1_init := goodIn_r _ [68, 69, 2, 3, 25, 70, 71, 72, 73, 88, 89, 90, 91, 92, 93, 94, 95, 96] (by decide +kernel) (by decide +kernel)
set_option maxRecDepth 20000 in
theorem gX4_init_X1_init : GoodIn wsX4_init (wsX1_init) := ggX4_init_X1_init
theorem dX4_init_0 : decode cX4_init 0 = .ok (.aload_n 0, 1) := by decide +kernel
theorem dX4_init_1 : decode cX4_init 1 = .ok (.invokespecial 3, 3) := by decide +kernel
theorem dX4_init_4 : decode cX4_init 4 = .ok (.aload_n 0, 1) := by decide +kernel
theorem dX4_init_5 : decode cX4_init 5 = .ok (.new 9, 3) := by decide +kernel
theorem dX4_init_8 : decode cX4_init 8 = .ok (.dup, 1) := by decide +kernel
theorem dX4_init_9 : decode cX4_init 9 = .ok (.invokespecial 11, 3) := by decide +kernel
theorem dX4_init_12 : decode cX4_init 12 = .ok (.putfield 12, 3) := by decide +kernel
theorem dX4_init_15 : decode cX4_init 15 = .ok (.aload_n 0, 1) := by decide +kernel
theorem dX4_init_16 : decode cX4_init 16 = .ok (.new 16, 3) := by decide +kernel
theorem dX4_init_19 : decode cX4_init 19 = .ok (.dup, 1) := by decide +kernel
theorem dX4_init_20 : decode cX4_init 20 = .ok (.invokespecial 18, 3) := by decide +kernel
theorem dX4_init_23 : decode cX4_init 23 = .ok (.putfield 19, 3) := by decide +kernel
theorem dX4_init_26 : decode cX4_init 26 = .ok (.aload_n 0, 1) := by decide +kernel
theorem dX4_init_27 : decode cX4_init 27 = .ok (.new 23, 3) := by decide +kernel
theorem dX4_init_30 : decode cX4_init 30 = .ok (.dup, 1) := by decide +kernel
theorem dX4_init_31 : decode cX4_init 31 = .ok (.invokespecial 25, 3) := by decide +kernel
theorem dX4_init_34 : decode cX4_init 34 = .ok (.putfield 26, 3) := by decide +kernel
theorem dX4_init_37 : decode cX4_init 37 = .ok (.return_, 1) := by decide +kernel
set_option maxRecDepth 20000 in
theorem ggX4_begin_X0_save : GoodIn wsX4_begin wsX0_save := goodIn_r _ [9, 10, 11, 12, 13, 14, 8, 15, 16, 17, 18, 19, 20, 21, 22, 23, 24, 25, 26, 27, 28, 29, 30, 31, 32, 33, 34, 35, 36, 37, 38, 39, 40, 41, 42, 43, 44, 45, 46, 47, 48, 49, 50, 51, 52, 83, 84, 70, 71, 72, 73, 74, 75, 76, 77, 78, 79, 80, 81, 82] (by decide +kernel) (by decide +kernel)
set_option maxRecDepth 20000 in
theorem gX4_begin_X0_save : GoodIn wsX4_begin (wsV RX4 37 RX0 yX0_save wsX0_save) := goodIn_app (goodIn_of _ (by decide +kernel)) ggX4_begin_X0_save
set_option maxRecDepth 20000 in
theorem ggX4_begin_X2_start : GoodIn wsX4_begin wsX2_start := goodIn_r _ [56, 28, 29, 26, 57, 58, 59, 23, 60, 30, 31, 32, 61, 62, 63, 64, 25, 27, 65, 43, 66, 70, 71, 72, 73, 74, 75, 76, 77, 78, 79, 80, 81, 82] (by decide +kernel) (by decide +kernel)
set_option maxRecDepth 20000 in
theorem gX4_begin_X2_start : GoodIn wsX4_begin (wsV RX4 51 RX2 yX2_start wsX2_start) := goodIn_app (goodIn_of _ (by decide +kernel)) ggX4_begin_X2_start
theorem dX4_begin_0 : decode cX4_begin 0 = .ok (.iload_n 1, 1) := by decide +kernel
theorem dX4_begin_1 : decode cX4_begin 1 = .ok (.iconst 2, 1) := by decide +kernel
theorem dX4_begin_2 : decode cX4_begin 2 = .ok (.if_icmp .lt 9, 3) := by decide +kernel
theorem dX4_begin_5 : decode cX4_begin 5 = .ok (.iload_n 1, 1) := by decide +kernel
theorem dX4_begin_6 : decode cX4_begin 6 = .ok (.bipush 16, 2) := by decide +kernel
theorem dX4_begin_8 : decode cX4_begin 8 = .ok (.if_icmp .le 13, 3) := by decide +kernel
theorem dX4_begin_11 : decode cX4_begin 11 = .ok (.new 30, 3) := by decide +kernel
theorem dX4_begin_14 : decode cX4_begin 14 = .ok (.dup, 1) := by decide +kernel
theorem dX4_begin_15 : decode cX4_begin 15 = .ok (.ldc 32, 2) := by decide +kernel
theorem dX4_begin_17 : decode cX4_begin 17 = .ok (.invokespecial 34, 3) := by decide +kernel
theorem dX4_begin_20 : decode cX4_begin 20 = .ok (.athrow, 1) := by decide +kernel
theorem dX4_begin_21 : decode cX4_begin 21 = .ok (.aload_n 0, 1) := by decide +kernel
theorem dX4_begin_22 : decode cX4_begin 22 = .ok (.getfield 19, 3) := by decide +kernel
theorem dX4_begin_25 : decode cX4_begin 25 = .ok (.aload_n 0, 1) := by decide +kernel
theorem dX4_begin_26 : decode cX4_begin 26 = .ok (.getfield 12, 3) := by decide +kernel
theorem dX4_begin_29 : decode cX4_begin 29 = .ok (.invokevirtual 37, 3) := by decide +kernel
theorem dX4_begin_32 : decode cX4_begin 32 = .ok (.aload_n 0, 1) := by decide +kernel
theorem dX4_begin_33 : decode cX4_begin 33 = .ok (.getfield 12, 3) := by decide +kernel
theorem dX4_begin_36 : decode cX4_begin 36 = .ok (.getfield 41, 3) := by decide +kernel
theorem dX4_begin_39 : decode cX4_begin 39 = .ok (.getfield 45, 3) := by decide +kernel
theorem dX4_begin_42 : decode cX4_begin 42 = .ok (.istore_n 2, 1) := by decide +kernel
theorem dX4_begin_43 : decode cX4_begin 43 = .ok (.aload_n 0, 1) := by decide +kernel
theorem dX4_begin_44 : decode cX4_begin 44 = .ok (.getfield 12, 3) := by decide +kernel
theorem dX4_begin_47 : decode cX4_begin 47 = .ok (.iload_n 1, 1) := by decide +kernel
theorem dX4_begin_48 : decode cX4_begin 48 = .ok (.invokevirtual 51, 3) := by decide +kernel
theorem dX4_begin_51 : decode cX4_begin 51 = .ok (.iload_n 2, 1) := by decide +kernel
theorem dX4_begin_52 : decode cX4_begin 52 = .ok (.ireturn, 1) := by decide +kernel
set_option maxRecDepth 20000 in
theorem ggX4_setLimit_X0_save : GoodIn wsX4_setLimit wsX0_save := goodIn_r _ [9, 10, 11, 12, 13, 14, 8, 15, 16, 17, 18, 19, 20, 21, 22, 23, 24, 25, 26, 27, 28, 29, 30, 31, 32, 33, 34, 35, 36, 37, 38, 39, 40, 41, 42, 43, 44, 45, 46, 47, 48, 49, 50, 51, 52, 79, 80, 70, 71, 72, 73, 74, 75, 76, 77, 78, 81, 82, 83, 84] (by decide +kernel) (by decide +kernel)
set_option maxRecDepth 20000 in
theorem gX4_setLimit_X0_save : GoodIn wsX4_setLimit (wsV RX4 37 RX0 yX0_save wsX0_save) := goodIn_app (goodIn_of _ (by decide +kernel)) ggX4_setLimit_X0_save
set_option maxRecDepth 20000 in
theorem ggX4_setLimit_X2_countLeft : GoodIn wsX4_setLimit wsX2_countLeft := goodIn_r _ [56, 57, 58, 59, 23, 60, 28, 61, 62, 63, 64, 27, 29, 65, 43, 66, 70, 71, 72, 73, 74, 75, 76, 77, 78] (by decide +kernel) (by decide +kernel)
set_option maxRecDepth 20000 in
theorem gX4_setLimit_X2_countLeft : GoodIn wsX4_setLimit (wsV RX4 60 RX2 yX2_countLeft wsX2_countLeft) := goodIn_app (goodIn_of _ (by decide +kernel)) ggX4_setLimit_X2_countLeft
theorem dX4_setLimit_0 : decode cX4_setLimit 0 = .ok (.iload_n 1, 1) := by decide +kernel
theorem dX4_setLimit_1 : decode cX4_setLimit 1 = .ok (.ifCond .lt 8, 3) := by decide +kernel
theorem dX4_setLimit_4 : decode cX4_setLimit 4 = .ok (.iload_n 1, 1) := by decide +kernel
theorem dX4_setLimit_5 : decode cX4_setLimit 5 = .ok (.iconst 2, 1) := by decide +kernel
theorem dX4_setLimit_6 : decode cX4_setLimit 6 = .ok (.if_icmp .le 13, 3) := by decide +kernel
theorem dX4_setLimit_9 : decode cX4_setLimit 9 = .ok (.new 30, 3) := by decide +kernel
theorem dX4_setLimit_12 : decode cX4_setLimit 12 = .ok (.dup, 1) := by decide +kernel
theorem dX4_setLimit_13 : decode cX4_setLimit 13 = .ok (.ldc 55, 2) := by decide +kernel
theorem dX4_setLimit_15 : decode cX4_setLimit 15 = .ok (.invokespecial 34, 3) := by decide +kernel
theorem dX4_setLimit_18 : decode cX4_setLimit 18 = .ok (.athrow, 1) := by decide +kernel
theorem dX4_setLimit_19 : decode cX4_setLimit 19 = .ok (.aload_n 0, 1) := by decide +kernel
theorem dX4_setLimit_20 : decode cX4_setLimit 20 = .ok (.getfield 19, 3) := by decide +kernel
theorem dX4_setLimit_23 : decode cX4_setLimit 23 = .ok (.aload_n 0, 1) := by decide +kernel
theorem dX4_setLimit_24 : decode cX4_setLimit 24 = .ok (.getfield 12, 3) := by decide +kernel
theorem dX4_setLimit_27 : decode cX4_setLimit 27 = .ok (.invokevirtual 37, 3) := by decide +kernel
theorem dX4_setLimit_30 : decode cX4_setLimit 30 = .ok (.aload_n 0, 1) := by decide +kernel
theorem dX4_setLimit_31 : decode cX4_setLimit 31 = .ok (.getfield 12, 3) := by decide +kernel
theorem dX4_setLimit_34 : decode cX4_setLimit 34 = .ok (.iload_n 1, 1) := by decide +kernel
theorem dX4_setLimit_35 : decode cX4_setLimit 35 = .ok (.putfield 57, 3) := by decide +kernel
theorem dX4_setLimit_38 : decode cX4_setLimit 38 = .ok (.aload_n 0, 1) := by decide +kernel
theorem dX4_setLimit_39 : decode cX4_setLimit 39 = .ok (.getfield 12, 3) := by decide +kernel
theorem dX4_setLimit_42 : decode cX4_setLimit 42 = .ok (.invokevirtual 60, 3) := by decide +kernel
theorem dX4_setLimit_45 : decode cX4_setLimit 45 = .ok (.ireturn, 1) := by decide +kernel
set_option maxRecDepth 20000 in
theorem ggX4_forget_X0_save : GoodIn wsX4_forget wsX0_save := goodIn_r _ [7, 8, 9, 10, 11, 12, 6, 13, 14, 15, 16, 17, 18, 19, 20, 21, 22, 23, 24, 25, 26, 27, 28, 29, 30, 31, 32, 33, 34, 35, 36, 37, 38, 39, 40, 41, 42, 43, 44, 45, 46, 47, 48, 49, 50, 73, 74, 60, 61, 62, 63, 64, 65, 66, 67, 68, 69, 70, 71, 72] (by decide +kernel) (by decide +kernel)
set_option maxRecDepth 20000 in
theorem gX4_forget_X0_save : GoodIn wsX4_forget (wsV RX4 37 RX0 yX0_save wsX0_save) := goodIn_app (goodIn_of _ (by decide +kernel)) ggX4_forget_X0_save
set_option maxRecDepth 20000 in
theorem ggX4_forget_X2_forgetTold : GoodIn wsX4_forget wsX2_forgetTold := goodIn_r _ [54, 23, 25, 55, 41, 56, 60, 61, 62, 63, 64, 65, 66, 67, 68, 69, 70, 71, 72] (by decide +kernel) (by decide +kernel)
set_option maxRecDepth 20000 in
theorem gX4_forget_X2_forgetTold : GoodIn wsX4_forget (wsV RX4 87 RX2 yX2_forgetTold wsX2_forgetTold) := goodIn_app (goodIn_of _ (by decide +kernel)) ggX4_forget_X2_forgetTold
theorem dX4_forget_0 : decode cX4_forget 0 = .ok (.aload_n 0, 1) := by decide +kernel
theorem dX4_forget_1 : decode cX4_forget 1 = .ok (.getfield 19, 3) := by decide +kernel
theorem dX4_forget_4 : decode cX4_forget 4 = .ok (.aload_n 0, 1) := by decide +kernel
theorem dX4_forget_5 : decode cX4_forget 5 = .ok (.getfield 12, 3) := by decide +kernel
theorem dX4_forget_8 : decode cX4_forget 8 = .ok (.invokevirtual 37, 3) := by decide +kernel
theorem dX4_forget_11 : decode cX4_forget 11 = .ok (.aload_n 0, 1) := by decide +kernel
theorem dX4_forget_12 : decode cX4_forget 12 = .ok (.getfield 12, 3) := by decide +kernel
theorem dX4_forget_15 : decode cX4_forget 15 = .ok (.getfield 41, 3) := by decide +kernel
theorem dX4_forget_18 : decode cX4_forget 18 = .ok (.getfield 45, 3) := by decide +kernel
theorem dX4_forget_21 : decode cX4_forget 21 = .ok (.istore_n 1, 1) := by decide +kernel
theorem dX4_forget_22 : decode cX4_forget 22 = .ok (.aload_n 0, 1) := by decide +kernel
theorem dX4_forget_23 : decode cX4_forget 23 = .ok (.getfield 12, 3) := by decide +kernel
theorem dX4_forget_26 : decode cX4_forget 26 = .ok (.invokevirtual 87, 3) := by decide +kernel
theorem dX4_forget_29 : decode cX4_forget 29 = .ok (.iload_n 1, 1) := by decide +kernel
theorem dX4_forget_30 : decode cX4_forget 30 = .ok (.ireturn, 1) := by decide +kernel
set_option maxRecDepth 20000 in
theorem ggX4_hide_X2_isCase : GoodIn wsX4_hide wsX2_isCase := goodIn_r _ [12, 13, 14, 15, 11, 16, 17, 71, 72, 73, 74, 75, 76, 77, 78, 79] (by decide +kernel) (by decide +kernel)
set_option maxRecDepth 20000 in
theorem gX4_hide_X2_isCase : GoodIn wsX4_hide (wsV RX4 90 RX2 yX2_isCase wsX2_isCase) := goodIn_app (goodIn_of _ (by decide +kernel)) ggX4_hide_X2_isCase
set_option maxRecDepth 20000 in
theorem ggX4_hide_X0_save : GoodIn wsX4_hide wsX0_save := goodIn_r _ [22, 23, 24, 25, 26, 27, 21, 28, 29, 30, 31, 32, 33, 34, 35, 11, 36, 37, 38, 39, 17, 40, 41, 42, 43, 44, 45, 46, 47, 48, 49, 50, 51, 52, 53, 54, 55, 56, 57, 58, 59, 60, 61, 62, 63, 80, 81, 71, 72, 73, 74, 75, 76, 77, 78, 79, 82, 83, 84, 85] (by decide +kernel) (by decide +kernel)
set_option maxRecDepth 20000 in
theorem gX4_hide_X0_save : GoodIn wsX4_hide (wsV RX4 37 RX0 yX0_save wsX0_save) := goodIn_app (goodIn_of _ (by decide +kernel)) ggX4_hide_X0_save
set_option maxRecDepth 20000 in
theorem ggX4_hide_X2_hideCase : GoodIn wsX4_hide wsX2_hideCase := goodIn_r _ [67, 41, 42, 43, 71, 72, 73, 74, 75, 76, 77, 78, 79] (by decide +kernel) (by decide +kernel)
set_option maxRecDepth 20000 in
theorem gX4_hide_X2_hideCase : GoodIn wsX4_hide (wsV RX4 102 RX2 yX2_hideCase wsX2_hideCase) := goodIn_app (goodIn_of _ (by decide +kernel)) ggX4_hide_X2_hideCase
theorem dX4_hide_0 : decode cX4_hide 0 = .ok (.aload_n 0, 1) := by decide +kernel
theorem dX4_hide_1 : decode cX4_hide 1 = .ok (.getfield 12, 3) := by decide +kernel
theorem dX4_hide_4 : decode cX4_hide 4 = .ok (.iload_n 1, 1) := by decide +kernel
theorem dX4_hide_5 : decode cX4_hide 5 = .ok (.invokevirtual 90, 3) := by decide +kernel
theorem dX4_hide_8 : decode cX4_hide 8 = .ok (.ifCond .ne 13, 3) := by decide +kernel
theorem dX4_hide_11 : decode cX4_hide 11 = .ok (.new 93, 3) := by decide +kernel
theorem dX4_hide_14 : decode cX4_hide 14 = .ok (.dup, 1) := by decide +kernel
theorem dX4_hide_15 : decode cX4_hide 15 = .ok (.ldc 95, 2) := by decide +kernel
theorem dX4_hide_17 : decode cX4_hide 17 = .ok (.invokespecial 97, 3) := by decide +kernel
theorem dX4_hide_20 : decode cX4_hide 20 = .ok (.athrow, 1) := by decide +kernel
theorem dX4_hide_21 : decode cX4_hide 21 = .ok (.iload_n 2, 1) := by decide +kernel
theorem dX4_hide_22 : decode cX4_hide 22 = .ok (.ifCond .lt 9, 3) := by decide +kernel
theorem dX4_hide_25 : decode cX4_hide 25 = .ok (.iload_n 2, 1) := by decide +kernel
theorem dX4_hide_26 : decode cX4_hide 26 = .ok (.ldc 98, 2) := by decide +kernel
theorem dX4_hide_28 : decode cX4_hide 28 = .ok (.if_icmp .le 13, 3) := by decide +kernel
theorem dX4_hide_31 : decode cX4_hide 31 = .ok (.new 30, 3) := by decide +kernel
theorem dX4_hide_34 : decode cX4_hide 34 = .ok (.dup, 1) := by decide +kernel
theorem dX4_hide_35 : decode cX4_hide 35 = .ok (.ldc 55, 2) := by decide +kernel
theorem dX4_hide_37 : decode cX4_hide 37 = .ok (.invokespecial 34, 3) := by decide +kernel
theorem dX4_hide_40 : decode cX4_hide 40 = .ok (.athrow, 1) := by decide +kernel
theorem dX4_hide_41 : decode cX4_hide 41 = .ok (.aload_n 0, 1) := by decide +kernel
theorem dX4_hide_42 : decode cX4_hide 42 = .ok (.getfield 19, 3) := by decide +kernel
theorem dX4_hide_45 : decode cX4_hide 45 = .ok (.aload_n 0, 1) := by decide +kernel
theorem dX4_hide_46 : decode cX4_hide 46 = .ok (.getfield 12, 3) := by decide +kernel
theorem dX4_hide_49 : decode cX4_hide 49 = .ok (.invokevirtual 37, 3) := by decide +kernel
theorem dX4_hide_52 : decode cX4_hide 52 = .ok (.aload_n 0, 1) := by decide +kernel
theorem dX4_hide_53 : decode cX4_hide 53 = .ok (.getfield 12, 3) := by decide +kernel
theorem dX4_hide_56 : decode cX4_hide 56 = .ok (.getfield 99, 3) := by decide +kernel
theorem dX4_hide_59 : decode cX4_hide 59 = .ok (.istore_n 3, 1) := by decide +kernel
theorem dX4_hide_60 : decode cX4_hide 60 = .ok (.aload_n 0, 1) := by decide +kernel
theorem dX4_hide_61 : decode cX4_hide 61 = .ok (.getfield 12, 3) := by decide +kernel
theorem dX4_hide_64 : decode cX4_hide 64 = .ok (.iload_n 1, 1) := by decide +kernel
theorem dX4_hide_65 : decode cX4_hide 65 = .ok (.iload_n 2, 1) := by decide +kernel
theorem dX4_hide_66 : decode cX4_hide 66 = .ok (.invokevirtual 102, 3) := by decide +kernel
theorem dX4_hide_69 : decode cX4_hide 69 = .ok (.iload_n 3, 1) := by decide +kernel
theorem dX4_hide_70 : decode cX4_hide 70 = .ok (.ireturn, 1) := by decide +kernel
set_option maxRecDepth 20000 in
theorem ggX4_ask_X2_isWeighing : GoodIn wsX4_ask wsX2_isWeighing := goodIn_r _ [11, 12, 13, 14, 15, 16, 17, 18, 19, 106, 107, 108, 109, 110, 111, 112, 113, 114] (by decide +kernel) (by decide +kernel)
set_option maxRecDepth 20000 in
theorem gX4_ask_X2_isWeighing : GoodIn wsX4_ask (wsV RX4 64 RX2 yX2_isWeighing wsX2_isWeighing) := goodIn_app (goodIn_of _ (by decide +kernel)) ggX4_ask_X2_isWeighing
set_option maxRecDepth 20000 in
theorem ggX4_ask_X2_canReply : GoodIn wsX4_ask wsX2_canReply := goodIn_r _ [23, 24, 25, 26, 27, 28, 10, 29, 30, 106, 107, 108, 109, 110, 111, 112, 113, 114, 115, 116, 117, 118] (by decide +kernel) (by decide +kernel)
set_option maxRecDepth 20000 in
theorem gX4_ask_X2_canReply : GoodIn wsX4_ask (wsV RX4 108 RX2 yX2_canReply wsX2_canReply) := goodIn_app (goodIn_of _ (by decide +kernel)) ggX4_ask_X2_canReply
set_option maxRecDepth 20000 in
theorem ggX4_ask_X0_save : GoodIn wsX4_ask wsX0_save := goodIn_r _ [35, 36, 37, 38, 39, 40, 34, 41, 42, 43, 44, 45, 46, 47, 48, 10, 49, 30, 50, 51, 12, 52, 24, 53, 25, 54, 55, 56, 57, 58, 59, 60, 61, 62, 63, 64, 65, 66, 67, 68, 69, 70, 71, 72, 73, 119, 120, 106, 107, 108, 109, 110, 111, 112, 113, 114, 115, 116, 117, 118] (by decide +kernel) (by decide +kernel)
set_option maxRecDepth 20000 in
theorem gX4_ask_X0_save : GoodIn wsX4_ask (wsV RX4 37 RX0 yX0_save wsX0_save) := goodIn_app (goodIn_of _ (by decide +kernel)) ggX4_ask_X0_save
set_option maxRecDepth 20000 in
theorem ggX4_ask_X2_reply : GoodIn wsX4_ask wsX2_reply := goodIn_r _ [77, 24, 53, 25, 78, 64, 79, 80, 81, 82, 83, 84, 85, 10, 86, 30, 51, 87, 88, 89, 57, 90, 62, 59, 60, 61, 91, 92, 93, 94, 95, 96, 12, 97, 98, 99, 100, 101, 102, 106, 107, 108, 109, 110, 111, 112, 113, 114, 115, 116, 117, 118] (by decide +kernel) (by decide +kernel)
set_option maxRecDepth 20000 in
theorem gX4_ask_X2_reply : GoodIn wsX4_ask (wsV RX4 113 RX2 yX2_reply wsX2_reply) := goodIn_app (goodIn_of _ (by decide +kernel)) ggX4_ask_X2_reply
theorem dX4_ask_0 : decode cX4_ask 0 = .ok (.aload_n 0, 1) := by decide +kernel
theorem dX4_ask_1 : decode cX4_ask 1 = .ok (.getfield 12, 3) := by decide +kernel
theorem dX4_ask_4 : decode cX4_ask 4 = .ok (.iload_n 1, 1) := by decide +kernel
theorem dX4_ask_5 : decode cX4_ask 5 = .ok (.iload_n 2, 1) := by decide +kernel
theorem dX4_ask_6 : decode cX4_ask 6 = .ok (.invokevirtual 64, 3) := by decide +kernel
theorem dX4_ask_9 : decode cX4_ask 9 = .ok (.ifCond .ne 13, 3) := by decide +kernel
theorem dX4_ask_12 : decode cX4_ask 12 = .ok (.new 30, 3) := by decide +kernel
theorem dX4_ask_15 : decode cX4_ask 15 = .ok (.dup, 1) := by decide +kernel
theorem dX4_ask_16 : decode cX4_ask 16 = .ok (.ldc 106, 2) := by decide +kernel
theorem dX4_ask_18 : decode cX4_ask 18 = .ok (.invokespecial 34, 3) := by decide +kernel
theorem dX4_ask_21 : decode cX4_ask 21 = .ok (.athrow, 1) := by decide +kernel
theorem dX4_ask_22 : decode cX4_ask 22 = .ok (.aload_n 0, 1) := by decide +kernel
theorem dX4_ask_23 : decode cX4_ask 23 = .ok (.getfield 12, 3) := by decide +kernel
theorem dX4_ask_26 : decode cX4_ask 26 = .ok (.invokevirtual 108, 3) := by decide +kernel
theorem dX4_ask_29 : decode cX4_ask 29 = .ok (.ifCond .ne 13, 3) := by decide +kernel
theorem dX4_ask_32 : decode cX4_ask 32 = .ok (.new 78, 3) := by decide +kernel
theorem dX4_ask_35 : decode cX4_ask 35 = .ok (.dup, 1) := by decide +kernel
theorem dX4_ask_36 : decode cX4_ask 36 = .ok (.ldc 111, 2) := by decide +kernel
theorem dX4_ask_38 : decode cX4_ask 38 = .ok (.invokespecial 82, 3) := by decide +kernel
theorem dX4_ask_41 : decode cX4_ask 41 = .ok (.athrow, 1) := by decide +kernel
theorem dX4_ask_42 : decode cX4_ask 42 = .ok (.aload_n 0, 1) := by decide +kernel
theorem dX4_ask_43 : decode cX4_ask 43 = .ok (.getfield 19, 3) := by decide +kernel
theorem dX4_ask_46 : decode cX4_ask 46 = .ok (.aload_n 0, 1) := by decide +kernel
theorem dX4_ask_47 : decode cX4_ask 47 = .ok (.getfield 12, 3) := by decide +kernel
theorem dX4_ask_50 : decode cX4_ask 50 = .ok (.invokevirtual 37, 3) := by decide +kernel
theorem dX4_ask_53 : decode cX4_ask 53 = .ok (.aload_n 0, 1) := by decide +kernel
theorem dX4_ask_54 : decode cX4_ask 54 = .ok (.getfield 12, 3) := by decide +kernel
theorem dX4_ask_57 : decode cX4_ask 57 = .ok (.iload_n 1, 1) := by decide +kernel
theorem dX4_ask_58 : decode cX4_ask 58 = .ok (.iload_n 2, 1) := by decide +kernel
theorem dX4_ask_59 : decode cX4_ask 59 = .ok (.invokevirtual 113, 3) := by decide +kernel
theorem dX4_ask_62 : decode cX4_ask 62 = .ok (.ireturn, 1) := by decide +kernel
set_option maxRecDepth 20000 in
theorem ggX4_lies_X2_isCase : GoodIn wsX4_lies wsX2_isCase := goodIn_r _ [8, 9, 10, 11, 7, 12, 13, 21, 22, 23, 24, 25, 26, 27, 28, 29] (by decide +kernel) (by decide +kernel)
set_option maxRecDepth 20000 in
theorem gX4_lies_X2_isCase : GoodIn wsX4_lies (wsV RX4 90 RX2 yX2_isCase wsX2_isCase) := goodIn_app (goodIn_of _ (by decide +kernel)) ggX4_lies_X2_isCase
set_option maxRecDepth 20000 in
theorem ggX4_lies_X4_at : GoodIn wsX4_lies wsX4_at := goodIn_r _ [17] (by decide +kernel) (by decide +kernel)
set_option maxRecDepth 20000 in
theorem gX4_lies_X4_at : GoodIn wsX4_lies (va_wsS RX4 137 yX4_at wsX4_at) := goodIn_app (goodIn_of _ (by decide +kernel)) ggX4_lies_X4_at
theorem dX4_lies_0 : decode cX4_lies 0 = .ok (.aload_n 0, 1) := by decide +kernel
theorem dX4_lies_1 : decode cX4_lies 1 = .ok (.getfield 12, 3) := by decide +kernel
theorem dX4_lies_4 : decode cX4_lies 4 = .ok (.iload_n 1, 1) := by decide +kernel
theorem dX4_lies_5 : decode cX4_lies 5 = .ok (.invokevirtual 90, 3) := by decide +kernel
theorem dX4_lies_8 : decode cX4_lies 8 = .ok (.ifCond .ne 13, 3) := by decide +kernel
theorem dX4_lies_11 : decode cX4_lies 11 = .ok (.new 93, 3) := by decide +kernel
theorem dX4_lies_14 : decode cX4_lies 14 = .ok (.dup, 1) := by decide +kernel
theorem dX4_lies_15 : decode cX4_lies 15 = .ok (.ldc 95, 2) := by decide +kernel
theorem dX4_lies_17 : decode cX4_lies 17 = .ok (.invokespecial 97, 3) := by decide +kernel
theorem dX4_lies_20 : decode cX4_lies 20 = .ok (.athrow, 1) := by decide +kernel
theorem dX4_lies_21 : decode cX4_lies 21 = .ok (.aload_n 0, 1) := by decide +kernel
theorem dX4_lies_22 : decode cX4_lies 22 = .ok (.getfield 12, 3) := by decide +kernel
theorem dX4_lies_25 : decode cX4_lies 25 = .ok (.getfield 133, 3) := by decide +kernel
theorem dX4_lies_28 : decode cX4_lies 28 = .ok (.iload_n 1, 1) := by decide +kernel
theorem dX4_lies_29 : decode cX4_lies 29 = .ok (.invokestatic 137, 3) := by decide +kernel
theorem dX4_lies_32 : decode cX4_lies 32 = .ok (.ireturn, 1) := by decide +kernel
set_option maxRecDepth 20000 in
theorem ggX4_value_X2_number : GoodIn wsX4_value wsX2_number := goodIn_r _ [8, 9, 10, 11, 12, 13, 14, 15, 16, 17, 7, 18, 19, 20, 21, 22, 23, 24, 25, 26, 27, 28, 29, 30, 31, 32, 33, 34, 35, 36, 40, 41, 42, 43, 44, 45, 46, 47, 48, 49, 50, 51, 52] (by decide +kernel) (by decide +kernel)
set_option maxRecDepth 20000 in
theorem gX4_value_X2_number : GoodIn wsX4_value (wsV RX4 158 RX2 yX2_number wsX2_number) := goodIn_app (goodIn_of _ (by decide +kernel)) ggX4_value_X2_number
theorem dX4_value_0 : decode cX4_value 0 = .ok (.iload_n 1, 1) := by decide +kernel
theorem dX4_value_1 : decode cX4_value 1 = .ok (.ifCond .lt 9, 3) := by decide +kernel
theorem dX4_value_4 : decode cX4_value 4 = .ok (.iload_n 1, 1) := by decide +kernel
theorem dX4_value_5 : decode cX4_value 5 = .ok (.bipush 9, 2) := by decide +kernel
theorem dX4_value_7 : decode cX4_value 7 = .ok (.if_icmp .lt 13, 3) := by decide +kernel
theorem dX4_value_10 : decode cX4_value 10 = .ok (.new 30, 3) := by decide +kernel
theorem dX4_value_13 : decode cX4_value 13 = .ok (.dup, 1) := by decide +kernel
theorem dX4_value_14 : decode cX4_value 14 = .ok (.ldc 153, 2) := by decide +kernel
theorem dX4_value_16 : decode cX4_value 16 = .ok (.invokespecial 34, 3) := by decide +kernel
theorem dX4_value_19 : decode cX4_value 19 = .ok (.athrow, 1) := by decide +kernel
theorem dX4_value_20 : decode cX4_value 20 = .ok (.aload_n 0, 1) := by decide +kernel
theorem dX4_value_21 : decode cX4_value 21 = .ok (.getfield 12, 3) := by decide +kernel
theorem dX4_value_24 : decode cX4_value 24 = .ok (.iload_n 1, 1) := by decide +kernel
theorem dX4_value_25 : decode cX4_value 25 = .ok (.invokevirtual 158, 3) := by decide +kernel
theorem dX4_value_28 : decode cX4_value 28 = .ok (.ireturn, 1) := by decide +kernel
set_option maxRecDepth 20000 in
theorem ggX4_weight_X4_isAhead : GoodIn wsX4_weight wsX4_isAhead := goodIn_r _ [7] (by decide +kernel) (by decide +kernel)
set_option maxRecDepth 20000 in
theorem gX4_weight_X4_isAhead : GoodIn wsX4_weight (va_wsS RX4 161 yX4_isAhead wsX4_isAhead) := goodIn_app (goodIn_of _ (by decide +kernel)) ggX4_weight_X4_isAhead
set_option maxRecDepth 20000 in
theorem ggX4_weight_X2_weightAhead : GoodIn wsX4_weight wsX2_weightAhead := goodIn_r _ [12, 13, 14, 15, 16, 11, 17, 18, 19, 6, 20, 21, 22, 23, 24, 25, 26, 27, 28, 29, 30, 31, 35, 36, 37, 38, 39, 40, 41, 42, 43] (by decide +kernel) (by decide +kernel)
set_option maxRecDepth 20000 in
theorem gX4_weight_X2_weightAhead : GoodIn wsX4_weight (wsV RX4 166 RX2 yX2_weightAhead wsX2_weightAhead) := goodIn_app (goodIn_of _ (by decide +kernel)) ggX4_weight_X2_weightAhead
theorem dX4_weight_0 : decode cX4_weight 0 = .ok (.iload_n 1, 1) := by decide +kernel
theorem dX4_weight_1 : decode cX4_weight 1 = .ok (.invokestatic 161, 3) := by decide +kernel
theorem dX4_weight_4 : decode cX4_weight 4 = .ok (.ifCond .ne 13, 3) := by decide +kernel
theorem dX4_weight_7 : decode cX4_weight 7 = .ok (.new 30, 3) := by decide +kernel
theorem dX4_weight_10 : decode cX4_weight 10 = .ok (.dup, 1) := by decide +kernel
theorem dX4_weight_11 : decode cX4_weight 11 = .ok (.ldc 164, 2) := by decide +kernel
theorem dX4_weight_13 : decode cX4_weight 13 = .ok (.invokespecial 34, 3) := by decide +kernel
theorem dX4_weight_16 : decode cX4_weight 16 = .ok (.athrow, 1) := by decide +kernel
theorem dX4_weight_17 : decode cX4_weight 17 = .ok (.aload_n 0, 1) := by decide +kernel
theorem dX4_weight_18 : decode cX4_weight 18 = .ok (.getfield 12, 3) := by decide +kernel
theorem dX4_weight_21 : decode cX4_weight 21 = .ok (.iload_n 1, 1) := by decide +kernel
theorem dX4_weight_22 : decode cX4_weight 22 = .ok (.invokevirtual 166, 3) := by decide +kernel
theorem dX4_weight_25 : decode cX4_weight 25 = .ok (.lreturn, 1) := by decide +kernel
set_option maxRecDepth 20000 in
theorem ggX4_bound_X2_weightAhead : GoodIn wsX4_bound wsX2_weightAhead := goodIn_r _ [7, 8, 9, 10, 11, 6, 12, 13, 14, 15, 16, 17, 18, 19, 20, 21, 22, 23, 24, 25, 26, 27, 31, 32, 33, 34, 35, 36, 37, 38, 39] (by decide +kernel) (by decide +kernel)
set_option maxRecDepth 20000 in
theorem gX4_bound_X2_weightAhead : GoodIn wsX4_bound (wsV RX4 166 RX2 yX2_weightAhead wsX2_weightAhead) := goodIn_app (goodIn_of _ (by decide +kernel)) ggX4_bound_X2_weightAhead
theorem dX4_bound_0 : decode cX4_bound 0 = .ok (.lconst 1, 1) := by decide +kernel
theorem dX4_bound_1 : decode cX4_bound 1 = .ok (.lstore_n 1, 1) := by decide +kernel
theorem dX4_bound_2 : decode cX4_bound 2 = .ok (.iconst 0, 1) := by decide +kernel
theorem dX4_bound_3 : decode cX4_bound 3 = .ok (.istore_n 3, 1) := by decide +kernel
theorem dX4_bound_4 : decode cX4_bound 4 = .ok (.iload_n 3, 1) := by decide +kernel
theorem dX4_bound_5 : decode cX4_bound 5 = .ok (.bipush 20, 2) := by decide +kernel
theorem dX4_bound_7 : decode cX4_bound 7 = .ok (.if_icmp .gt 30, 3) := by decide +kernel
theorem dX4_bound_10 : decode cX4_bound 10 = .ok (.aload_n 0, 1) := by decide +kernel
theorem dX4_bound_11 : decode cX4_bound 11 = .ok (.getfield 12, 3) := by decide +kernel
theorem dX4_bound_14 : decode cX4_bound 14 = .ok (.iload_n 3, 1) := by decide +kernel
theorem dX4_bound_15 : decode cX4_bound 15 = .ok (.invokevirtual 166, 3) := by decide +kernel
theorem dX4_bound_18 : decode cX4_bound 18 = .ok (.lload_n 1, 1) := by decide +kernel
theorem dX4_bound_19 : decode cX4_bound 19 = .ok (.lcmp, 1) := by decide +kernel
theorem dX4_bound_20 : decode cX4_bound 20 = .ok (.ifCond .gt 5, 3) := by decide +kernel
theorem dX4_bound_23 : decode cX4_bound 23 = .ok (.iload_n 3, 1) := by decide +kernel
theorem dX4_bound_24 : decode cX4_bound 24 = .ok (.ireturn, 1) := by decide +kernel
theorem dX4_bound_25 : decode cX4_bound 25 = .ok (.lload_n 1, 1) := by decide +kernel
theorem dX4_bound_26 : decode cX4_bound 26 = .ok (.ldc2_w 170, 3) := by decide +kernel
theorem dX4_bound_29 : decode cX4_bound 29 = .ok (.lmul, 1) := by decide +kernel
theorem dX4_bound_30 : decode cX4_bound 30 = .ok (.lstore_n 1, 1) := by decide +kernel
theorem dX4_bound_31 : decode cX4_bound 31 = .ok (.iinc 3 1, 3) := by decide +kernel
theorem dX4_bound_34 : decode cX4_bound 34 = .ok (.goto (-30), 3) := by decide +kernel
theorem dX4_bound_37 : decode cX4_bound 37 = .ok (.iconst (-1), 1) := by decide +kernel
theorem dX4_bound_38 : decode cX4_bound 38 = .ok (.ireturn, 1) := by decide +kernel
set_option maxRecDepth 20000 in
theorem ggX4_weightBehind_X2_isWeighing : GoodIn wsX4_weightBehind wsX2_isWeighing := goodIn_r _ [8, 9, 10, 11, 12, 13, 14, 15, 16, 58, 59, 60, 61, 62, 63, 64, 65, 66] (by decide +kernel) (by decide +kernel)
set_option maxRecDepth 20000 in
theorem gX4_weightBehind_X2_isWeighing : GoodIn wsX4_weightBehind (wsV RX4 64 RX2 yX2_isWeighing wsX2_isWeighing) := goodIn_app (goodIn_of _ (by decide +kernel)) ggX4_weightBehind_X2_isWeighing
set_option maxRecDepth 20000 in
theorem ggX4_weightBehind_X4_isAnswer : GoodIn wsX4_weightBehind wsX4_isAnswer := goodIn_r _ [20] (by decide +kernel) (by decide +kernel)
set_option maxRecDepth 20000 in
theorem gX4_weightBehind_X4_isAnswer : GoodIn wsX4_weightBehind (va_wsS RX4 68 yX4_isAnswer wsX4_isAnswer) := goodIn_app (goodIn_of _ (by decide +kernel)) ggX4_weightBehind_X4_isAnswer
set_option maxRecDepth 20000 in
theorem ggX4_weightBehind_X4_isAhead : GoodIn wsX4_weightBehind wsX4_isAhead := goodIn_r _ [23] (by decide +kernel) (by decide +kernel)
set_option maxRecDepth 20000 in
theorem gX4_weightBehind_X4_isAhead : GoodIn wsX4_weightBehind (va_wsS RX4 161 yX4_isAhead wsX4_isAhead) := goodIn_app (goodIn_of _ (by decide +kernel)) ggX4_weightBehind_X4_isAhead
set_option maxRecDepth 20000 in
theorem ggX4_weightBehind_X2_weightIfTold : GoodIn wsX4_weightBehind wsX2_weightIfTold := goodIn_r _ [27, 28, 29, 30, 7, 31, 9, 32, 33, 34, 35, 36, 37, 19, 38, 39, 40, 41, 42, 43, 44, 45, 46, 47, 48, 49, 50, 51, 52, 53, 54, 58, 59, 60, 61, 62, 63, 64, 65, 66] (by decide +kernel) (by decide +kernel)
set_option maxRecDepth 20000 in
theorem gX4_weightBehind_X2_weightIfTold : GoodIn wsX4_weightBehind (wsV RX4 174 RX2 yX2_weightIfTold wsX2_weightIfTold) := goodIn_app (goodIn_of _ (by decide +kernel)) ggX4_weightBehind_X2_weightIfTold
theorem dX4_weightBehind_0 : decode cX4_weightBehind 0 = .ok (.aload_n 0, 1) := by decide +kernel
theorem dX4_weightBehind_1 : decode cX4_weightBehind 1 = .ok (.getfield 12, 3) := by decide +kernel
theorem dX4_weightBehind_4 : decode cX4_weightBehind 4 = .ok (.iload_n 1, 1) := by decide +kernel
theorem dX4_weightBehind_5 : decode cX4_weightBehind 5 = .ok (.iload_n 2, 1) := by decide +kernel
theorem dX4_weightBehind_6 : decode cX4_weightBehind 6 = .ok (.invokevirtual 64, 3) := by decide +kernel
theorem dX4_weightBehind_9 : decode cX4_weightBehind 9 = .ok (.ifCond .eq 18, 3) := by decide +kernel
theorem dX4_weightBehind_12 : decode cX4_weightBehind 12 = .ok (.iload_n 3, 1) := by decide +kernel
theorem dX4_weightBehind_13 : decode cX4_weightBehind 13 = .ok (.invokestatic 68, 3) := by decide +kernel
theorem dX4_weightBehind_16 : decode cX4_weightBehind 16 = .ok (.ifCond .eq 11, 3) := by decide +kernel
theorem dX4_weightBehind_19 : decode cX4_weightBehind 19 = .ok (.iload 4, 2) := by decide +kernel
theorem dX4_weightBehind_21 : decode cX4_weightBehind 21 = .ok (.invokestatic 161, 3) := by decide +kernel
theorem dX4_weightBehind_24 : decode cX4_weightBehind 24 = .ok (.ifCond .ne 13, 3) := by decide +kernel
theorem dX4_weightBehind_27 : decode cX4_weightBehind 27 = .ok (.new 30, 3) := by decide +kernel
theorem dX4_weightBehind_30 : decode cX4_weightBehind 30 = .ok (.dup, 1) := by decide +kernel
theorem dX4_weightBehind_31 : decode cX4_weightBehind 31 = .ok (.ldc 172, 2) := by decide +kernel
theorem dX4_weightBehind_33 : decode cX4_weightBehind 33 = .ok (.invokespecial 34, 3) := by decide +kernel
theorem dX4_weightBehind_36 : decode cX4_weightBehind 36 = .ok (.athrow, 1) := by decide +kernel
theorem dX4_weightBehind_37 : decode cX4_weightBehind 37 = .ok (.aload_n 0, 1) := by decide +kernel
theorem dX4_weightBehind_38 : decode cX4_weightBehind 38 = .ok (.getfield 12, 3) := by decide +kernel
theorem dX4_weightBehind_41 : decode cX4_weightBehind 41 = .ok (.iload_n 1, 1) := by decide +kernel
theorem dX4_weightBehind_42 : decode cX4_weightBehind 42 = .ok (.iload_n 2, 1) := by decide +kernel
theorem dX4_weightBehind_43 : decode cX4_weightBehind 43 = .ok (.iload_n 3, 1) := by decide +kernel
theorem dX4_weightBehind_44 : decode cX4_weightBehind 44 = .ok (.iload 4, 2) := by decide +kernel
theorem dX4_weightBehind_46 : decode cX4_weightBehind 46 = .ok (.invokevirtual 174, 3) := by decide +kernel
theorem dX4_weightBehind_49 : decode cX4_weightBehind 49 = .ok (.lreturn, 1) := by decide +kernel
set_option maxRecDepth 20000 in
theorem ggX4_undo_X0_restore : GoodIn wsX4_undo wsX0_restore := goodIn_r _ [9, 10, 11, 12, 13, 8, 14, 15, 16, 17, 18, 19, 20, 21, 22, 23, 24, 25, 26, 27, 28, 29, 30, 31, 32, 33, 34, 35, 36, 37, 38, 39, 40, 41, 42, 43, 44, 45, 46, 47, 48, 52, 53, 54, 55, 56, 57, 58, 59, 60, 61, 62, 63, 64, 65, 66] (by decide +kernel) (by decide +kernel)
set_option maxRecDepth 20000 in
theorem gX4_undo_X0_restore : GoodIn wsX4_undo (wsV RX4 237 RX0 yX0_restore wsX0_restore) := goodIn_app (goodIn_of _ (by decide +kernel)) ggX4_undo_X0_restore
theorem dX4_undo_0 : decode cX4_undo 0 = .ok (.aload_n 0, 1) := by decide +kernel
theorem dX4_undo_1 : decode cX4_undo 1 = .ok (.getfield 19, 3) := by decide +kernel
theorem dX4_undo_4 : decode cX4_undo 4 = .ok (.getfield 234, 3) := by decide +kernel
theorem dX4_undo_7 : decode cX4_undo 7 = .ok (.ifCond .ne 13, 3) := by decide +kernel
theorem dX4_undo_10 : decode cX4_undo 10 = .ok (.new 78, 3) := by decide +kernel
theorem dX4_undo_13 : decode cX4_undo 13 = .ok (.dup, 1) := by decide +kernel
theorem dX4_undo_14 : decode cX4_undo 14 = .ok (.ldc 235, 2) := by decide +kernel
theorem dX4_undo_16 : decode cX4_undo 16 = .ok (.invokespecial 82, 3) := by decide +kernel
theorem dX4_undo_19 : decode cX4_undo 19 = .ok (.athrow, 1) := by decide +kernel
theorem dX4_undo_20 : decode cX4_undo 20 = .ok (.aload_n 0, 1) := by decide +kernel
theorem dX4_undo_21 : decode cX4_undo 21 = .ok (.getfield 19, 3) := by decide +kernel
theorem dX4_undo_24 : decode cX4_undo 24 = .ok (.aload_n 0, 1) := by decide +kernel
theorem dX4_undo_25 : decode cX4_undo 25 = .ok (.getfield 12, 3) := by decide +kernel
theorem dX4_undo_28 : decode cX4_undo 28 = .ok (.invokevirtual 237, 3) := by decide +kernel
theorem dX4_undo_31 : decode cX4_undo 31 = .ok (.aload_n 0, 1) := by decide +kernel
theorem dX4_undo_32 : decode cX4_undo 32 = .ok (.getfield 19, 3) := by decide +kernel
theorem dX4_undo_35 : decode cX4_undo 35 = .ok (.getfield 234, 3) := by decide +kernel
theorem dX4_undo_38 : decode cX4_undo 38 = .ok (.ireturn, 1) := by decide +kernel
theorem dX4_isAnswer_0 : decode cX4_isAnswer 0 = .ok (.iload_n 0, 1) := by decide +kernel
theorem dX4_isAnswer_1 : decode cX4_isAnswer 1 = .ok (.ifCond .lt 12, 3) := by decide +kernel
theorem dX4_isAnswer_4 : decode cX4_isAnswer 4 = .ok (.iload_n 0, 1) := by decide +kernel
theorem dX4_isAnswer_5 : decode cX4_isAnswer 5 = .ok (.iconst 3, 1) := by decide +kernel
theorem dX4_isAnswer_6 : decode cX4_isAnswer 6 = .ok (.if_icmp .ge 7, 3) := by decide +kernel
theorem dX4_isAnswer_9 : decode cX4_isAnswer 9 = .ok (.iconst 1, 1) := by decide +kernel
theorem dX4_isAnswer_10 : decode cX4_isAnswer 10 = .ok (.goto 4, 3) := by decide +kernel
theorem dX4_isAnswer_13 : decode cX4_isAnswer 13 = .ok (.iconst 0, 1) := by decide +kernel
theorem dX4_isAnswer_14 : decode cX4_isAnswer 14 = .ok (.ireturn, 1) := by decide +kernel
theorem dX4_isAhead_0 : decode cX4_isAhead 0 = .ok (.iload_n 0, 1) := by decide +kernel
theorem dX4_isAhead_1 : decode cX4_isAhead 1 = .ok (.ifCond .lt 13, 3) := by decide +kernel
theorem dX4_isAhead_4 : decode cX4_isAhead 4 = .ok (.iload_n 0, 1) := by decide +kernel
theorem dX4_isAhead_5 : decode cX4_isAhead 5 = .ok (.bipush 20, 2) := by decide +kernel
theorem dX4_isAhead_7 : decode cX4_isAhead 7 = .ok (.if_icmp .gt 7, 3) := by decide +kernel
theorem dX4_isAhead_10 : decode cX4_isAhead 10 = .ok (.iconst 1, 1) := by decide +kernel
theorem dX4_isAhead_11 : decode cX4_isAhead 11 = .ok (.goto 4, 3) := by decide +kernel
theorem dX4_isAhead_14 : decode cX4_isAhead 14 = .ok (.iconst 0, 1) := by decide +kernel
theorem dX4_isAhead_15 : decode cX4_isAhead 15 = .ok (.ireturn, 1) := by decide +kernel
theorem dX4_at_0 : decode cX4_at 0 = .ok (.iload_n 1, 1) := by decide +kernel
theorem dX4_at_1 : decode cX4_at 1 = .ok (.ifCond .lt 15, 3) := by decide +kernel
theorem dX4_at_4 : decode cX4_at 4 = .ok (.iload_n 1, 1) := by decide +kernel
theorem dX4_at_5 : decode cX4_at 5 = .ok (.aload_n 0, 1) := by decide +kernel
theorem dX4_at_6 : decode cX4_at 6 = .ok (.arraylength, 1) := by decide +kernel
theorem dX4_at_7 : decode cX4_at 7 = .ok (.if_icmp .ge 9, 3) := by decide +kernel
theorem dX4_at_10 : decode cX4_at 10 = .ok (.aload_n 0, 1) := by decide +kernel
theorem dX4_at_11 : decode cX4_at 11 = .ok (.iload_n 1, 1) := by decide +kernel
theorem dX4_at_12 : decode cX4_at 12 = .ok (.iaload, 1) := by decide +kernel
theorem dX4_at_13 : decode cX4_at 13 = .ok (.goto 4, 3) := by decide +kernel
theorem dX4_at_16 : decode cX4_at 16 = .ok (.iconst 0, 1) := by decide +kernel
theorem dX4_at_17 : decode cX4_at 17 = .ok (.ireturn, 1) := by decide +kernel
theorem dX4_put_0 : decode cX4_put 0 = .ok (.iload_n 1, 1) := by decide +kernel
theorem dX4_put_1 : decode cX4_put 1 = .ok (.ifCond .lt 13, 3) := by decide +kernel
theorem dX4_put_4 : decode cX4_put 4 = .ok (.iload_n 1, 1) := by decide +kernel
theorem dX4_put_5 : decode cX4_put 5 = .ok (.aload_n 0, 1) := by decide +kernel
theorem dX4_put_6 : decode cX4_put 6 = .ok (.arraylength, 1) := by decide +kernel
theorem dX4_put_7 : decode cX4_put 7 = .ok (.if_icmp .ge 7, 3) := by decide +kernel
theorem dX4_put_10 : decode cX4_put 10 = .ok (.aload_n 0, 1) := by decide +kernel
theorem dX4_put_11 : decode cX4_put 11 = .ok (.iload_n 1, 1) := by decide +kernel
theorem dX4_put_12 : decode cX4_put 12 = .ok (.iload_n 2, 1) := by decide +kernel
theorem dX4_put_13 : decode cX4_put 13 = .ok (.iastore, 1) := by decide +kernel
theorem dX4_put_14 : decode cX4_put 14 = .ok (.return_, 1) := by decide +kernel
theorem dX4_copyRow_0 : decode cX4_copyRow 0 = .ok (.aload_n 0, 1) := by decide +kernel
theorem dX4_copyRow_1 : decode cX4_copyRow 1 = .ok (.iconst 0, 1) := by decide +kernel
theorem dX4_copyRow_2 : decode cX4_copyRow 2 = .ok (.aload_n 1, 1) := by decide +kernel
theorem dX4_copyRow_3 : decode cX4_copyRow 3 = .ok (.iconst 0, 1) := by decide +kernel
theorem dX4_copyRow_4 : decode cX4_copyRow 4 = .ok (.aload_n 0, 1) := by decide +kernel
theorem dX4_copyRow_5 : decode cX4_copyRow 5 = .ok (.arraylength, 1) := by decide +kernel
theorem dX4_copyRow_6 : decode cX4_copyRow 6 = .ok (.aload_n 1, 1) := by decide +kernel
theorem dX4_copyRow_7 : decode cX4_copyRow 7 = .ok (.arraylength, 1) := by decide +kernel
theorem dX4_copyRow_8 : decode cX4_copyRow 8 = .ok (.invokestatic 253, 3) := by decide +kernel
theorem dX4_copyRow_11 : decode cX4_copyRow 11 = .ok (.invokestatic 258, 3) := by decide +kernel
theorem dX4_copyRow_14 : decode cX4_copyRow 14 = .ok (.return_, 1) := by decide +kernel
theorem dX4_coinBit_0 : decode cX4_coinBit 0 = .ok (.iload_n 0, 1) := by decide +kernel
theorem dX4_coinBit_1 : decode cX4_coinBit 1 = .ok (.ifCond .gt 7, 3) := by decide +kernel
theorem dX4_coinBit_4 : decode cX4_coinBit 4 = .ok (.iconst 0, 1) := by decide +kernel
theorem dX4_coinBit_5 : decode cX4_coinBit 5 = .ok (.goto 10, 3) := by decide +kernel
theorem dX4_coinBit_8 : decode cX4_coinBit 8 = .ok (.iconst 1, 1) := by decide +kernel
theorem dX4_coinBit_9 : decode cX4_coinBit 9 = .ok (.iload_n 0, 1) := by decide +kernel
theorem dX4_coinBit_10 : decode cX4_coinBit 10 = .ok (.iconst 1, 1) := by decide +kernel
theorem dX4_coinBit_11 : decode cX4_coinBit 11 = .ok (.isub, 1) := by decide +kernel
theorem dX4_coinBit_12 : decode cX4_coinBit 12 = .ok (.iconst 2, 1) := by decide +kernel
theorem dX4_coinBit_13 : decode cX4_coinBit 13 = .ok (.idiv, 1) := by decide +kernel
theorem dX4_coinBit_14 : decode cX4_coinBit 14 = .ok (.ishl, 1) := by decide +kernel
theorem dX4_coinBit_15 : decode cX4_coinBit 15 = .ok (.ireturn, 1) := by decide +kernel
set_option maxRecDepth 20000 in
theorem ggX4_trueAnswer_X4_coinBit : GoodIn wsX4_trueAnswer wsX4_coinBit := goodIn_r _ [4] (by decide +kernel) (by decide +kernel)
set_option maxRecDepth 20000 in
theorem gX4_trueAnswer_X4_coinBit : GoodIn wsX4_trueAnswer (va_wsS RX4 264 yX4_coinBit wsX4_coinBit) := goodIn_app (goodIn_of _ (by decide +kernel)) ggX4_trueAnswer_X4_coinBit
theorem dX4_trueAnswer_0 : decode cX4_trueAnswer 0 = .ok (.iload_n 0, 1) := by decide +kernel
theorem dX4_trueAnswer_1 : decode cX4_trueAnswer 1 = .ok (.invokestatic 264, 3) := by decide +kernel
theorem dX4_trueAnswer_4 : decode cX4_trueAnswer 4 = .ok (.istore_n 3, 1) := by decide +kernel
theorem dX4_trueAnswer_5 : decode cX4_trueAnswer 5 = .ok (.iload_n 0, 1) := by decide +kernel
theorem dX4_trueAnswer_6 : decode cX4_trueAnswer 6 = .ok (.iconst 1, 1) := by decide +kernel
theorem dX4_trueAnswer_7 : decode cX4_trueAnswer 7 = .ok (.iand, 1) := by decide +kernel
theorem dX4_trueAnswer_8 : decode cX4_trueAnswer 8 = .ok (.iconst 1, 1) := by decide +kernel
theorem dX4_trueAnswer_9 : decode cX4_trueAnswer 9 = .ok (.if_icmp .ne 7, 3) := by decide +kernel
theorem dX4_trueAnswer_12 : decode cX4_trueAnswer 12 = .ok (.iconst 1, 1) := by decide +kernel
theorem dX4_trueAnswer_13 : decode cX4_trueAnswer 13 = .ok (.goto 4, 3) := by decide +kernel
theorem dX4_trueAnswer_16 : decode cX4_trueAnswer 16 = .ok (.iconst 0, 1) := by decide +kernel
theorem dX4_trueAnswer_17 : decode cX4_trueAnswer 17 = .ok (.istore 4, 2) := by decide +kernel
theorem dX4_trueAnswer_19 : decode cX4_trueAnswer 19 = .ok (.iload_n 1, 1) := by decide +kernel
theorem dX4_trueAnswer_20 : decode cX4_trueAnswer 20 = .ok (.iload_n 3, 1) := by decide +kernel
theorem dX4_trueAnswer_21 : decode cX4_trueAnswer 21 = .ok (.iand, 1) := by decide +kernel
theorem dX4_trueAnswer_22 : decode cX4_trueAnswer 22 = .ok (.ifCond .eq 14, 3) := by decide +kernel
theorem dX4_trueAnswer_25 : decode cX4_trueAnswer 25 = .ok (.iload 4, 2) := by decide +kernel
theorem dX4_trueAnswer_27 : decode cX4_trueAnswer 27 = .ok (.ifCond .eq 7, 3) := by decide +kernel
theorem dX4_trueAnswer_30 : decode cX4_trueAnswer 30 = .ok (.iconst 0, 1) := by decide +kernel
theorem dX4_trueAnswer_31 : decode cX4_trueAnswer 31 = .ok (.goto 4, 3) := by decide +kernel
theorem dX4_trueAnswer_34 : decode cX4_trueAnswer 34 = .ok (.iconst 1, 1) := by decide +kernel
theorem dX4_trueAnswer_35 : decode cX4_trueAnswer 35 = .ok (.ireturn, 1) := by decide +kernel
theorem dX4_trueAnswer_36 : decode cX4_trueAnswer 36 = .ok (.iload_n 2, 1) := by decide +kernel
theorem dX4_trueAnswer_37 : decode cX4_trueAnswer 37 = .ok (.iload_n 3, 1) := by decide +kernel
theorem dX4_trueAnswer_38 : decode cX4_trueAnswer 38 = .ok (.iand, 1) := by decide +kernel
theorem dX4_trueAnswer_39 : decode cX4_trueAnswer 39 = .ok (.ifCond .eq 14, 3) := by decide +kernel
theorem dX4_trueAnswer_42 : decode cX4_trueAnswer 42 = .ok (.iload 4, 2) := by decide +kernel
theorem dX4_trueAnswer_44 : decode cX4_trueAnswer 44 = .ok (.ifCond .eq 7, 3) := by decide +kernel
theorem dX4_trueAnswer_47 : decode cX4_trueAnswer 47 = .ok (.iconst 1, 1) := by decide +kernel
theorem dX4_trueAnswer_48 : decode cX4_trueAnswer 48 = .ok (.goto 4, 3) := by decide +kernel
theorem dX4_trueAnswer_51 : decode cX4_trueAnswer 51 = .ok (.iconst 0, 1) := by decide +kernel
theorem dX4_trueAnswer_52 : decode cX4_trueAnswer 52 = .ok (.ireturn, 1) := by decide +kernel
theorem dX4_trueAnswer_53 : decode cX4_trueAnswer 53 = .ok (.iconst 2, 1) := by decide +kernel
theorem dX4_trueAnswer_54 : decode cX4_trueAnswer 54 = .ok (.ireturn, 1) := by decide +kernel
theorem dX4_volume_0 : decode cX4_volume 0 = .ok (.lconst 1, 1) := by decide +kernel
theorem dX4_volume_1 : decode cX4_volume 1 = .ok (.lstore_n 2, 1) := by decide +kernel
theorem dX4_volume_2 : decode cX4_volume 2 = .ok (.lconst 1, 1) := by decide +kernel
theorem dX4_volume_3 : decode cX4_volume 3 = .ok (.lstore 4, 2) := by decide +kernel
theorem dX4_volume_5 : decode cX4_volume 5 = .ok (.iload_n 0, 1) := by decide +kernel
theorem dX4_volume_6 : decode cX4_volume 6 = .ok (.iload_n 1, 1) := by decide +kernel
theorem dX4_volume_7 : decode cX4_volume 7 = .ok (.invokestatic 253, 3) := by decide +kernel
theorem dX4_volume_10 : decode cX4_volume 10 = .ok (.istore 6, 2) := by decide +kernel
theorem dX4_volume_12 : decode cX4_volume 12 = .ok (.iconst 1, 1) := by decide +kernel
theorem dX4_volume_13 : decode cX4_volume 13 = .ok (.istore 7, 2) := by decide +kernel
theorem dX4_volume_15 : decode cX4_volume 15 = .ok (.iload 7, 2) := by decide +kernel
theorem dX4_volume_17 : decode cX4_volume 17 = .ok (.iload 6, 2) := by decide +kernel
theorem dX4_volume_19 : decode cX4_volume 19 = .ok (.if_icmp .gt 32, 3) := by decide +kernel
theorem dX4_volume_22 : decode cX4_volume 22 = .ok (.lload_n 2, 1) := by decide +kernel
theorem dX4_volume_23 : decode cX4_volume 23 = .ok (.iload_n 0, 1) := by decide +kernel
theorem dX4_volume_24 : decode cX4_volume 24 = .ok (.iload 7, 2) := by decide +kernel
theorem dX4_volume_26 : decode cX4_volume 26 = .ok (.isub, 1) := by decide +kernel
theorem dX4_volume_27 : decode cX4_volume 27 = .ok (.iconst 1, 1) := by decide +kernel
theorem dX4_volume_28 : decode cX4_volume 28 = .ok (.iadd, 1) := by decide +kernel
theorem dX4_volume_29 : decode cX4_volume 29 = .ok (.i2l, 1) := by decide +kernel
theorem dX4_volume_30 : decode cX4_volume 30 = .ok (.lmul, 1) := by decide +kernel
theorem dX4_volume_31 : decode cX4_volume 31 = .ok (.iload 7, 2) := by decide +kernel
theorem dX4_volume_33 : decode cX4_volume 33 = .ok (.i2l, 1) := by decide +kernel
theorem dX4_volume_34 : decode cX4_volume 34 = .ok (.ldiv, 1) := by decide +kernel
theorem dX4_volume_35 : decode cX4_volume 35 = .ok (.lstore_n 2, 1) := by decide +kernel
theorem dX4_volume_36 : decode cX4_volume 36 = .ok (.lload 4, 2) := by decide +kernel
theorem dX4_volume_38 : decode cX4_volume 38 = .ok (.lload_n 2, 1) := by decide +kernel
theorem dX4_volume_39 : decode cX4_volume 39 = .ok (.iload 7, 2) := by decide +kernel
theorem dX4_volume_41 : decode cX4_volume 41 = .ok (.lshl, 1) := by decide +kernel
theorem dX4_volume_42 : decode cX4_volume 42 = .ok (.ladd, 1) := by decide +kernel
theorem dX4_volume_43 : decode cX4_volume 43 = .ok (.lstore 4, 2) := by decide +kernel
theorem dX4_volume_45 : decode cX4_volume 45 = .ok (.iinc 7 1, 3) := by decide +kernel
theorem dX4_volume_48 : decode cX4_volume 48 = .ok (.goto (-33), 3) := by decide +kernel
theorem dX4_volume_51 : decode cX4_volume 51 = .ok (.lload 4, 2) := by decide +kernel
theorem dX4_volume_53 : decode cX4_volume 53 = .ok (.lreturn, 1) := by decide +kernel
theorem dJ6_bitCount_0f7a4_0 : decode cJ6_bitCount_0f7a4 0 = .ok (.iload_n 0, 1) := by decide +kernel
theorem dJ6_bitCount_0f7a4_1 : decode cJ6_bitCount_0f7a4 1 = .ok (.iload_n 0, 1) := by decide +kernel
theorem dJ6_bitCount_0f7a4_2 : decode cJ6_bitCount_0f7a4 2 = .ok (.iconst 1, 1) := by decide +kernel
theorem dJ6_bitCount_0f7a4_3 : decode cJ6_bitCount_0f7a4 3 = .ok (.iushr, 1) := by decide +kernel
theorem dJ6_bitCount_0f7a4_4 : decode cJ6_bitCount_0f7a4 4 = .ok (.ldc_w 265, 3) := by decide +kernel
theorem dJ6_bitCount_0f7a4_7 : decode cJ6_bitCount_0f7a4 7 = .ok (.iand, 1) := by decide +kernel
theorem dJ6_bitCount_0f7a4_8 : decode cJ6_bitCount_0f7a4 8 = .ok (.isub, 1) := by decide +kernel
theorem dJ6_bitCount_0f7a4_9 : decode cJ6_bitCount_0f7a4 9 = .ok (.istore_n 0, 1) := by decide +kernel
theorem dJ6_bitCount_0f7a4_10 : decode cJ6_bitCount_0f7a4 10 = .ok (.iload_n 0, 1) := by decide +kernel
theorem dJ6_bitCount_0f7a4_11 : decode cJ6_bitCount_0f7a4 11 = .ok (.ldc_w 266, 3) := by decide +kernel
theorem dJ6_bitCount_0f7a4_14 : decode cJ6_bitCount_0f7a4 14 = .ok (.iand, 1) := by decide +kernel
theorem dJ6_bitCount_0f7a4_15 : decode cJ6_bitCount_0f7a4 15 = .ok (.iload_n 0, 1) := by decide +kernel
theorem dJ6_bitCount_0f7a4_16 : decode cJ6_bitCount_0f7a4 16 = .ok (.iconst 2, 1) := by decide +kernel
theorem dJ6_bitCount_0f7a4_17 : decode cJ6_bitCount_0f7a4 17 = .ok (.iushr, 1) := by decide +kernel
theorem dJ6_bitCount_0f7a4_18 : decode cJ6_bitCount_0f7a4 18 = .ok (.ldc_w 266, 3) := by decide +kernel
theorem dJ6_bitCount_0f7a4_21 : decode cJ6_bitCount_0f7a4 21 = .ok (.iand, 1) := by decide +kernel
theorem dJ6_bitCount_0f7a4_22 : decode cJ6_bitCount_0f7a4 22 = .ok (.iadd, 1) := by decide +kernel
theorem dJ6_bitCount_0f7a4_23 : decode cJ6_bitCount_0f7a4 23 = .ok (.istore_n 0, 1) := by decide +kernel
theorem dJ6_bitCount_0f7a4_24 : decode cJ6_bitCount_0f7a4 24 = .ok (.iload_n 0, 1) := by decide +kernel
theorem dJ6_bitCount_0f7a4_25 : decode cJ6_bitCount_0f7a4 25 = .ok (.iload_n 0, 1) := by decide +kernel
theorem dJ6_bitCount_0f7a4_26 : decode cJ6_bitCount_0f7a4 26 = .ok (.iconst 4, 1) := by decide +kernel
theorem dJ6_bitCount_0f7a4_27 : decode cJ6_bitCount_0f7a4 27 = .ok (.iushr, 1) := by decide +kernel
theorem dJ6_bitCount_0f7a4_28 : decode cJ6_bitCount_0f7a4 28 = .ok (.iadd, 1) := by decide +kernel
theorem dJ6_bitCount_0f7a4_29 : decode cJ6_bitCount_0f7a4 29 = .ok (.ldc_w 267, 3) := by decide +kernel
theorem dJ6_bitCount_0f7a4_32 : decode cJ6_bitCount_0f7a4 32 = .ok (.iand, 1) := by decide +kernel
theorem dJ6_bitCount_0f7a4_33 : decode cJ6_bitCount_0f7a4 33 = .ok (.istore_n 0, 1) := by decide +kernel
theorem dJ6_bitCount_0f7a4_34 : decode cJ6_bitCount_0f7a4 34 = .ok (.iload_n 0, 1) := by decide +kernel
theorem dJ6_bitCount_0f7a4_35 : decode cJ6_bitCount_0f7a4 35 = .ok (.iload_n 0, 1) := by decide +kernel
theorem dJ6_bitCount_0f7a4_36 : decode cJ6_bitCount_0f7a4 36 = .ok (.bipush 8, 2) := by decide +kernel
theorem dJ6_bitCount_0f7a4_38 : decode cJ6_bitCount_0f7a4 38 = .ok (.iushr, 1) := by decide +kernel
theorem dJ6_bitCount_0f7a4_39 : decode cJ6_bitCount_0f7a4 39 = .ok (.iadd, 1) := by decide +kernel
theorem dJ6_bitCount_0f7a4_40 : decode cJ6_bitCount_0f7a4 40 = .ok (.istore_n 0, 1) := by decide +kernel
theorem dJ6_bitCount_0f7a4_41 : decode cJ6_bitCount_0f7a4 41 = .ok (.iload_n 0, 1) := by decide +kernel
theorem dJ6_bitCount_0f7a4_42 : decode cJ6_bitCount_0f7a4 42 = .ok (.iload_n 0, 1) := by decide +kernel
theorem dJ6_bitCount_0f7a4_43 : decode cJ6_bitCount_0f7a4 43 = .ok (.bipush 16, 2) := by decide +kernel
theorem dJ6_bitCount_0f7a4_45 : decode cJ6_bitCount_0f7a4 45 = .ok (.iushr, 1) := by decide +kernel
theorem dJ6_bitCount_0f7a4_46 : decode cJ6_bitCount_0f7a4 46 = .ok (.iadd, 1) := by decide +kernel
theorem dJ6_bitCount_0f7a4_47 : decode cJ6_bitCount_0f7a4 47 = .ok (.istore_n 0, 1) := by decide +kernel
theorem dJ6_bitCount_0f7a4_48 : decode cJ6_bitCount_0f7a4 48 = .ok (.iload_n 0, 1) := by decide +kernel
theorem dJ6_bitCount_0f7a4_49 : decode cJ6_bitCount_0f7a4 49 = .ok (.bipush 63, 2) := by decide +kernel
theorem dJ6_bitCount_0f7a4_51 : decode cJ6_bitCount_0f7a4 51 = .ok (.iand, 1) := by decide +kernel
theorem dJ6_bitCount_0f7a4_52 : decode cJ6_bitCount_0f7a4 52 = .ok (.ireturn, 1) := by decide +kernel
theorem dJ9_max_7cf53_0 : decode cJ9_max_7cf53 0 = .ok (.iload_n 0, 1) := by decide +kernel
theorem dJ9_max_7cf53_1 : decode cJ9_max_7cf53 1 = .ok (.iload_n 1, 1) := by decide +kernel
theorem dJ9_max_7cf53_2 : decode cJ9_max_7cf53 2 = .ok (.if_icmp .lt 7, 3) := by decide +kernel
theorem dJ9_max_7cf53_5 : decode cJ9_max_7cf53 5 = .ok (.iload_n 0, 1) := by decide +kernel
theorem dJ9_max_7cf53_6 : decode cJ9_max_7cf53 6 = .ok (.goto 4, 3) := by decide +kernel
theorem dJ9_max_7cf53_9 : decode cJ9_max_7cf53 9 = .ok (.iload_n 1, 1) := by decide +kernel
theorem dJ9_max_7cf53_10 : decode cJ9_max_7cf53 10 = .ok (.ireturn, 1) := by decide +kernel
theorem dJ9_min_7cf53_0 : decode cJ9_min_7cf53 0 = .ok (.iload_n 0, 1) := by decide +kernel
theorem dJ9_min_7cf53_1 : decode cJ9_min_7cf53 1 = .ok (.iload_n 1, 1) := by decide +kernel
theorem dJ9_min_7cf53_2 : decode cJ9_min_7cf53 2 = .ok (.if_icmp .gt 7, 3) := by decide +kernel
theorem dJ9_min_7cf53_5 : decode cJ9_min_7cf53 5 = .ok (.iload_n 0, 1) := by decide +kernel
theorem dJ9_min_7cf53_6 : decode cJ9_min_7cf53 6 = .ok (.goto 4, 3) := by decide +kernel
theorem dJ9_min_7cf53_9 : decode cJ9_min_7cf53 9 = .ok (.iload_n 1, 1) := by decide +kernel
theorem dJ9_min_7cf53_10 : decode cJ9_min_7cf53 10 = .ok (.ireturn, 1) := by decide +kernel
