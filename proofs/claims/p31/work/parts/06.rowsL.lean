theorem wli_wsL_law0_r1 : ∀ w ∈ wsL_law0_r1, w ∈ lw_tbl := by decide +kernel
theorem wli_wsL_law0_r2 : ∀ w ∈ wsL_law0_r2, w ∈ lw_tbl := by decide +kernel
theorem wli_wsL_law0_r3 : ∀ w ∈ wsL_law0_r3, w ∈ lw_tbl := by decide +kernel
theorem wli_wsL_law0_r4 : ∀ w ∈ wsL_law0_r4, w ∈ lw_tbl := by decide +kernel
theorem wli_wsL_law0_r5 : ∀ w ∈ wsL_law0_r5, w ∈ lw_tbl := by decide +kernel
theorem wli_wsL_law0_r6 : ∀ w ∈ wsL_law0_r6, w ∈ lw_tbl := by decide +kernel
theorem wli_wsL_law0_r7 : ∀ w ∈ wsL_law0_r7, w ∈ lw_tbl := by decide +kernel
theorem wli_wsL_law0_r8 : ∀ w ∈ wsL_law0_r8, w ∈ lw_tbl := by decide +kernel
theorem wli_wsL_law0_r9 : ∀ w ∈ wsL_law0_r9, w ∈ lw_tbl := by decide +kernel
theorem wli_wsL_law0_r10 : ∀ w ∈ wsL_law0_r10, w ∈ lw_tbl := by decide +kernel
theorem wli_wsL_law0_r11 : ∀ w ∈ wsL_law0_r11, w ∈ lw_tbl := by decide +kernel
theorem wli_wsL_law0_r12 : ∀ w ∈ wsL_law0_r12, w ∈ lw_tbl := by decide +kernel
theorem wli_wsL_law0_r13 : ∀ w ∈ wsL_law0_r13, w ∈ lw_tbl := by decide +kernel
theorem wli_wsX40 : ∀ w ∈ wsX40, w ∈ lw_tbl := by decide +kernel
theorem wli_wsX20 : ∀ w ∈ wsX20, w ∈ lw_tbl := by decide +kernel
theorem wli_wsX00 : ∀ w ∈ wsX00, w ∈ lw_tbl := by decide +kernel
theorem wli_wsX10 : ∀ w ∈ wsX10, w ∈ lw_tbl := by decide +kernel
theorem wli_wsX30 : ∀ w ∈ wsX30, w ∈ lw_tbl := by decide +kernel
theorem wsL_law_in0 : ∀ w ∈ wsL_law0, w ∈ lw_tbl := List.forall_mem_append.mpr ⟨List.forall_mem_append.mpr ⟨List.forall_mem_append.mpr ⟨List.forall_mem_append.mpr ⟨List.forall_mem_append.mpr ⟨List.forall_mem_append.mpr ⟨List.forall_mem_append.mpr ⟨wli_wsL_law0_r1, List.forall_mem_append.mpr ⟨wli_wsL_law0_r2, List.forall_mem_append.mpr ⟨wli_wsL_law0_r3, List.forall_mem_append.mpr ⟨wli_wsL_law0_r4, List.forall_mem_append.mpr ⟨wli_wsL_law0_r5, List.forall_mem_append.mpr ⟨wli_wsL_law0_r6, List.forall_mem_append.mpr ⟨wli_wsL_law0_r7, List.forall_mem_append.mpr ⟨wli_wsL_law0_r8, List.forall_mem_append.mpr ⟨wli_wsL_law0_r9, List.forall_mem_append.mpr ⟨wli_wsL_law0_r10, List.forall_mem_append.mpr ⟨wli_wsL_law0_r11, List.forall_mem_append.mpr ⟨wli_wsL_law0_r12, wli_wsL_law0_r13⟩⟩⟩⟩⟩⟩⟩⟩⟩⟩⟩⟩, wli_wsX40⟩, wli_wsX20⟩, wli_wsX00⟩, wli_wsX10⟩, wli_wsX30⟩, fun _ h => absurd h List.not_mem_nil⟩
theorem wsL_law_x0 : ∀ w ∈ (vx_atS RX4 34 "java/lang/IllegalArgumentException" ["java/lang/RuntimeException", "java/lang/Exception"]).filter goodWord, w ∈ lw_tbl := by decide +kernel
theorem wsL_law_x1 : ∀ w ∈ (vx_atS RX4 82 "java/lang/IllegalStateException" ["java/lang/RuntimeException", "java/lang/Exception"]).filter goodWord, w ∈ lw_tbl := by decide +kernel
theorem wsL_law_x2 : ∀ w ∈ (vx_atS RX4 97 "java/lang/IndexOutOfBoundsException" ["java/lang/RuntimeException", "java/lang/Exception"]).filter goodWord, w ∈ lw_tbl := by decide +kernel
theorem wsL_law_in : ∀ w ∈ wsL_law, w ∈ lw_tbl := fun w h => (List.mem_append.mp h).elim (fun h => (List.mem_append.mp h).elim (fun h => (List.mem_append.mp h).elim (fun h => wsL_law_in0 w h) (fun h => wsL_law_x0 w h)) (fun h => wsL_law_x1 w h)) (fun h => wsL_law_x2 w h)
theorem inlX0 : ∀ w ∈ wsX00, w ∈ wsL_law := fun _ h => List.mem_append_left _ (List.mem_append_left _ (List.mem_append_left _ (List.mem_append_left _ (List.mem_append_left _ (List.mem_append_left _ (List.mem_append_right _ h))))))
theorem inX0 : ∀ w ∈ wsX00, w ∈ lw_tbl := fun w h => wsL_law_in w (inlX0 w h)
theorem inlX1 : ∀ w ∈ wsX10, w ∈ wsL_law := fun _ h => List.mem_append_left _ (List.mem_append_left _ (List.mem_append_left _ (List.mem_append_left _ (List.mem_append_left _ (List.mem_append_right _ h)))))
theorem inX1 : ∀ w ∈ wsX10, w ∈ lw_tbl := fun w h => wsL_law_in w (inlX1 w h)
theorem inlX2 : ∀ w ∈ wsX20, w ∈ wsL_law := fun _ h => List.mem_append_left _ (List.mem_append_left _ (List.mem_append_left _ (List.mem_append_left _ (List.mem_append_left _ (List.mem_append_left _ (List.mem_append_left _ (List.mem_append_right _ h)))))))
theorem inX2 : ∀ w ∈ wsX20, w ∈ lw_tbl := fun w h => wsL_law_in w (inlX2 w h)
theorem inlX3 : ∀ w ∈ wsX30, w ∈ wsL_law := fun _ h => List.mem_append_left _ (List.mem_append_left _ (List.mem_append_left _ (List.mem_append_left _ (List.mem_append_right _ h))))
theorem inX3 : ∀ w ∈ wsX30, w ∈ lw_tbl := fun w h => wsL_law_in w (inlX3 w h)
theorem inlX4 : ∀ w ∈ wsX40, w ∈ wsL_law := fun _ h => List.mem_append_left _ (List.mem_append_left _ (List.mem_append_left _ (List.mem_append_left _ (List.mem_append_left _ (List.mem_append_left _ (List.mem_append_left _ (List.mem_append_left _ (List.mem_append_right _ h))))))))
theorem inX4 : ∀ w ∈ wsX40, w ∈ lw_tbl := fun w h => wsL_law_in w (inlX4 w h)
theorem inX5 : ∀ w ∈ wsX50, w ∈ lw_tbl := by decide +kernel
theorem inJ6 : ∀ w ∈ wsJ60, w ∈ lw_tbl := by decide +kernel
theorem inJ9 : ∀ w ∈ wsJ90, w ∈ lw_tbl := by decide +kernel
theorem inJ0 : ∀ w ∈ wsJ00, w ∈ lw_tbl := by decide +kernel
theorem inJ10 : ∀ w ∈ wsJ100, w ∈ lw_tbl := by decide +kernel
theorem dL_cell_0 : decode cL_cell 0 = .ok (.iload_n 1, 1) := by decide +kernel
theorem dL_cell_1 : decode cL_cell 1 = .ok (.aload_n 0, 1) := by decide +kernel
theorem dL_cell_2 : decode cL_cell 2 = .ok (.arraylength, 1) := by decide +kernel
theorem dL_cell_3 : decode cL_cell 3 = .ok (.if_icmp .ge 9, 3) := by decide +kernel
theorem dL_cell_6 : decode cL_cell 6 = .ok (.aload_n 0, 1) := by decide +kernel
theorem dL_cell_7 : decode cL_cell 7 = .ok (.iload_n 1, 1) := by decide +kernel
theorem dL_cell_8 : decode cL_cell 8 = .ok (.iaload, 1) := by decide +kernel
theorem dL_cell_9 : decode cL_cell 9 = .ok (.goto 10, 3) := by decide +kernel
theorem dL_cell_12 : decode cL_cell 12 = .ok (.ldc 7, 2) := by decide +kernel
theorem dL_cell_14 : decode cL_cell 14 = .ok (.iload_n 1, 1) := by decide +kernel
theorem dL_cell_15 : decode cL_cell 15 = .ok (.bipush 43, 2) := by decide +kernel
theorem dL_cell_17 : decode cL_cell 17 = .ok (.iadd, 1) := by decide +kernel
theorem dL_cell_18 : decode cL_cell 18 = .ok (.imul, 1) := by decide +kernel
theorem dL_cell_19 : decode cL_cell 19 = .ok (.ldc 8, 2) := by decide +kernel
theorem dL_cell_21 : decode cL_cell 21 = .ok (.iand, 1) := by decide +kernel
theorem dL_cell_22 : decode cL_cell 22 = .ok (.ireturn, 1) := by decide +kernel
set_option maxRecDepth 20000 in
theorem ggL_asks_X4_ask : GoodIn wsL_asks wsX4_ask := goodIn_ca (goodIn_ca (goodIn_r _ [9, 10, 11, 12, 13, 14, 15, 16, 17, 18, 19, 20, 21, 22, 23, 24, 25, 26, 27, 28, 29, 30, 31, 32, 33, 34, 35, 36, 37, 38, 39, 40, 41, 42, 43, 44, 45, 46, 47, 48, 49, 50, 51, 52, 53, 54, 55, 56, 57, 58, 59, 60, 61, 62, 63, 64, 65, 66, 67, 68, 69, 70, 71, 72, 8, 73, 74, 75, 76, 77, 78, 79, 80, 81, 82, 83, 84, 85, 86, 87, 88, 89, 90, 91, 92, 93, 94, 95, 96, 97, 98, 99, 100, 101, 102, 103, 104, 105, 106, 107, 108, 109, 110, 111, 112, 113, 114, 115, 116, 117, 118, 119, 120, 121, 122, 123, 124, 125, 126, 127, 128] (by decide +kernel) (by decide +kernel)) (goodIn_sub (fun _ h => List.mem_cons_of_mem _ (List.mem_append_left _ (List.mem_append_right _ h))) (by decide +kernel))) (goodIn_sub (fun _ h => List.mem_cons_of_mem _ (List.mem_append_right _ h)) (by decide +kernel))
set_option maxRecDepth 20000 in
theorem gL_asks_X4_ask : GoodIn wsL_asks (wsV RL 9 RX4 yX4_ask wsX4_ask) := goodIn_app (goodIn_of _ (by decide +kernel)) ggL_asks_X4_ask
theorem dL_asks_0 : decode cL_asks 0 = .ok (.aload_n 0, 1) := by decide +kernel
theorem dL_asks_1 : decode cL_asks 1 = .ok (.iload_n 1, 1) := by decide +kernel
theorem dL_asks_2 : decode cL_asks 2 = .ok (.iload_n 2, 1) := by decide +kernel
theorem dL_asks_3 : decode cL_asks 3 = .ok (.invokevirtual 9, 3) := by decide +kernel
theorem dL_asks_6 : decode cL_asks 6 = .ok (.ireturn, 1) := by decide +kernel
theorem dL_asks_7 : decode cL_asks 7 = .ok (.astore_n 3, 1) := by decide +kernel
theorem dL_asks_8 : decode cL_asks 8 = .ok (.ldc 17, 2) := by decide +kernel
theorem dL_asks_10 : decode cL_asks 10 = .ok (.ireturn, 1) := by decide +kernel
theorem dL_asks_11 : decode cL_asks 11 = .ok (.astore_n 3, 1) := by decide +kernel
theorem dL_asks_12 : decode cL_asks 12 = .ok (.ldc 20, 2) := by decide +kernel
theorem dL_asks_14 : decode cL_asks 14 = .ok (.ireturn, 1) := by decide +kernel
set_option maxRecDepth 20000 in
theorem ggL_hides_X4_hide : GoodIn wsL_hides wsX4_hide := goodIn_ca (goodIn_ca (goodIn_r _ [9, 10, 11, 12, 13, 14, 15, 16, 17, 18, 19, 20, 21, 22, 23, 24, 25, 26, 27, 28, 29, 30, 31, 32, 33, 34, 35, 36, 37, 38, 39, 40, 41, 42, 43, 44, 45, 46, 47, 48, 49, 50, 51, 52, 53, 54, 55, 56, 57, 58, 59, 60, 61, 62, 8, 63, 64, 65, 66, 67, 68, 69, 70, 71, 72, 73, 74, 75, 76, 77, 78, 79, 80, 81, 82, 83, 84, 85, 86, 87, 88, 89, 90, 91, 92, 93] (by decide +kernel) (by decide +kernel)) (goodIn_sub (fun _ h => List.mem_cons_of_mem _ (List.mem_append_left _ (List.mem_append_right _ h))) (by decide +kernel))) (goodIn_sub (fun _ h => List.mem_cons_of_mem _ (List.mem_append_right _ h)) (by decide +kernel))
set_option maxRecDepth 20000 in
theorem gL_hides_X4_hide : GoodIn wsL_hides (wsV RL 21 RX4 yX4_hide wsX4_hide) := goodIn_app (goodIn_of _ (by decide +kernel)) ggL_hides_X4_hide
theorem dL_hides_0 : decode cL_hides 0 = .ok (.aload_n 0, 1) := by decide +kernel
theorem dL_hides_1 : decode cL_hides 1 = .ok (.iload_n 1, 1) := by decide +kernel
theorem dL_hides_2 : decode cL_hides 2 = .ok (.iload_n 2, 1) := by decide +kernel
theorem dL_hides_3 : decode cL_hides 3 = .ok (.invokevirtual 21, 3) := by decide +kernel
theorem dL_hides_6 : decode cL_hides 6 = .ok (.ireturn, 1) := by decide +kernel
theorem dL_hides_7 : decode cL_hides 7 = .ok (.astore_n 3, 1) := by decide +kernel
theorem dL_hides_8 : decode cL_hides 8 = .ok (.ldc 17, 2) := by decide +kernel
theorem dL_hides_10 : decode cL_hides 10 = .ok (.ireturn, 1) := by decide +kernel
theorem dL_hides_11 : decode cL_hides 11 = .ok (.astore_n 3, 1) := by decide +kernel
theorem dL_hides_12 : decode cL_hides 12 = .ok (.ldc 20, 2) := by decide +kernel
theorem dL_hides_14 : decode cL_hides 14 = .ok (.ireturn, 1) := by decide +kernel
set_option maxRecDepth 20000 in
theorem ggL_begins_X4_begin : GoodIn wsL_begins wsX4_begin := goodIn_ca (goodIn_r _ [7, 8, 9, 10, 11, 12, 13, 14, 15, 16, 17, 18, 19, 20, 21, 22, 23, 24, 25, 26, 27, 28, 29, 30, 31, 32, 33, 34, 35, 36, 37, 38, 39, 40, 41, 42, 43, 44, 45, 46, 47, 48, 49, 6, 50, 51, 52, 53, 54, 55, 56, 57, 58, 59, 60, 61, 62, 63, 64, 65, 66, 67, 68, 69, 70, 71, 72, 73, 74, 75, 76, 77, 78, 79, 80, 81, 82, 83, 84, 85, 86, 87, 88, 89, 90] (by decide +kernel) (by decide +kernel)) (goodIn_sub (fun _ h => List.mem_cons_of_mem _ (List.mem_append_right _ h)) (by decide +kernel))
set_option maxRecDepth 20000 in
theorem gL_begins_X4_begin : GoodIn wsL_begins (wsV RL 26 RX4 yX4_begin wsX4_begin) := goodIn_app (goodIn_of _ (by decide +kernel)) ggL_begins_X4_begin
theorem dL_begins_0 : decode cL_begins 0 = .ok (.aload_n 0, 1) := by decide +kernel
theorem dL_begins_1 : decode cL_begins 1 = .ok (.iload_n 1, 1) := by decide +kernel
theorem dL_begins_2 : decode cL_begins 2 = .ok (.invokevirtual 26, 3) := by decide +kernel
theorem dL_begins_5 : decode cL_begins 5 = .ok (.ireturn, 1) := by decide +kernel
theorem dL_begins_6 : decode cL_begins 6 = .ok (.astore_n 2, 1) := by decide +kernel
theorem dL_begins_7 : decode cL_begins 7 = .ok (.ldc 17, 2) := by decide +kernel
theorem dL_begins_9 : decode cL_begins 9 = .ok (.ireturn, 1) := by decide +kernel
set_option maxRecDepth 20000 in
theorem ggL_limits_X4_setLimit : GoodIn wsL_limits wsX4_setLimit := goodIn_ca (goodIn_r _ [7, 8, 9, 10, 11, 12, 13, 14, 15, 16, 17, 18, 19, 20, 21, 22, 23, 24, 25, 26, 27, 28, 29, 30, 31, 32, 33, 34, 35, 36, 37, 38, 39, 40, 41, 42, 43, 44, 45, 46, 47, 48, 49, 6, 50, 51, 52, 53, 54, 55, 56, 57, 58, 59, 60, 61, 62, 63, 64, 65, 66, 67, 68, 69, 70, 71, 72, 73, 74, 75, 76, 77, 78, 79, 80, 81, 82, 83, 84, 85, 86, 87, 88, 89, 90] (by decide +kernel) (by decide +kernel)) (goodIn_sub (fun _ h => List.mem_cons_of_mem _ (List.mem_append_right _ h)) (by decide +kernel))
set_option maxRecDepth 20000 in
theorem gL_limits_X4_setLimit : GoodIn wsL_limits (wsV RL 30 RX4 yX4_setLimit wsX4_setLimit) := goodIn_app (goodIn_of _ (by decide +kernel)) ggL_limits_X4_setLimit
theorem dL_limits_0 : decode cL_limits 0 = .ok (.aload_n 0, 1) := by decide +kernel
theorem dL_limits_1 : decode cL_limits 1 = .ok (.iload_n 1, 1) := by decide +kernel
theorem dL_limits_2 : decode cL_limits 2 = .ok (.invokevirtual 30, 3) := by decide +kernel
theorem dL_limits_5 : decode cL_limits 5 = .ok (.ireturn, 1) := by decide +kernel
theorem dL_limits_6 : decode cL_limits 6 = .ok (.astore_n 2, 1) := by decide +kernel
theorem dL_limits_7 : decode cL_limits 7 = .ok (.ldc 17, 2) := by decide +kernel
theorem dL_limits_9 : decode cL_limits 9 = .ok (.ireturn, 1) := by decide +kernel
set_option maxRecDepth 20000 in
theorem ggL_undoes_X4_undo : GoodIn wsL_undoes wsX4_undo := goodIn_ca (goodIn_r _ [7, 8, 9, 10, 11, 12, 13, 14, 15, 16, 17, 18, 19, 20, 21, 22, 23, 24, 25, 26, 27, 28, 29, 30, 31, 32, 33, 34, 35, 36, 37, 38, 39, 40, 41, 42, 43, 44, 45, 6, 46, 47, 48, 49, 50, 51, 52, 53, 54, 55, 56, 57, 58, 59, 60, 61, 62, 63, 64, 65, 66, 67, 68, 69, 70, 71, 72] (by decide +kernel) (by decide +kernel)) (goodIn_sub (fun _ h => List.mem_cons_of_mem _ (List.mem_append_right _ h)) (by decide +kernel))
set_option maxRecDepth 20000 in
theorem gL_undoes_X4_undo : GoodIn wsL_undoes (wsV RL 33 RX4 yX4_undo wsX4_undo) := goodIn_app (goodIn_of _ (by decide +kernel)) ggL_undoes_X4_undo
theorem dL_undoes_0 : decode cL_undoes 0 = .ok (.aload_n 0, 1) := by decide +kernel
theorem dL_undoes_1 : decode cL_undoes 1 = .ok (.invokevirtual 33, 3) := by decide +kernel
theorem dL_undoes_4 : decode cL_undoes 4 = .ok (.ireturn, 1) := by decide +kernel
theorem dL_undoes_5 : decode cL_undoes 5 = .ok (.astore_n 1, 1) := by decide +kernel
theorem dL_undoes_6 : decode cL_undoes 6 = .ok (.ldc 17, 2) := by decide +kernel
theorem dL_undoes_8 : decode cL_undoes 8 = .ok (.ireturn, 1) := by decide +kernel
set_option maxRecDepth 20000 in
theorem ggL_liesOf_X4_lies : GoodIn wsL_liesOf wsX4_lies := goodIn_ca (goodIn_r _ [7, 8, 9, 10, 11, 12, 13, 14, 15, 16, 17, 18, 19, 20, 21, 22, 6, 23, 24, 25, 26, 27, 28, 29, 30, 31, 32, 33, 34, 35] (by decide +kernel) (by decide +kernel)) (goodIn_sub (fun _ h => List.mem_cons_of_mem _ (List.mem_append_right _ h)) (by decide +kernel))
set_option maxRecDepth 20000 in
theorem gL_liesOf_X4_lies : GoodIn wsL_liesOf (wsV RL 37 RX4 yX4_lies wsX4_lies) := goodIn_app (goodIn_of _ (by decide +kernel)) ggL_liesOf_X4_lies
theorem dL_liesOf_0 : decode cL_liesOf 0 = .ok (.aload_n 0, 1) := by decide +kernel
theorem dL_liesOf_1 : decode cL_liesOf 1 = .ok (.iload_n 1, 1) := by decide +kernel
theorem dL_liesOf_2 : decode cL_liesOf 2 = .ok (.invokevirtual 37, 3) := by decide +kernel
theorem dL_liesOf_5 : decode cL_liesOf 5 = .ok (.ireturn, 1) := by decide +kernel
theorem dL_liesOf_6 : decode cL_liesOf 6 = .ok (.astore_n 2, 1) := by decide +kernel
theorem dL_liesOf_7 : decode cL_liesOf 7 = .ok (.ldc 17, 2) := by decide +kernel
theorem dL_liesOf_9 : decode cL_liesOf 9 = .ok (.ireturn, 1) := by decide +kernel
set_option maxRecDepth 20000 in
theorem ggL_value_X4_value : GoodIn wsL_value wsX4_value := goodIn_ca (goodIn_r _ [7, 8, 9, 10, 11, 12, 13, 14, 15, 16, 17, 18, 19, 20, 21, 22, 23, 24, 25, 26, 27, 28, 29, 30, 31, 32, 33, 34, 35, 6, 36, 37, 38, 39, 40, 41, 42, 43, 44, 45, 46, 47, 48, 49, 50, 51, 52, 53, 54, 55, 56, 57, 58] (by decide +kernel) (by decide +kernel)) (goodIn_sub (fun _ h => List.mem_cons_of_mem _ (List.mem_append_right _ h)) (by decide +kernel))
set_option maxRecDepth 20000 in
theorem gL_value_X4_value : GoodIn wsL_value (wsV RL 40 RX4 yX4_value wsX4_value) := goodIn_app (goodIn_of _ (by decide +kernel)) ggL_value_X4_value
theorem dL_value_0 : decode cL_value 0 = .ok (.aload_n 0, 1) := by decide +kernel
theorem dL_value_1 : decode cL_value 1 = .ok (.iload_n 1, 1) := by decide +kernel
theorem dL_value_2 : decode cL_value 2 = .ok (.invokevirtual 40, 3) := by decide +kernel
theorem dL_value_5 : decode cL_value 5 = .ok (.ireturn, 1) := by decide +kernel
theorem dL_value_6 : decode cL_value 6 = .ok (.astore_n 2, 1) := by decide +kernel
theorem dL_value_7 : decode cL_value 7 = .ok (.ldc 17, 2) := by decide +kernel
theorem dL_value_9 : decode cL_value 9 = .ok (.ireturn, 1) := by decide +kernel
set_option maxRecDepth 20000 in
theorem ggL_weighs_X4_weight : GoodIn wsL_weighs wsX4_weight := goodIn_ca (goodIn_r _ [7, 8, 9, 10, 11, 12, 6, 13, 14, 15, 16, 17, 18, 19, 20, 21, 22, 23, 24, 25, 26, 27, 28, 29, 30, 31, 32, 33, 34, 35, 36, 37, 38, 39, 40, 41, 42, 43, 44, 45, 46, 47, 48, 49] (by decide +kernel) (by decide +kernel)) (goodIn_sub (fun _ h => List.mem_cons_of_mem _ (List.mem_append_right _ h)) (by decide +kernel))
set_option maxRecDepth 20000 in
theorem gL_weighs_X4_weight : GoodIn wsL_weighs (wsV RL 43 RX4 yX4_weight wsX4_weight) := goodIn_app (goodIn_of _ (by decide +kernel)) ggL_weighs_X4_weight
theorem dL_weighs_0 : decode cL_weighs 0 = .ok (.aload_n 0, 1) := by decide +kernel
theorem dL_weighs_1 : decode cL_weighs 1 = .ok (.iload_n 1, 1) := by decide +kernel
theorem dL_weighs_2 : decode cL_weighs 2 = .ok (.invokevirtual 43, 3) := by decide +kernel
theorem dL_weighs_5 : decode cL_weighs 5 = .ok (.lreturn, 1) := by decide +kernel
theorem dL_weighs_6 : decode cL_weighs 6 = .ok (.astore_n 2, 1) := by decide +kernel
theorem dL_weighs_7 : decode cL_weighs 7 = .ok (.ldc2_w 47, 3) := by decide +kernel
theorem dL_weighs_10 : decode cL_weighs 10 = .ok (.lreturn, 1) := by decide +kernel
set_option maxRecDepth 20000 in
theorem ggL_behind_X4_weightBehind : GoodIn wsL_behind wsX4_weightBehind := goodIn_ca (goodIn_r _ [7, 8, 9, 10, 11, 12, 13, 14, 15, 16, 17, 18, 19, 20, 21, 22, 23, 24, 25, 6, 26, 27, 28, 29, 30, 31, 32, 33, 34, 35, 36, 37, 38, 39, 40, 41, 42, 43, 44, 45, 46, 47, 48, 49, 50, 51, 52, 53, 54, 55, 56, 57, 58, 59, 60, 61, 62, 63, 64, 65, 66, 67, 68, 69, 70, 71, 72] (by decide +kernel) (by decide +kernel)) (goodIn_sub (fun _ h => List.mem_cons_of_mem _ (List.mem_append_right _ h)) (by decide +kernel))
set_option maxRecDepth 20000 in
theorem gL_behind_X4_weightBehind : GoodIn wsL_behind (wsV RL 49 RX4 yX4_weightBehind wsX4_weightBehind) := goodIn_app (goodIn_of _ (by decide +kernel)) ggL_behind_X4_weightBehind
theorem dL_behind_0 : decode cL_behind 0 = .ok (.aload_n 0, 1) := by decide +kernel
theorem dL_behind_1 : decode cL_behind 1 = .ok (.iload_n 1, 1) := by decide +kernel
theorem dL_behind_2 : decode cL_behind 2 = .ok (.iload_n 2, 1) := by decide +kernel
theorem dL_behind_3 : decode cL_behind 3 = .ok (.iload_n 3, 1) := by decide +kernel
theorem dL_behind_4 : decode cL_behind 4 = .ok (.iload 4, 2) := by decide +kernel
theorem dL_behind_6 : decode cL_behind 6 = .ok (.invokevirtual 49, 3) := by decide +kernel
theorem dL_behind_9 : decode cL_behind 9 = .ok (.lreturn, 1) := by decide +kernel
theorem dL_behind_10 : decode cL_behind 10 = .ok (.astore 5, 2) := by decide +kernel
theorem dL_behind_12 : decode cL_behind 12 = .ok (.ldc2_w 47, 3) := by decide +kernel
theorem dL_behind_15 : decode cL_behind 15 = .ok (.lreturn, 1) := by decide +kernel
set_option maxRecDepth 20000 in
theorem ggL_holds_L_value : GoodIn wsL_holds wsL_value := goodIn_ca (goodIn_r _ [4, 5, 6, 7, 8, 9, 10, 11, 12, 13, 14, 15, 16, 17, 18, 19, 20, 21, 22, 23, 24, 25, 26, 27, 28, 29, 30, 31, 32, 33, 34, 35, 36, 37, 38, 39, 40, 41, 42, 43, 44, 45, 46, 92, 93, 94, 95, 96, 97, 98, 99, 100, 101, 102, 103, 104, 105, 106, 107] (by decide +kernel) (by decide +kernel)) (goodIn_sub (fun _ h => List.mem_cons_of_mem _ (List.mem_append_left _ (List.mem_append_right _ h))) (by decide +kernel))
set_option maxRecDepth 20000 in
theorem gL_holds_L_value : GoodIn wsL_holds (va_wsS RL 53 yL_value wsL_value) := goodIn_app (goodIn_of _ (by decide +kernel)) ggL_holds_L_value
set_option maxRecDepth 20000 in
theorem ggL_holds_L_liesOf : GoodIn wsL_holds wsL_liesOf := goodIn_ca (goodIn_r _ [49, 50, 6, 51, 52, 53, 10, 54, 55, 56, 14, 57, 58, 59, 18, 60, 30, 31, 32, 33, 20, 61, 39, 40, 92, 93, 94, 95, 96, 97, 98, 99, 100, 101, 102, 103] (by decide +kernel) (by decide +kernel)) (goodIn_sub (fun _ h => List.mem_cons_of_mem _ (List.mem_append_right _ h)) (by decide +kernel))
set_option maxRecDepth 20000 in
theorem gL_holds_L_liesOf : GoodIn wsL_holds (va_wsS RL 58 yL_liesOf wsL_liesOf) := goodIn_app (goodIn_of _ (by decide +kernel)) ggL_holds_L_liesOf
set_option maxRecDepth 20000 in
theorem ggL_holds_L_weighs : GoodIn wsL_holds wsL_weighs := goodIn_ca (goodIn_r _ [64, 5, 65, 66, 67, 68, 10, 69, 12, 13, 14, 70, 71, 72, 73, 74, 75, 18, 76, 38, 30, 31, 32, 33, 20, 39, 40, 77, 78, 79, 80, 21, 81, 82, 83, 84, 85, 86, 92, 93, 94, 95, 96, 97, 98, 99, 100, 101, 102, 103] (by decide +kernel) (by decide +kernel)) (goodIn_sub (fun _ h => List.mem_cons_of_mem _ (List.mem_append_left _ (List.mem_append_right _ h))) (by decide +kernel))
set_option maxRecDepth 20000 in
theorem gL_holds_L_weighs : GoodIn wsL_holds (va_wsS RL 61 yL_weighs wsL_weighs) := goodIn_app (goodIn_of _ (by decide +kernel)) ggL_holds_L_weighs
set_option maxRecDepth 20000 in
theorem ggL_holds_X4_bound : GoodIn wsL_holds wsX4_bound := goodIn_r _ [90, 14, 91, 73, 74, 75, 18, 76, 38, 30, 31, 32, 33, 20, 39, 10, 40, 77, 78, 79, 80, 21, 81, 82, 83, 84, 85, 86, 92, 93, 94, 95, 96, 97, 98, 99, 100, 101, 102, 103] (by decide +kernel) (by decide +kernel)
set_option maxRecDepth 20000 in
theorem gL_holds_X4_bound : GoodIn wsL_holds (wsV RL 65 RX4 yX4_bound wsX4_bound) := goodIn_app (goodIn_of _ (by decide +kernel)) ggL_holds_X4_bound
theorem dL_holds_0 : decode cL_holds 0 = .ok (.aload_n 0, 1) := by decide +kernel
theorem dL_holds_1 : decode cL_holds 1 = .ok (.iconst 5, 1) := by decide +kernel
theorem dL_holds_2 : decode cL_holds 2 = .ok (.invokestatic 53, 3) := by decide +kernel
theorem dL_holds_5 : decode cL_holds 5 = .ok (.istore_n 2, 1) := by decide +kernel
theorem dL_holds_6 : decode cL_holds 6 = .ok (.aload_n 0, 1) := by decide +kernel
theorem dL_holds_7 : decode cL_holds 7 = .ok (.iconst 3, 1) := by decide +kernel
theorem dL_holds_8 : decode cL_holds 8 = .ok (.invokestatic 53, 3) := by decide +kernel
theorem dL_holds_11 : decode cL_holds 11 = .ok (.istore_n 3, 1) := by decide +kernel
theorem dL_holds_12 : decode cL_holds 12 = .ok (.iconst 2, 1) := by decide +kernel
theorem dL_holds_13 : decode cL_holds 13 = .ok (.aload_n 0, 1) := by decide +kernel
theorem dL_holds_14 : decode cL_holds 14 = .ok (.iconst 0, 1) := by decide +kernel
theorem dL_holds_15 : decode cL_holds 15 = .ok (.invokestatic 53, 3) := by decide +kernel
theorem dL_holds_18 : decode cL_holds 18 = .ok (.imul, 1) := by decide +kernel
theorem dL_holds_19 : decode cL_holds 19 = .ok (.iconst 1, 1) := by decide +kernel
theorem dL_holds_20 : decode cL_holds 20 = .ok (.iadd, 1) := by decide +kernel
theorem dL_holds_21 : decode cL_holds 21 = .ok (.istore 4, 2) := by decide +kernel
theorem dL_holds_23 : decode cL_holds 23 = .ok (.iconst 0, 1) := by decide +kernel
theorem dL_holds_24 : decode cL_holds 24 = .ok (.istore 5, 2) := by decide +kernel
theorem dL_holds_26 : decode cL_holds 26 = .ok (.iload_n 2, 1) := by decide +kernel
theorem dL_holds_27 : decode cL_holds 27 = .ok (.ifCond .lt 12, 3) := by decide +kernel
theorem dL_holds_30 : decode cL_holds 30 = .ok (.aload_n 0, 1) := by decide +kernel
theorem dL_holds_31 : decode cL_holds 31 = .ok (.iload_n 2, 1) := by decide +kernel
theorem dL_holds_32 : decode cL_holds 32 = .ok (.invokestatic 58, 3) := by decide +kernel
theorem dL_holds_35 : decode cL_holds 35 = .ok (.iload_n 1, 1) := by decide +kernel
theorem dL_holds_36 : decode cL_holds 36 = .ok (.if_icmp .ne 7, 3) := by decide +kernel
theorem dL_holds_39 : decode cL_holds 39 = .ok (.iconst 1, 1) := by decide +kernel
theorem dL_holds_40 : decode cL_holds 40 = .ok (.goto 4, 3) := by decide +kernel
theorem dL_holds_43 : decode cL_holds 43 = .ok (.iconst 0, 1) := by decide +kernel
theorem dL_holds_44 : decode cL_holds 44 = .ok (.istore 6, 2) := by decide +kernel
theorem dL_holds_46 : decode cL_holds 46 = .ok (.iconst 0, 1) := by decide +kernel
theorem dL_holds_47 : decode cL_holds 47 = .ok (.istore 7, 2) := by decide +kernel
theorem dL_holds_49 : decode cL_holds 49 = .ok (.iload 7, 2) := by decide +kernel
theorem dL_holds_51 : decode cL_holds 51 = .ok (.iload 4, 2) := by decide +kernel
theorem dL_holds_53 : decode cL_holds 53 = .ok (.if_icmp .ge 64, 3) := by decide +kernel
theorem dL_holds_56 : decode cL_holds 56 = .ok (.iload 6, 2) := by decide +kernel
theorem dL_holds_58 : decode cL_holds 58 = .ok (.ifCond .eq 59, 3) := by decide +kernel
theorem dL_holds_61 : decode cL_holds 61 = .ok (.aload_n 0, 1) := by decide +kernel
theorem dL_holds_62 : decode cL_holds 62 = .ok (.iload 7, 2) := by decide +kernel
theorem dL_holds_64 : decode cL_holds 64 = .ok (.invokestatic 58, 3) := by decide +kernel
theorem dL_holds_67 : decode cL_holds 67 = .ok (.istore 8, 2) := by decide +kernel
theorem dL_holds_69 : decode cL_holds 69 = .ok (.iload 5, 2) := by decide +kernel
theorem dL_holds_71 : decode cL_holds 71 = .ok (.iload 8, 2) := by decide +kernel
theorem dL_holds_73 : decode cL_holds 73 = .ok (.aload_n 0, 1) := by decide +kernel
theorem dL_holds_74 : decode cL_holds 74 = .ok (.iconst 1, 1) := by decide +kernel
theorem dL_holds_75 : decode cL_holds 75 = .ok (.invokestatic 53, 3) := by decide +kernel
theorem dL_holds_78 : decode cL_holds 78 = .ok (.if_icmp .gt 7, 3) := by decide +kernel
theorem dL_holds_81 : decode cL_holds 81 = .ok (.iconst 1, 1) := by decide +kernel
theorem dL_holds_82 : decode cL_holds 82 = .ok (.goto 4, 3) := by decide +kernel
theorem dL_holds_85 : decode cL_holds 85 = .ok (.iconst 0, 1) := by decide +kernel
theorem dL_holds_86 : decode cL_holds 86 = .ok (.iadd, 1) := by decide +kernel
theorem dL_holds_87 : decode cL_holds 87 = .ok (.istore 5, 2) := by decide +kernel
theorem dL_holds_89 : decode cL_holds 89 = .ok (.iload 8, 2) := by decide +kernel
theorem dL_holds_91 : decode cL_holds 91 = .ok (.ifCond .lt 17, 3) := by decide +kernel
theorem dL_holds_94 : decode cL_holds 94 = .ok (.iload 8, 2) := by decide +kernel
theorem dL_holds_96 : decode cL_holds 96 = .ok (.aload_n 0, 1) := by decide +kernel
theorem dL_holds_97 : decode cL_holds 97 = .ok (.iconst 2, 1) := by decide +kernel
theorem dL_holds_98 : decode cL_holds 98 = .ok (.invokestatic 53, 3) := by decide +kernel
theorem dL_holds_101 : decode cL_holds 101 = .ok (.if_icmp .gt 7, 3) := by decide +kernel
theorem dL_holds_104 : decode cL_holds 104 = .ok (.iconst 1, 1) := by decide +kernel
theorem dL_holds_105 : decode cL_holds 105 = .ok (.goto 4, 3) := by decide +kernel
theorem dL_holds_108 : decode cL_holds 108 = .ok (.iconst 0, 1) := by decide +kernel
theorem dL_holds_109 : decode cL_holds 109 = .ok (.istore 6, 2) := by decide +kernel
theorem dL_holds_111 : decode cL_holds 111 = .ok (.iinc 7 1, 3) := by decide +kernel
theorem dL_holds_114 : decode cL_holds 114 = .ok (.goto (-65), 3) := by decide +kernel
theorem dL_holds_117 : decode cL_holds 117 = .ok (.iload 6, 2) := by decide +kernel
theorem dL_holds_119 : decode cL_holds 119 = .ok (.ifCond .eq 56, 3) := by decide +kernel
theorem dL_holds_122 : decode cL_holds 122 = .ok (.iload 5, 2) := by decide +kernel
theorem dL_holds_124 : decode cL_holds 124 = .ok (.iload_n 3, 1) := by decide +kernel
theorem dL_holds_125 : decode cL_holds 125 = .ok (.if_icmp .ne 50, 3) := by decide +kernel
theorem dL_holds_128 : decode cL_holds 128 = .ok (.iload_n 1, 1) := by decide +kernel
theorem dL_holds_129 : decode cL_holds 129 = .ok (.aload_n 0, 1) := by decide +kernel
theorem dL_holds_130 : decode cL_holds 130 = .ok (.iconst 1, 1) := by decide +kernel
theorem dL_holds_131 : decode cL_holds 131 = .ok (.invokestatic 53, 3) := by decide +kernel
theorem dL_holds_134 : decode cL_holds 134 = .ok (.if_icmp .gt 11, 3) := by decide +kernel
theorem dL_holds_137 : decode cL_holds 137 = .ok (.iload_n 2, 1) := by decide +kernel
theorem dL_holds_138 : decode cL_holds 138 = .ok (.ifCond .lt 7, 3) := by decide +kernel
theorem dL_holds_141 : decode cL_holds 141 = .ok (.iload_n 3, 1) := by decide +kernel
theorem dL_holds_142 : decode cL_holds 142 = .ok (.ifCond .le 33, 3) := by decide +kernel
theorem dL_holds_145 : decode cL_holds 145 = .ok (.aload_n 0, 1) := by decide +kernel
theorem dL_holds_146 : decode cL_holds 146 = .ok (.iconst 0, 1) := by decide +kernel
theorem dL_holds_147 : decode cL_holds 147 = .ok (.invokestatic 61, 3) := by decide +kernel
theorem dL_holds_150 : decode cL_holds 150 = .ok (.iload_n 3, 1) := by decide +kernel
theorem dL_holds_151 : decode cL_holds 151 = .ok (.i2l, 1) := by decide +kernel
theorem dL_holds_152 : decode cL_holds 152 = .ok (.lcmp, 1) := by decide +kernel
theorem dL_holds_153 : decode cL_holds 153 = .ok (.ifCond .ne 22, 3) := by decide +kernel
theorem dL_holds_156 : decode cL_holds 156 = .ok (.aload_n 0, 1) := by decide +kernel
theorem dL_holds_157 : decode cL_holds 157 = .ok (.iconst 3, 1) := by decide +kernel
theorem dL_holds_158 : decode cL_holds 158 = .ok (.invokestatic 53, 3) := by decide +kernel
theorem dL_holds_161 : decode cL_holds 161 = .ok (.ifCond .gt 10, 3) := by decide +kernel
theorem dL_holds_164 : decode cL_holds 164 = .ok (.aload_n 0, 1) := by decide +kernel
theorem dL_holds_165 : decode cL_holds 165 = .ok (.invokevirtual 65, 3) := by decide +kernel
theorem dL_holds_168 : decode cL_holds 168 = .ok (.ifCond .ne 7, 3) := by decide +kernel
theorem dL_holds_171 : decode cL_holds 171 = .ok (.iconst 1, 1) := by decide +kernel
theorem dL_holds_172 : decode cL_holds 172 = .ok (.goto 4, 3) := by decide +kernel
theorem dL_holds_175 : decode cL_holds 175 = .ok (.iconst 0, 1) := by decide +kernel
theorem dL_holds_176 : decode cL_holds 176 = .ok (.ireturn, 1) := by decide +kernel
set_option maxRecDepth 20000 in
theorem ggL_splits_L_behind : GoodIn wsL_splits wsL_behind := goodIn_ca (goodIn_r _ [4, 5, 6, 7, 8, 9, 10, 11, 12, 13, 14, 15, 16, 17, 18, 19, 20, 21, 22, 23, 24, 25, 26, 27, 28, 29, 30, 31, 32, 33, 34, 35, 36, 37, 38, 39, 40, 41, 42, 43, 44, 45, 46, 47, 48, 49, 50, 51, 52, 53, 54, 55, 56, 57, 58, 59, 60, 61, 62, 63, 64, 76, 77, 78, 79, 80, 81, 82, 83, 84, 85, 86, 87] (by decide +kernel) (by decide +kernel)) (goodIn_sub (fun _ h => List.mem_cons_of_mem _ (List.mem_append_right _ h)) (by decide +kernel))
set_option maxRecDepth 20000 in
theorem gL_splits_L_behind : GoodIn wsL_splits (va_wsS RL 68 yL_behind wsL_behind) := goodIn_app (goodIn_of _ (by decide +kernel)) ggL_splits_L_behind
set_option maxRecDepth 20000 in
theorem ggL_splits_L_weighs : GoodIn wsL_splits wsL_weighs := goodIn_ca (goodIn_r _ [67, 5, 6, 68, 69, 70, 10, 71, 12, 13, 14, 31, 32, 33, 72, 73, 74, 18, 75, 46, 38, 39, 40, 41, 20, 47, 48, 54, 55, 56, 57, 58, 59, 60, 61, 62, 63, 64, 76, 77, 78, 79, 80, 81, 82, 83, 84, 85, 86, 87] (by decide +kernel) (by decide +kernel)) (goodIn_sub (fun _ h => List.mem_cons_of_mem _ (List.mem_append_right _ h)) (by decide +kernel))
set_option maxRecDepth 20000 in
theorem gL_splits_L_weighs : GoodIn wsL_splits (va_wsS RL 61 yL_weighs wsL_weighs) := goodIn_app (goodIn_of _ (by decide +kernel)) ggL_splits_L_weighs
theorem dL_splits_0 : decode cL_splits 0 = .ok (.aload_n 0, 1) := by decide +kernel
theorem dL_splits_1 : decode cL_splits 1 = .ok (.iload_n 1, 1) := by decide +kernel
theorem dL_splits_2 : decode cL_splits 2 = .ok (.iload_n 2, 1) := by decide +kernel
theorem dL_splits_3 : decode cL_splits 3 = .ok (.iconst 0, 1) := by decide +kernel
theorem dL_splits_4 : decode cL_splits 4 = .ok (.iload_n 3, 1) := by decide +kernel
theorem dL_splits_5 : decode cL_splits 5 = .ok (.invokestatic 68, 3) := by decide +kernel
theorem dL_splits_8 : decode cL_splits 8 = .ok (.aload_n 0, 1) := by decide +kernel
theorem dL_splits_9 : decode cL_splits 9 = .ok (.iload_n 1, 1) := by decide +kernel
theorem dL_splits_10 : decode cL_splits 10 = .ok (.iload_n 2, 1) := by decide +kernel
theorem dL_splits_11 : decode cL_splits 11 = .ok (.iconst 1, 1) := by decide +kernel
theorem dL_splits_12 : decode cL_splits 12 = .ok (.iload_n 3, 1) := by decide +kernel
theorem dL_splits_13 : decode cL_splits 13 = .ok (.invokestatic 68, 3) := by decide +kernel
theorem dL_splits_16 : decode cL_splits 16 = .ok (.ladd, 1) := by decide +kernel
theorem dL_splits_17 : decode cL_splits 17 = .ok (.aload_n 0, 1) := by decide +kernel
theorem dL_splits_18 : decode cL_splits 18 = .ok (.iload_n 1, 1) := by decide +kernel
theorem dL_splits_19 : decode cL_splits 19 = .ok (.iload_n 2, 1) := by decide +kernel
theorem dL_splits_20 : decode cL_splits 20 = .ok (.iconst 2, 1) := by decide +kernel
theorem dL_splits_21 : decode cL_splits 21 = .ok (.iload_n 3, 1) := by decide +kernel
theorem dL_splits_22 : decode cL_splits 22 = .ok (.invokestatic 68, 3) := by decide +kernel
theorem dL_splits_25 : decode cL_splits 25 = .ok (.ladd, 1) := by decide +kernel
theorem dL_splits_26 : decode cL_splits 26 = .ok (.lstore 4, 2) := by decide +kernel
theorem dL_splits_28 : decode cL_splits 28 = .ok (.lload 4, 2) := by decide +kernel
theorem dL_splits_30 : decode cL_splits 30 = .ok (.aload_n 0, 1) := by decide +kernel
theorem dL_splits_31 : decode cL_splits 31 = .ok (.iload_n 3, 1) := by decide +kernel
theorem dL_splits_32 : decode cL_splits 32 = .ok (.iconst 1, 1) := by decide +kernel
theorem dL_splits_33 : decode cL_splits 33 = .ok (.iadd, 1) := by decide +kernel
theorem dL_splits_34 : decode cL_splits 34 = .ok (.invokestatic 61, 3) := by decide +kernel
theorem dL_splits_37 : decode cL_splits 37 = .ok (.lcmp, 1) := by decide +kernel
theorem dL_splits_38 : decode cL_splits 38 = .ok (.ifCond .ne 7, 3) := by decide +kernel
theorem dL_splits_41 : decode cL_splits 41 = .ok (.iconst 1, 1) := by decide +kernel
theorem dL_splits_42 : decode cL_splits 42 = .ok (.goto 4, 3) := by decide +kernel
theorem dL_splits_45 : decode cL_splits 45 = .ok (.iconst 0, 1) := by decide +kernel
theorem dL_splits_46 : decode cL_splits 46 = .ok (.ireturn, 1) := by decide +kernel
set_option maxRecDepth 20000 in
theorem ggL_law_X4_init : GoodIn wsL_law wsX4_init := goodIn_r _ [8, 9, 10, 11, 12, 13, 14, 15, 16, 17, 18, 19, 20, 21, 22, 23, 24, 25, 26, 27, 28, 29, 30, 31, 32, 33, 34, 35, 36, 37, 38, 39, 40, 41, 42, 43, 44, 45, 46, 47, 48, 49, 50, 51, 52, 53, 54, 55, 56, 57, 58, 59, 60, 61, 62, 63, 64, 2, 65, 66, 67, 68, 69, 70, 71, 72, 73, 74, 75, 76, 77, 78, 79, 80, 305, 306, 307, 308, 309, 310, 311, 312, 313, 302, 303, 304, 314, 315, 316, 317, 318, 319, 320, 321, 322, 323, 324, 325, 326, 327, 328] (by decide +kernel) (by decide +kernel)
set_option maxRecDepth 20000 in
theorem gL_law_X4_init : GoodIn wsL_law (wsX4_init) := ggL_law_X4_init
set_option maxRecDepth 20000 in
theorem ggL_law_L_cell : GoodIn wsL_law wsL_cell := goodIn_r _ [84, 85, 86] (by decide +kernel) (by decide +kernel)
set_option maxRecDepth 20000 in
theorem gL_law_L_cell : GoodIn wsL_law (va_wsS RL 73 yL_cell wsL_cell) := goodIn_app (goodIn_of _ (by decide +kernel)) ggL_law_L_cell
set_option maxRecDepth 20000 in
theorem ggL_law_L_begins : GoodIn wsL_law wsL_begins := goodIn_ca (goodIn_r _ [89, 90, 5, 91, 92, 93, 2, 94, 95, 96, 19, 15, 97, 98, 99, 18, 100, 101, 71, 102, 103, 104, 105, 106, 107, 108, 109, 110, 111, 112, 14, 113, 31, 32, 34, 51, 52, 57, 58, 59, 114, 115, 116, 30, 117, 44, 45, 46, 118, 119, 120, 121, 122, 42, 123, 124, 125, 126, 127, 128, 48, 49, 50, 53, 54, 55, 56, 60, 61, 62, 63, 64, 65, 302, 303, 304, 305, 306, 307, 308, 309, 310, 311, 312, 313, 325, 326, 327, 328, 314, 315] (by decide +kernel) (by decide +kernel)) (goodIn_sub (fun _ h => List.mem_append_left _ (List.mem_append_left _ (List.mem_append_right _ h))) (by decide +kernel))
set_option maxRecDepth 20000 in
theorem gL_law_L_begins : GoodIn wsL_law (va_wsS RL 78 yL_begins wsL_begins) := goodIn_app (goodIn_of _ (by decide +kernel)) ggL_law_L_begins
set_option maxRecDepth 20000 in
theorem ggL_law_L_asks : GoodIn wsL_law wsL_asks := goodIn_ca (goodIn_ca (goodIn_r _ [131, 90, 132, 5, 4, 133, 134, 135, 2, 136, 95, 96, 137, 138, 15, 19, 139, 140, 141, 14, 142, 51, 143, 144, 145, 146, 147, 148, 149, 150, 151, 152, 153, 57, 59, 154, 155, 156, 157, 31, 97, 98, 99, 18, 100, 101, 71, 102, 103, 104, 105, 106, 107, 108, 109, 110, 111, 112, 113, 32, 34, 52, 58, 114, 115, 116, 30, 117, 44, 45, 46, 118, 119, 120, 121, 122, 42, 123, 124, 125, 126, 127, 158, 159, 160, 161, 162, 163, 164, 165, 166, 167, 168, 169, 170, 171, 172, 173, 174, 64, 65, 175, 176, 177, 178, 179, 180, 181, 182, 183, 184, 302, 303, 304, 305, 306, 307, 308, 309, 310, 311, 312, 313, 325, 326, 327, 328, 314, 315] (by decide +kernel) (by decide +kernel)) (goodIn_sub (fun _ h => List.mem_append_left _ (List.mem_append_left _ (List.mem_append_right _ h))) (by decide +kernel))) (goodIn_sub (fun _ h => List.mem_append_left _ (List.mem_append_right _ h)) (by decide +kernel))
set_option maxRecDepth 20000 in
theorem gL_law_L_asks : GoodIn wsL_law (va_wsS RL 81 yL_asks wsL_asks) := goodIn_app (goodIn_of _ (by decide +kernel)) ggL_law_L_asks
set_option maxRecDepth 20000 in
theorem ggL_law_L_limits : GoodIn wsL_law wsL_limits := goodIn_ca (goodIn_r _ [187, 90, 5, 188, 189, 190, 2, 191, 95, 96, 19, 15, 97, 98, 99, 18, 100, 101, 71, 102, 103, 104, 105, 106, 107, 108, 109, 110, 111, 112, 14, 113, 31, 32, 34, 51, 52, 57, 58, 59, 114, 115, 116, 30, 117, 44, 45, 46, 118, 119, 120, 121, 122, 42, 123, 124, 125, 126, 127, 192, 193, 194, 195, 175, 176, 177, 178, 196, 197, 198, 199, 183, 184, 302, 303, 304, 305, 306, 307, 308, 309, 310, 311, 312, 313, 314, 315, 325, 326, 327, 328] (by decide +kernel) (by decide +kernel)) (goodIn_sub (fun _ h => List.mem_append_left _ (List.mem_append_left _ (List.mem_append_right _ h))) (by decide +kernel))
set_option maxRecDepth 20000 in
theorem gL_law_L_limits : GoodIn wsL_law (va_wsS RL 85 yL_limits wsL_limits) := goodIn_app (goodIn_of _ (by decide +kernel)) ggL_law_L_limits
set_option maxRecDepth 20000 in
theorem ggL_law_L_hides : GoodIn wsL_law wsL_hides := goodIn_ca (goodIn_ca (goodIn_r _ [202, 203, 90, 5, 4, 204, 205, 206, 2, 207, 208, 209, 95, 96, 15, 210, 19, 211, 212, 213, 14, 214, 175, 176, 177, 178, 51, 97, 98, 99, 18, 100, 101, 71, 102, 103, 104, 105, 106, 107, 108, 109, 110, 111, 112, 113, 31, 32, 34, 52, 57, 58, 59, 114, 115, 116, 30, 117, 44, 45, 46, 118, 119, 120, 121, 122, 42, 123, 124, 125, 126, 127, 215, 54, 55, 56, 302, 303, 304, 305, 306, 307, 308, 309, 310, 311, 312, 313, 314, 315, 325, 326, 327, 328] (by decide +kernel) (by decide +kernel)) (goodIn_sub (fun _ h => List.mem_append_right _ h) (by decide +kernel))) (goodIn_sub (fun _ h => List.mem_append_left _ (List.mem_append_left _ (List.mem_append_right _ h))) (by decide +kernel))
set_option maxRecDepth 20000 in
theorem gL_law_L_hides : GoodIn wsL_law (va_wsS RL 88 yL_hides wsL_hides) := goodIn_app (goodIn_of _ (by decide +kernel)) ggL_law_L_hides
set_option maxRecDepth 20000 in
theorem ggL_law_L_holds : GoodIn wsL_law wsL_holds := goodIn_ca (goodIn_ca (goodIn_r _ [218, 219, 220, 83, 221, 90, 5, 222, 223, 224, 2, 225, 95, 96, 15, 226, 227, 228, 14, 229, 51, 52, 31, 32, 57, 59, 230, 193, 194, 195, 175, 176, 177, 178, 196, 197, 198, 199, 34, 183, 184, 231, 232, 233, 234, 165, 166, 235, 236, 237, 203, 238, 239, 240, 241, 208, 209, 211, 212, 213, 214, 242, 243, 244, 245, 246, 247, 248, 249, 250, 251, 252, 253, 254, 255, 256, 257, 258, 259, 260, 261, 262, 263, 121, 122, 42, 123, 264, 265, 266, 267, 268, 302, 303, 304, 305, 306, 307, 308, 309, 310, 311, 312, 313, 325, 326, 327, 328] (by decide +kernel) (by decide +kernel)) (goodIn_sub (fun _ h => List.mem_append_left _ (List.mem_append_left _ (List.mem_append_right _ h))) (by decide +kernel))) (goodIn_sub (fun _ h => List.mem_append_right _ h) (by decide +kernel))
set_option maxRecDepth 20000 in
theorem gL_law_L_holds : GoodIn wsL_law (va_wsS RL 91 yL_holds wsL_holds) := goodIn_app (goodIn_of _ (by decide +kernel)) ggL_law_L_holds
set_option maxRecDepth 20000 in
theorem ggL_law_L_value : GoodIn wsL_law wsL_value := goodIn_ca (goodIn_r _ [221, 90, 5, 222, 223, 224, 2, 225, 95, 96, 15, 226, 227, 228, 14, 229, 51, 52, 31, 32, 57, 59, 230, 193, 194, 195, 175, 176, 177, 178, 196, 197, 198, 199, 34, 183, 184, 231, 232, 233, 234, 165, 166, 302, 303, 304, 305, 306, 307, 308, 309, 310, 311, 312, 313, 325, 326, 327, 328] (by decide +kernel) (by decide +kernel)) (goodIn_sub (fun _ h => List.mem_append_left _ (List.mem_append_left _ (List.mem_append_right _ h))) (by decide +kernel))
set_option maxRecDepth 20000 in
theorem gL_law_L_value : GoodIn wsL_law (va_wsS RL 53 yL_value wsL_value) := goodIn_app (goodIn_of _ (by decide +kernel)) ggL_law_L_value
set_option maxRecDepth 20000 in
theorem ggL_law_L_splits : GoodIn wsL_law wsL_splits := goodIn_ca (goodIn_r _ [271, 272, 273, 83, 274, 90, 246, 275, 276, 277, 2, 278, 95, 96, 15, 139, 140, 141, 14, 142, 51, 143, 144, 145, 146, 147, 148, 149, 279, 280, 281, 251, 252, 253, 282, 283, 284, 285, 175, 176, 177, 178, 179, 180, 181, 182, 34, 183, 184, 162, 163, 164, 165, 166, 258, 259, 260, 261, 52, 262, 263, 121, 122, 42, 123, 243, 244, 245, 247, 248, 249, 250, 254, 255, 256, 257, 302, 303, 304, 305, 306, 307, 308, 309, 310, 311, 312, 313] (by decide +kernel) (by decide +kernel)) (goodIn_sub (fun _ h => List.mem_append_left _ (List.mem_append_left _ (List.mem_append_right _ h))) (by decide +kernel))
set_option maxRecDepth 20000 in
theorem gL_law_L_splits : GoodIn wsL_law (va_wsS RL 95 yL_splits wsL_splits) := goodIn_app (goodIn_of _ (by decide +kernel)) ggL_law_L_splits
set_option maxRecDepth 20000 in
theorem ggL_law_X4_forget : GoodIn wsL_law wsX4_forget := goodIn_r _ [289, 19, 15, 97, 98, 99, 18, 100, 101, 71, 102, 103, 104, 105, 106, 107, 108, 109, 110, 111, 112, 14, 113, 31, 32, 34, 51, 52, 57, 58, 59, 114, 115, 116, 30, 117, 44, 45, 46, 118, 119, 2, 120, 121, 122, 42, 123, 124, 125, 126, 127, 290, 61, 62, 63, 64, 65, 302, 303, 304, 305, 306, 307, 308, 309, 310, 311, 312, 313, 325, 326, 327, 328, 314, 315] (by decide +kernel) (by decide +kernel)
set_option maxRecDepth 20000 in
theorem gL_law_X4_forget : GoodIn wsL_law (wsV RL 99 RX4 yX4_forget wsX4_forget) := goodIn_app (goodIn_of _ (by decide +kernel)) ggL_law_X4_forget
set_option maxRecDepth 20000 in
theorem ggL_law_L_undoes : GoodIn wsL_law wsL_undoes := goodIn_ca (goodIn_r _ [293, 132, 5, 294, 295, 296, 2, 297, 137, 138, 19, 15, 298, 299, 300, 18, 301, 101, 106, 107, 108, 109, 71, 110, 111, 112, 14, 113, 31, 32, 34, 51, 52, 57, 58, 59, 114, 115, 116, 30, 117, 44, 45, 46, 118, 119, 120, 121, 122, 42, 123, 124, 125, 126, 127, 302, 303, 304, 314, 315, 305, 306, 307, 308, 309, 310, 311, 312, 313, 325, 326, 327, 328] (by decide +kernel) (by decide +kernel)) (goodIn_sub (fun _ h => List.mem_append_left _ (List.mem_append_right _ h)) (by decide +kernel))
set_option maxRecDepth 20000 in
theorem gL_law_L_undoes : GoodIn wsL_law (va_wsS RL 102 yL_undoes wsL_undoes) := goodIn_app (goodIn_of _ (by decide +kernel)) ggL_law_L_undoes
set_option maxRecDepth 100000 in
theorem bt_law_1 : ([(0, (.new 10, 3)), (3, (.dup, 1)), (4, (.invokespecial 72, 3)), (7, (.astore_n 1, 1)), (8, (.iconst 2, 1)), (9, (.aload_n 0, 1)), (10, (.iconst 0, 1)), (11, (.invokestatic 73, 3)), (14, (.bipush 15, 2)), (16, (.irem, 1)), (17, (.iadd, 1)), (18, (.istore_n 2, 1)), (19, (.aload_n 0, 1)), (20, (.iconst 1, 1)), (21, (.invokestatic 73, 3)), (24, (.iconst 2, 1)), (25, (.iload_n 2, 1)), (26, (.imul, 1)), (27, (.iconst 1, 1)), (28, (.iadd, 1)), (29, (.irem, 1)), (30, (.istore_n 3, 1)), (31, (.aload_n 0, 1)), (32, (.iconst 2, 1)), (33, (.invokestatic 73, 3)), (36, (.aload_n 0, 1)), (37, (.iconst 3, 1)), (38, (.invokestatic 73, 3)), (41, (.iand, 1)), (42, (.aload_n 0, 1)), (43, (.iconst 4, 1)), (44, (.invokestatic 73, 3)), (47, (.iand, 1)), (48, (.ldc 77, 2)), (50, (.iand, 1)), (51, (.istore 4, 2)), (53, (.aload_n 1, 1)), (54, (.iload_n 2, 1)), (55, (.invokestatic 78, 3)), (58, (.ifCond .ne 56, 3)), (61, (.aload_n 1, 1)), (62, (.iconst 1, 1)), (63, (.iconst 2, 1)), (64, (.invokestatic 81, 3)), (67, (.ldc 20, 2)), (69, (.if_icmp .ne 45, 3)), (72, (.aload_n 1, 1)), (73, (.aload_n 0, 1)), (74, (.iconst 5, 1)), (75, (.invokestatic 73, 3)), (78, (.iconst 3, 1)), (79, (.irem, 1)), (80, (.invokestatic 85, 3)), (83, (.iconst 2, 1)), (84, (.iload_n 2, 1)), (85, (.imul, 1)), (86, (.iconst 1, 1)), (87, (.iadd, 1)), (88, (.if_icmp .ne 26, 3)), (91, (.aload_n 1, 1))] : List (Nat × (Instr × Nat))).all (fun q => decide (decode cL_law q.1 = .ok q.2)) = true := by decide +kernel
theorem dL_law_0 : decode cL_law 0 = .ok (.new 10, 3) := of_decide_eq_true (List.all_eq_true.mp bt_law_1 (0, (.new 10, 3)) (List.mem_of_getElem? (i := 0) rfl))
theorem dL_law_3 : decode cL_law 3 = .ok (.dup, 1) := of_decide_eq_true (List.all_eq_true.mp bt_law_1 (3, (.dup, 1)) (List.mem_of_getElem? (i := 1) rfl))
theorem dL_law_4 : decode cL_law 4 = .ok (.invokespecial 72, 3) := of_decide_eq_true (List.all_eq_true.mp bt_law_1 (4, (.invokespecial 72, 3)) (List.mem_of_getElem? (i := 2) rfl))
theorem dL_law_7 : decode cL_law 7 = .ok (.astore_n 1, 1) := of_decide_eq_true (List.all_eq_true.mp bt_law_1 (7, (.astore_n 1, 1)) (List.mem_of_getElem? (i := 3) rfl))
theorem dL_law_8 : decode cL_law 8 = .ok (.iconst 2, 1) := of_decide_eq_true (List.all_eq_true.mp bt_law_1 (8, (.iconst 2, 1)) (List.mem_of_getElem? (i := 4) rfl))
theorem dL_law_9 : decode cL_law 9 = .ok (.aload_n 0, 1) := of_decide_eq_true (List.all_eq_true.mp bt_law_1 (9, (.aload_n 0, 1)) (List.mem_of_getElem? (i := 5) rfl))
theorem dL_law_10 : decode cL_law 10 = .ok (.iconst 0, 1) := of_decide_eq_true (List.all_eq_true.mp bt_law_1 (10, (.iconst 0, 1)) (List.mem_of_getElem? (i := 6) rfl))
theorem dL_law_11 : decode cL_law 11 = .ok (.invokestatic 73, 3) := of_decide_eq_true (List.all_eq_true.mp bt_law_1 (11, (.invokestatic 73, 3)) (List.mem_of_getElem? (i := 7) rfl))
theorem dL_law_14 : decode cL_law 14 = .ok (.bipush 15, 2) := of_decide_eq_true (List.all_eq_true.mp bt_law_1 (14, (.bipush 15, 2)) (List.mem_of_getElem? (i := 8) rfl))
theorem dL_law_16 : decode cL_law 16 = .ok (.irem, 1) := of_decide_eq_true (List.all_eq_true.mp bt_law_1 (16, (.irem, 1)) (List.mem_of_getElem? (i := 9) rfl))
theorem dL_law_17 : decode cL_law 17 = .ok (.iadd, 1) := of_decide_eq_true (List.all_eq_true.mp bt_law_1 (17, (.iadd, 1)) (List.mem_of_getElem? (i := 10) rfl))
theorem dL_law_18 : decode cL_law 18 = .ok (.istore_n 2, 1) := of_decide_eq_true (List.all_eq_true.mp bt_law_1 (18, (.istore_n 2, 1)) (List.mem_of_getElem? (i := 11) rfl))
theorem dL_law_19 : decode cL_law 19 = .ok (.aload_n 0, 1) := of_decide_eq_true (List.all_eq_true.mp bt_law_1 (19, (.aload_n 0, 1)) (List.mem_of_getElem? (i := 12) rfl))
theorem dL_law_20 : decode cL_law 20 = .ok (.iconst 1, 1) := of_decide_eq_true (List.all_eq_true.mp bt_law_1 (20, (.iconst 1, 1)) (List.mem_of_getElem? (i := 13) rfl))
theorem dL_law_21 : decode cL_law 21 = .ok (.invokestatic 73, 3) := of_decide_eq_true (List.all_eq_true.mp bt_law_1 (21, (.invokestatic 73, 3)) (List.mem_of_getElem? (i := 14) rfl))
theorem dL_law_24 : decode cL_law 24 = .ok (.iconst 2, 1) := of_decide_eq_true (List.all_eq_true.mp bt_law_1 (24, (.iconst 2, 1)) (List.mem_of_getElem? (i := 15) rfl))
theorem dL_law_25 : decode cL_law 25 = .ok (.iload_n 2, 1) := of_decide_eq_true (List.all_eq_true.mp bt_law_1 (25, (.iload_n 2, 1)) (List.mem_of_getElem? (i := 16) rfl))
theorem dL_law_26 : decode cL_law 26 = .ok (.imul, 1) := of_decide_eq_true (List.all_eq_true.mp bt_law_1 (26, (.imul, 1)) (List.mem_of_getElem? (i := 17) rfl))
theorem dL_law_27 : decode cL_law 27 = .ok (.iconst 1, 1) := of_decide_eq_true (List.all_eq_true.mp bt_law_1 (27, (.iconst 1, 1)) (List.mem_of_getElem? (i := 18) rfl))
theorem dL_law_28 : decode cL_law 28 = .ok (.iadd, 1) := of_decide_eq_true (List.all_eq_true.mp bt_law_1 (28, (.iadd, 1)) (List.mem_of_getElem? (i := 19) rfl))
theorem dL_law_29 : decode cL_law 29 = .ok (.irem, 1) := of_decide_eq_true (List.all_eq_true.mp bt_law_1 (29, (.irem, 1)) (List.mem_of_getElem? (i := 20) rfl))
theorem dL_law_30 : decode cL_law 30 = .ok (.istore_n 3, 1) := of_decide_eq_true (List.all_eq_true.mp bt_law_1 (30, (.istore_n 3, 1)) (List.mem_of_getElem? (i := 21) rfl))
theorem dL_law_31 : decode cL_law 31 = .ok (.aload_n 0, 1) := of_decide_eq_true (List.all_eq_true.mp bt_law_1 (31, (.aload_n 0, 1)) (List.mem_of_getElem? (i := 22) rfl))
theorem dL_law_32 : decode cL_law 32 = .ok (.iconst 2, 1) := of_decide_eq_true (List.all_eq_true.mp bt_law_1 (32, (.iconst 2, 1)) (List.mem_of_getElem? (i := 23) rfl))
theorem dL_law_33 : decode cL_law 33 = .ok (.invokestatic 73, 3) := of_decide_eq_true (List.all_eq_true.mp bt_law_1 (33, (.invokestatic 73, 3)) (List.mem_of_getElem? (i := 24) rfl))
theorem dL_law_36 : decode cL_law 36 = .ok (.aload_n 0, 1) := of_decide_eq_true (List.all_eq_true.mp bt_law_1 (36, (.aload_n 0, 1)) (List.mem_of_getElem? (i := 25) rfl))
theorem dL_law_37 : decode cL_law 37 = .ok (.iconst 3, 1) := of_decide_eq_true (List.all_eq_true.mp bt_law_1 (37, (.iconst 3, 1)) (List.mem_of_getElem? (i := 26) rfl))
theorem dL_law_38 : decode cL_law 38 = .ok (.invokestatic 73, 3) := of_decide_eq_true (List.all_eq_true.mp bt_law_1 (38, (.invokestatic 73, 3)) (List.mem_of_getElem? (i := 27) rfl))
theorem dL_law_41 : decode cL_law 41 = .ok (.iand, 1) := of_decide_eq_true (List.all_eq_true.mp bt_law_1 (41, (.iand, 1)) (List.mem_of_getElem? (i := 28) rfl))
theorem dL_law_42 : decode cL_law 42 = .ok (.aload_n 0, 1) := of_decide_eq_true (List.all_eq_true.mp bt_law_1 (42, (.aload_n 0, 1)) (List.mem_of_getElem? (i := 29) rfl))
theorem dL_law_43 : decode cL_law 43 = .ok (.iconst 4, 1) := of_decide_eq_true (List.all_eq_true.mp bt_law_1 (43, (.iconst 4, 1)) (List.mem_of_getElem? (i := 30) rfl))
theorem dL_law_44 : decode cL_law 44 = .ok (.invokestatic 73, 3) := of_decide_eq_true (List.all_eq_true.mp bt_law_1 (44, (.invokestatic 73, 3)) (List.mem_of_getElem? (i := 31) rfl))
theorem dL_law_47 : decode cL_law 47 = .ok (.iand, 1) := of_decide_eq_true (List.all_eq_true.mp bt_law_1 (47, (.iand, 1)) (List.mem_of_getElem? (i := 32) rfl))
theorem dL_law_48 : decode cL_law 48 = .ok (.ldc 77, 2) := of_decide_eq_true (List.all_eq_true.mp bt_law_1 (48, (.ldc 77, 2)) (List.mem_of_getElem? (i := 33) rfl))
theorem dL_law_50 : decode cL_law 50 = .ok (.iand, 1) := of_decide_eq_true (List.all_eq_true.mp bt_law_1 (50, (.iand, 1)) (List.mem_of_getElem? (i := 34) rfl))
theorem dL_law_51 : decode cL_law 51 = .ok (.istore 4, 2) := of_decide_eq_true (List.all_eq_true.mp bt_law_1 (51, (.istore 4, 2)) (List.mem_of_getElem? (i := 35) rfl))
theorem dL_law_53 : decode cL_law 53 = .ok (.aload_n 1, 1) := of_decide_eq_true (List.all_eq_true.mp bt_law_1 (53, (.aload_n 1, 1)) (List.mem_of_getElem? (i := 36) rfl))
theorem dL_law_54 : decode cL_law 54 = .ok (.iload_n 2, 1) := of_decide_eq_true (List.all_eq_true.mp bt_law_1 (54, (.iload_n 2, 1)) (List.mem_of_getElem? (i := 37) rfl))
theorem dL_law_55 : decode cL_law 55 = .ok (.invokestatic 78, 3) := of_decide_eq_true (List.all_eq_true.mp bt_law_1 (55, (.invokestatic 78, 3)) (List.mem_of_getElem? (i := 38) rfl))
theorem dL_law_58 : decode cL_law 58 = .ok (.ifCond .ne 56, 3) := of_decide_eq_true (List.all_eq_true.mp bt_law_1 (58, (.ifCond .ne 56, 3)) (List.mem_of_getElem? (i := 39) rfl))
theorem dL_law_61 : decode cL_law 61 = .ok (.aload_n 1, 1) := of_decide_eq_true (List.all_eq_true.mp bt_law_1 (61, (.aload_n 1, 1)) (List.mem_of_getElem? (i := 40) rfl))
theorem dL_law_62 : decode cL_law 62 = .ok (.iconst 1, 1) := of_decide_eq_true (List.all_eq_true.mp bt_law_1 (62, (.iconst 1, 1)) (List.mem_of_getElem? (i := 41) rfl))
theorem dL_law_63 : decode cL_law 63 = .ok (.iconst 2, 1) := of_decide_eq_true (List.all_eq_true.mp bt_law_1 (63, (.iconst 2, 1)) (List.mem_of_getElem? (i := 42) rfl))
theorem dL_law_64 : decode cL_law 64 = .ok (.invokestatic 81, 3) := of_decide_eq_true (List.all_eq_true.mp bt_law_1 (64, (.invokestatic 81, 3)) (List.mem_of_getElem? (i := 43) rfl))
theorem dL_law_67 : decode cL_law 67 = .ok (.ldc 20, 2) := of_decide_eq_true (List.all_eq_true.mp bt_law_1 (67, (.ldc 20, 2)) (List.mem_of_getElem? (i := 44) rfl))
theorem dL_law_69 : decode cL_law 69 = .ok (.if_icmp .ne 45, 3) := of_decide_eq_true (List.all_eq_true.mp bt_law_1 (69, (.if_icmp .ne 45, 3)) (List.mem_of_getElem? (i := 45) rfl))
theorem dL_law_72 : decode cL_law 72 = .ok (.aload_n 1, 1) := of_decide_eq_true (List.all_eq_true.mp bt_law_1 (72, (.aload_n 1, 1)) (List.mem_of_getElem? (i := 46) rfl))
theorem dL_law_73 : decode cL_law 73 = .ok (.aload_n 0, 1) := of_decide_eq_true (List.all_eq_true.mp bt_law_1 (73, (.aload_n 0, 1)) (List.mem_of_getElem? (i := 47) rfl))
theorem dL_law_74 : decode cL_law 74 = .ok (.iconst 5, 1) := of_decide_eq_true (List.all_eq_true.mp bt_law_1 (74, (.iconst 5, 1)) (List.mem_of_getElem? (i := 48) rfl))
theorem dL_law_75 : decode cL_law 75 = .ok (.invokestatic 73, 3) := of_decide_eq_true (List.all_eq_true.mp bt_law_1 (75, (.invokestatic 73, 3)) (List.mem_of_getElem? (i := 49) rfl))
theorem dL_law_78 : decode cL_law 78 = .ok (.iconst 3, 1) := of_decide_eq_true (List.all_eq_true.mp bt_law_1 (78, (.iconst 3, 1)) (List.mem_of_getElem? (i := 50) rfl))
theorem dL_law_79 : decode cL_law 79 = .ok (.irem, 1) := of_decide_eq_true (List.all_eq_true.mp bt_law_1 (79, (.irem, 1)) (List.mem_of_getElem? (i := 51) rfl))
theorem dL_law_80 : decode cL_law 80 = .ok (.invokestatic 85, 3) := of_decide_eq_true (List.all_eq_true.mp bt_law_1 (80, (.invokestatic 85, 3)) (List.mem_of_getElem? (i := 52) rfl))
theorem dL_law_83 : decode cL_law 83 = .ok (.iconst 2, 1) := of_decide_eq_true (List.all_eq_true.mp bt_law_1 (83, (.iconst 2, 1)) (List.mem_of_getElem? (i := 53) rfl))
theorem dL_law_84 : decode cL_law 84 = .ok (.iload_n 2, 1) := of_decide_eq_true (List.all_eq_true.mp bt_law_1 (84, (.iload_n 2, 1)) (List.mem_of_getElem? (i := 54) rfl))
theorem dL_law_85 : decode cL_law 85 = .ok (.imul, 1) := of_decide_eq_true (List.all_eq_true.mp bt_law_1 (85, (.imul, 1)) (List.mem_of_getElem? (i := 55) rfl))
theorem dL_law_86 : decode cL_law 86 = .ok (.iconst 1, 1) := of_decide_eq_true (List.all_eq_true.mp bt_law_1 (86, (.iconst 1, 1)) (List.mem_of_getElem? (i := 56) rfl))
theorem dL_law_87 : decode cL_law 87 = .ok (.iadd, 1) := of_decide_eq_true (List.all_eq_true.mp bt_law_1 (87, (.iadd, 1)) (List.mem_of_getElem? (i := 57) rfl))
theorem dL_law_88 : decode cL_law 88 = .ok (.if_icmp .ne 26, 3) := of_decide_eq_true (List.all_eq_true.mp bt_law_1 (88, (.if_icmp .ne 26, 3)) (List.mem_of_getElem? (i := 58) rfl))
theorem dL_law_91 : decode cL_law 91 = .ok (.aload_n 1, 1) := of_decide_eq_true (List.all_eq_true.mp bt_law_1 (91, (.aload_n 1, 1)) (List.mem_of_getElem? (i := 59) rfl))
set_option maxRecDepth 100000 in
theorem bt_law_2 : ([(92, (.iload_n 3, 1)), (93, (.iload 4, 2)), (95, (.invokestatic 88, 3)), (98, (.iconst (-1), 1)), (99, (.if_icmp .ne 15, 3)), (102, (.aload_n 1, 1)), (103, (.iconst 0, 1)), (104, (.invokestatic 91, 3)), (107, (.ifCond .eq 7, 3)), (110, (.iconst 1, 1)), (111, (.goto 4, 3)), (114, (.iconst 0, 1)), (115, (.istore 5, 2)), (117, (.iconst 0, 1)), (118, (.istore 6, 2)), (120, (.iconst 0, 1)), (121, (.istore 7, 2)), (123, (.iload 7, 2)), (125, (.bipush 24, 2)), (127, (.if_icmp .ge 184, 3)), (130, (.iload 5, 2)), (132, (.ifCond .eq 179, 3)), (135, (.aload_n 0, 1)), (136, (.bipush 6, 2)), (138, (.iload 7, 2)), (140, (.iadd, 1)), (141, (.invokestatic 73, 3)), (144, (.istore 8, 2)), (146, (.iconst 1, 1)), (147, (.iload 8, 2)), (149, (.iload_n 2, 1)), (150, (.iconst 2, 1)), (151, (.idiv, 1)), (152, (.irem, 1)), (153, (.iadd, 1)), (154, (.istore 9, 2)), (156, (.iload 8, 2)), (158, (.bipush 32, 2)), (160, (.idiv, 1)), (161, (.iload_n 2, 1)), (162, (.iconst 2, 1)), (163, (.iload 9, 2)), (165, (.imul, 1)), (166, (.isub, 1)), (167, (.iconst 1, 1)), (168, (.iadd, 1)), (169, (.irem, 1)), (170, (.istore 10, 2)), (172, (.iconst 1, 1)), (173, (.iload 9, 2)), (175, (.ishl, 1)), (176, (.iconst 1, 1)), (177, (.isub, 1)), (178, (.iload 10, 2)), (180, (.ishl, 1)), (181, (.istore 11, 2)), (183, (.iload 11, 2)), (185, (.iload 9, 2)), (187, (.ishl, 1)), (188, (.istore 12, 2))] : List (Nat × (Instr × Nat))).all (fun q => decide (decode cL_law q.1 = .ok q.2)) = true := by decide +kernel
theorem dL_law_92 : decode cL_law 92 = .ok (.iload_n 3, 1) := of_decide_eq_true (List.all_eq_true.mp bt_law_2 (92, (.iload_n 3, 1)) (List.mem_of_getElem? (i := 0) rfl))
theorem dL_law_93 : decode cL_law 93 = .ok (.iload 4, 2) := of_decide_eq_true (List.all_eq_true.mp bt_law_2 (93, (.iload 4, 2)) (List.mem_of_getElem? (i := 1) rfl))
theorem dL_law_95 : decode cL_law 95 = .ok (.invokestatic 88, 3) := of_decide_eq_true (List.all_eq_true.mp bt_law_2 (95, (.invokestatic 88, 3)) (List.mem_of_getElem? (i := 2) rfl))
theorem dL_law_98 : decode cL_law 98 = .ok (.iconst (-1), 1) := of_decide_eq_true (List.all_eq_true.mp bt_law_2 (98, (.iconst (-1), 1)) (List.mem_of_getElem? (i := 3) rfl))
theorem dL_law_99 : decode cL_law 99 = .ok (.if_icmp .ne 15, 3) := of_decide_eq_true (List.all_eq_true.mp bt_law_2 (99, (.if_icmp .ne 15, 3)) (List.mem_of_getElem? (i := 4) rfl))
theorem dL_law_102 : decode cL_law 102 = .ok (.aload_n 1, 1) := of_decide_eq_true (List.all_eq_true.mp bt_law_2 (102, (.aload_n 1, 1)) (List.mem_of_getElem? (i := 5) rfl))
theorem dL_law_103 : decode cL_law 103 = .ok (.iconst 0, 1) := of_decide_eq_true (List.all_eq_true.mp bt_law_2 (103, (.iconst 0, 1)) (List.mem_of_getElem? (i := 6) rfl))
theorem dL_law_104 : decode cL_law 104 = .ok (.invokestatic 91, 3) := of_decide_eq_true (List.all_eq_true.mp bt_law_2 (104, (.invokestatic 91, 3)) (List.mem_of_getElem? (i := 7) rfl))
theorem dL_law_107 : decode cL_law 107 = .ok (.ifCond .eq 7, 3) := of_decide_eq_true (List.all_eq_true.mp bt_law_2 (107, (.ifCond .eq 7, 3)) (List.mem_of_getElem? (i := 8) rfl))
theorem dL_law_110 : decode cL_law 110 = .ok (.iconst 1, 1) := of_decide_eq_true (List.all_eq_true.mp bt_law_2 (110, (.iconst 1, 1)) (List.mem_of_getElem? (i := 9) rfl))
theorem dL_law_111 : decode cL_law 111 = .ok (.goto 4, 3) := of_decide_eq_true (List.all_eq_true.mp bt_law_2 (111, (.goto 4, 3)) (List.mem_of_getElem? (i := 10) rfl))
theorem dL_law_114 : decode cL_law 114 = .ok (.iconst 0, 1) := of_decide_eq_true (List.all_eq_true.mp bt_law_2 (114, (.iconst 0, 1)) (List.mem_of_getElem? (i := 11) rfl))
theorem dL_law_115 : decode cL_law 115 = .ok (.istore 5, 2) := of_decide_eq_true (List.all_eq_true.mp bt_law_2 (115, (.istore 5, 2)) (List.mem_of_getElem? (i := 12) rfl))
theorem dL_law_117 : decode cL_law 117 = .ok (.iconst 0, 1) := of_decide_eq_true (List.all_eq_true.mp bt_law_2 (117, (.iconst 0, 1)) (List.mem_of_getElem? (i := 13) rfl))
theorem dL_law_118 : decode cL_law 118 = .ok (.istore 6, 2) := of_decide_eq_true (List.all_eq_true.mp bt_law_2 (118, (.istore 6, 2)) (List.mem_of_getElem? (i := 14) rfl))
theorem dL_law_120 : decode cL_law 120 = .ok (.iconst 0, 1) := of_decide_eq_true (List.all_eq_true.mp bt_law_2 (120, (.iconst 0, 1)) (List.mem_of_getElem? (i := 15) rfl))
theorem dL_law_121 : decode cL_law 121 = .ok (.istore 7, 2) := of_decide_eq_true (List.all_eq_true.mp bt_law_2 (121, (.istore 7, 2)) (List.mem_of_getElem? (i := 16) rfl))
theorem dL_law_123 : decode cL_law 123 = .ok (.iload 7, 2) := of_decide_eq_true (List.all_eq_true.mp bt_law_2 (123, (.iload 7, 2)) (List.mem_of_getElem? (i := 17) rfl))
theorem dL_law_125 : decode cL_law 125 = .ok (.bipush 24, 2) := of_decide_eq_true (List.all_eq_true.mp bt_law_2 (125, (.bipush 24, 2)) (List.mem_of_getElem? (i := 18) rfl))
theorem dL_law_127 : decode cL_law 127 = .ok (.if_icmp .ge 184, 3) := of_decide_eq_true (List.all_eq_true.mp bt_law_2 (127, (.if_icmp .ge 184, 3)) (List.mem_of_getElem? (i := 19) rfl))
theorem dL_law_130 : decode cL_law 130 = .ok (.iload 5, 2) := of_decide_eq_true (List.all_eq_true.mp bt_law_2 (130, (.iload 5, 2)) (List.mem_of_getElem? (i := 20) rfl))
theorem dL_law_132 : decode cL_law 132 = .ok (.ifCond .eq 179, 3) := of_decide_eq_true (List.all_eq_true.mp bt_law_2 (132, (.ifCond .eq 179, 3)) (List.mem_of_getElem? (i := 21) rfl))
theorem dL_law_135 : decode cL_law 135 = .ok (.aload_n 0, 1) := of_decide_eq_true (List.all_eq_true.mp bt_law_2 (135, (.aload_n 0, 1)) (List.mem_of_getElem? (i := 22) rfl))
theorem dL_law_136 : decode cL_law 136 = .ok (.bipush 6, 2) := of_decide_eq_true (List.all_eq_true.mp bt_law_2 (136, (.bipush 6, 2)) (List.mem_of_getElem? (i := 23) rfl))
theorem dL_law_138 : decode cL_law 138 = .ok (.iload 7, 2) := of_decide_eq_true (List.all_eq_true.mp bt_law_2 (138, (.iload 7, 2)) (List.mem_of_getElem? (i := 24) rfl))
theorem dL_law_140 : decode cL_law 140 = .ok (.iadd, 1) := of_decide_eq_true (List.all_eq_true.mp bt_law_2 (140, (.iadd, 1)) (List.mem_of_getElem? (i := 25) rfl))
theorem dL_law_141 : decode cL_law 141 = .ok (.invokestatic 73, 3) := of_decide_eq_true (List.all_eq_true.mp bt_law_2 (141, (.invokestatic 73, 3)) (List.mem_of_getElem? (i := 26) rfl))
theorem dL_law_144 : decode cL_law 144 = .ok (.istore 8, 2) := of_decide_eq_true (List.all_eq_true.mp bt_law_2 (144, (.istore 8, 2)) (List.mem_of_getElem? (i := 27) rfl))
theorem dL_law_146 : decode cL_law 146 = .ok (.iconst 1, 1) := of_decide_eq_true (List.all_eq_true.mp bt_law_2 (146, (.iconst 1, 1)) (List.mem_of_getElem? (i := 28) rfl))
theorem dL_law_147 : decode cL_law 147 = .ok (.iload 8, 2) := of_decide_eq_true (List.all_eq_true.mp bt_law_2 (147, (.iload 8, 2)) (List.mem_of_getElem? (i := 29) rfl))
theorem dL_law_149 : decode cL_law 149 = .ok (.iload_n 2, 1) := of_decide_eq_true (List.all_eq_true.mp bt_law_2 (149, (.iload_n 2, 1)) (List.mem_of_getElem? (i := 30) rfl))
theorem dL_law_150 : decode cL_law 150 = .ok (.iconst 2, 1) := of_decide_eq_true (List.all_eq_true.mp bt_law_2 (150, (.iconst 2, 1)) (List.mem_of_getElem? (i := 31) rfl))
theorem dL_law_151 : decode cL_law 151 = .ok (.idiv, 1) := of_decide_eq_true (List.all_eq_true.mp bt_law_2 (151, (.idiv, 1)) (List.mem_of_getElem? (i := 32) rfl))
theorem dL_law_152 : decode cL_law 152 = .ok (.irem, 1) := of_decide_eq_true (List.all_eq_true.mp bt_law_2 (152, (.irem, 1)) (List.mem_of_getElem? (i := 33) rfl))
theorem dL_law_153 : decode cL_law 153 = .ok (.iadd, 1) := of_decide_eq_true (List.all_eq_true.mp bt_law_2 (153, (.iadd, 1)) (List.mem_of_getElem? (i := 34) rfl))
theorem dL_law_154 : decode cL_law 154 = .ok (.istore 9, 2) := of_decide_eq_true (List.all_eq_true.mp bt_law_2 (154, (.istore 9, 2)) (List.mem_of_getElem? (i := 35) rfl))
theorem dL_law_156 : decode cL_law 156 = .ok (.iload 8, 2) := of_decide_eq_true (List.all_eq_true.mp bt_law_2 (156, (.iload 8, 2)) (List.mem_of_getElem? (i := 36) rfl))
theorem dL_law_158 : decode cL_law 158 = .ok (.bipush 32, 2) := of_decide_eq_true (List.all_eq_true.mp bt_law_2 (158, (.bipush 32, 2)) (List.mem_of_getElem? (i := 37) rfl))
theorem dL_law_160 : decode cL_law 160 = .ok (.idiv, 1) := of_decide_eq_true (List.all_eq_true.mp bt_law_2 (160, (.idiv, 1)) (List.mem_of_getElem? (i := 38) rfl))
theorem dL_law_161 : decode cL_law 161 = .ok (.iload_n 2, 1) := of_decide_eq_true (List.all_eq_true.mp bt_law_2 (161, (.iload_n 2, 1)) (List.mem_of_getElem? (i := 39) rfl))
theorem dL_law_162 : decode cL_law 162 = .ok (.iconst 2, 1) := of_decide_eq_true (List.all_eq_true.mp bt_law_2 (162, (.iconst 2, 1)) (List.mem_of_getElem? (i := 40) rfl))
theorem dL_law_163 : decode cL_law 163 = .ok (.iload 9, 2) := of_decide_eq_true (List.all_eq_true.mp bt_law_2 (163, (.iload 9, 2)) (List.mem_of_getElem? (i := 41) rfl))
theorem dL_law_165 : decode cL_law 165 = .ok (.imul, 1) := of_decide_eq_true (List.all_eq_true.mp bt_law_2 (165, (.imul, 1)) (List.mem_of_getElem? (i := 42) rfl))
theorem dL_law_166 : decode cL_law 166 = .ok (.isub, 1) := of_decide_eq_true (List.all_eq_true.mp bt_law_2 (166, (.isub, 1)) (List.mem_of_getElem? (i := 43) rfl))
theorem dL_law_167 : decode cL_law 167 = .ok (.iconst 1, 1) := of_decide_eq_true (List.all_eq_true.mp bt_law_2 (167, (.iconst 1, 1)) (List.mem_of_getElem? (i := 44) rfl))
theorem dL_law_168 : decode cL_law 168 = .ok (.iadd, 1) := of_decide_eq_true (List.all_eq_true.mp bt_law_2 (168, (.iadd, 1)) (List.mem_of_getElem? (i := 45) rfl))
theorem dL_law_169 : decode cL_law 169 = .ok (.irem, 1) := of_decide_eq_true (List.all_eq_true.mp bt_law_2 (169, (.irem, 1)) (List.mem_of_getElem? (i := 46) rfl))
theorem dL_law_170 : decode cL_law 170 = .ok (.istore 10, 2) := of_decide_eq_true (List.all_eq_true.mp bt_law_2 (170, (.istore 10, 2)) (List.mem_of_getElem? (i := 47) rfl))
theorem dL_law_172 : decode cL_law 172 = .ok (.iconst 1, 1) := of_decide_eq_true (List.all_eq_true.mp bt_law_2 (172, (.iconst 1, 1)) (List.mem_of_getElem? (i := 48) rfl))
theorem dL_law_173 : decode cL_law 173 = .ok (.iload 9, 2) := of_decide_eq_true (List.all_eq_true.mp bt_law_2 (173, (.iload 9, 2)) (List.mem_of_getElem? (i := 49) rfl))
theorem dL_law_175 : decode cL_law 175 = .ok (.ishl, 1) := of_decide_eq_true (List.all_eq_true.mp bt_law_2 (175, (.ishl, 1)) (List.mem_of_getElem? (i := 50) rfl))
theorem dL_law_176 : decode cL_law 176 = .ok (.iconst 1, 1) := of_decide_eq_true (List.all_eq_true.mp bt_law_2 (176, (.iconst 1, 1)) (List.mem_of_getElem? (i := 51) rfl))
theorem dL_law_177 : decode cL_law 177 = .ok (.isub, 1) := of_decide_eq_true (List.all_eq_true.mp bt_law_2 (177, (.isub, 1)) (List.mem_of_getElem? (i := 52) rfl))
theorem dL_law_178 : decode cL_law 178 = .ok (.iload 10, 2) := of_decide_eq_true (List.all_eq_true.mp bt_law_2 (178, (.iload 10, 2)) (List.mem_of_getElem? (i := 53) rfl))
theorem dL_law_180 : decode cL_law 180 = .ok (.ishl, 1) := of_decide_eq_true (List.all_eq_true.mp bt_law_2 (180, (.ishl, 1)) (List.mem_of_getElem? (i := 54) rfl))
theorem dL_law_181 : decode cL_law 181 = .ok (.istore 11, 2) := of_decide_eq_true (List.all_eq_true.mp bt_law_2 (181, (.istore 11, 2)) (List.mem_of_getElem? (i := 55) rfl))
theorem dL_law_183 : decode cL_law 183 = .ok (.iload 11, 2) := of_decide_eq_true (List.all_eq_true.mp bt_law_2 (183, (.iload 11, 2)) (List.mem_of_getElem? (i := 56) rfl))
theorem dL_law_185 : decode cL_law 185 = .ok (.iload 9, 2) := of_decide_eq_true (List.all_eq_true.mp bt_law_2 (185, (.iload 9, 2)) (List.mem_of_getElem? (i := 57) rfl))
theorem dL_law_187 : decode cL_law 187 = .ok (.ishl, 1) := of_decide_eq_true (List.all_eq_true.mp bt_law_2 (187, (.ishl, 1)) (List.mem_of_getElem? (i := 58) rfl))
theorem dL_law_188 : decode cL_law 188 = .ok (.istore 12, 2) := of_decide_eq_true (List.all_eq_true.mp bt_law_2 (188, (.istore 12, 2)) (List.mem_of_getElem? (i := 59) rfl))
set_option maxRecDepth 100000 in
theorem bt_law_3 : ([(190, (.aload_n 1, 1)), (191, (.iconst 3, 1)), (192, (.invokestatic 53, 3)), (195, (.istore 13, 2)), (197, (.aload_n 1, 1)), (198, (.iload 11, 2)), (200, (.iload 12, 2)), (202, (.iload 8, 2)), (204, (.sipush 1024, 3)), (207, (.idiv, 1)), (208, (.bipush 20, 2)), (210, (.irem, 1)), (211, (.invokestatic 95, 3)), (214, (.istore 5, 2)), (216, (.iload 6, 2)), (218, (.iload 4, 2)), (220, (.iload 7, 2)), (222, (.ishr, 1)), (223, (.iconst 1, 1)), (224, (.iand, 1)), (225, (.iadd, 1)), (226, (.istore 6, 2)), (228, (.aload_n 1, 1)), (229, (.iload 11, 2)), (231, (.iload 12, 2)), (233, (.invokestatic 81, 3)), (236, (.istore 14, 2)), (238, (.iload 5, 2)), (240, (.ifCond .eq 62, 3)), (243, (.iload 14, 2)), (245, (.ifCond .lt 57, 3)), (248, (.iload 14, 2)), (250, (.iconst 2, 1)), (251, (.if_icmp .gt 51, 3)), (254, (.aload_n 1, 1)), (255, (.iconst 2, 1)), (256, (.invokestatic 53, 3)), (259, (.iload 7, 2)), (261, (.iconst 1, 1)), (262, (.iadd, 1)), (263, (.if_icmp .ne 39, 3)), (266, (.aload_n 1, 1)), (267, (.bipush 6, 2)), (269, (.invokestatic 53, 3)), (272, (.iload 7, 2)), (274, (.iconst 1, 1)), (275, (.iadd, 1)), (276, (.if_icmp .ne 26, 3)), (279, (.aload_n 1, 1)), (280, (.iconst 3, 1)), (281, (.invokestatic 53, 3)), (284, (.iload 13, 2)), (286, (.if_icmp .gt 16, 3)), (289, (.aload_n 1, 1)), (290, (.iload 6, 2)), (292, (.invokestatic 91, 3)), (295, (.ifCond .eq 7, 3)), (298, (.iconst 1, 1)), (299, (.goto 4, 3)), (302, (.iconst 0, 1))] : List (Nat × (Instr × Nat))).all (fun q => decide (decode cL_law q.1 = .ok q.2)) = true := by decide +kernel
theorem dL_law_190 : decode cL_law 190 = .ok (.aload_n 1, 1) := of_decide_eq_true (List.all_eq_true.mp bt_law_3 (190, (.aload_n 1, 1)) (List.mem_of_getElem? (i := 0) rfl))
theorem dL_law_191 : decode cL_law 191 = .ok (.iconst 3, 1) := of_decide_eq_true (List.all_eq_true.mp bt_law_3 (191, (.iconst 3, 1)) (List.mem_of_getElem? (i := 1) rfl))
theorem dL_law_192 : decode cL_law 192 = .ok (.invokestatic 53, 3) := of_decide_eq_true (List.all_eq_true.mp bt_law_3 (192, (.invokestatic 53, 3)) (List.mem_of_getElem? (i := 2) rfl))
theorem dL_law_195 : decode cL_law 195 = .ok (.istore 13, 2) := of_decide_eq_true (List.all_eq_true.mp bt_law_3 (195, (.istore 13, 2)) (List.mem_of_getElem? (i := 3) rfl))
theorem dL_law_197 : decode cL_law 197 = .ok (.aload_n 1, 1) := of_decide_eq_true (List.all_eq_true.mp bt_law_3 (197, (.aload_n 1, 1)) (List.mem_of_getElem? (i := 4) rfl))
theorem dL_law_198 : decode cL_law 198 = .ok (.iload 11, 2) := of_decide_eq_true (List.all_eq_true.mp bt_law_3 (198, (.iload 11, 2)) (List.mem_of_getElem? (i := 5) rfl))
theorem dL_law_200 : decode cL_law 200 = .ok (.iload 12, 2) := of_decide_eq_true (List.all_eq_true.mp bt_law_3 (200, (.iload 12, 2)) (List.mem_of_getElem? (i := 6) rfl))
theorem dL_law_202 : decode cL_law 202 = .ok (.iload 8, 2) := of_decide_eq_true (List.all_eq_true.mp bt_law_3 (202, (.iload 8, 2)) (List.mem_of_getElem? (i := 7) rfl))
theorem dL_law_204 : decode cL_law 204 = .ok (.sipush 1024, 3) := of_decide_eq_true (List.all_eq_true.mp bt_law_3 (204, (.sipush 1024, 3)) (List.mem_of_getElem? (i := 8) rfl))
theorem dL_law_207 : decode cL_law 207 = .ok (.idiv, 1) := of_decide_eq_true (List.all_eq_true.mp bt_law_3 (207, (.idiv, 1)) (List.mem_of_getElem? (i := 9) rfl))
theorem dL_law_208 : decode cL_law 208 = .ok (.bipush 20, 2) := of_decide_eq_true (List.all_eq_true.mp bt_law_3 (208, (.bipush 20, 2)) (List.mem_of_getElem? (i := 10) rfl))
theorem dL_law_210 : decode cL_law 210 = .ok (.irem, 1) := of_decide_eq_true (List.all_eq_true.mp bt_law_3 (210, (.irem, 1)) (List.mem_of_getElem? (i := 11) rfl))
theorem dL_law_211 : decode cL_law 211 = .ok (.invokestatic 95, 3) := of_decide_eq_true (List.all_eq_true.mp bt_law_3 (211, (.invokestatic 95, 3)) (List.mem_of_getElem? (i := 12) rfl))
theorem dL_law_214 : decode cL_law 214 = .ok (.istore 5, 2) := of_decide_eq_true (List.all_eq_true.mp bt_law_3 (214, (.istore 5, 2)) (List.mem_of_getElem? (i := 13) rfl))
theorem dL_law_216 : decode cL_law 216 = .ok (.iload 6, 2) := of_decide_eq_true (List.all_eq_true.mp bt_law_3 (216, (.iload 6, 2)) (List.mem_of_getElem? (i := 14) rfl))
theorem dL_law_218 : decode cL_law 218 = .ok (.iload 4, 2) := of_decide_eq_true (List.all_eq_true.mp bt_law_3 (218, (.iload 4, 2)) (List.mem_of_getElem? (i := 15) rfl))
theorem dL_law_220 : decode cL_law 220 = .ok (.iload 7, 2) := of_decide_eq_true (List.all_eq_true.mp bt_law_3 (220, (.iload 7, 2)) (List.mem_of_getElem? (i := 16) rfl))
theorem dL_law_222 : decode cL_law 222 = .ok (.ishr, 1) := of_decide_eq_true (List.all_eq_true.mp bt_law_3 (222, (.ishr, 1)) (List.mem_of_getElem? (i := 17) rfl))
theorem dL_law_223 : decode cL_law 223 = .ok (.iconst 1, 1) := of_decide_eq_true (List.all_eq_true.mp bt_law_3 (223, (.iconst 1, 1)) (List.mem_of_getElem? (i := 18) rfl))
theorem dL_law_224 : decode cL_law 224 = .ok (.iand, 1) := of_decide_eq_true (List.all_eq_true.mp bt_law_3 (224, (.iand, 1)) (List.mem_of_getElem? (i := 19) rfl))
theorem dL_law_225 : decode cL_law 225 = .ok (.iadd, 1) := of_decide_eq_true (List.all_eq_true.mp bt_law_3 (225, (.iadd, 1)) (List.mem_of_getElem? (i := 20) rfl))
theorem dL_law_226 : decode cL_law 226 = .ok (.istore 6, 2) := of_decide_eq_true (List.all_eq_true.mp bt_law_3 (226, (.istore 6, 2)) (List.mem_of_getElem? (i := 21) rfl))
theorem dL_law_228 : decode cL_law 228 = .ok (.aload_n 1, 1) := of_decide_eq_true (List.all_eq_true.mp bt_law_3 (228, (.aload_n 1, 1)) (List.mem_of_getElem? (i := 22) rfl))
theorem dL_law_229 : decode cL_law 229 = .ok (.iload 11, 2) := of_decide_eq_true (List.all_eq_true.mp bt_law_3 (229, (.iload 11, 2)) (List.mem_of_getElem? (i := 23) rfl))
theorem dL_law_231 : decode cL_law 231 = .ok (.iload 12, 2) := of_decide_eq_true (List.all_eq_true.mp bt_law_3 (231, (.iload 12, 2)) (List.mem_of_getElem? (i := 24) rfl))
theorem dL_law_233 : decode cL_law 233 = .ok (.invokestatic 81, 3) := of_decide_eq_true (List.all_eq_true.mp bt_law_3 (233, (.invokestatic 81, 3)) (List.mem_of_getElem? (i := 25) rfl))
theorem dL_law_236 : decode cL_law 236 = .ok (.istore 14, 2) := of_decide_eq_true (List.all_eq_true.mp bt_law_3 (236, (.istore 14, 2)) (List.mem_of_getElem? (i := 26) rfl))
theorem dL_law_238 : decode cL_law 238 = .ok (.iload 5, 2) := of_decide_eq_true (List.all_eq_true.mp bt_law_3 (238, (.iload 5, 2)) (List.mem_of_getElem? (i := 27) rfl))
theorem dL_law_240 : decode cL_law 240 = .ok (.ifCond .eq 62, 3) := of_decide_eq_true (List.all_eq_true.mp bt_law_3 (240, (.ifCond .eq 62, 3)) (List.mem_of_getElem? (i := 28) rfl))
theorem dL_law_243 : decode cL_law 243 = .ok (.iload 14, 2) := of_decide_eq_true (List.all_eq_true.mp bt_law_3 (243, (.iload 14, 2)) (List.mem_of_getElem? (i := 29) rfl))
theorem dL_law_245 : decode cL_law 245 = .ok (.ifCond .lt 57, 3) := of_decide_eq_true (List.all_eq_true.mp bt_law_3 (245, (.ifCond .lt 57, 3)) (List.mem_of_getElem? (i := 30) rfl))
theorem dL_law_248 : decode cL_law 248 = .ok (.iload 14, 2) := of_decide_eq_true (List.all_eq_true.mp bt_law_3 (248, (.iload 14, 2)) (List.mem_of_getElem? (i := 31) rfl))
theorem dL_law_250 : decode cL_law 250 = .ok (.iconst 2, 1) := of_decide_eq_true (List.all_eq_true.mp bt_law_3 (250, (.iconst 2, 1)) (List.mem_of_getElem? (i := 32) rfl))
theorem dL_law_251 : decode cL_law 251 = .ok (.if_icmp .gt 51, 3) := of_decide_eq_true (List.all_eq_true.mp bt_law_3 (251, (.if_icmp .gt 51, 3)) (List.mem_of_getElem? (i := 33) rfl))
theorem dL_law_254 : decode cL_law 254 = .ok (.aload_n 1, 1) := of_decide_eq_true (List.all_eq_true.mp bt_law_3 (254, (.aload_n 1, 1)) (List.mem_of_getElem? (i := 34) rfl))
theorem dL_law_255 : decode cL_law 255 = .ok (.iconst 2, 1) := of_decide_eq_true (List.all_eq_true.mp bt_law_3 (255, (.iconst 2, 1)) (List.mem_of_getElem? (i := 35) rfl))
theorem dL_law_256 : decode cL_law 256 = .ok (.invokestatic 53, 3) := of_decide_eq_true (List.all_eq_true.mp bt_law_3 (256, (.invokestatic 53, 3)) (List.mem_of_getElem? (i := 36) rfl))
theorem dL_law_259 : decode cL_law 259 = .ok (.iload 7, 2) := of_decide_eq_true (List.all_eq_true.mp bt_law_3 (259, (.iload 7, 2)) (List.mem_of_getElem? (i := 37) rfl))
theorem dL_law_261 : decode cL_law 261 = .ok (.iconst 1, 1) := of_decide_eq_true (List.all_eq_true.mp bt_law_3 (261, (.iconst 1, 1)) (List.mem_of_getElem? (i := 38) rfl))
theorem dL_law_262 : decode cL_law 262 = .ok (.iadd, 1) := of_decide_eq_true (List.all_eq_true.mp bt_law_3 (262, (.iadd, 1)) (List.mem_of_getElem? (i := 39) rfl))
theorem dL_law_263 : decode cL_law 263 = .ok (.if_icmp .ne 39, 3) := of_decide_eq_true (List.all_eq_true.mp bt_law_3 (263, (.if_icmp .ne 39, 3)) (List.mem_of_getElem? (i := 40) rfl))
theorem dL_law_266 : decode cL_law 266 = .ok (.aload_n 1, 1) := of_decide_eq_true (List.all_eq_true.mp bt_law_3 (266, (.aload_n 1, 1)) (List.mem_of_getElem? (i := 41) rfl))
theorem dL_law_267 : decode cL_law 267 = .ok (.bipush 6, 2) := of_decide_eq_true (List.all_eq_true.mp bt_law_3 (267, (.bipush 6, 2)) (List.mem_of_getElem? (i := 42) rfl))
theorem dL_law_269 : decode cL_law 269 = .ok (.invokestatic 53, 3) := of_decide_eq_true (List.all_eq_true.mp bt_law_3 (269, (.invokestatic 53, 3)) (List.mem_of_getElem? (i := 43) rfl))
theorem dL_law_272 : decode cL_law 272 = .ok (.iload 7, 2) := of_decide_eq_true (List.all_eq_true.mp bt_law_3 (272, (.iload 7, 2)) (List.mem_of_getElem? (i := 44) rfl))
theorem dL_law_274 : decode cL_law 274 = .ok (.iconst 1, 1) := of_decide_eq_true (List.all_eq_true.mp bt_law_3 (274, (.iconst 1, 1)) (List.mem_of_getElem? (i := 45) rfl))
theorem dL_law_275 : decode cL_law 275 = .ok (.iadd, 1) := of_decide_eq_true (List.all_eq_true.mp bt_law_3 (275, (.iadd, 1)) (List.mem_of_getElem? (i := 46) rfl))
theorem dL_law_276 : decode cL_law 276 = .ok (.if_icmp .ne 26, 3) := of_decide_eq_true (List.all_eq_true.mp bt_law_3 (276, (.if_icmp .ne 26, 3)) (List.mem_of_getElem? (i := 47) rfl))
theorem dL_law_279 : decode cL_law 279 = .ok (.aload_n 1, 1) := of_decide_eq_true (List.all_eq_true.mp bt_law_3 (279, (.aload_n 1, 1)) (List.mem_of_getElem? (i := 48) rfl))
theorem dL_law_280 : decode cL_law 280 = .ok (.iconst 3, 1) := of_decide_eq_true (List.all_eq_true.mp bt_law_3 (280, (.iconst 3, 1)) (List.mem_of_getElem? (i := 49) rfl))
theorem dL_law_281 : decode cL_law 281 = .ok (.invokestatic 53, 3) := of_decide_eq_true (List.all_eq_true.mp bt_law_3 (281, (.invokestatic 53, 3)) (List.mem_of_getElem? (i := 50) rfl))
theorem dL_law_284 : decode cL_law 284 = .ok (.iload 13, 2) := of_decide_eq_true (List.all_eq_true.mp bt_law_3 (284, (.iload 13, 2)) (List.mem_of_getElem? (i := 51) rfl))
theorem dL_law_286 : decode cL_law 286 = .ok (.if_icmp .gt 16, 3) := of_decide_eq_true (List.all_eq_true.mp bt_law_3 (286, (.if_icmp .gt 16, 3)) (List.mem_of_getElem? (i := 52) rfl))
theorem dL_law_289 : decode cL_law 289 = .ok (.aload_n 1, 1) := of_decide_eq_true (List.all_eq_true.mp bt_law_3 (289, (.aload_n 1, 1)) (List.mem_of_getElem? (i := 53) rfl))
theorem dL_law_290 : decode cL_law 290 = .ok (.iload 6, 2) := of_decide_eq_true (List.all_eq_true.mp bt_law_3 (290, (.iload 6, 2)) (List.mem_of_getElem? (i := 54) rfl))
theorem dL_law_292 : decode cL_law 292 = .ok (.invokestatic 91, 3) := of_decide_eq_true (List.all_eq_true.mp bt_law_3 (292, (.invokestatic 91, 3)) (List.mem_of_getElem? (i := 55) rfl))
theorem dL_law_295 : decode cL_law 295 = .ok (.ifCond .eq 7, 3) := of_decide_eq_true (List.all_eq_true.mp bt_law_3 (295, (.ifCond .eq 7, 3)) (List.mem_of_getElem? (i := 56) rfl))
theorem dL_law_298 : decode cL_law 298 = .ok (.iconst 1, 1) := of_decide_eq_true (List.all_eq_true.mp bt_law_3 (298, (.iconst 1, 1)) (List.mem_of_getElem? (i := 57) rfl))
theorem dL_law_299 : decode cL_law 299 = .ok (.goto 4, 3) := of_decide_eq_true (List.all_eq_true.mp bt_law_3 (299, (.goto 4, 3)) (List.mem_of_getElem? (i := 58) rfl))
theorem dL_law_302 : decode cL_law 302 = .ok (.iconst 0, 1) := of_decide_eq_true (List.all_eq_true.mp bt_law_3 (302, (.iconst 0, 1)) (List.mem_of_getElem? (i := 59) rfl))
set_option maxRecDepth 100000 in
theorem bt_law_4 : ([(303, (.istore 5, 2)), (305, (.iinc 7 1, 3)), (308, (.goto (-185), 3)), (311, (.aload_n 1, 1)), (312, (.iconst 3, 1)), (313, (.invokestatic 53, 3)), (316, (.istore 7, 2)), (318, (.iload 5, 2)), (320, (.ifCond .eq 64, 3)), (323, (.aload_n 1, 1)), (324, (.invokevirtual 99, 3)), (327, (.bipush 24, 2)), (329, (.if_icmp .ne 55, 3)), (332, (.aload_n 1, 1)), (333, (.iconst 3, 1)), (334, (.invokestatic 53, 3)), (337, (.iconst 2, 1)), (338, (.iload_n 2, 1)), (339, (.imul, 1)), (340, (.iconst 1, 1)), (341, (.iadd, 1)), (342, (.if_icmp .ne 42, 3)), (345, (.aload_n 1, 1)), (346, (.iconst 2, 1)), (347, (.invokestatic 53, 3)), (350, (.ifCond .ne 34, 3)), (353, (.aload_n 1, 1)), (354, (.invokestatic 102, 3)), (357, (.ifCond .lt 27, 3)), (360, (.aload_n 1, 1)), (361, (.iconst 3, 1)), (362, (.invokestatic 53, 3)), (365, (.iload 7, 2)), (367, (.if_icmp .ne 17, 3)), (370, (.aload_n 1, 1)), (371, (.iconst 2, 1)), (372, (.invokestatic 53, 3)), (375, (.bipush 24, 2)), (377, (.if_icmp .ne 7, 3)), (380, (.iconst 1, 1)), (381, (.goto 4, 3)), (384, (.iconst 0, 1)), (385, (.istore 5, 2)), (387, (.iload 5, 2)), (389, (.ifCond .eq 38, 3)), (392, (.aload_n 1, 1)), (393, (.iconst 0, 1)), (394, (.iconst 1, 1)), (395, (.invokestatic 81, 3)), (398, (.ldc 17, 2)), (400, (.if_icmp .ne 27, 3)), (403, (.aload_n 1, 1)), (404, (.iconst 1, 1)), (405, (.iconst 1, 1)), (406, (.invokestatic 81, 3)), (409, (.ldc 17, 2)), (411, (.if_icmp .ne 16, 3)), (414, (.aload_n 1, 1)), (415, (.iload 6, 2)), (417, (.invokestatic 91, 3))] : List (Nat × (Instr × Nat))).all (fun q => decide (decode cL_law q.1 = .ok q.2)) = true := by decide +kernel
theorem dL_law_303 : decode cL_law 303 = .ok (.istore 5, 2) := of_decide_eq_true (List.all_eq_true.mp bt_law_4 (303, (.istore 5, 2)) (List.mem_of_getElem? (i := 0) rfl))
theorem dL_law_305 : decode cL_law 305 = .ok (.iinc 7 1, 3) := of_decide_eq_true (List.all_eq_true.mp bt_law_4 (305, (.iinc 7 1, 3)) (List.mem_of_getElem? (i := 1) rfl))
theorem dL_law_308 : decode cL_law 308 = .ok (.goto (-185), 3) := of_decide_eq_true (List.all_eq_true.mp bt_law_4 (308, (.goto (-185), 3)) (List.mem_of_getElem? (i := 2) rfl))
theorem dL_law_311 : decode cL_law 311 = .ok (.aload_n 1, 1) := of_decide_eq_true (List.all_eq_true.mp bt_law_4 (311, (.aload_n 1, 1)) (List.mem_of_getElem? (i := 3) rfl))
theorem dL_law_312 : decode cL_law 312 = .ok (.iconst 3, 1) := of_decide_eq_true (List.all_eq_true.mp bt_law_4 (312, (.iconst 3, 1)) (List.mem_of_getElem? (i := 4) rfl))
theorem dL_law_313 : decode cL_law 313 = .ok (.invokestatic 53, 3) := of_decide_eq_true (List.all_eq_true.mp bt_law_4 (313, (.invokestatic 53, 3)) (List.mem_of_getElem? (i := 5) rfl))
theorem dL_law_316 : decode cL_law 316 = .ok (.istore 7, 2) := of_decide_eq_true (List.all_eq_true.mp bt_law_4 (316, (.istore 7, 2)) (List.mem_of_getElem? (i := 6) rfl))
theorem dL_law_318 : decode cL_law 318 = .ok (.iload 5, 2) := of_decide_eq_true (List.all_eq_true.mp bt_law_4 (318, (.iload 5, 2)) (List.mem_of_getElem? (i := 7) rfl))
theorem dL_law_320 : decode cL_law 320 = .ok (.ifCond .eq 64, 3) := of_decide_eq_true (List.all_eq_true.mp bt_law_4 (320, (.ifCond .eq 64, 3)) (List.mem_of_getElem? (i := 8) rfl))
theorem dL_law_323 : decode cL_law 323 = .ok (.aload_n 1, 1) := of_decide_eq_true (List.all_eq_true.mp bt_law_4 (323, (.aload_n 1, 1)) (List.mem_of_getElem? (i := 9) rfl))
theorem dL_law_324 : decode cL_law 324 = .ok (.invokevirtual 99, 3) := of_decide_eq_true (List.all_eq_true.mp bt_law_4 (324, (.invokevirtual 99, 3)) (List.mem_of_getElem? (i := 10) rfl))
theorem dL_law_327 : decode cL_law 327 = .ok (.bipush 24, 2) := of_decide_eq_true (List.all_eq_true.mp bt_law_4 (327, (.bipush 24, 2)) (List.mem_of_getElem? (i := 11) rfl))
theorem dL_law_329 : decode cL_law 329 = .ok (.if_icmp .ne 55, 3) := of_decide_eq_true (List.all_eq_true.mp bt_law_4 (329, (.if_icmp .ne 55, 3)) (List.mem_of_getElem? (i := 12) rfl))
theorem dL_law_332 : decode cL_law 332 = .ok (.aload_n 1, 1) := of_decide_eq_true (List.all_eq_true.mp bt_law_4 (332, (.aload_n 1, 1)) (List.mem_of_getElem? (i := 13) rfl))
theorem dL_law_333 : decode cL_law 333 = .ok (.iconst 3, 1) := of_decide_eq_true (List.all_eq_true.mp bt_law_4 (333, (.iconst 3, 1)) (List.mem_of_getElem? (i := 14) rfl))
theorem dL_law_334 : decode cL_law 334 = .ok (.invokestatic 53, 3) := of_decide_eq_true (List.all_eq_true.mp bt_law_4 (334, (.invokestatic 53, 3)) (List.mem_of_getElem? (i := 15) rfl))
theorem dL_law_337 : decode cL_law 337 = .ok (.iconst 2, 1) := of_decide_eq_true (List.all_eq_true.mp bt_law_4 (337, (.iconst 2, 1)) (List.mem_of_getElem? (i := 16) rfl))
theorem dL_law_338 : decode cL_law 338 = .ok (.iload_n 2, 1) := of_decide_eq_true (List.all_eq_true.mp bt_law_4 (338, (.iload_n 2, 1)) (List.mem_of_getElem? (i := 17) rfl))
theorem dL_law_339 : decode cL_law 339 = .ok (.imul, 1) := of_decide_eq_true (List.all_eq_true.mp bt_law_4 (339, (.imul, 1)) (List.mem_of_getElem? (i := 18) rfl))
theorem dL_law_340 : decode cL_law 340 = .ok (.iconst 1, 1) := of_decide_eq_true (List.all_eq_true.mp bt_law_4 (340, (.iconst 1, 1)) (List.mem_of_getElem? (i := 19) rfl))
theorem dL_law_341 : decode cL_law 341 = .ok (.iadd, 1) := of_decide_eq_true (List.all_eq_true.mp bt_law_4 (341, (.iadd, 1)) (List.mem_of_getElem? (i := 20) rfl))
theorem dL_law_342 : decode cL_law 342 = .ok (.if_icmp .ne 42, 3) := of_decide_eq_true (List.all_eq_true.mp bt_law_4 (342, (.if_icmp .ne 42, 3)) (List.mem_of_getElem? (i := 21) rfl))
theorem dL_law_345 : decode cL_law 345 = .ok (.aload_n 1, 1) := of_decide_eq_true (List.all_eq_true.mp bt_law_4 (345, (.aload_n 1, 1)) (List.mem_of_getElem? (i := 22) rfl))
theorem dL_law_346 : decode cL_law 346 = .ok (.iconst 2, 1) := of_decide_eq_true (List.all_eq_true.mp bt_law_4 (346, (.iconst 2, 1)) (List.mem_of_getElem? (i := 23) rfl))
theorem dL_law_347 : decode cL_law 347 = .ok (.invokestatic 53, 3) := of_decide_eq_true (List.all_eq_true.mp bt_law_4 (347, (.invokestatic 53, 3)) (List.mem_of_getElem? (i := 24) rfl))
theorem dL_law_350 : decode cL_law 350 = .ok (.ifCond .ne 34, 3) := of_decide_eq_true (List.all_eq_true.mp bt_law_4 (350, (.ifCond .ne 34, 3)) (List.mem_of_getElem? (i := 25) rfl))
theorem dL_law_353 : decode cL_law 353 = .ok (.aload_n 1, 1) := of_decide_eq_true (List.all_eq_true.mp bt_law_4 (353, (.aload_n 1, 1)) (List.mem_of_getElem? (i := 26) rfl))
theorem dL_law_354 : decode cL_law 354 = .ok (.invokestatic 102, 3) := of_decide_eq_true (List.all_eq_true.mp bt_law_4 (354, (.invokestatic 102, 3)) (List.mem_of_getElem? (i := 27) rfl))
theorem dL_law_357 : decode cL_law 357 = .ok (.ifCond .lt 27, 3) := of_decide_eq_true (List.all_eq_true.mp bt_law_4 (357, (.ifCond .lt 27, 3)) (List.mem_of_getElem? (i := 28) rfl))
theorem dL_law_360 : decode cL_law 360 = .ok (.aload_n 1, 1) := of_decide_eq_true (List.all_eq_true.mp bt_law_4 (360, (.aload_n 1, 1)) (List.mem_of_getElem? (i := 29) rfl))
theorem dL_law_361 : decode cL_law 361 = .ok (.iconst 3, 1) := of_decide_eq_true (List.all_eq_true.mp bt_law_4 (361, (.iconst 3, 1)) (List.mem_of_getElem? (i := 30) rfl))
theorem dL_law_362 : decode cL_law 362 = .ok (.invokestatic 53, 3) := of_decide_eq_true (List.all_eq_true.mp bt_law_4 (362, (.invokestatic 53, 3)) (List.mem_of_getElem? (i := 31) rfl))
theorem dL_law_365 : decode cL_law 365 = .ok (.iload 7, 2) := of_decide_eq_true (List.all_eq_true.mp bt_law_4 (365, (.iload 7, 2)) (List.mem_of_getElem? (i := 32) rfl))
theorem dL_law_367 : decode cL_law 367 = .ok (.if_icmp .ne 17, 3) := of_decide_eq_true (List.all_eq_true.mp bt_law_4 (367, (.if_icmp .ne 17, 3)) (List.mem_of_getElem? (i := 33) rfl))
theorem dL_law_370 : decode cL_law 370 = .ok (.aload_n 1, 1) := of_decide_eq_true (List.all_eq_true.mp bt_law_4 (370, (.aload_n 1, 1)) (List.mem_of_getElem? (i := 34) rfl))
theorem dL_law_371 : decode cL_law 371 = .ok (.iconst 2, 1) := of_decide_eq_true (List.all_eq_true.mp bt_law_4 (371, (.iconst 2, 1)) (List.mem_of_getElem? (i := 35) rfl))
theorem dL_law_372 : decode cL_law 372 = .ok (.invokestatic 53, 3) := of_decide_eq_true (List.all_eq_true.mp bt_law_4 (372, (.invokestatic 53, 3)) (List.mem_of_getElem? (i := 36) rfl))
theorem dL_law_375 : decode cL_law 375 = .ok (.bipush 24, 2) := of_decide_eq_true (List.all_eq_true.mp bt_law_4 (375, (.bipush 24, 2)) (List.mem_of_getElem? (i := 37) rfl))
theorem dL_law_377 : decode cL_law 377 = .ok (.if_icmp .ne 7, 3) := of_decide_eq_true (List.all_eq_true.mp bt_law_4 (377, (.if_icmp .ne 7, 3)) (List.mem_of_getElem? (i := 38) rfl))
theorem dL_law_380 : decode cL_law 380 = .ok (.iconst 1, 1) := of_decide_eq_true (List.all_eq_true.mp bt_law_4 (380, (.iconst 1, 1)) (List.mem_of_getElem? (i := 39) rfl))
theorem dL_law_381 : decode cL_law 381 = .ok (.goto 4, 3) := of_decide_eq_true (List.all_eq_true.mp bt_law_4 (381, (.goto 4, 3)) (List.mem_of_getElem? (i := 40) rfl))
theorem dL_law_384 : decode cL_law 384 = .ok (.iconst 0, 1) := of_decide_eq_true (List.all_eq_true.mp bt_law_4 (384, (.iconst 0, 1)) (List.mem_of_getElem? (i := 41) rfl))
theorem dL_law_385 : decode cL_law 385 = .ok (.istore 5, 2) := of_decide_eq_true (List.all_eq_true.mp bt_law_4 (385, (.istore 5, 2)) (List.mem_of_getElem? (i := 42) rfl))
theorem dL_law_387 : decode cL_law 387 = .ok (.iload 5, 2) := of_decide_eq_true (List.all_eq_true.mp bt_law_4 (387, (.iload 5, 2)) (List.mem_of_getElem? (i := 43) rfl))
theorem dL_law_389 : decode cL_law 389 = .ok (.ifCond .eq 38, 3) := of_decide_eq_true (List.all_eq_true.mp bt_law_4 (389, (.ifCond .eq 38, 3)) (List.mem_of_getElem? (i := 44) rfl))
theorem dL_law_392 : decode cL_law 392 = .ok (.aload_n 1, 1) := of_decide_eq_true (List.all_eq_true.mp bt_law_4 (392, (.aload_n 1, 1)) (List.mem_of_getElem? (i := 45) rfl))
theorem dL_law_393 : decode cL_law 393 = .ok (.iconst 0, 1) := of_decide_eq_true (List.all_eq_true.mp bt_law_4 (393, (.iconst 0, 1)) (List.mem_of_getElem? (i := 46) rfl))
theorem dL_law_394 : decode cL_law 394 = .ok (.iconst 1, 1) := of_decide_eq_true (List.all_eq_true.mp bt_law_4 (394, (.iconst 1, 1)) (List.mem_of_getElem? (i := 47) rfl))
theorem dL_law_395 : decode cL_law 395 = .ok (.invokestatic 81, 3) := of_decide_eq_true (List.all_eq_true.mp bt_law_4 (395, (.invokestatic 81, 3)) (List.mem_of_getElem? (i := 48) rfl))
theorem dL_law_398 : decode cL_law 398 = .ok (.ldc 17, 2) := of_decide_eq_true (List.all_eq_true.mp bt_law_4 (398, (.ldc 17, 2)) (List.mem_of_getElem? (i := 49) rfl))
theorem dL_law_400 : decode cL_law 400 = .ok (.if_icmp .ne 27, 3) := of_decide_eq_true (List.all_eq_true.mp bt_law_4 (400, (.if_icmp .ne 27, 3)) (List.mem_of_getElem? (i := 50) rfl))
theorem dL_law_403 : decode cL_law 403 = .ok (.aload_n 1, 1) := of_decide_eq_true (List.all_eq_true.mp bt_law_4 (403, (.aload_n 1, 1)) (List.mem_of_getElem? (i := 51) rfl))
theorem dL_law_404 : decode cL_law 404 = .ok (.iconst 1, 1) := of_decide_eq_true (List.all_eq_true.mp bt_law_4 (404, (.iconst 1, 1)) (List.mem_of_getElem? (i := 52) rfl))
theorem dL_law_405 : decode cL_law 405 = .ok (.iconst 1, 1) := of_decide_eq_true (List.all_eq_true.mp bt_law_4 (405, (.iconst 1, 1)) (List.mem_of_getElem? (i := 53) rfl))
theorem dL_law_406 : decode cL_law 406 = .ok (.invokestatic 81, 3) := of_decide_eq_true (List.all_eq_true.mp bt_law_4 (406, (.invokestatic 81, 3)) (List.mem_of_getElem? (i := 54) rfl))
theorem dL_law_409 : decode cL_law 409 = .ok (.ldc 17, 2) := of_decide_eq_true (List.all_eq_true.mp bt_law_4 (409, (.ldc 17, 2)) (List.mem_of_getElem? (i := 55) rfl))
theorem dL_law_411 : decode cL_law 411 = .ok (.if_icmp .ne 16, 3) := of_decide_eq_true (List.all_eq_true.mp bt_law_4 (411, (.if_icmp .ne 16, 3)) (List.mem_of_getElem? (i := 56) rfl))
theorem dL_law_414 : decode cL_law 414 = .ok (.aload_n 1, 1) := of_decide_eq_true (List.all_eq_true.mp bt_law_4 (414, (.aload_n 1, 1)) (List.mem_of_getElem? (i := 57) rfl))
theorem dL_law_415 : decode cL_law 415 = .ok (.iload 6, 2) := of_decide_eq_true (List.all_eq_true.mp bt_law_4 (415, (.iload 6, 2)) (List.mem_of_getElem? (i := 58) rfl))
theorem dL_law_417 : decode cL_law 417 = .ok (.invokestatic 91, 3) := of_decide_eq_true (List.all_eq_true.mp bt_law_4 (417, (.invokestatic 91, 3)) (List.mem_of_getElem? (i := 59) rfl))
set_option maxRecDepth 100000 in
theorem bt_law_5 : ([(420, (.ifCond .eq 7, 3)), (423, (.iconst 1, 1)), (424, (.goto 4, 3)), (427, (.iconst 0, 1)), (428, (.ireturn, 1))] : List (Nat × (Instr × Nat))).all (fun q => decide (decode cL_law q.1 = .ok q.2)) = true := by decide +kernel
theorem dL_law_420 : decode cL_law 420 = .ok (.ifCond .eq 7, 3) := of_decide_eq_true (List.all_eq_true.mp bt_law_5 (420, (.ifCond .eq 7, 3)) (List.mem_of_getElem? (i := 0) rfl))
theorem dL_law_423 : decode cL_law 423 = .ok (.iconst 1, 1) := of_decide_eq_true (List.all_eq_true.mp bt_law_5 (423, (.iconst 1, 1)) (List.mem_of_getElem? (i := 1) rfl))
theorem dL_law_424 : decode cL_law 424 = .ok (.goto 4, 3) := of_decide_eq_true (List.all_eq_true.mp bt_law_5 (424, (.goto 4, 3)) (List.mem_of_getElem? (i := 2) rfl))
theorem dL_law_427 : decode cL_law 427 = .ok (.iconst 0, 1) := of_decide_eq_true (List.all_eq_true.mp bt_law_5 (427, (.iconst 0, 1)) (List.mem_of_getElem? (i := 3) rfl))
theorem dL_law_428 : decode cL_law 428 = .ok (.ireturn, 1) := of_decide_eq_true (List.all_eq_true.mp bt_law_5 (428, (.ireturn, 1)) (List.mem_of_getElem? (i := 4) rfl))
