def F_X4_begin (Z0 : Nat → St) (v1 : Int32) : Option (Sum String (Int32 × (Nat → St))) :=
  if v1 < 2 then (some (.inl "java/lang/IllegalArgumentException")) else (if v1 ≤ 16 then ((F_X0_save Z0).bind fun t3 => (F_X2_start (t3 0) v1).bind fun t5 => some (.inr ((t3 0).1 5, zU t3 0 t5))) else (some (.inl "java/lang/IllegalArgumentException")))
def F_X4_setLimit (Z0 : Nat → St) (v1 : Int32) : Option (Sum String (Int32 × (Nat → St))) :=
  if v1 < 0 then (some (.inl "java/lang/IllegalArgumentException")) else (if v1 ≤ 2 then ((F_X0_save Z0).bind fun t3 => (F_X2_countLeft ((zU t3 0 (sI (t3 0) 1 v1)) 0)).bind fun t5 => some (.inr (t5, zU t3 0 (sI (t3 0) 1 v1)))) else (some (.inl "java/lang/IllegalArgumentException")))
def F_X4_tell (Z0 : Nat → St) (v1 : Int32) (v2 : Int32) (v3 : Int32) : Option (Sum String (Int32 × (Nat → St))) :=
  (F_X2_isWeighing (Z0 0) v1 v2).bind fun t1 => if t1 = 0 then (some (.inl "java/lang/IllegalArgumentException")) else ((F_X4_isAnswer v3).bind fun t3 => if t3 = 0 then (some (.inl "java/lang/IllegalArgumentException")) else ((F_X2_canLearn (Z0 0)).bind fun t5 => if t5 = 0 then (some (.inl "java/lang/IllegalStateException")) else ((F_X0_save Z0).bind fun t7 => (F_X2_learn (t7 0) v1 v2 v3).bind fun t9 => (F_X2_countLeft ((zU t7 0 t9) 0)).bind fun t10 => some (.inr (t10, zU t7 0 t9)))))
def F_X4_forget (Z0 : Nat → St) : Option (Int32 × (Nat → St)) :=
  (F_X0_save Z0).bind fun t1 => (F_X2_forgetTold (t1 0)).bind fun t3 => some ((t1 0).1 5, zU t1 0 t3)
def F_X4_hide (Z0 : Nat → St) (v1 : Int32) (v2 : Int32) : Option (Sum String (Int32 × (Nat → St))) :=
  (F_X2_isCase (Z0 0) v1).bind fun t1 => if t1 = 0 then (some (.inl "java/lang/IndexOutOfBoundsException")) else (if v2 < 0 then (some (.inl "java/lang/IllegalArgumentException")) else (if v2 ≤ 1073741823 then ((F_X0_save Z0).bind fun t5 => (F_X2_hideCase (t5 0) v1 v2).bind fun t7 => some (.inr ((t5 0).1 2, zU t5 0 t7))) else (some (.inl "java/lang/IllegalArgumentException"))))
def F_X4_ask (Z0 : Nat → St) (v1 : Int32) (v2 : Int32) : Option (Sum String (Int32 × (Nat → St))) :=
  (F_X2_isWeighing (Z0 0) v1 v2).bind fun t1 => if t1 = 0 then (some (.inl "java/lang/IllegalArgumentException")) else ((F_X2_canReply (Z0 0)).bind fun t3 => if t3 = 0 then (some (.inl "java/lang/IllegalStateException")) else ((F_X0_save Z0).bind fun t5 => (F_X2_reply (t5 0) v1 v2).bind fun t7 => some (.inr (t7.1, zU t5 0 t7.2))))
def F_X4_add (Z0 : Nat → St) (v1 : Int32) (v2 : Int32) : Option (Sum String (Int32 × (Nat → St))) :=
  (F_X2_isWeighing (Z0 0) v1 v2).bind fun t1 => if t1 = 0 then (some (.inl "java/lang/IllegalArgumentException")) else ((F_X2_canPlan (Z0 0)).bind fun t3 => if t3 = 0 then (some (.inl "java/lang/IllegalStateException")) else ((F_X0_save Z0).bind fun t5 => (F_X2_planWeighing (t5 0) v1 v2).bind fun t7 => some (.inr ((t5 0).1 6, zU t5 0 t7))))
def F_X4_removeLast (Z0 : Nat → St) : Option (Sum String (Int32 × (Nat → St))) :=
  if ((Z0 0).1 6) = 0 then (some (.inl "java/lang/IllegalStateException")) else ((F_X0_save Z0).bind fun t2 => (F_X3_dropLast 8 (plS (t2 0))).bind fun t4 => some (.inr (((zU t2 0 (plU (t2 0) t4)) 0).1 6, zU t2 0 (plU (t2 0) t4))))
def F_X4_lies (Z0 : Nat → St) (v1 : Int32) : Option (Sum String (Int32 × (Nat → St))) :=
  (F_X2_isCase (Z0 0) v1).bind fun t1 => if t1 = 0 then (some (.inl "java/lang/IndexOutOfBoundsException")) else ((F_X4_at 33 ((Z0 0).2 6) v1).bind fun t3 => some (.inr (t3, Z0)))
def F_X4_answer (Z0 : Nat → St) (v1 : Int32) (v2 : Int32) (v3 : Int32) : Option (Sum String (Int32 × (Nat → St))) :=
  (F_X2_isCase (Z0 0) v1).bind fun t1 => if t1 = 0 then (some (.inl "java/lang/IndexOutOfBoundsException")) else ((F_X2_isWeighing (Z0 0) v2 v3).bind fun t3 => if t3 = 0 then (some (.inl "java/lang/IllegalArgumentException")) else ((F_X4_trueAnswer v1 v2 v3).bind fun t5 => some (.inr (t5, Z0))))
def F_X4_leftCase (Z0 : Nat → St) (v1 : Int32) : Option (Sum String (Int32 × (Nat → St))) :=
  (F_X2_findLeft (Z0 0) v1).bind fun t1 => if t1 = ((-1)) then (some (.inl "java/lang/IndexOutOfBoundsException")) else (some (.inr (t1, Z0)))
theorem atmX4_begin_34 : ∀ w ∈ (vx_atS RX4 34 "java/lang/IllegalArgumentException" ["java/lang/RuntimeException", "java/lang/Exception"]).filter goodWord, w ∈ wsX4_begin := fun w h => by
  unfold wsX4_begin
  refine List.mem_cons_of_mem _ ?_
  first | exact List.mem_append_right _ h | exact List.mem_append_left _ (List.mem_append_right _ h) | exact List.mem_append_left _ (List.mem_append_left _ (List.mem_append_right _ h))
theorem inX4_begin_2 : ∀ w ∈ u_ws RX2 TX2 9, w ∈ wsX4_begin := by decide +kernel
theorem inX4_begin_3 : ∀ w ∈ u_ws RX3 TX3 4, w ∈ wsX4_begin := by decide +kernel
theorem inX4_begin_4 : ∀ w ∈ u_ws RX4 TX4 3, w ∈ wsX4_begin := by decide +kernel
theorem hdS_X4_begin : yX4_begin.cls ≠ "java/lang/invoke/MethodHandle" ∧ yX4_begin.cls ≠ "java/lang/invoke/VarHandle" ∧ (parseMethodDescriptor yX4_begin.desc).map (fun d => d.parameters.length) = some 1 := by decide +kernel
theorem hdV_X4_begin : yX4_begin.cls = RX4 ∧ yX4_begin.cls ≠ "java/lang/invoke/MethodHandle" ∧ yX4_begin.cls ≠ "java/lang/invoke/VarHandle" ∧ (parseMethodDescriptor yX4_begin.desc).map (fun d => d.parameters.length) = some 1 := by decide +kernel
theorem atmX4_setLimit_34 : ∀ w ∈ (vx_atS RX4 34 "java/lang/IllegalArgumentException" ["java/lang/RuntimeException", "java/lang/Exception"]).filter goodWord, w ∈ wsX4_setLimit := fun w h => by
  unfold wsX4_setLimit
  refine List.mem_cons_of_mem _ ?_
  first | exact List.mem_append_right _ h | exact List.mem_append_left _ (List.mem_append_right _ h) | exact List.mem_append_left _ (List.mem_append_left _ (List.mem_append_right _ h))
theorem inX4_setLimit_2 : ∀ w ∈ u_ws RX2 TX2 9, w ∈ wsX4_setLimit := by decide +kernel
theorem inX4_setLimit_4 : ∀ w ∈ u_ws RX4 TX4 3, w ∈ wsX4_setLimit := by decide +kernel
theorem hdS_X4_setLimit : yX4_setLimit.cls ≠ "java/lang/invoke/MethodHandle" ∧ yX4_setLimit.cls ≠ "java/lang/invoke/VarHandle" ∧ (parseMethodDescriptor yX4_setLimit.desc).map (fun d => d.parameters.length) = some 1 := by decide +kernel
theorem hdV_X4_setLimit : yX4_setLimit.cls = RX4 ∧ yX4_setLimit.cls ≠ "java/lang/invoke/MethodHandle" ∧ yX4_setLimit.cls ≠ "java/lang/invoke/VarHandle" ∧ (parseMethodDescriptor yX4_setLimit.desc).map (fun d => d.parameters.length) = some 1 := by decide +kernel
theorem atmX4_tell_34 : ∀ w ∈ (vx_atS RX4 34 "java/lang/IllegalArgumentException" ["java/lang/RuntimeException", "java/lang/Exception"]).filter goodWord, w ∈ wsX4_tell := fun w h => by
  unfold wsX4_tell
  refine List.mem_cons_of_mem _ ?_
  first | exact List.mem_append_right _ h | exact List.mem_append_left _ (List.mem_append_right _ h) | exact List.mem_append_left _ (List.mem_append_left _ (List.mem_append_right _ h))
theorem atmX4_tell_82 : ∀ w ∈ (vx_atS RX4 82 "java/lang/IllegalStateException" ["java/lang/RuntimeException", "java/lang/Exception"]).filter goodWord, w ∈ wsX4_tell := fun w h => by
  unfold wsX4_tell
  refine List.mem_cons_of_mem _ ?_
  first | exact List.mem_append_right _ h | exact List.mem_append_left _ (List.mem_append_right _ h) | exact List.mem_append_left _ (List.mem_append_left _ (List.mem_append_right _ h))
theorem inX4_tell_4 : ∀ w ∈ u_ws RX4 TX4 3, w ∈ wsX4_tell := by decide +kernel
theorem hdS_X4_tell : yX4_tell.cls ≠ "java/lang/invoke/MethodHandle" ∧ yX4_tell.cls ≠ "java/lang/invoke/VarHandle" ∧ (parseMethodDescriptor yX4_tell.desc).map (fun d => d.parameters.length) = some 3 := by decide +kernel
theorem hdV_X4_tell : yX4_tell.cls = RX4 ∧ yX4_tell.cls ≠ "java/lang/invoke/MethodHandle" ∧ yX4_tell.cls ≠ "java/lang/invoke/VarHandle" ∧ (parseMethodDescriptor yX4_tell.desc).map (fun d => d.parameters.length) = some 3 := by decide +kernel
theorem inX4_forget_2 : ∀ w ∈ u_ws RX2 TX2 9, w ∈ wsX4_forget := by decide +kernel
theorem inX4_forget_3 : ∀ w ∈ u_ws RX3 TX3 4, w ∈ wsX4_forget := by decide +kernel
theorem inX4_forget_4 : ∀ w ∈ u_ws RX4 TX4 3, w ∈ wsX4_forget := by decide +kernel
theorem hdS_X4_forget : yX4_forget.cls ≠ "java/lang/invoke/MethodHandle" ∧ yX4_forget.cls ≠ "java/lang/invoke/VarHandle" ∧ (parseMethodDescriptor yX4_forget.desc).map (fun d => d.parameters.length) = some 0 := by decide +kernel
theorem hdV_X4_forget : yX4_forget.cls = RX4 ∧ yX4_forget.cls ≠ "java/lang/invoke/MethodHandle" ∧ yX4_forget.cls ≠ "java/lang/invoke/VarHandle" ∧ (parseMethodDescriptor yX4_forget.desc).map (fun d => d.parameters.length) = some 0 := by decide +kernel
theorem atmX4_hide_34 : ∀ w ∈ (vx_atS RX4 34 "java/lang/IllegalArgumentException" ["java/lang/RuntimeException", "java/lang/Exception"]).filter goodWord, w ∈ wsX4_hide := fun w h => by
  unfold wsX4_hide
  refine List.mem_cons_of_mem _ ?_
  first | exact List.mem_append_right _ h | exact List.mem_append_left _ (List.mem_append_right _ h) | exact List.mem_append_left _ (List.mem_append_left _ (List.mem_append_right _ h))
theorem atmX4_hide_97 : ∀ w ∈ (vx_atS RX4 97 "java/lang/IndexOutOfBoundsException" ["java/lang/RuntimeException", "java/lang/Exception"]).filter goodWord, w ∈ wsX4_hide := fun w h => by
  unfold wsX4_hide
  refine List.mem_cons_of_mem _ ?_
  first | exact List.mem_append_right _ h | exact List.mem_append_left _ (List.mem_append_right _ h) | exact List.mem_append_left _ (List.mem_append_left _ (List.mem_append_right _ h))
theorem inX4_hide_2 : ∀ w ∈ u_ws RX2 TX2 9, w ∈ wsX4_hide := by decide +kernel
theorem inX4_hide_4 : ∀ w ∈ u_ws RX4 TX4 3, w ∈ wsX4_hide := by decide +kernel
theorem hdS_X4_hide : yX4_hide.cls ≠ "java/lang/invoke/MethodHandle" ∧ yX4_hide.cls ≠ "java/lang/invoke/VarHandle" ∧ (parseMethodDescriptor yX4_hide.desc).map (fun d => d.parameters.length) = some 2 := by decide +kernel
theorem hdV_X4_hide : yX4_hide.cls = RX4 ∧ yX4_hide.cls ≠ "java/lang/invoke/MethodHandle" ∧ yX4_hide.cls ≠ "java/lang/invoke/VarHandle" ∧ (parseMethodDescriptor yX4_hide.desc).map (fun d => d.parameters.length) = some 2 := by decide +kernel
theorem atmX4_ask_34 : ∀ w ∈ (vx_atS RX4 34 "java/lang/IllegalArgumentException" ["java/lang/RuntimeException", "java/lang/Exception"]).filter goodWord, w ∈ wsX4_ask := fun w h => by
  unfold wsX4_ask
  refine List.mem_cons_of_mem _ ?_
  first | exact List.mem_append_right _ h | exact List.mem_append_left _ (List.mem_append_right _ h) | exact List.mem_append_left _ (List.mem_append_left _ (List.mem_append_right _ h))
theorem atmX4_ask_82 : ∀ w ∈ (vx_atS RX4 82 "java/lang/IllegalStateException" ["java/lang/RuntimeException", "java/lang/Exception"]).filter goodWord, w ∈ wsX4_ask := fun w h => by
  unfold wsX4_ask
  refine List.mem_cons_of_mem _ ?_
  first | exact List.mem_append_right _ h | exact List.mem_append_left _ (List.mem_append_right _ h) | exact List.mem_append_left _ (List.mem_append_left _ (List.mem_append_right _ h))
theorem inX4_ask_4 : ∀ w ∈ u_ws RX4 TX4 3, w ∈ wsX4_ask := by decide +kernel
theorem hdS_X4_ask : yX4_ask.cls ≠ "java/lang/invoke/MethodHandle" ∧ yX4_ask.cls ≠ "java/lang/invoke/VarHandle" ∧ (parseMethodDescriptor yX4_ask.desc).map (fun d => d.parameters.length) = some 2 := by decide +kernel
theorem hdV_X4_ask : yX4_ask.cls = RX4 ∧ yX4_ask.cls ≠ "java/lang/invoke/MethodHandle" ∧ yX4_ask.cls ≠ "java/lang/invoke/VarHandle" ∧ (parseMethodDescriptor yX4_ask.desc).map (fun d => d.parameters.length) = some 2 := by decide +kernel
theorem atmX4_add_34 : ∀ w ∈ (vx_atS RX4 34 "java/lang/IllegalArgumentException" ["java/lang/RuntimeException", "java/lang/Exception"]).filter goodWord, w ∈ wsX4_add := fun w h => by
  unfold wsX4_add
  refine List.mem_cons_of_mem _ ?_
  first | exact List.mem_append_right _ h | exact List.mem_append_left _ (List.mem_append_right _ h) | exact List.mem_append_left _ (List.mem_append_left _ (List.mem_append_right _ h))
theorem atmX4_add_82 : ∀ w ∈ (vx_atS RX4 82 "java/lang/IllegalStateException" ["java/lang/RuntimeException", "java/lang/Exception"]).filter goodWord, w ∈ wsX4_add := fun w h => by
  unfold wsX4_add
  refine List.mem_cons_of_mem _ ?_
  first | exact List.mem_append_right _ h | exact List.mem_append_left _ (List.mem_append_right _ h) | exact List.mem_append_left _ (List.mem_append_left _ (List.mem_append_right _ h))
theorem inX4_add_2 : ∀ w ∈ u_ws RX2 TX2 9, w ∈ wsX4_add := by decide +kernel
theorem inX4_add_3 : ∀ w ∈ u_ws RX3 TX3 4, w ∈ wsX4_add := by decide +kernel
theorem inX4_add_4 : ∀ w ∈ u_ws RX4 TX4 3, w ∈ wsX4_add := by decide +kernel
theorem hdS_X4_add : yX4_add.cls ≠ "java/lang/invoke/MethodHandle" ∧ yX4_add.cls ≠ "java/lang/invoke/VarHandle" ∧ (parseMethodDescriptor yX4_add.desc).map (fun d => d.parameters.length) = some 2 := by decide +kernel
theorem hdV_X4_add : yX4_add.cls = RX4 ∧ yX4_add.cls ≠ "java/lang/invoke/MethodHandle" ∧ yX4_add.cls ≠ "java/lang/invoke/VarHandle" ∧ (parseMethodDescriptor yX4_add.desc).map (fun d => d.parameters.length) = some 2 := by decide +kernel
theorem atmX4_removeLast_82 : ∀ w ∈ (vx_atS RX4 82 "java/lang/IllegalStateException" ["java/lang/RuntimeException", "java/lang/Exception"]).filter goodWord, w ∈ wsX4_removeLast := fun w h => by
  unfold wsX4_removeLast
  refine List.mem_cons_of_mem _ ?_
  first | exact List.mem_append_right _ h | exact List.mem_append_left _ (List.mem_append_right _ h) | exact List.mem_append_left _ (List.mem_append_left _ (List.mem_append_right _ h))
theorem inX4_removeLast_2 : ∀ w ∈ u_ws RX2 TX2 9, w ∈ wsX4_removeLast := by decide +kernel
theorem inX4_removeLast_3 : ∀ w ∈ u_ws RX3 TX3 4, w ∈ wsX4_removeLast := by decide +kernel
theorem inX4_removeLast_4 : ∀ w ∈ u_ws RX4 TX4 3, w ∈ wsX4_removeLast := by decide +kernel
theorem hdS_X4_removeLast : yX4_removeLast.cls ≠ "java/lang/invoke/MethodHandle" ∧ yX4_removeLast.cls ≠ "java/lang/invoke/VarHandle" ∧ (parseMethodDescriptor yX4_removeLast.desc).map (fun d => d.parameters.length) = some 0 := by decide +kernel
theorem hdV_X4_removeLast : yX4_removeLast.cls = RX4 ∧ yX4_removeLast.cls ≠ "java/lang/invoke/MethodHandle" ∧ yX4_removeLast.cls ≠ "java/lang/invoke/VarHandle" ∧ (parseMethodDescriptor yX4_removeLast.desc).map (fun d => d.parameters.length) = some 0 := by decide +kernel
theorem atmX4_lies_97 : ∀ w ∈ (vx_atS RX4 97 "java/lang/IndexOutOfBoundsException" ["java/lang/RuntimeException", "java/lang/Exception"]).filter goodWord, w ∈ wsX4_lies := fun w h => by
  unfold wsX4_lies
  refine List.mem_cons_of_mem _ ?_
  first | exact List.mem_append_right _ h | exact List.mem_append_left _ (List.mem_append_right _ h) | exact List.mem_append_left _ (List.mem_append_left _ (List.mem_append_right _ h))
theorem inX4_lies_2 : ∀ w ∈ u_ws RX2 TX2 9, w ∈ wsX4_lies := by decide +kernel
theorem inX4_lies_4 : ∀ w ∈ u_ws RX4 TX4 3, w ∈ wsX4_lies := by decide +kernel
theorem hdS_X4_lies : yX4_lies.cls ≠ "java/lang/invoke/MethodHandle" ∧ yX4_lies.cls ≠ "java/lang/invoke/VarHandle" ∧ (parseMethodDescriptor yX4_lies.desc).map (fun d => d.parameters.length) = some 1 := by decide +kernel
theorem hdV_X4_lies : yX4_lies.cls = RX4 ∧ yX4_lies.cls ≠ "java/lang/invoke/MethodHandle" ∧ yX4_lies.cls ≠ "java/lang/invoke/VarHandle" ∧ (parseMethodDescriptor yX4_lies.desc).map (fun d => d.parameters.length) = some 1 := by decide +kernel
theorem atmX4_answer_34 : ∀ w ∈ (vx_atS RX4 34 "java/lang/IllegalArgumentException" ["java/lang/RuntimeException", "java/lang/Exception"]).filter goodWord, w ∈ wsX4_answer := fun w h => by
  unfold wsX4_answer
  refine List.mem_cons_of_mem _ ?_
  first | exact List.mem_append_right _ h | exact List.mem_append_left _ (List.mem_append_right _ h) | exact List.mem_append_left _ (List.mem_append_left _ (List.mem_append_right _ h))
theorem atmX4_answer_97 : ∀ w ∈ (vx_atS RX4 97 "java/lang/IndexOutOfBoundsException" ["java/lang/RuntimeException", "java/lang/Exception"]).filter goodWord, w ∈ wsX4_answer := fun w h => by
  unfold wsX4_answer
  refine List.mem_cons_of_mem _ ?_
  first | exact List.mem_append_right _ h | exact List.mem_append_left _ (List.mem_append_right _ h) | exact List.mem_append_left _ (List.mem_append_left _ (List.mem_append_right _ h))
theorem inX4_answer_4 : ∀ w ∈ u_ws RX4 TX4 3, w ∈ wsX4_answer := by decide +kernel
theorem hdS_X4_answer : yX4_answer.cls ≠ "java/lang/invoke/MethodHandle" ∧ yX4_answer.cls ≠ "java/lang/invoke/VarHandle" ∧ (parseMethodDescriptor yX4_answer.desc).map (fun d => d.parameters.length) = some 3 := by decide +kernel
theorem hdV_X4_answer : yX4_answer.cls = RX4 ∧ yX4_answer.cls ≠ "java/lang/invoke/MethodHandle" ∧ yX4_answer.cls ≠ "java/lang/invoke/VarHandle" ∧ (parseMethodDescriptor yX4_answer.desc).map (fun d => d.parameters.length) = some 3 := by decide +kernel
theorem atmX4_leftCase_97 : ∀ w ∈ (vx_atS RX4 97 "java/lang/IndexOutOfBoundsException" ["java/lang/RuntimeException", "java/lang/Exception"]).filter goodWord, w ∈ wsX4_leftCase := fun w h => by
  unfold wsX4_leftCase
  refine List.mem_cons_of_mem _ ?_
  first | exact List.mem_append_right _ h | exact List.mem_append_left _ (List.mem_append_right _ h) | exact List.mem_append_left _ (List.mem_append_left _ (List.mem_append_right _ h))
theorem inX4_leftCase_4 : ∀ w ∈ u_ws RX4 TX4 3, w ∈ wsX4_leftCase := by decide +kernel
theorem hdS_X4_leftCase : yX4_leftCase.cls ≠ "java/lang/invoke/MethodHandle" ∧ yX4_leftCase.cls ≠ "java/lang/invoke/VarHandle" ∧ (parseMethodDescriptor yX4_leftCase.desc).map (fun d => d.parameters.length) = some 1 := by decide +kernel
theorem hdV_X4_leftCase : yX4_leftCase.cls = RX4 ∧ yX4_leftCase.cls ≠ "java/lang/invoke/MethodHandle" ∧ yX4_leftCase.cls ≠ "java/lang/invoke/VarHandle" ∧ (parseMethodDescriptor yX4_leftCase.desc).map (fun d => d.parameters.length) = some 1 := by decide +kernel
set_option maxHeartbeats 4000000 in
set_option maxRecDepth 100000 in
theorem c_X4_begin (l : Launch) (hfl : l.stackTraces = false) (D : va_G) (T : Nat → ClassId) (h0 : Nat) (A0 : Nat → Nat → Nat) (Z0 : Nat → St) (v1 : Int32) (sz : Nat) (r : Sum String (Int32 × (Nat → St))) (h : F_X4_begin Z0 v1 = some r) : vx_Met l yX4_begin wsX4_begin ({ frames := 6, cells := 1, slots := 6, locals := 108 } : Room) (va_Pc [.ref h0, .int v1] (PX D T (scW T h0 A0 (Z0)) sz)) (QXi D (scW T h0) r (va_A (scW T h0 A0 (Z0)) sz)) (XXq r) 1 6 (va_A (scW T h0 A0 (Z0)) sz) := by
  refine met_ofX (cc := cX4_begin) (maxL := 3) (ret := (some .int)) (lv := [(0, .ref h0), (1, .int v1)]) (by decide) rfl (Nat.le_of_ble_eq_true rfl) rfl ?_
  intro p e s m args below meth c ls C0 hno hl hB
  obtain ⟨hx, hb, hr, hml, hown, hts, hlocks, hname⟩ := C0
  obtain ⟨⟨hsz, hP, hK, hD0⟩, hE⟩ := hB
  subst hsz
  have hD := hD0.self (sz := s.heap.size)
  generalize hAe : va_A (scW T h0 A0 (Z0)) s.heap.size = A at hD hE ⊢
  have hA : ∀ q : Nat, s.heap.size ≤ q → A q := fun q h => by rw [← hAe]; exact Or.inr h
  have hS : va_S A s.heap s.heap [] := va_S.rf
  unfold F_X4_begin at h
  refine lv_iload_n hx hb dX4_begin_0 rfl (lv_at hl 1 rfl) ?_
  refine lv_iconst (v := 2) hx hb dX4_begin_1 (by decide) ?_
  refine lv_icmp_lt (tgt := 11) hx hb dX4_begin_2 (by decide) (fun c1 => ?_) (fun c1 => ?_)
  · replace h := ip c1 h
    obtain rfl := Option.some.inj h
    obtain ⟨sa, hsa⟩ := hE.2.2.1 (32, "coins is out of range") (List.mem_of_getElem? (i := 0) rfl)
    exact vx_throwS (A := A) (names := exNm) (ik := 30) (is := 32) (ic := 34) (sa := sa) hx hb hfl hown (by decide +kernel) exFit (hts (.classLink RX4 30 "java/lang/IllegalArgumentException") (List.mem_of_getElem? (i := 1) rfl)) (hts (.initialized "java/lang/IllegalArgumentException") (List.mem_of_getElem? (i := 2) rfl)) hsa (vx_hat (fun w hw => hts w (atmX4_begin_34 w hw)) bad_34 (exB34 hE.2.2.2)) ot_34 hE.1 hE.2.1 hS (hl.1.trans hml.symm) dX4_begin_11 dX4_begin_14 dX4_begin_15 dX4_begin_17 dX4_begin_20 (fun x hx => (hno x hx).elim) (Nat.le_of_ble_eq_true rfl) (Nat.le_of_ble_eq_true rfl) (Nat.le_of_ble_eq_true rfl) (Nat.le_of_ble_eq_true rfl) hlocks (fun t hv hz hk => ⟨(), trivial, rfl, hz, fun q hq _ => hk q hq⟩) hS.2.2 (Nat.le_of_ble_eq_true rfl) (Nat.le_of_ble_eq_true rfl)
  replace h := im c1 h
  refine lv_iload_n hx hb dX4_begin_5 rfl (lv_at hl 1 rfl) ?_
  refine lv_bipush (v := 16) hx hb dX4_begin_6 (by decide) ?_
  refine lv_icmp_le (tgt := 21) hx hb dX4_begin_8 (by decide) (fun c2 => ?_) (fun c2 => ?_)
  · replace h := ip c2 h
    refine lv_aload_n hx hb dX4_begin_21 rfl (lv_at hl 0 rfl) ?_
    refine va_get (D := D) (ci := 4) (v := .ref (A0 6 1)) (C := RX4) (T := TX4) (N := 3) hx hb hts inX4_begin_4 hown hK.1 hP 0 rfl rfl 1 (by decide) (hts (.fieldLink RX4 19 "LyingScale" "history" "LLyingScale$History;") (List.mem_of_getElem? (i := 3) rfl)) (fun _ h9 => h9) rfl dX4_begin_22 ?_
    refine lv_aload_n hx hb dX4_begin_25 rfl (lv_at hl 0 rfl) ?_
    refine va_get (D := D) (ci := 4) (v := .ref (A0 0 0)) (C := RX4) (T := TX4) (N := 3) hx hb hts inX4_begin_4 hown hK.1 hP 0 rfl rfl 0 (by decide) (hts (.fieldLink RX4 12 "LyingScale" "now" "LLyingScale$State;") (List.mem_of_getElem? (i := 4) rfl)) (fun _ h9 => h9) rfl dX4_begin_26 ?_
    replace h := bd h
    obtain ⟨t3, et3, h⟩ := h
    refine callEv (va_runV (As := [.ref (A0 0 0)]) (rest := []) ⟨hx, hb, hml, hown, hts⟩ (c_X0_save l D T h0 A0 Z0 _ t3 et3) (cwV 1 hts gX4_begin_X0_save rfl rfl rfl hdV_X0_save ⟨Nat.le_of_ble_eq_true rfl, Nat.le_of_ble_eq_true rfl⟩) ⟨PM_blind, va_recv hK.1 hP (ci := 0) (q0 := 1) rfl rfl, PM_at hP hD hK⟩ rfl rfl hl.1 rfl (lv_room (Nat.le_of_ble_eq_true rfl)) dX4_begin_29 ⟨Nat.zero_le _, Nat.zero_le _⟩) hS hA hP hD (fun u4 H locs hP hD hS => ?_)
    refine lv_aload_n hx hb dX4_begin_32 rfl (lv_at hl 0 rfl) ?_
    refine va_get (D := D) (ci := 4) (v := .ref (u4 0 0)) (C := RX4) (T := TX4) (N := 3) hx hb hts inX4_begin_4 hown hK.1 hP 0 rfl rfl 0 (by decide) (hts (.fieldLink RX4 12 "LyingScale" "now" "LLyingScale$State;") (List.mem_of_getElem? (i := 4) rfl)) (fun _ h9 => h9) rfl dX4_begin_33 ?_
    refine va_getN (D := D) (ci := 2) (v := .ref (u4 0 1)) (C := RX2) (T := TX2) (N := 9) hx hb hts inX4_begin_2 hown hK.1 hP 3 rfl rfl 0 (by decide) (va_Nw.use rfl (hK.2 (.fieldLinkNest RX4 41 "LyingScale$State" "told" "LLyingScale$Weighings;" "LyingScale") (List.mem_of_getElem? (i := 10) rfl))) (fun _ h9 => h9) rfl dX4_begin_36 ?_
    refine va_getN (D := D) (ci := 3) (v := .int ((t3 0).1 5)) (C := RX3) (T := TX3) (N := 4) hx hb hts inX4_begin_3 hown hK.1 hP 4 rfl rfl 3 (by decide) (va_Nw.use rfl (hK.2 (.fieldLinkNest RX4 45 "LyingScale$Weighings" "count" "I" "LyingScale") (List.mem_of_getElem? (i := 11) rfl))) (fun _ h9 => h9) rfl dX4_begin_39 ?_
    refine lv_istore_n (lv' := [(2, .int ((t3 0).1 5)), (0, .ref h0), (1, .int v1)]) hx hb dX4_begin_42 rfl hl (by decide) rfl (fun ls hl => ?_)
    refine lv_aload_n hx hb dX4_begin_43 rfl (lv_at hl 1 rfl) ?_
    refine va_get (D := D) (ci := 4) (v := .ref (u4 0 0)) (C := RX4) (T := TX4) (N := 3) hx hb hts inX4_begin_4 hown hK.1 hP 0 rfl rfl 0 (by decide) (hts (.fieldLink RX4 12 "LyingScale" "now" "LLyingScale$State;") (List.mem_of_getElem? (i := 4) rfl)) (fun _ h9 => h9) rfl dX4_begin_44 ?_
    refine lv_iload_n hx hb dX4_begin_47 rfl (lv_at hl 2 rfl) ?_
    replace h := bd h
    obtain ⟨t5, et5, h⟩ := h
    refine callMv (wr := [(h0, .inr (4, [.ref (u4 0 0), .ref (u4 6 1), .ref (u4 5 0)])), (u4 6 1, .inr (0, [.ref (u4 6 2), .int ((t3 6).1 0)])), (u4 6 2, .inl (T 3, 4, .inr (.inr (.inr (.inr (hsQ u4)))))), (u4 1 0, .inr (2, [.ref (u4 1 1), .ref (u4 1 2), .ref (u4 1 3), .ref (u4 1 4), .int ((t3 1).1 0), .int ((t3 1).1 1), .int ((t3 1).1 2), .int ((t3 1).1 3), .int ((t3 1).1 4)])), (u4 1 1, .inr (3, [.ref (u4 1 5), .ref (u4 1 6), .ref (u4 1 7), .int ((t3 1).1 5)])), (u4 1 2, .inr (3, [.ref (u4 1 8), .ref (u4 1 9), .ref (u4 1 10), .int ((t3 1).1 6)])), (u4 1 3, .inl (T 0, 33, .inl ((t3 1).2 6))), (u4 1 4, .inl (T 0, 33, .inl ((t3 1).2 7))), (u4 1 5, .inl (T 0, 40, .inl ((t3 1).2 0))), (u4 1 6, .inl (T 0, 40, .inl ((t3 1).2 1))), (u4 1 7, .inl (T 0, 40, .inl ((t3 1).2 2))), (u4 1 8, .inl (T 0, 8, .inl ((t3 1).2 3))), (u4 1 9, .inl (T 0, 8, .inl ((t3 1).2 4))), (u4 1 10, .inl (T 0, 8, .inl ((t3 1).2 5))), (u4 2 0, .inr (2, [.ref (u4 2 1), .ref (u4 2 2), .ref (u4 2 3), .ref (u4 2 4), .int ((t3 2).1 0), .int ((t3 2).1 1), .int ((t3 2).1 2), .int ((t3 2).1 3), .int ((t3 2).1 4)])), (u4 2 1, .inr (3, [.ref (u4 2 5), .ref (u4 2 6), .ref (u4 2 7), .int ((t3 2).1 5)])), (u4 2 2, .inr (3, [.ref (u4 2 8), .ref (u4 2 9), .ref (u4 2 10), .int ((t3 2).1 6)])), (u4 2 3, .inl (T 0, 33, .inl ((t3 2).2 6))), (u4 2 4, .inl (T 0, 33, .inl ((t3 2).2 7))), (u4 2 5, .inl (T 0, 40, .inl ((t3 2).2 0))), (u4 2 6, .inl (T 0, 40, .inl ((t3 2).2 1))), (u4 2 7, .inl (T 0, 40, .inl ((t3 2).2 2))), (u4 2 8, .inl (T 0, 8, .inl ((t3 2).2 3))), (u4 2 9, .inl (T 0, 8, .inl ((t3 2).2 4))), (u4 2 10, .inl (T 0, 8, .inl ((t3 2).2 5))), (u4 3 0, .inr (2, [.ref (u4 3 1), .ref (u4 3 2), .ref (u4 3 3), .ref (u4 3 4), .int ((t3 3).1 0), .int ((t3 3).1 1), .int ((t3 3).1 2), .int ((t3 3).1 3), .int ((t3 3).1 4)])), (u4 3 1, .inr (3, [.ref (u4 3 5), .ref (u4 3 6), .ref (u4 3 7), .int ((t3 3).1 5)])), (u4 3 2, .inr (3, [.ref (u4 3 8), .ref (u4 3 9), .ref (u4 3 10), .int ((t3 3).1 6)])), (u4 3 3, .inl (T 0, 33, .inl ((t3 3).2 6))), (u4 3 4, .inl (T 0, 33, .inl ((t3 3).2 7))), (u4 3 5, .inl (T 0, 40, .inl ((t3 3).2 0))), (u4 3 6, .inl (T 0, 40, .inl ((t3 3).2 1))), (u4 3 7, .inl (T 0, 40, .inl ((t3 3).2 2))), (u4 3 8, .inl (T 0, 8, .inl ((t3 3).2 3))), (u4 3 9, .inl (T 0, 8, .inl ((t3 3).2 4))), (u4 3 10, .inl (T 0, 8, .inl ((t3 3).2 5))), (u4 4 0, .inr (2, [.ref (u4 4 1), .ref (u4 4 2), .ref (u4 4 3), .ref (u4 4 4), .int ((t3 4).1 0), .int ((t3 4).1 1), .int ((t3 4).1 2), .int ((t3 4).1 3), .int ((t3 4).1 4)])), (u4 4 1, .inr (3, [.ref (u4 4 5), .ref (u4 4 6), .ref (u4 4 7), .int ((t3 4).1 5)])), (u4 4 2, .inr (3, [.ref (u4 4 8), .ref (u4 4 9), .ref (u4 4 10), .int ((t3 4).1 6)])), (u4 4 3, .inl (T 0, 33, .inl ((t3 4).2 6))), (u4 4 4, .inl (T 0, 33, .inl ((t3 4).2 7))), (u4 4 5, .inl (T 0, 40, .inl ((t3 4).2 0))), (u4 4 6, .inl (T 0, 40, .inl ((t3 4).2 1))), (u4 4 7, .inl (T 0, 40, .inl ((t3 4).2 2))), (u4 4 8, .inl (T 0, 8, .inl ((t3 4).2 3))), (u4 4 9, .inl (T 0, 8, .inl ((t3 4).2 4))), (u4 4 10, .inl (T 0, 8, .inl ((t3 4).2 5))), (u4 5 0, .inr (1, [.ref (u4 5 1), .ref (u4 5 2), .ref (u4 5 3), .ref (u4 5 4), .int ((t3 5).1 0), .int ((t3 5).1 1), .int ((t3 5).1 2), .int ((t3 5).1 3), .int ((t3 5).1 4)])), (u4 5 1, .inl (T 0, 100, .inl ((t3 5).2 0))), (u4 5 2, .inl (T 0, 20, .inl ((t3 5).2 1))), (u4 5 3, .inl (T 0, 20, .inl ((t3 5).2 2))), (u4 5 4, .inl (T 0, 20, .inl ((t3 5).2 3)))]) (ws' := scW T h0 u4 (zU t3 0 t5)) (va_runV (As := [.int v1]) (rest := []) ⟨hx, hb, hml, hown, hts⟩ (c_X2_start l D T (u4 0) (t3 0) v1 _ t5 et5) (cwV 1 hts gX4_begin_X2_start rfl rfl rfl hdV_X2_start ⟨Nat.le_of_ble_eq_true rfl, Nat.le_of_ble_eq_true rfl⟩) ⟨PM_blind, va_recv hK.1 hP (ci := 2) (q0 := 3) rfl rfl, PM_at (hP.sub (ws' := stW T (u4 0) (t3 0)) [3, 4, 5, 6, 7, 8, 9, 10, 11, 12, 13] rfl) (hD.sub (ws' := stW T (u4 0) (t3 0)) [3, 4, 5, 6, 7, 8, 9, 10, 11, 12, 13] (by decide) rfl) hK⟩ rfl rfl hl.1 rfl (lv_room (Nat.le_of_ble_eq_true rfl)) dX4_begin_48 ⟨Nat.zero_le _, Nat.zero_le _⟩) hS hA hP hD [3, 4, 5, 6, 7, 8, 9, 10, 11, 12, 13] [0, 1, 2, 14, 15, 16, 17, 18, 19, 20, 21, 22, 23, 24, 25, 26, 27, 28, 29, 30, 31, 32, 33, 34, 35, 36, 37, 38, 39, 40, 41, 42, 43, 44, 45, 46, 47, 48, 49, 50, 51, 52, 53, 54, 55, 56, 57, 58, 59, 60, 61, 62] rfl rfl (by decide) (by decide) [0, 1, 2, 52, 53, 54, 55, 56, 57, 58, 59, 60, 61, 62, 3, 4, 5, 6, 7, 8, 9, 10, 11, 12, 13, 14, 15, 16, 17, 18, 19, 20, 21, 22, 23, 24, 25, 26, 27, 28, 29, 30, 31, 32, 33, 34, 35, 36, 37, 38, 39, 40, 41, 42, 43, 44, 45, 46, 47, 48, 49, 50, 51] (by decide) rfl (fun H locs hP hD hS => ?_)
    refine lv_iload_n hx hb dX4_begin_51 rfl (lv_at hl 0 rfl) ?_
    obtain rfl := Option.some.inj h
    refine vx_ret ?_
    refine W.widen (k := 1) (n := 6) (Nat.zero_le _) (Nat.zero_le _) ?_
    exact W.iret hx hb hr (fun t ht hW => ⟨⟨_, (u4, zU t3 0 t5), rfl, rfl, by rw [ht]; exact hP, hD⟩, hS.F ht⟩) hS.2.2 dX4_begin_52 hlocks
  replace h := im c2 h
  obtain rfl := Option.some.inj h
  obtain ⟨sa, hsa⟩ := hE.2.2.1 (32, "coins is out of range") (List.mem_of_getElem? (i := 0) rfl)
  exact vx_throwS (A := A) (names := exNm) (ik := 30) (is := 32) (ic := 34) (sa := sa) hx hb hfl hown (by decide +kernel) exFit (hts (.classLink RX4 30 "java/lang/IllegalArgumentException") (List.mem_of_getElem? (i := 1) rfl)) (hts (.initialized "java/lang/IllegalArgumentException") (List.mem_of_getElem? (i := 2) rfl)) hsa (vx_hat (fun w hw => hts w (atmX4_begin_34 w hw)) bad_34 (exB34 hE.2.2.2)) ot_34 hE.1 hE.2.1 hS (hl.1.trans hml.symm) dX4_begin_11 dX4_begin_14 dX4_begin_15 dX4_begin_17 dX4_begin_20 (fun x hx => (hno x hx).elim) (Nat.le_of_ble_eq_true rfl) (Nat.le_of_ble_eq_true rfl) (Nat.le_of_ble_eq_true rfl) (Nat.le_of_ble_eq_true rfl) hlocks (fun t hv hz hk => ⟨(), trivial, rfl, hz, fun q hq _ => hk q hq⟩) hS.2.2 (Nat.le_of_ble_eq_true rfl) (Nat.le_of_ble_eq_true rfl)
set_option maxHeartbeats 4000000 in
set_option maxRecDepth 100000 in
theorem c_X4_setLimit (l : Launch) (hfl : l.stackTraces = false) (D : va_G) (T : Nat → ClassId) (h0 : Nat) (A0 : Nat → Nat → Nat) (Z0 : Nat → St) (v1 : Int32) (sz : Nat) (r : Sum String (Int32 × (Nat → St))) (h : F_X4_setLimit Z0 v1 = some r) : vx_Met l yX4_setLimit wsX4_setLimit ({ frames := 6, cells := 1, slots := 6, locals := 108 } : Room) (va_Pc [.ref h0, .int v1] (PX D T (scW T h0 A0 (Z0)) sz)) (QXi D (scW T h0) r (va_A (scW T h0 A0 (Z0)) sz)) (XXq r) 1 6 (va_A (scW T h0 A0 (Z0)) sz) := by
  refine met_ofX (cc := cX4_setLimit) (maxL := 2) (ret := (some .int)) (lv := [(0, .ref h0), (1, .int v1)]) (by decide) rfl (Nat.le_of_ble_eq_true rfl) rfl ?_
  intro p e s m args below meth c ls C0 hno hl hB
  obtain ⟨hx, hb, hr, hml, hown, hts, hlocks, hname⟩ := C0
  obtain ⟨⟨hsz, hP, hK, hD0⟩, hE⟩ := hB
  subst hsz
  have hD := hD0.self (sz := s.heap.size)
  generalize hAe : va_A (scW T h0 A0 (Z0)) s.heap.size = A at hD hE ⊢
  have hA : ∀ q : Nat, s.heap.size ≤ q → A q := fun q h => by rw [← hAe]; exact Or.inr h
  have hS : va_S A s.heap s.heap [] := va_S.rf
  unfold F_X4_setLimit at h
  refine lv_iload_n hx hb dX4_setLimit_0 rfl (lv_at hl 1 rfl) ?_
  refine lv_if_lt (tgt := 9) hx hb dX4_setLimit_1 (by decide) (fun c1 => ?_) (fun c1 => ?_)
  · replace h := ip c1 h
    obtain rfl := Option.some.inj h
    obtain ⟨sa, hsa⟩ := hE.2.2.1 (55, "lies is out of range") (List.mem_of_getElem? (i := 1) rfl)
    exact vx_throwS (A := A) (names := exNm) (ik := 30) (is := 55) (ic := 34) (sa := sa) hx hb hfl hown (by decide +kernel) exFit (hts (.classLink RX4 30 "java/lang/IllegalArgumentException") (List.mem_of_getElem? (i := 1) rfl)) (hts (.initialized "java/lang/IllegalArgumentException") (List.mem_of_getElem? (i := 2) rfl)) hsa (vx_hat (fun w hw => hts w (atmX4_setLimit_34 w hw)) bad_34 (exB34 hE.2.2.2)) ot_34 hE.1 hE.2.1 hS (hl.1.trans hml.symm) dX4_setLimit_9 dX4_setLimit_12 dX4_setLimit_13 dX4_setLimit_15 dX4_setLimit_18 (fun x hx => (hno x hx).elim) (Nat.le_of_ble_eq_true rfl) (Nat.le_of_ble_eq_true rfl) (Nat.le_of_ble_eq_true rfl) (Nat.le_of_ble_eq_true rfl) hlocks (fun t hv hz hk => ⟨(), trivial, rfl, hz, fun q hq _ => hk q hq⟩) hS.2.2 (Nat.le_of_ble_eq_true rfl) (Nat.le_of_ble_eq_true rfl)
  replace h := im c1 h
  refine lv_iload_n hx hb dX4_setLimit_4 rfl (lv_at hl 1 rfl) ?_
  refine lv_iconst (v := 2) hx hb dX4_setLimit_5 (by decide) ?_
  refine lv_icmp_le (tgt := 19) hx hb dX4_setLimit_6 (by decide) (fun c2 => ?_) (fun c2 => ?_)
  · replace h := ip c2 h
    refine lv_aload_n hx hb dX4_setLimit_19 rfl (lv_at hl 0 rfl) ?_
    refine va_get (D := D) (ci := 4) (v := .ref (A0 6 1)) (C := RX4) (T := TX4) (N := 3) hx hb hts inX4_setLimit_4 hown hK.1 hP 0 rfl rfl 1 (by decide) (hts (.fieldLink RX4 19 "LyingScale" "history" "LLyingScale$History;") (List.mem_of_getElem? (i := 3) rfl)) (fun _ h9 => h9) rfl dX4_setLimit_20 ?_
    refine lv_aload_n hx hb dX4_setLimit_23 rfl (lv_at hl 0 rfl) ?_
    refine va_get (D := D) (ci := 4) (v := .ref (A0 0 0)) (C := RX4) (T := TX4) (N := 3) hx hb hts inX4_setLimit_4 hown hK.1 hP 0 rfl rfl 0 (by decide) (hts (.fieldLink RX4 12 "LyingScale" "now" "LLyingScale$State;") (List.mem_of_getElem? (i := 4) rfl)) (fun _ h9 => h9) rfl dX4_setLimit_24 ?_
    replace h := bd h
    obtain ⟨t3, et3, h⟩ := h
    refine callEv (va_runV (As := [.ref (A0 0 0)]) (rest := []) ⟨hx, hb, hml, hown, hts⟩ (c_X0_save l D T h0 A0 Z0 _ t3 et3) (cwV 1 hts gX4_setLimit_X0_save rfl rfl rfl hdV_X0_save ⟨Nat.le_of_ble_eq_true rfl, Nat.le_of_ble_eq_true rfl⟩) ⟨PM_blind, va_recv hK.1 hP (ci := 0) (q0 := 1) rfl rfl, PM_at hP hD hK⟩ rfl rfl hl.1 rfl (lv_room (Nat.le_of_ble_eq_true rfl)) dX4_setLimit_27 ⟨Nat.zero_le _, Nat.zero_le _⟩) hS hA hP hD (fun u4 H locs hP hD hS => ?_)
    refine lv_aload_n hx hb dX4_setLimit_30 rfl (lv_at hl 0 rfl) ?_
    refine va_get (D := D) (ci := 4) (v := .ref (u4 0 0)) (C := RX4) (T := TX4) (N := 3) hx hb hts inX4_setLimit_4 hown hK.1 hP 0 rfl rfl 0 (by decide) (hts (.fieldLink RX4 12 "LyingScale" "now" "LLyingScale$State;") (List.mem_of_getElem? (i := 4) rfl)) (fun _ h9 => h9) rfl dX4_setLimit_31 ?_
    refine lv_iload_n hx hb dX4_setLimit_34 rfl (lv_at hl 1 rfl) ?_
    refine va_putN (D := D) (ci := 2) (v := .int v1) (ty := .int) (C := RX2) (T := TX2) (N := 9) hx hb hts inX4_setLimit_2 tyX2 tyX2_ok nmX2 hown hK.1 hP hD hS 3 rfl rfl 5 (by decide) (va_Nw.use rfl (hK.2 (.fieldLinkNest RX4 57 "LyingScale$State" "limit" "I" "LyingScale") (List.mem_of_getElem? (i := 12) rfl))) (fun _ h9 => h9) rfl (by decide +kernel) rfl rfl (Nat.le_of_ble_eq_true rfl) dX4_setLimit_35 (fun H locs hP hD hS => ?_)
    replace hP : va_P D vwCl (scW T h0 u4 (zU t3 0 (sI (t3 0) 1 v1))) H := hP
    replace hD : va_D A (scW T h0 u4 (zU t3 0 (sI (t3 0) 1 v1))) := hD
    refine lv_aload_n hx hb dX4_setLimit_38 rfl (lv_at hl 0 rfl) ?_
    refine va_get (D := D) (ci := 4) (v := .ref (u4 0 0)) (C := RX4) (T := TX4) (N := 3) hx hb hts inX4_setLimit_4 hown hK.1 hP 0 rfl rfl 0 (by decide) (hts (.fieldLink RX4 12 "LyingScale" "now" "LLyingScale$State;") (List.mem_of_getElem? (i := 4) rfl)) (fun _ h9 => h9) rfl dX4_setLimit_39 ?_
    replace h := bd h
    obtain ⟨t5, et5, h⟩ := h
    refine callRi (v := t5) (va_runV (As := []) (rest := []) ⟨hx, hb, hml, hown, hts⟩ (c_X2_countLeft l D T (u4 0) ((zU t3 0 (sI (t3 0) 1 v1)) 0) t5 et5) (cwV 0 hts gX4_setLimit_X2_countLeft rfl rfl rfl hdV_X2_countLeft ⟨Nat.le_of_ble_eq_true rfl, Nat.le_of_ble_eq_true rfl⟩) ⟨PB_blind, va_recv hK.1 hP (ci := 2) (q0 := 3) rfl rfl, PB_at (hP.sub (ws' := stW T (u4 0) ((zU t3 0 (sI (t3 0) 1 v1)) 0)) [3, 4, 5, 6, 7, 8, 9, 10, 11, 12, 13] rfl) hK⟩ rfl rfl hl.1 rfl (lv_room (Nat.le_of_ble_eq_true rfl)) dX4_setLimit_42 ⟨Nat.zero_le _, Nat.zero_le _⟩) ?_
    obtain rfl := Option.some.inj h
    refine vx_ret ?_
    refine W.widen (k := 1) (n := 6) (Nat.zero_le _) (Nat.zero_le _) ?_
    exact W.iret hx hb hr (fun t ht hW => ⟨⟨_, (u4, zU t3 0 (sI (t3 0) 1 v1)), rfl, rfl, by rw [ht]; exact hP, hD⟩, hS.F ht⟩) hS.2.2 dX4_setLimit_45 hlocks
  replace h := im c2 h
  obtain rfl := Option.some.inj h
  obtain ⟨sa, hsa⟩ := hE.2.2.1 (55, "lies is out of range") (List.mem_of_getElem? (i := 1) rfl)
  exact vx_throwS (A := A) (names := exNm) (ik := 30) (is := 55) (ic := 34) (sa := sa) hx hb hfl hown (by decide +kernel) exFit (hts (.classLink RX4 30 "java/lang/IllegalArgumentException") (List.mem_of_getElem? (i := 1) rfl)) (hts (.initialized "java/lang/IllegalArgumentException") (List.mem_of_getElem? (i := 2) rfl)) hsa (vx_hat (fun w hw => hts w (atmX4_setLimit_34 w hw)) bad_34 (exB34 hE.2.2.2)) ot_34 hE.1 hE.2.1 hS (hl.1.trans hml.symm) dX4_setLimit_9 dX4_setLimit_12 dX4_setLimit_13 dX4_setLimit_15 dX4_setLimit_18 (fun x hx => (hno x hx).elim) (Nat.le_of_ble_eq_true rfl) (Nat.le_of_ble_eq_true rfl) (Nat.le_of_ble_eq_true rfl) (Nat.le_of_ble_eq_true rfl) hlocks (fun t hv hz hk => ⟨(), trivial, rfl, hz, fun q hq _ => hk q hq⟩) hS.2.2 (Nat.le_of_ble_eq_true rfl) (Nat.le_of_ble_eq_true rfl)
set_option maxHeartbeats 4000000 in
set_option maxRecDepth 100000 in
theorem c_X4_tell (l : Launch) (hfl : l.stackTraces = false) (D : va_G) (T : Nat → ClassId) (h0 : Nat) (A0 : Nat → Nat → Nat) (Z0 : Nat → St) (v1 : Int32) (v2 : Int32) (v3 : Int32) (sz : Nat) (r : Sum String (Int32 × (Nat → St))) (h : F_X4_tell Z0 v1 v2 v3 = some r) : vx_Met l yX4_tell wsX4_tell ({ frames := 6, cells := 1, slots := 6, locals := 108 } : Room) (va_Pc [.ref h0, .int v1, .int v2, .int v3] (PX D T (scW T h0 A0 (Z0)) sz)) (QXi D (scW T h0) r (va_A (scW T h0 A0 (Z0)) sz)) (XXq r) 1 6 (va_A (scW T h0 A0 (Z0)) sz) := by
  refine met_ofX (cc := cX4_tell) (maxL := 4) (ret := (some .int)) (lv := [(0, .ref h0), (1, .int v1), (2, .int v2), (3, .int v3)]) (by decide) rfl (Nat.le_of_ble_eq_true rfl) rfl ?_
  intro p e s m args below meth c ls C0 hno hl hB
  obtain ⟨hx, hb, hr, hml, hown, hts, hlocks, hname⟩ := C0
  obtain ⟨⟨hsz, hP, hK, hD0⟩, hE⟩ := hB
  subst hsz
  have hD := hD0.self (sz := s.heap.size)
  generalize hAe : va_A (scW T h0 A0 (Z0)) s.heap.size = A at hD hE ⊢
  have hA : ∀ q : Nat, s.heap.size ≤ q → A q := fun q h => by rw [← hAe]; exact Or.inr h
  have hS : va_S A s.heap s.heap [] := va_S.rf
  unfold F_X4_tell at h
  refine lv_aload_n hx hb dX4_tell_0 rfl (lv_at hl 0 rfl) ?_
  refine va_get (D := D) (ci := 4) (v := .ref (A0 0 0)) (C := RX4) (T := TX4) (N := 3) hx hb hts inX4_tell_4 hown hK.1 hP 0 rfl rfl 0 (by decide) (hts (.fieldLink RX4 12 "LyingScale" "now" "LLyingScale$State;") (List.mem_of_getElem? (i := 5) rfl)) (fun _ h9 => h9) rfl dX4_tell_1 ?_
  refine lv_iload_n hx hb dX4_tell_4 rfl (lv_at hl 1 rfl) ?_
  refine lv_iload_n hx hb dX4_tell_5 rfl (lv_at hl 2 rfl) ?_
  replace h := bd h
  obtain ⟨t1, et1, h⟩ := h
  refine callRi (v := t1) (va_runV (As := [.int v1, .int v2]) (rest := []) ⟨hx, hb, hml, hown, hts⟩ (c_X2_isWeighing l D T (A0 0) (Z0 0) v1 v2 t1 et1) (cwV 2 hts gX4_tell_X2_isWeighing rfl rfl rfl hdV_X2_isWeighing ⟨Nat.le_of_ble_eq_true rfl, Nat.le_of_ble_eq_true rfl⟩) ⟨PB_blind, va_recv hK.1 hP (ci := 2) (q0 := 3) rfl rfl, PB_at (hP.sub (ws' := stW T (A0 0) (Z0 0)) [3, 4, 5, 6, 7, 8, 9, 10, 11, 12, 13] rfl) hK⟩ rfl rfl hl.1 rfl (lv_room (Nat.le_of_ble_eq_true rfl)) dX4_tell_6 ⟨Nat.zero_le _, Nat.zero_le _⟩) ?_
  refine lv_if_eq (tgt := 19) hx hb dX4_tell_9 (by decide) (fun c2 => ?_) (fun c2 => ?_)
  · replace h := ip c2 h
    obtain rfl := Option.some.inj h
    obtain ⟨sa, hsa⟩ := hE.2.2.1 (72, "no weighing, or no answer") (List.mem_of_getElem? (i := 2) rfl)
    exact vx_throwS (A := A) (names := exNm) (ik := 30) (is := 72) (ic := 34) (sa := sa) hx hb hfl hown (by decide +kernel) exFit (hts (.classLink RX4 30 "java/lang/IllegalArgumentException") (List.mem_of_getElem? (i := 1) rfl)) (hts (.initialized "java/lang/IllegalArgumentException") (List.mem_of_getElem? (i := 2) rfl)) hsa (vx_hat (fun w hw => hts w (atmX4_tell_34 w hw)) bad_34 (exB34 hE.2.2.2)) ot_34 hE.1 hE.2.1 hS (hl.1.trans hml.symm) dX4_tell_19 dX4_tell_22 dX4_tell_23 dX4_tell_25 dX4_tell_28 (fun x hx => (hno x hx).elim) (Nat.le_of_ble_eq_true rfl) (Nat.le_of_ble_eq_true rfl) (Nat.le_of_ble_eq_true rfl) (Nat.le_of_ble_eq_true rfl) hlocks (fun t hv hz hk => ⟨(), trivial, rfl, hz, fun q hq _ => hk q hq⟩) hS.2.2 (Nat.le_of_ble_eq_true rfl) (Nat.le_of_ble_eq_true rfl)
  replace h := im c2 h
  refine lv_iload_n hx hb dX4_tell_12 rfl (lv_at hl 3 rfl) ?_
  replace h := bd h
  obtain ⟨t3, et3, h⟩ := h
  refine callRi (v := t3) (va_runS (As := [.int v3]) (rest := []) ⟨hx, hb, hml, hown, hts⟩ (c_X4_isAnswer l D T v3 t3 et3) (va_cwS 1 hts gX4_tell_X4_isAnswer rfl rfl rfl hdS_X4_isAnswer ⟨Nat.le_of_ble_eq_true rfl, Nat.le_of_ble_eq_true rfl⟩) ⟨PB_blind, PB_at (hP.sub (ws' := ([] : va_W)) [] rfl) hK⟩ rfl rfl hl.1 rfl (lv_room (Nat.le_of_ble_eq_true rfl)) dX4_tell_13 ⟨Nat.zero_le _, Nat.zero_le _⟩) ?_
  refine lv_if_ne (tgt := 29) hx hb dX4_tell_16 (by decide) (fun c4 => ?_) (fun c4 => ?_)
  · replace h := im c4 h
    refine lv_aload_n hx hb dX4_tell_29 rfl (lv_at hl 0 rfl) ?_
    refine va_get (D := D) (ci := 4) (v := .ref (A0 0 0)) (C := RX4) (T := TX4) (N := 3) hx hb hts inX4_tell_4 hown hK.1 hP 0 rfl rfl 0 (by decide) (hts (.fieldLink RX4 12 "LyingScale" "now" "LLyingScale$State;") (List.mem_of_getElem? (i := 5) rfl)) (fun _ h9 => h9) rfl dX4_tell_30 ?_
    replace h := bd h
    obtain ⟨t5, et5, h⟩ := h
    refine callRi (v := t5) (va_runV (As := []) (rest := []) ⟨hx, hb, hml, hown, hts⟩ (c_X2_canLearn l D T (A0 0) (Z0 0) t5 et5) (cwV 0 hts gX4_tell_X2_canLearn rfl rfl rfl hdV_X2_canLearn ⟨Nat.le_of_ble_eq_true rfl, Nat.le_of_ble_eq_true rfl⟩) ⟨PB_blind, va_recv hK.1 hP (ci := 2) (q0 := 3) rfl rfl, PB_at (hP.sub (ws' := stW T (A0 0) (Z0 0)) [3, 4, 5, 6, 7, 8, 9, 10, 11, 12, 13] rfl) hK⟩ rfl rfl hl.1 rfl (lv_room (Nat.le_of_ble_eq_true rfl)) dX4_tell_33 ⟨Nat.zero_le _, Nat.zero_le _⟩) ?_
    refine lv_if_ne (tgt := 49) hx hb dX4_tell_36 (by decide) (fun c6 => ?_) (fun c6 => ?_)
    · replace h := im c6 h
      refine lv_aload_n hx hb dX4_tell_49 rfl (lv_at hl 0 rfl) ?_
      refine va_get (D := D) (ci := 4) (v := .ref (A0 6 1)) (C := RX4) (T := TX4) (N := 3) hx hb hts inX4_tell_4 hown hK.1 hP 0 rfl rfl 1 (by decide) (hts (.fieldLink RX4 19 "LyingScale" "history" "LLyingScale$History;") (List.mem_of_getElem? (i := 6) rfl)) (fun _ h9 => h9) rfl dX4_tell_50 ?_
      refine lv_aload_n hx hb dX4_tell_53 rfl (lv_at hl 0 rfl) ?_
      refine va_get (D := D) (ci := 4) (v := .ref (A0 0 0)) (C := RX4) (T := TX4) (N := 3) hx hb hts inX4_tell_4 hown hK.1 hP 0 rfl rfl 0 (by decide) (hts (.fieldLink RX4 12 "LyingScale" "now" "LLyingScale$State;") (List.mem_of_getElem? (i := 5) rfl)) (fun _ h9 => h9) rfl dX4_tell_54 ?_
      replace h := bd h
      obtain ⟨t7, et7, h⟩ := h
      refine callEv (va_runV (As := [.ref (A0 0 0)]) (rest := []) ⟨hx, hb, hml, hown, hts⟩ (c_X0_save l D T h0 A0 Z0 _ t7 et7) (cwV 1 hts gX4_tell_X0_save rfl rfl rfl hdV_X0_save ⟨Nat.le_of_ble_eq_true rfl, Nat.le_of_ble_eq_true rfl⟩) ⟨PM_blind, va_recv hK.1 hP (ci := 0) (q0 := 1) rfl rfl, PM_at hP hD hK⟩ rfl rfl hl.1 rfl (lv_room (Nat.le_of_ble_eq_true rfl)) dX4_tell_57 ⟨Nat.zero_le _, Nat.zero_le _⟩) hS hA hP hD (fun u8 H locs hP hD hS => ?_)
      refine lv_aload_n hx hb dX4_tell_60 rfl (lv_at hl 0 rfl) ?_
      refine va_get (D := D) (ci := 4) (v := .ref (u8 0 0)) (C := RX4) (T := TX4) (N := 3) hx hb hts inX4_tell_4 hown hK.1 hP 0 rfl rfl 0 (by decide) (hts (.fieldLink RX4 12 "LyingScale" "now" "LLyingScale$State;") (List.mem_of_getElem? (i := 5) rfl)) (fun _ h9 => h9) rfl dX4_tell_61 ?_
      refine lv_iload_n hx hb dX4_tell_64 rfl (lv_at hl 1 rfl) ?_
      refine lv_iload_n hx hb dX4_tell_65 rfl (lv_at hl 2 rfl) ?_
      refine lv_iload_n hx hb dX4_tell_66 rfl (lv_at hl 3 rfl) ?_
      replace h := bd h
      obtain ⟨t9, et9, h⟩ := h
      refine callMv (wr := [(h0, .inr (4, [.ref (u8 0 0), .ref (u8 6 1), .ref (u8 5 0)])), (u8 6 1, .inr (0, [.ref (u8 6 2), .int ((t7 6).1 0)])), (u8 6 2, .inl (T 3, 4, .inr (.inr (.inr (.inr (hsQ u8)))))), (u8 1 0, .inr (2, [.ref (u8 1 1), .ref (u8 1 2), .ref (u8 1 3), .ref (u8 1 4), .int ((t7 1).1 0), .int ((t7 1).1 1), .int ((t7 1).1 2), .int ((t7 1).1 3), .int ((t7 1).1 4)])), (u8 1 1, .inr (3, [.ref (u8 1 5), .ref (u8 1 6), .ref (u8 1 7), .int ((t7 1).1 5)])), (u8 1 2, .inr (3, [.ref (u8 1 8), .ref (u8 1 9), .ref (u8 1 10), .int ((t7 1).1 6)])), (u8 1 3, .inl (T 0, 33, .inl ((t7 1).2 6))), (u8 1 4, .inl (T 0, 33, .inl ((t7 1).2 7))), (u8 1 5, .inl (T 0, 40, .inl ((t7 1).2 0))), (u8 1 6, .inl (T 0, 40, .inl ((t7 1).2 1))), (u8 1 7, .inl (T 0, 40, .inl ((t7 1).2 2))), (u8 1 8, .inl (T 0, 8, .inl ((t7 1).2 3))), (u8 1 9, .inl (T 0, 8, .inl ((t7 1).2 4))), (u8 1 10, .inl (T 0, 8, .inl ((t7 1).2 5))), (u8 2 0, .inr (2, [.ref (u8 2 1), .ref (u8 2 2), .ref (u8 2 3), .ref (u8 2 4), .int ((t7 2).1 0), .int ((t7 2).1 1), .int ((t7 2).1 2), .int ((t7 2).1 3), .int ((t7 2).1 4)])), (u8 2 1, .inr (3, [.ref (u8 2 5), .ref (u8 2 6), .ref (u8 2 7), .int ((t7 2).1 5)])), (u8 2 2, .inr (3, [.ref (u8 2 8), .ref (u8 2 9), .ref (u8 2 10), .int ((t7 2).1 6)])), (u8 2 3, .inl (T 0, 33, .inl ((t7 2).2 6))), (u8 2 4, .inl (T 0, 33, .inl ((t7 2).2 7))), (u8 2 5, .inl (T 0, 40, .inl ((t7 2).2 0))), (u8 2 6, .inl (T 0, 40, .inl ((t7 2).2 1))), (u8 2 7, .inl (T 0, 40, .inl ((t7 2).2 2))), (u8 2 8, .inl (T 0, 8, .inl ((t7 2).2 3))), (u8 2 9, .inl (T 0, 8, .inl ((t7 2).2 4))), (u8 2 10, .inl (T 0, 8, .inl ((t7 2).2 5))), (u8 3 0, .inr (2, [.ref (u8 3 1), .ref (u8 3 2), .ref (u8 3 3), .ref (u8 3 4), .int ((t7 3).1 0), .int ((t7 3).1 1), .int ((t7 3).1 2), .int ((t7 3).1 3), .int ((t7 3).1 4)])), (u8 3 1, .inr (3, [.ref (u8 3 5), .ref (u8 3 6), .ref (u8 3 7), .int ((t7 3).1 5)])), (u8 3 2, .inr (3, [.ref (u8 3 8), .ref (u8 3 9), .ref (u8 3 10), .int ((t7 3).1 6)])), (u8 3 3, .inl (T 0, 33, .inl ((t7 3).2 6))), (u8 3 4, .inl (T 0, 33, .inl ((t7 3).2 7))), (u8 3 5, .inl (T 0, 40, .inl ((t7 3).2 0))), (u8 3 6, .inl (T 0, 40, .inl ((t7 3).2 1))), (u8 3 7, .inl (T 0, 40, .inl ((t7 3).2 2))), (u8 3 8, .inl (T 0, 8, .inl ((t7 3).2 3))), (u8 3 9, .inl (T 0, 8, .inl ((t7 3).2 4))), (u8 3 10, .inl (T 0, 8, .inl ((t7 3).2 5))), (u8 4 0, .inr (2, [.ref (u8 4 1), .ref (u8 4 2), .ref (u8 4 3), .ref (u8 4 4), .int ((t7 4).1 0), .int ((t7 4).1 1), .int ((t7 4).1 2), .int ((t7 4).1 3), .int ((t7 4).1 4)])), (u8 4 1, .inr (3, [.ref (u8 4 5), .ref (u8 4 6), .ref (u8 4 7), .int ((t7 4).1 5)])), (u8 4 2, .inr (3, [.ref (u8 4 8), .ref (u8 4 9), .ref (u8 4 10), .int ((t7 4).1 6)])), (u8 4 3, .inl (T 0, 33, .inl ((t7 4).2 6))), (u8 4 4, .inl (T 0, 33, .inl ((t7 4).2 7))), (u8 4 5, .inl (T 0, 40, .inl ((t7 4).2 0))), (u8 4 6, .inl (T 0, 40, .inl ((t7 4).2 1))), (u8 4 7, .inl (T 0, 40, .inl ((t7 4).2 2))), (u8 4 8, .inl (T 0, 8, .inl ((t7 4).2 3))), (u8 4 9, .inl (T 0, 8, .inl ((t7 4).2 4))), (u8 4 10, .inl (T 0, 8, .inl ((t7 4).2 5))), (u8 5 0, .inr (1, [.ref (u8 5 1), .ref (u8 5 2), .ref (u8 5 3), .ref (u8 5 4), .int ((t7 5).1 0), .int ((t7 5).1 1), .int ((t7 5).1 2), .int ((t7 5).1 3), .int ((t7 5).1 4)])), (u8 5 1, .inl (T 0, 100, .inl ((t7 5).2 0))), (u8 5 2, .inl (T 0, 20, .inl ((t7 5).2 1))), (u8 5 3, .inl (T 0, 20, .inl ((t7 5).2 2))), (u8 5 4, .inl (T 0, 20, .inl ((t7 5).2 3)))]) (ws' := scW T h0 u8 (zU t7 0 t9)) (va_runV (As := [.int v1, .int v2, .int v3]) (rest := []) ⟨hx, hb, hml, hown, hts⟩ (c_X2_learn l D T (u8 0) (t7 0) v1 v2 v3 _ t9 et9) (cwV 3 hts gX4_tell_X2_learn rfl rfl rfl hdV_X2_learn ⟨Nat.le_of_ble_eq_true rfl, Nat.le_of_ble_eq_true rfl⟩) ⟨PM_blind, va_recv hK.1 hP (ci := 2) (q0 := 3) rfl rfl, PM_at (hP.sub (ws' := stW T (u8 0) (t7 0)) [3, 4, 5, 6, 7, 8, 9, 10, 11, 12, 13] rfl) (hD.sub (ws' := stW T (u8 0) (t7 0)) [3, 4, 5, 6, 7, 8, 9, 10, 11, 12, 13] (by decide) rfl) hK⟩ rfl rfl hl.1 rfl (lv_room (Nat.le_of_ble_eq_true rfl)) dX4_tell_67 ⟨Nat.zero_le _, Nat.zero_le _⟩) hS hA hP hD [3, 4, 5, 6, 7, 8, 9, 10, 11, 12, 13] [0, 1, 2, 14, 15, 16, 17, 18, 19, 20, 21, 22, 23, 24, 25, 26, 27, 28, 29, 30, 31, 32, 33, 34, 35, 36, 37, 38, 39, 40, 41, 42, 43, 44, 45, 46, 47, 48, 49, 50, 51, 52, 53, 54, 55, 56, 57, 58, 59, 60, 61, 62] rfl rfl (by decide) (by decide) [0, 1, 2, 52, 53, 54, 55, 56, 57, 58, 59, 60, 61, 62, 3, 4, 5, 6, 7, 8, 9, 10, 11, 12, 13, 14, 15, 16, 17, 18, 19, 20, 21, 22, 23, 24, 25, 26, 27, 28, 29, 30, 31, 32, 33, 34, 35, 36, 37, 38, 39, 40, 41, 42, 43, 44, 45, 46, 47, 48, 49, 50, 51] (by decide) rfl (fun H locs hP hD hS => ?_)
      refine lv_aload_n hx hb dX4_tell_70 rfl (lv_at hl 0 rfl) ?_
      refine va_get (D := D) (ci := 4) (v := .ref (u8 0 0)) (C := RX4) (T := TX4) (N := 3) hx hb hts inX4_tell_4 hown hK.1 hP 0 rfl rfl 0 (by decide) (hts (.fieldLink RX4 12 "LyingScale" "now" "LLyingScale$State;") (List.mem_of_getElem? (i := 5) rfl)) (fun _ h9 => h9) rfl dX4_tell_71 ?_
      replace h := bd h
      obtain ⟨t10, et10, h⟩ := h
      refine callRi (v := t10) (va_runV (As := []) (rest := []) ⟨hx, hb, hml, hown, hts⟩ (c_X2_countLeft l D T (u8 0) ((zU t7 0 t9) 0) t10 et10) (cwV 0 hts gX4_tell_X2_countLeft rfl rfl rfl hdV_X2_countLeft ⟨Nat.le_of_ble_eq_true rfl, Nat.le_of_ble_eq_true rfl⟩) ⟨PB_blind, va_recv hK.1 hP (ci := 2) (q0 := 3) rfl rfl, PB_at (hP.sub (ws' := stW T (u8 0) ((zU t7 0 t9) 0)) [3, 4, 5, 6, 7, 8, 9, 10, 11, 12, 13] rfl) hK⟩ rfl rfl hl.1 rfl (lv_room (Nat.le_of_ble_eq_true rfl)) dX4_tell_74 ⟨Nat.zero_le _, Nat.zero_le _⟩) ?_
      obtain rfl := Option.some.inj h
      refine vx_ret ?_
      refine W.widen (k := 1) (n := 6) (Nat.zero_le _) (Nat.zero_le _) ?_
      exact W.iret hx hb hr (fun t ht hW => ⟨⟨_, (u8, zU t7 0 t9), rfl, rfl, by rw [ht]; exact hP, hD⟩, hS.F ht⟩) hS.2.2 dX4_tell_77 hlocks
    replace h := ip c6 h
    obtain rfl := Option.some.inj h
    obtain ⟨sa, hsa⟩ := hE.2.2.1 (80, "40 weighings were told") (List.mem_of_getElem? (i := 3) rfl)
    exact vx_throwS (A := A) (names := exNm) (ik := 78) (is := 80) (ic := 82) (sa := sa) hx hb hfl hown (by decide +kernel) exFit (hts (.classLink RX4 78 "java/lang/IllegalStateException") (List.mem_of_getElem? (i := 3) rfl)) (hts (.initialized "java/lang/IllegalStateException") (List.mem_of_getElem? (i := 4) rfl)) hsa (vx_hat (fun w hw => hts w (atmX4_tell_82 w hw)) bad_82 (exB82 hE.2.2.2)) ot_82 hE.1 hE.2.1 hS (hl.1.trans hml.symm) dX4_tell_39 dX4_tell_42 dX4_tell_43 dX4_tell_45 dX4_tell_48 (fun x hx => (hno x hx).elim) (Nat.le_of_ble_eq_true rfl) (Nat.le_of_ble_eq_true rfl) (Nat.le_of_ble_eq_true rfl) (Nat.le_of_ble_eq_true rfl) hlocks (fun t hv hz hk => ⟨(), trivial, rfl, hz, fun q hq _ => hk q hq⟩) hS.2.2 (Nat.le_of_ble_eq_true rfl) (Nat.le_of_ble_eq_true rfl)
  replace h := ip c4 h
  obtain rfl := Option.some.inj h
  obtain ⟨sa, hsa⟩ := hE.2.2.1 (72, "no weighing, or no answer") (List.mem_of_getElem? (i := 2) rfl)
  exact vx_throwS (A := A) (names := exNm) (ik := 30) (is := 72) (ic := 34) (sa := sa) hx hb hfl hown (by decide +kernel) exFit (hts (.classLink RX4 30 "java/lang/IllegalArgumentException") (List.mem_of_getElem? (i := 1) rfl)) (hts (.initialized "java/lang/IllegalArgumentException") (List.mem_of_getElem? (i := 2) rfl)) hsa (vx_hat (fun w hw => hts w (atmX4_tell_34 w hw)) bad_34 (exB34 hE.2.2.2)) ot_34 hE.1 hE.2.1 hS (hl.1.trans hml.symm) dX4_tell_19 dX4_tell_22 dX4_tell_23 dX4_tell_25 dX4_tell_28 (fun x hx => (hno x hx).elim) (Nat.le_of_ble_eq_true rfl) (Nat.le_of_ble_eq_true rfl) (Nat.le_of_ble_eq_true rfl) (Nat.le_of_ble_eq_true rfl) hlocks (fun t hv hz hk => ⟨(), trivial, rfl, hz, fun q hq _ => hk q hq⟩) hS.2.2 (Nat.le_of_ble_eq_true rfl) (Nat.le_of_ble_eq_true rfl)
set_option maxHeartbeats 4000000 in
set_option maxRecDepth 100000 in
theorem c_X4_forget (l : Launch) (D : va_G) (T : Nat → ClassId) (h0 : Nat) (A0 : Nat → Nat → Nat) (Z0 : Nat → St) (sz : Nat) (r : Int32 × (Nat → St)) (h : F_X4_forget Z0 = some r) : Met l yX4_forget wsX4_forget ({ frames := 5, cells := 0, slots := 0, locals := 108 } : Room) (va_Pc [.ref h0] (PM D T (scW T h0 A0 (Z0)) sz)) (QEi D (scW T h0) r.1 r.2 (va_A (scW T h0 A0 (Z0)) sz)) 0 0 (va_A (scW T h0 A0 (Z0)) sz) := by
  refine met_of (cc := cX4_forget) (maxL := 2) (ret := (some .int)) (lv := [(0, .ref h0)]) (by decide) rfl (Nat.le_of_ble_eq_true rfl) rfl ?_
  intro p e s m args below meth c ls C0 hl hB
  obtain ⟨hx, hb, hr, hml, hown, hts, hlocks, hname⟩ := C0
  obtain ⟨hsz, hP, hK, hD0⟩ := hB
  subst hsz
  have hD := hD0.self (sz := s.heap.size)
  generalize hAe : va_A (scW T h0 A0 (Z0)) s.heap.size = A at hD ⊢
  have hA : ∀ q : Nat, s.heap.size ≤ q → A q := fun q h => by rw [← hAe]; exact Or.inr h
  have hS : va_S A s.heap s.heap [] := va_S.rf
  unfold F_X4_forget at h
  refine lv_aload_n hx hb dX4_forget_0 rfl (lv_at hl 0 rfl) ?_
  refine va_get (D := D) (ci := 4) (v := .ref (A0 6 1)) (C := RX4) (T := TX4) (N := 3) hx hb hts inX4_forget_4 hown hK.1 hP 0 rfl rfl 1 (by decide) (hts (.fieldLink RX4 19 "LyingScale" "history" "LLyingScale$History;") (List.mem_of_getElem? (i := 1) rfl)) (fun _ h9 => h9) rfl dX4_forget_1 ?_
  refine lv_aload_n hx hb dX4_forget_4 rfl (lv_at hl 0 rfl) ?_
  refine va_get (D := D) (ci := 4) (v := .ref (A0 0 0)) (C := RX4) (T := TX4) (N := 3) hx hb hts inX4_forget_4 hown hK.1 hP 0 rfl rfl 0 (by decide) (hts (.fieldLink RX4 12 "LyingScale" "now" "LLyingScale$State;") (List.mem_of_getElem? (i := 2) rfl)) (fun _ h9 => h9) rfl dX4_forget_5 ?_
  replace h := bd h
  obtain ⟨t1, et1, h⟩ := h
  refine callEv (va_runV (As := [.ref (A0 0 0)]) (rest := []) ⟨hx, hb, hml, hown, hts⟩ (c_X0_save l D T h0 A0 Z0 _ t1 et1) (cwV 1 hts gX4_forget_X0_save rfl rfl rfl hdV_X0_save ⟨Nat.le_of_ble_eq_true rfl, Nat.le_of_ble_eq_true rfl⟩) ⟨PM_blind, va_recv hK.1 hP (ci := 0) (q0 := 1) rfl rfl, PM_at hP hD hK⟩ rfl rfl hl.1 rfl (lv_room (Nat.le_of_ble_eq_true rfl)) dX4_forget_8 ⟨Nat.zero_le _, Nat.zero_le _⟩) hS hA hP hD (fun u2 H locs hP hD hS => ?_)
  refine lv_aload_n hx hb dX4_forget_11 rfl (lv_at hl 0 rfl) ?_
  refine va_get (D := D) (ci := 4) (v := .ref (u2 0 0)) (C := RX4) (T := TX4) (N := 3) hx hb hts inX4_forget_4 hown hK.1 hP 0 rfl rfl 0 (by decide) (hts (.fieldLink RX4 12 "LyingScale" "now" "LLyingScale$State;") (List.mem_of_getElem? (i := 2) rfl)) (fun _ h9 => h9) rfl dX4_forget_12 ?_
  refine va_getN (D := D) (ci := 2) (v := .ref (u2 0 1)) (C := RX2) (T := TX2) (N := 9) hx hb hts inX4_forget_2 hown hK.1 hP 3 rfl rfl 0 (by decide) (va_Nw.use rfl (hK.2 (.fieldLinkNest RX4 41 "LyingScale$State" "told" "LLyingScale$Weighings;" "LyingScale") (List.mem_of_getElem? (i := 10) rfl))) (fun _ h9 => h9) rfl dX4_forget_15 ?_
  refine va_getN (D := D) (ci := 3) (v := .int ((t1 0).1 5)) (C := RX3) (T := TX3) (N := 4) hx hb hts inX4_forget_3 hown hK.1 hP 4 rfl rfl 3 (by decide) (va_Nw.use rfl (hK.2 (.fieldLinkNest RX4 45 "LyingScale$Weighings" "count" "I" "LyingScale") (List.mem_of_getElem? (i := 11) rfl))) (fun _ h9 => h9) rfl dX4_forget_18 ?_
  refine lv_istore_n (lv' := [(1, .int ((t1 0).1 5)), (0, .ref h0)]) hx hb dX4_forget_21 rfl hl (by decide) rfl (fun ls hl => ?_)
  refine lv_aload_n hx hb dX4_forget_22 rfl (lv_at hl 1 rfl) ?_
  refine va_get (D := D) (ci := 4) (v := .ref (u2 0 0)) (C := RX4) (T := TX4) (N := 3) hx hb hts inX4_forget_4 hown hK.1 hP 0 rfl rfl 0 (by decide) (hts (.fieldLink RX4 12 "LyingScale" "now" "LLyingScale$State;") (List.mem_of_getElem? (i := 2) rfl)) (fun _ h9 => h9) rfl dX4_forget_23 ?_
  replace h := bd h
  obtain ⟨t3, et3, h⟩ := h
  refine callMv (wr := [(h0, .inr (4, [.ref (u2 0 0), .ref (u2 6 1), .ref (u2 5 0)])), (u2 6 1, .inr (0, [.ref (u2 6 2), .int ((t1 6).1 0)])), (u2 6 2, .inl (T 3, 4, .inr (.inr (.inr (.inr (hsQ u2)))))), (u2 1 0, .inr (2, [.ref (u2 1 1), .ref (u2 1 2), .ref (u2 1 3), .ref (u2 1 4), .int ((t1 1).1 0), .int ((t1 1).1 1), .int ((t1 1).1 2), .int ((t1 1).1 3), .int ((t1 1).1 4)])), (u2 1 1, .inr (3, [.ref (u2 1 5), .ref (u2 1 6), .ref (u2 1 7), .int ((t1 1).1 5)])), (u2 1 2, .inr (3, [.ref (u2 1 8), .ref (u2 1 9), .ref (u2 1 10), .int ((t1 1).1 6)])), (u2 1 3, .inl (T 0, 33, .inl ((t1 1).2 6))), (u2 1 4, .inl (T 0, 33, .inl ((t1 1).2 7))), (u2 1 5, .inl (T 0, 40, .inl ((t1 1).2 0))), (u2 1 6, .inl (T 0, 40, .inl ((t1 1).2 1))), (u2 1 7, .inl (T 0, 40, .inl ((t1 1).2 2))), (u2 1 8, .inl (T 0, 8, .inl ((t1 1).2 3))), (u2 1 9, .inl (T 0, 8, .inl ((t1 1).2 4))), (u2 1 10, .inl (T 0, 8, .inl ((t1 1).2 5))), (u2 2 0, .inr (2, [.ref (u2 2 1), .ref (u2 2 2), .ref (u2 2 3), .ref (u2 2 4), .int ((t1 2).1 0), .int ((t1 2).1 1), .int ((t1 2).1 2), .int ((t1 2).1 3), .int ((t1 2).1 4)])), (u2 2 1, .inr (3, [.ref (u2 2 5), .ref (u2 2 6), .ref (u2 2 7), .int ((t1 2).1 5)])), (u2 2 2, .inr (3, [.ref (u2 2 8), .ref (u2 2 9), .ref (u2 2 10), .int ((t1 2).1 6)])), (u2 2 3, .inl (T 0, 33, .inl ((t1 2).2 6))), (u2 2 4, .inl (T 0, 33, .inl ((t1 2).2 7))), (u2 2 5, .inl (T 0, 40, .inl ((t1 2).2 0))), (u2 2 6, .inl (T 0, 40, .inl ((t1 2).2 1))), (u2 2 7, .inl (T 0, 40, .inl ((t1 2).2 2))), (u2 2 8, .inl (T 0, 8, .inl ((t1 2).2 3))), (u2 2 9, .inl (T 0, 8, .inl ((t1 2).2 4))), (u2 2 10, .inl (T 0, 8, .inl ((t1 2).2 5))), (u2 3 0, .inr (2, [.ref (u2 3 1), .ref (u2 3 2), .ref (u2 3 3), .ref (u2 3 4), .int ((t1 3).1 0), .int ((t1 3).1 1), .int ((t1 3).1 2), .int ((t1 3).1 3), .int ((t1 3).1 4)])), (u2 3 1, .inr (3, [.ref (u2 3 5), .ref (u2 3 6), .ref (u2 3 7), .int ((t1 3).1 5)])), (u2 3 2, .inr (3, [.ref (u2 3 8), .ref (u2 3 9), .ref (u2 3 10), .int ((t1 3).1 6)])), (u2 3 3, .inl (T 0, 33, .inl ((t1 3).2 6))), (u2 3 4, .inl (T 0, 33, .inl ((t1 3).2 7))), (u2 3 5, .inl (T 0, 40, .inl ((t1 3).2 0))), (u2 3 6, .inl (T 0, 40, .inl ((t1 3).2 1))), (u2 3 7, .inl (T 0, 40, .inl ((t1 3).2 2))), (u2 3 8, .inl (T 0, 8, .inl ((t1 3).2 3))), (u2 3 9, .inl (T 0, 8, .inl ((t1 3).2 4))), (u2 3 10, .inl (T 0, 8, .inl ((t1 3).2 5))), (u2 4 0, .inr (2, [.ref (u2 4 1), .ref (u2 4 2), .ref (u2 4 3), .ref (u2 4 4), .int ((t1 4).1 0), .int ((t1 4).1 1), .int ((t1 4).1 2), .int ((t1 4).1 3), .int ((t1 4).1 4)])), (u2 4 1, .inr (3, [.ref (u2 4 5), .ref (u2 4 6), .ref (u2 4 7), .int ((t1 4).1 5)])), (u2 4 2, .inr (3, [.ref (u2 4 8), .ref (u2 4 9), .ref (u2 4 10), .int ((t1 4).1 6)])), (u2 4 3, .inl (T 0, 33, .inl ((t1 4).2 6))), (u2 4 4, .inl (T 0, 33, .inl ((t1 4).2 7))), (u2 4 5, .inl (T 0, 40, .inl ((t1 4).2 0))), (u2 4 6, .inl (T 0, 40, .inl ((t1 4).2 1))), (u2 4 7, .inl (T 0, 40, .inl ((t1 4).2 2))), (u2 4 8, .inl (T 0, 8, .inl ((t1 4).2 3))), (u2 4 9, .inl (T 0, 8, .inl ((t1 4).2 4))), (u2 4 10, .inl (T 0, 8, .inl ((t1 4).2 5))), (u2 5 0, .inr (1, [.ref (u2 5 1), .ref (u2 5 2), .ref (u2 5 3), .ref (u2 5 4), .int ((t1 5).1 0), .int ((t1 5).1 1), .int ((t1 5).1 2), .int ((t1 5).1 3), .int ((t1 5).1 4)])), (u2 5 1, .inl (T 0, 100, .inl ((t1 5).2 0))), (u2 5 2, .inl (T 0, 20, .inl ((t1 5).2 1))), (u2 5 3, .inl (T 0, 20, .inl ((t1 5).2 2))), (u2 5 4, .inl (T 0, 20, .inl ((t1 5).2 3)))]) (ws' := scW T h0 u2 (zU t1 0 t3)) (va_runV (As := []) (rest := []) ⟨hx, hb, hml, hown, hts⟩ (c_X2_forgetTold l D T (u2 0) (t1 0) _ t3 et3) (cwV 0 hts gX4_forget_X2_forgetTold rfl rfl rfl hdV_X2_forgetTold ⟨Nat.le_of_ble_eq_true rfl, Nat.le_of_ble_eq_true rfl⟩) ⟨PM_blind, va_recv hK.1 hP (ci := 2) (q0 := 3) rfl rfl, PM_at (hP.sub (ws' := stW T (u2 0) (t1 0)) [3, 4, 5, 6, 7, 8, 9, 10, 11, 12, 13] rfl) (hD.sub (ws' := stW T (u2 0) (t1 0)) [3, 4, 5, 6, 7, 8, 9, 10, 11, 12, 13] (by decide) rfl) hK⟩ rfl rfl hl.1 rfl (lv_room (Nat.le_of_ble_eq_true rfl)) dX4_forget_26 ⟨Nat.zero_le _, Nat.zero_le _⟩) hS hA hP hD [3, 4, 5, 6, 7, 8, 9, 10, 11, 12, 13] [0, 1, 2, 14, 15, 16, 17, 18, 19, 20, 21, 22, 23, 24, 25, 26, 27, 28, 29, 30, 31, 32, 33, 34, 35, 36, 37, 38, 39, 40, 41, 42, 43, 44, 45, 46, 47, 48, 49, 50, 51, 52, 53, 54, 55, 56, 57, 58, 59, 60, 61, 62] rfl rfl (by decide) (by decide) [0, 1, 2, 52, 53, 54, 55, 56, 57, 58, 59, 60, 61, 62, 3, 4, 5, 6, 7, 8, 9, 10, 11, 12, 13, 14, 15, 16, 17, 18, 19, 20, 21, 22, 23, 24, 25, 26, 27, 28, 29, 30, 31, 32, 33, 34, 35, 36, 37, 38, 39, 40, 41, 42, 43, 44, 45, 46, 47, 48, 49, 50, 51] (by decide) rfl (fun H locs hP hD hS => ?_)
  refine lv_iload_n hx hb dX4_forget_29 rfl (lv_at hl 0 rfl) ?_
  obtain rfl := Option.some.inj h
  exact W.iret hx hb hr (fun t ht hW => ⟨⟨_, u2, rfl, rfl, by rw [ht]; exact hP, hD⟩, hS.F ht⟩) hS.2.2 dX4_forget_30 hlocks
set_option maxHeartbeats 4000000 in
set_option maxRecDepth 100000 in
theorem c_X4_hide (l : Launch) (hfl : l.stackTraces = false) (D : va_G) (T : Nat → ClassId) (h0 : Nat) (A0 : Nat → Nat → Nat) (Z0 : Nat → St) (v1 : Int32) (v2 : Int32) (sz : Nat) (r : Sum String (Int32 × (Nat → St))) (h : F_X4_hide Z0 v1 v2 = some r) : vx_Met l yX4_hide wsX4_hide ({ frames := 6, cells := 1, slots := 6, locals := 108 } : Room) (va_Pc [.ref h0, .int v1, .int v2] (PX D T (scW T h0 A0 (Z0)) sz)) (QXi D (scW T h0) r (va_A (scW T h0 A0 (Z0)) sz)) (XXq r) 1 6 (va_A (scW T h0 A0 (Z0)) sz) := by
  refine met_ofX (cc := cX4_hide) (maxL := 4) (ret := (some .int)) (lv := [(0, .ref h0), (1, .int v1), (2, .int v2)]) (by decide) rfl (Nat.le_of_ble_eq_true rfl) rfl ?_
  intro p e s m args below meth c ls C0 hno hl hB
  obtain ⟨hx, hb, hr, hml, hown, hts, hlocks, hname⟩ := C0
  obtain ⟨⟨hsz, hP, hK, hD0⟩, hE⟩ := hB
  subst hsz
  have hD := hD0.self (sz := s.heap.size)
  generalize hAe : va_A (scW T h0 A0 (Z0)) s.heap.size = A at hD hE ⊢
  have hA : ∀ q : Nat, s.heap.size ≤ q → A q := fun q h => by rw [← hAe]; exact Or.inr h
  have hS : va_S A s.heap s.heap [] := va_S.rf
  unfold F_X4_hide at h
  refine lv_aload_n hx hb dX4_hide_0 rfl (lv_at hl 0 rfl) ?_
  refine va_get (D := D) (ci := 4) (v := .ref (A0 0 0)) (C := RX4) (T := TX4) (N := 3) hx hb hts inX4_hide_4 hown hK.1 hP 0 rfl rfl 0 (by decide) (hts (.fieldLink RX4 12 "LyingScale" "now" "LLyingScale$State;") (List.mem_of_getElem? (i := 5) rfl)) (fun _ h9 => h9) rfl dX4_hide_1 ?_
  refine lv_iload_n hx hb dX4_hide_4 rfl (lv_at hl 1 rfl) ?_
  replace h := bd h
  obtain ⟨t1, et1, h⟩ := h
  refine callRi (v := t1) (va_runV (As := [.int v1]) (rest := []) ⟨hx, hb, hml, hown, hts⟩ (c_X2_isCase l D T (A0 0) (Z0 0) v1 t1 et1) (cwV 1 hts gX4_hide_X2_isCase rfl rfl rfl hdV_X2_isCase ⟨Nat.le_of_ble_eq_true rfl, Nat.le_of_ble_eq_true rfl⟩) ⟨PB_blind, va_recv hK.1 hP (ci := 2) (q0 := 3) rfl rfl, PB_at (hP.sub (ws' := stW T (A0 0) (Z0 0)) [3, 4, 5, 6, 7, 8, 9, 10, 11, 12, 13] rfl) hK⟩ rfl rfl hl.1 rfl (lv_room (Nat.le_of_ble_eq_true rfl)) dX4_hide_5 ⟨Nat.zero_le _, Nat.zero_le _⟩) ?_
  refine lv_if_ne (tgt := 21) hx hb dX4_hide_8 (by decide) (fun c2 => ?_) (fun c2 => ?_)
  · replace h := im c2 h
    refine lv_iload_n hx hb dX4_hide_21 rfl (lv_at hl 2 rfl) ?_
    refine lv_if_lt (tgt := 31) hx hb dX4_hide_22 (by decide) (fun c3 => ?_) (fun c3 => ?_)
    · replace h := ip c3 h
      obtain rfl := Option.some.inj h
      obtain ⟨sa, hsa⟩ := hE.2.2.1 (55, "lies is out of range") (List.mem_of_getElem? (i := 1) rfl)
      exact vx_throwS (A := A) (names := exNm) (ik := 30) (is := 55) (ic := 34) (sa := sa) hx hb hfl hown (by decide +kernel) exFit (hts (.classLink RX4 30 "java/lang/IllegalArgumentException") (List.mem_of_getElem? (i := 3) rfl)) (hts (.initialized "java/lang/IllegalArgumentException") (List.mem_of_getElem? (i := 4) rfl)) hsa (vx_hat (fun w hw => hts w (atmX4_hide_34 w hw)) bad_34 (exB34 hE.2.2.2)) ot_34 hE.1 hE.2.1 hS (hl.1.trans hml.symm) dX4_hide_31 dX4_hide_34 dX4_hide_35 dX4_hide_37 dX4_hide_40 (fun x hx => (hno x hx).elim) (Nat.le_of_ble_eq_true rfl) (Nat.le_of_ble_eq_true rfl) (Nat.le_of_ble_eq_true rfl) (Nat.le_of_ble_eq_true rfl) hlocks (fun t hv hz hk => ⟨(), trivial, rfl, hz, fun q hq _ => hk q hq⟩) hS.2.2 (Nat.le_of_ble_eq_true rfl) (Nat.le_of_ble_eq_true rfl)
    replace h := im c3 h
    refine lv_iload_n hx hb dX4_hide_25 rfl (lv_at hl 2 rfl) ?_
    refine lv_ldc hx hb hown (hts (.constant RX4 98 (1073741823)) (List.mem_of_getElem? (i := 6) rfl)) dX4_hide_26 ?_
    refine lv_icmp_le (tgt := 41) hx hb dX4_hide_28 (by decide) (fun c4 => ?_) (fun c4 => ?_)
    · replace h := ip c4 h
      refine lv_aload_n hx hb dX4_hide_41 rfl (lv_at hl 0 rfl) ?_
      refine va_get (D := D) (ci := 4) (v := .ref (A0 6 1)) (C := RX4) (T := TX4) (N := 3) hx hb hts inX4_hide_4 hown hK.1 hP 0 rfl rfl 1 (by decide) (hts (.fieldLink RX4 19 "LyingScale" "history" "LLyingScale$History;") (List.mem_of_getElem? (i := 7) rfl)) (fun _ h9 => h9) rfl dX4_hide_42 ?_
      refine lv_aload_n hx hb dX4_hide_45 rfl (lv_at hl 0 rfl) ?_
      refine va_get (D := D) (ci := 4) (v := .ref (A0 0 0)) (C := RX4) (T := TX4) (N := 3) hx hb hts inX4_hide_4 hown hK.1 hP 0 rfl rfl 0 (by decide) (hts (.fieldLink RX4 12 "LyingScale" "now" "LLyingScale$State;") (List.mem_of_getElem? (i := 5) rfl)) (fun _ h9 => h9) rfl dX4_hide_46 ?_
      replace h := bd h
      obtain ⟨t5, et5, h⟩ := h
      refine callEv (va_runV (As := [.ref (A0 0 0)]) (rest := []) ⟨hx, hb, hml, hown, hts⟩ (c_X0_save l D T h0 A0 Z0 _ t5 et5) (cwV 1 hts gX4_hide_X0_save rfl rfl rfl hdV_X0_save ⟨Nat.le_of_ble_eq_true rfl, Nat.le_of_ble_eq_true rfl⟩) ⟨PM_blind, va_recv hK.1 hP (ci := 0) (q0 := 1) rfl rfl, PM_at hP hD hK⟩ rfl rfl hl.1 rfl (lv_room (Nat.le_of_ble_eq_true rfl)) dX4_hide_49 ⟨Nat.zero_le _, Nat.zero_le _⟩) hS hA hP hD (fun u6 H locs hP hD hS => ?_)
      refine lv_aload_n hx hb dX4_hide_52 rfl (lv_at hl 0 rfl) ?_
      refine va_get (D := D) (ci := 4) (v := .ref (u6 0 0)) (C := RX4) (T := TX4) (N := 3) hx hb hts inX4_hide_4 hown hK.1 hP 0 rfl rfl 0 (by decide) (hts (.fieldLink RX4 12 "LyingScale" "now" "LLyingScale$State;") (List.mem_of_getElem? (i := 5) rfl)) (fun _ h9 => h9) rfl dX4_hide_53 ?_
      refine va_getN (D := D) (ci := 2) (v := .int ((t5 0).1 2)) (C := RX2) (T := TX2) (N := 9) hx hb hts inX4_hide_2 hown hK.1 hP 3 rfl rfl 6 (by decide) (va_Nw.use rfl (hK.2 (.fieldLinkNest RX4 99 "LyingScale$State" "hidden" "I" "LyingScale") (List.mem_of_getElem? (i := 13) rfl))) (fun _ h9 => h9) rfl dX4_hide_56 ?_
      refine lv_istore_n (lv' := [(3, .int ((t5 0).1 2)), (0, .ref h0), (1, .int v1), (2, .int v2)]) hx hb dX4_hide_59 rfl hl (by decide) rfl (fun ls hl => ?_)
      refine lv_aload_n hx hb dX4_hide_60 rfl (lv_at hl 1 rfl) ?_
      refine va_get (D := D) (ci := 4) (v := .ref (u6 0 0)) (C := RX4) (T := TX4) (N := 3) hx hb hts inX4_hide_4 hown hK.1 hP 0 rfl rfl 0 (by decide) (hts (.fieldLink RX4 12 "LyingScale" "now" "LLyingScale$State;") (List.mem_of_getElem? (i := 5) rfl)) (fun _ h9 => h9) rfl dX4_hide_61 ?_
      refine lv_iload_n hx hb dX4_hide_64 rfl (lv_at hl 2 rfl) ?_
      refine lv_iload_n hx hb dX4_hide_65 rfl (lv_at hl 3 rfl) ?_
      replace h := bd h
      obtain ⟨t7, et7, h⟩ := h
      refine callMv (wr := [(h0, .inr (4, [.ref (u6 0 0), .ref (u6 6 1), .ref (u6 5 0)])), (u6 6 1, .inr (0, [.ref (u6 6 2), .int ((t5 6).1 0)])), (u6 6 2, .inl (T 3, 4, .inr (.inr (.inr (.inr (hsQ u6)))))), (u6 1 0, .inr (2, [.ref (u6 1 1), .ref (u6 1 2), .ref (u6 1 3), .ref (u6 1 4), .int ((t5 1).1 0), .int ((t5 1).1 1), .int ((t5 1).1 2), .int ((t5 1).1 3), .int ((t5 1).1 4)])), (u6 1 1, .inr (3, [.ref (u6 1 5), .ref (u6 1 6), .ref (u6 1 7), .int ((t5 1).1 5)])), (u6 1 2, .inr (3, [.ref (u6 1 8), .ref (u6 1 9), .ref (u6 1 10), .int ((t5 1).1 6)])), (u6 1 3, .inl (T 0, 33, .inl ((t5 1).2 6))), (u6 1 4, .inl (T 0, 33, .inl ((t5 1).2 7))), (u6 1 5, .inl (T 0, 40, .inl ((t5 1).2 0))), (u6 1 6, .inl (T 0, 40, .inl ((t5 1).2 1))), (u6 1 7, .inl (T 0, 40, .inl ((t5 1).2 2))), (u6 1 8, .inl (T 0, 8, .inl ((t5 1).2 3))), (u6 1 9, .inl (T 0, 8, .inl ((t5 1).2 4))), (u6 1 10, .inl (T 0, 8, .inl ((t5 1).2 5))), (u6 2 0, .inr (2, [.ref (u6 2 1), .ref (u6 2 2), .ref (u6 2 3), .ref (u6 2 4), .int ((t5 2).1 0), .int ((t5 2).1 1), .int ((t5 2).1 2), .int ((t5 2).1 3), .int ((t5 2).1 4)])), (u6 2 1, .inr (3, [.ref (u6 2 5), .ref (u6 2 6), .ref (u6 2 7), .int ((t5 2).1 5)])), (u6 2 2, .inr (3, [.ref (u6 2 8), .ref (u6 2 9), .ref (u6 2 10), .int ((t5 2).1 6)])), (u6 2 3, .inl (T 0, 33, .inl ((t5 2).2 6))), (u6 2 4, .inl (T 0, 33, .inl ((t5 2).2 7))), (u6 2 5, .inl (T 0, 40, .inl ((t5 2).2 0))), (u6 2 6, .inl (T 0, 40, .inl ((t5 2).2 1))), (u6 2 7, .inl (T 0, 40, .inl ((t5 2).2 2))), (u6 2 8, .inl (T 0, 8, .inl ((t5 2).2 3))), (u6 2 9, .inl (T 0, 8, .inl ((t5 2).2 4))), (u6 2 10, .inl (T 0, 8, .inl ((t5 2).2 5))), (u6 3 0, .inr (2, [.ref (u6 3 1), .ref (u6 3 2), .ref (u6 3 3), .ref (u6 3 4), .int ((t5 3).1 0), .int ((t5 3).1 1), .int ((t5 3).1 2), .int ((t5 3).1 3), .int ((t5 3).1 4)])), (u6 3 1, .inr (3, [.ref (u6 3 5), .ref (u6 3 6), .ref (u6 3 7), .int ((t5 3).1 5)])), (u6 3 2, .inr (3, [.ref (u6 3 8), .ref (u6 3 9), .ref (u6 3 10), .int ((t5 3).1 6)])), (u6 3 3, .inl (T 0, 33, .inl ((t5 3).2 6))), (u6 3 4, .inl (T 0, 33, .inl ((t5 3).2 7))), (u6 3 5, .inl (T 0, 40, .inl ((t5 3).2 0))), (u6 3 6, .inl (T 0, 40, .inl ((t5 3).2 1))), (u6 3 7, .inl (T 0, 40, .inl ((t5 3).2 2))), (u6 3 8, .inl (T 0, 8, .inl ((t5 3).2 3))), (u6 3 9, .inl (T 0, 8, .inl ((t5 3).2 4))), (u6 3 10, .inl (T 0, 8, .inl ((t5 3).2 5))), (u6 4 0, .inr (2, [.ref (u6 4 1), .ref (u6 4 2), .ref (u6 4 3), .ref (u6 4 4), .int ((t5 4).1 0), .int ((t5 4).1 1), .int ((t5 4).1 2), .int ((t5 4).1 3), .int ((t5 4).1 4)])), (u6 4 1, .inr (3, [.ref (u6 4 5), .ref (u6 4 6), .ref (u6 4 7), .int ((t5 4).1 5)])), (u6 4 2, .inr (3, [.ref (u6 4 8), .ref (u6 4 9), .ref (u6 4 10), .int ((t5 4).1 6)])), (u6 4 3, .inl (T 0, 33, .inl ((t5 4).2 6))), (u6 4 4, .inl (T 0, 33, .inl ((t5 4).2 7))), (u6 4 5, .inl (T 0, 40, .inl ((t5 4).2 0))), (u6 4 6, .inl (T 0, 40, .inl ((t5 4).2 1))), (u6 4 7, .inl (T 0, 40, .inl ((t5 4).2 2))), (u6 4 8, .inl (T 0, 8, .inl ((t5 4).2 3))), (u6 4 9, .inl (T 0, 8, .inl ((t5 4).2 4))), (u6 4 10, .inl (T 0, 8, .inl ((t5 4).2 5))), (u6 5 0, .inr (1, [.ref (u6 5 1), .ref (u6 5 2), .ref (u6 5 3), .ref (u6 5 4), .int ((t5 5).1 0), .int ((t5 5).1 1), .int ((t5 5).1 2), .int ((t5 5).1 3), .int ((t5 5).1 4)])), (u6 5 1, .inl (T 0, 100, .inl ((t5 5).2 0))), (u6 5 2, .inl (T 0, 20, .inl ((t5 5).2 1))), (u6 5 3, .inl (T 0, 20, .inl ((t5 5).2 2))), (u6 5 4, .inl (T 0, 20, .inl ((t5 5).2 3)))]) (ws' := scW T h0 u6 (zU t5 0 t7)) (va_runV (As := [.int v1, .int v2]) (rest := []) ⟨hx, hb, hml, hown, hts⟩ (c_X2_hideCase l D T (u6 0) (t5 0) v1 v2 _ t7 et7) (cwV 2 hts gX4_hide_X2_hideCase rfl rfl rfl hdV_X2_hideCase ⟨Nat.le_of_ble_eq_true rfl, Nat.le_of_ble_eq_true rfl⟩) ⟨PM_blind, va_recv hK.1 hP (ci := 2) (q0 := 3) rfl rfl, PM_at (hP.sub (ws' := stW T (u6 0) (t5 0)) [3, 4, 5, 6, 7, 8, 9, 10, 11, 12, 13] rfl) (hD.sub (ws' := stW T (u6 0) (t5 0)) [3, 4, 5, 6, 7, 8, 9, 10, 11, 12, 13] (by decide) rfl) hK⟩ rfl rfl hl.1 rfl (lv_room (Nat.le_of_ble_eq_true rfl)) dX4_hide_66 ⟨Nat.zero_le _, Nat.zero_le _⟩) hS hA hP hD [3, 4, 5, 6, 7, 8, 9, 10, 11, 12, 13] [0, 1, 2, 14, 15, 16, 17, 18, 19, 20, 21, 22, 23, 24, 25, 26, 27, 28, 29, 30, 31, 32, 33, 34, 35, 36, 37, 38, 39, 40, 41, 42, 43, 44, 45, 46, 47, 48, 49, 50, 51, 52, 53, 54, 55, 56, 57, 58, 59, 60, 61, 62] rfl rfl (by decide) (by decide) [0, 1, 2, 52, 53, 54, 55, 56, 57, 58, 59, 60, 61, 62, 3, 4, 5, 6, 7, 8, 9, 10, 11, 12, 13, 14, 15, 16, 17, 18, 19, 20, 21, 22, 23, 24, 25, 26, 27, 28, 29, 30, 31, 32, 33, 34, 35, 36, 37, 38, 39, 40, 41, 42, 43, 44, 45, 46, 47, 48, 49, 50, 51] (by decide) rfl (fun H locs hP hD hS => ?_)
      refine lv_iload_n hx hb dX4_hide_69 rfl (lv_at hl 0 rfl) ?_
      obtain rfl := Option.some.inj h
      refine vx_ret ?_
      refine W.widen (k := 1) (n := 6) (Nat.zero_le _) (Nat.zero_le _) ?_
      exact W.iret hx hb hr (fun t ht hW => ⟨⟨_, (u6, zU t5 0 t7), rfl, rfl, by rw [ht]; exact hP, hD⟩, hS.F ht⟩) hS.2.2 dX4_hide_70 hlocks
    replace h := im c4 h
    obtain rfl := Option.some.inj h
    obtain ⟨sa, hsa⟩ := hE.2.2.1 (55, "lies is out of range") (List.mem_of_getElem? (i := 1) rfl)
    exact vx_throwS (A := A) (names := exNm) (ik := 30) (is := 55) (ic := 34) (sa := sa) hx hb hfl hown (by decide +kernel) exFit (hts (.classLink RX4 30 "java/lang/IllegalArgumentException") (List.mem_of_getElem? (i := 3) rfl)) (hts (.initialized "java/lang/IllegalArgumentException") (List.mem_of_getElem? (i := 4) rfl)) hsa (vx_hat (fun w hw => hts w (atmX4_hide_34 w hw)) bad_34 (exB34 hE.2.2.2)) ot_34 hE.1 hE.2.1 hS (hl.1.trans hml.symm) dX4_hide_31 dX4_hide_34 dX4_hide_35 dX4_hide_37 dX4_hide_40 (fun x hx => (hno x hx).elim) (Nat.le_of_ble_eq_true rfl) (Nat.le_of_ble_eq_true rfl) (Nat.le_of_ble_eq_true rfl) (Nat.le_of_ble_eq_true rfl) hlocks (fun t hv hz hk => ⟨(), trivial, rfl, hz, fun q hq _ => hk q hq⟩) hS.2.2 (Nat.le_of_ble_eq_true rfl) (Nat.le_of_ble_eq_true rfl)
  replace h := ip c2 h
  obtain rfl := Option.some.inj h
  obtain ⟨sa, hsa⟩ := hE.2.2.1 (95, "no such case") (List.mem_of_getElem? (i := 4) rfl)
  exact vx_throwS (A := A) (names := exNm) (ik := 93) (is := 95) (ic := 97) (sa := sa) hx hb hfl hown (by decide +kernel) exFit (hts (.classLink RX4 93 "java/lang/IndexOutOfBoundsException") (List.mem_of_getElem? (i := 1) rfl)) (hts (.initialized "java/lang/IndexOutOfBoundsException") (List.mem_of_getElem? (i := 2) rfl)) hsa (vx_hat (fun w hw => hts w (atmX4_hide_97 w hw)) bad_97 (exB97 hE.2.2.2)) ot_97 hE.1 hE.2.1 hS (hl.1.trans hml.symm) dX4_hide_11 dX4_hide_14 dX4_hide_15 dX4_hide_17 dX4_hide_20 (fun x hx => (hno x hx).elim) (Nat.le_of_ble_eq_true rfl) (Nat.le_of_ble_eq_true rfl) (Nat.le_of_ble_eq_true rfl) (Nat.le_of_ble_eq_true rfl) hlocks (fun t hv hz hk => ⟨(), trivial, rfl, hz, fun q hq _ => hk q hq⟩) hS.2.2 (Nat.le_of_ble_eq_true rfl) (Nat.le_of_ble_eq_true rfl)
set_option maxHeartbeats 4000000 in
set_option maxRecDepth 100000 in
theorem c_X4_ask (l : Launch) (hfl : l.stackTraces = false) (D : va_G) (T : Nat → ClassId) (h0 : Nat) (A0 : Nat → Nat → Nat) (Z0 : Nat → St) (v1 : Int32) (v2 : Int32) (sz : Nat) (r : Sum String (Int32 × (Nat → St))) (h : F_X4_ask Z0 v1 v2 = some r) : vx_Met l yX4_ask wsX4_ask ({ frames := 6, cells := 1, slots := 6, locals := 116 } : Room) (va_Pc [.ref h0, .int v1, .int v2] (PX D T (scW T h0 A0 (Z0)) sz)) (QXi D (scW T h0) r (va_A (scW T h0 A0 (Z0)) sz)) (XXq r) 1 6 (va_A (scW T h0 A0 (Z0)) sz) := by
  refine met_ofX (cc := cX4_ask) (maxL := 3) (ret := (some .int)) (lv := [(0, .ref h0), (1, .int v1), (2, .int v2)]) (by decide) rfl (Nat.le_of_ble_eq_true rfl) rfl ?_
  intro p e s m args below meth c ls C0 hno hl hB
  obtain ⟨hx, hb, hr, hml, hown, hts, hlocks, hname⟩ := C0
  obtain ⟨⟨hsz, hP, hK, hD0⟩, hE⟩ := hB
  subst hsz
  have hD := hD0.self (sz := s.heap.size)
  generalize hAe : va_A (scW T h0 A0 (Z0)) s.heap.size = A at hD hE ⊢
  have hA : ∀ q : Nat, s.heap.size ≤ q → A q := fun q h => by rw [← hAe]; exact Or.inr h
  have hS : va_S A s.heap s.heap [] := va_S.rf
  unfold F_X4_ask at h
  refine lv_aload_n hx hb dX4_ask_0 rfl (lv_at hl 0 rfl) ?_
  refine va_get (D := D) (ci := 4) (v := .ref (A0 0 0)) (C := RX4) (T := TX4) (N := 3) hx hb hts inX4_ask_4 hown hK.1 hP 0 rfl rfl 0 (by decide) (hts (.fieldLink RX4 12 "LyingScale" "now" "LLyingScale$State;") (List.mem_of_getElem? (i := 5) rfl)) (fun _ h9 => h9) rfl dX4_ask_1 ?_
  refine lv_iload_n hx hb dX4_ask_4 rfl (lv_at hl 1 rfl) ?_
  refine lv_iload_n hx hb dX4_ask_5 rfl (lv_at hl 2 rfl) ?_
  replace h := bd h
  obtain ⟨t1, et1, h⟩ := h
  refine callRi (v := t1) (va_runV (As := [.int v1, .int v2]) (rest := []) ⟨hx, hb, hml, hown, hts⟩ (c_X2_isWeighing l D T (A0 0) (Z0 0) v1 v2 t1 et1) (cwV 2 hts gX4_ask_X2_isWeighing rfl rfl rfl hdV_X2_isWeighing ⟨Nat.le_of_ble_eq_true rfl, Nat.le_of_ble_eq_true rfl⟩) ⟨PB_blind, va_recv hK.1 hP (ci := 2) (q0 := 3) rfl rfl, PB_at (hP.sub (ws' := stW T (A0 0) (Z0 0)) [3, 4, 5, 6, 7, 8, 9, 10, 11, 12, 13] rfl) hK⟩ rfl rfl hl.1 rfl (lv_room (Nat.le_of_ble_eq_true rfl)) dX4_ask_6 ⟨Nat.zero_le _, Nat.zero_le _⟩) ?_
  refine lv_if_ne (tgt := 22) hx hb dX4_ask_9 (by decide) (fun c2 => ?_) (fun c2 => ?_)
  · replace h := im c2 h
    refine lv_aload_n hx hb dX4_ask_22 rfl (lv_at hl 0 rfl) ?_
    refine va_get (D := D) (ci := 4) (v := .ref (A0 0 0)) (C := RX4) (T := TX4) (N := 3) hx hb hts inX4_ask_4 hown hK.1 hP 0 rfl rfl 0 (by decide) (hts (.fieldLink RX4 12 "LyingScale" "now" "LLyingScale$State;") (List.mem_of_getElem? (i := 5) rfl)) (fun _ h9 => h9) rfl dX4_ask_23 ?_
    replace h := bd h
    obtain ⟨t3, et3, h⟩ := h
    refine callRi (v := t3) (va_runV (As := []) (rest := []) ⟨hx, hb, hml, hown, hts⟩ (c_X2_canReply l D T (A0 0) (Z0 0) t3 et3) (cwV 0 hts gX4_ask_X2_canReply rfl rfl rfl hdV_X2_canReply ⟨Nat.le_of_ble_eq_true rfl, Nat.le_of_ble_eq_true rfl⟩) ⟨PB_blind, va_recv hK.1 hP (ci := 2) (q0 := 3) rfl rfl, PB_at (hP.sub (ws' := stW T (A0 0) (Z0 0)) [3, 4, 5, 6, 7, 8, 9, 10, 11, 12, 13] rfl) hK⟩ rfl rfl hl.1 rfl (lv_room (Nat.le_of_ble_eq_true rfl)) dX4_ask_26 ⟨Nat.zero_le _, Nat.zero_le _⟩) ?_
    refine lv_if_ne (tgt := 42) hx hb dX4_ask_29 (by decide) (fun c4 => ?_) (fun c4 => ?_)
    · replace h := im c4 h
      refine lv_aload_n hx hb dX4_ask_42 rfl (lv_at hl 0 rfl) ?_
      refine va_get (D := D) (ci := 4) (v := .ref (A0 6 1)) (C := RX4) (T := TX4) (N := 3) hx hb hts inX4_ask_4 hown hK.1 hP 0 rfl rfl 1 (by decide) (hts (.fieldLink RX4 19 "LyingScale" "history" "LLyingScale$History;") (List.mem_of_getElem? (i := 6) rfl)) (fun _ h9 => h9) rfl dX4_ask_43 ?_
      refine lv_aload_n hx hb dX4_ask_46 rfl (lv_at hl 0 rfl) ?_
      refine va_get (D := D) (ci := 4) (v := .ref (A0 0 0)) (C := RX4) (T := TX4) (N := 3) hx hb hts inX4_ask_4 hown hK.1 hP 0 rfl rfl 0 (by decide) (hts (.fieldLink RX4 12 "LyingScale" "now" "LLyingScale$State;") (List.mem_of_getElem? (i := 5) rfl)) (fun _ h9 => h9) rfl dX4_ask_47 ?_
      replace h := bd h
      obtain ⟨t5, et5, h⟩ := h
      refine callEv (va_runV (As := [.ref (A0 0 0)]) (rest := []) ⟨hx, hb, hml, hown, hts⟩ (c_X0_save l D T h0 A0 Z0 _ t5 et5) (cwV 1 hts gX4_ask_X0_save rfl rfl rfl hdV_X0_save ⟨Nat.le_of_ble_eq_true rfl, Nat.le_of_ble_eq_true rfl⟩) ⟨PM_blind, va_recv hK.1 hP (ci := 0) (q0 := 1) rfl rfl, PM_at hP hD hK⟩ rfl rfl hl.1 rfl (lv_room (Nat.le_of_ble_eq_true rfl)) dX4_ask_50 ⟨Nat.zero_le _, Nat.zero_le _⟩) hS hA hP hD (fun u6 H locs hP hD hS => ?_)
      refine lv_aload_n hx hb dX4_ask_53 rfl (lv_at hl 0 rfl) ?_
      refine va_get (D := D) (ci := 4) (v := .ref (u6 0 0)) (C := RX4) (T := TX4) (N := 3) hx hb hts inX4_ask_4 hown hK.1 hP 0 rfl rfl 0 (by decide) (hts (.fieldLink RX4 12 "LyingScale" "now" "LLyingScale$State;") (List.mem_of_getElem? (i := 5) rfl)) (fun _ h9 => h9) rfl dX4_ask_54 ?_
      refine lv_iload_n hx hb dX4_ask_57 rfl (lv_at hl 1 rfl) ?_
      refine lv_iload_n hx hb dX4_ask_58 rfl (lv_at hl 2 rfl) ?_
      replace h := bd h
      obtain ⟨t7, et7, h⟩ := h
      refine callMi (wr := [(h0, .inr (4, [.ref (u6 0 0), .ref (u6 6 1), .ref (u6 5 0)])), (u6 6 1, .inr (0, [.ref (u6 6 2), .int ((t5 6).1 0)])), (u6 6 2, .inl (T 3, 4, .inr (.inr (.inr (.inr (hsQ u6)))))), (u6 1 0, .inr (2, [.ref (u6 1 1), .ref (u6 1 2), .ref (u6 1 3), .ref (u6 1 4), .int ((t5 1).1 0), .int ((t5 1).1 1), .int ((t5 1).1 2), .int ((t5 1).1 3), .int ((t5 1).1 4)])), (u6 1 1, .inr (3, [.ref (u6 1 5), .ref (u6 1 6), .ref (u6 1 7), .int ((t5 1).1 5)])), (u6 1 2, .inr (3, [.ref (u6 1 8), .ref (u6 1 9), .ref (u6 1 10), .int ((t5 1).1 6)])), (u6 1 3, .inl (T 0, 33, .inl ((t5 1).2 6))), (u6 1 4, .inl (T 0, 33, .inl ((t5 1).2 7))), (u6 1 5, .inl (T 0, 40, .inl ((t5 1).2 0))), (u6 1 6, .inl (T 0, 40, .inl ((t5 1).2 1))), (u6 1 7, .inl (T 0, 40, .inl ((t5 1).2 2))), (u6 1 8, .inl (T 0, 8, .inl ((t5 1).2 3))), (u6 1 9, .inl (T 0, 8, .inl ((t5 1).2 4))), (u6 1 10, .inl (T 0, 8, .inl ((t5 1).2 5))), (u6 2 0, .inr (2, [.ref (u6 2 1), .ref (u6 2 2), .ref (u6 2 3), .ref (u6 2 4), .int ((t5 2).1 0), .int ((t5 2).1 1), .int ((t5 2).1 2), .int ((t5 2).1 3), .int ((t5 2).1 4)])), (u6 2 1, .inr (3, [.ref (u6 2 5), .ref (u6 2 6), .ref (u6 2 7), .int ((t5 2).1 5)])), (u6 2 2, .inr (3, [.ref (u6 2 8), .ref (u6 2 9), .ref (u6 2 10), .int ((t5 2).1 6)])), (u6 2 3, .inl (T 0, 33, .inl ((t5 2).2 6))), (u6 2 4, .inl (T 0, 33, .inl ((t5 2).2 7))), (u6 2 5, .inl (T 0, 40, .inl ((t5 2).2 0))), (u6 2 6, .inl (T 0, 40, .inl ((t5 2).2 1))), (u6 2 7, .inl (T 0, 40, .inl ((t5 2).2 2))), (u6 2 8, .inl (T 0, 8, .inl ((t5 2).2 3))), (u6 2 9, .inl (T 0, 8, .inl ((t5 2).2 4))), (u6 2 10, .inl (T 0, 8, .inl ((t5 2).2 5))), (u6 3 0, .inr (2, [.ref (u6 3 1), .ref (u6 3 2), .ref (u6 3 3), .ref (u6 3 4), .int ((t5 3).1 0), .int ((t5 3).1 1), .int ((t5 3).1 2), .int ((t5 3).1 3), .int ((t5 3).1 4)])), (u6 3 1, .inr (3, [.ref (u6 3 5), .ref (u6 3 6), .ref (u6 3 7), .int ((t5 3).1 5)])), (u6 3 2, .inr (3, [.ref (u6 3 8), .ref (u6 3 9), .ref (u6 3 10), .int ((t5 3).1 6)])), (u6 3 3, .inl (T 0, 33, .inl ((t5 3).2 6))), (u6 3 4, .inl (T 0, 33, .inl ((t5 3).2 7))), (u6 3 5, .inl (T 0, 40, .inl ((t5 3).2 0))), (u6 3 6, .inl (T 0, 40, .inl ((t5 3).2 1))), (u6 3 7, .inl (T 0, 40, .inl ((t5 3).2 2))), (u6 3 8, .inl (T 0, 8, .inl ((t5 3).2 3))), (u6 3 9, .inl (T 0, 8, .inl ((t5 3).2 4))), (u6 3 10, .inl (T 0, 8, .inl ((t5 3).2 5))), (u6 4 0, .inr (2, [.ref (u6 4 1), .ref (u6 4 2), .ref (u6 4 3), .ref (u6 4 4), .int ((t5 4).1 0), .int ((t5 4).1 1), .int ((t5 4).1 2), .int ((t5 4).1 3), .int ((t5 4).1 4)])), (u6 4 1, .inr (3, [.ref (u6 4 5), .ref (u6 4 6), .ref (u6 4 7), .int ((t5 4).1 5)])), (u6 4 2, .inr (3, [.ref (u6 4 8), .ref (u6 4 9), .ref (u6 4 10), .int ((t5 4).1 6)])), (u6 4 3, .inl (T 0, 33, .inl ((t5 4).2 6))), (u6 4 4, .inl (T 0, 33, .inl ((t5 4).2 7))), (u6 4 5, .inl (T 0, 40, .inl ((t5 4).2 0))), (u6 4 6, .inl (T 0, 40, .inl ((t5 4).2 1))), (u6 4 7, .inl (T 0, 40, .inl ((t5 4).2 2))), (u6 4 8, .inl (T 0, 8, .inl ((t5 4).2 3))), (u6 4 9, .inl (T 0, 8, .inl ((t5 4).2 4))), (u6 4 10, .inl (T 0, 8, .inl ((t5 4).2 5))), (u6 5 0, .inr (1, [.ref (u6 5 1), .ref (u6 5 2), .ref (u6 5 3), .ref (u6 5 4), .int ((t5 5).1 0), .int ((t5 5).1 1), .int ((t5 5).1 2), .int ((t5 5).1 3), .int ((t5 5).1 4)])), (u6 5 1, .inl (T 0, 100, .inl ((t5 5).2 0))), (u6 5 2, .inl (T 0, 20, .inl ((t5 5).2 1))), (u6 5 3, .inl (T 0, 20, .inl ((t5 5).2 2))), (u6 5 4, .inl (T 0, 20, .inl ((t5 5).2 3)))]) (ws' := scW T h0 u6 (zU t5 0 t7.2)) (va_runV (As := [.int v1, .int v2]) (rest := []) ⟨hx, hb, hml, hown, hts⟩ (c_X2_reply l D T (u6 0) (t5 0) v1 v2 _ t7 et7) (cwV 2 hts gX4_ask_X2_reply rfl rfl rfl hdV_X2_reply ⟨Nat.le_of_ble_eq_true rfl, Nat.le_of_ble_eq_true rfl⟩) ⟨PM_blind, va_recv hK.1 hP (ci := 2) (q0 := 3) rfl rfl, PM_at (hP.sub (ws' := stW T (u6 0) (t5 0)) [3, 4, 5, 6, 7, 8, 9, 10, 11, 12, 13] rfl) (hD.sub (ws' := stW T (u6 0) (t5 0)) [3, 4, 5, 6, 7, 8, 9, 10, 11, 12, 13] (by decide) rfl) hK⟩ rfl rfl hl.1 rfl (lv_room (Nat.le_of_ble_eq_true rfl)) dX4_ask_59 ⟨Nat.zero_le _, Nat.zero_le _⟩) hS hA hP hD [3, 4, 5, 6, 7, 8, 9, 10, 11, 12, 13] [0, 1, 2, 14, 15, 16, 17, 18, 19, 20, 21, 22, 23, 24, 25, 26, 27, 28, 29, 30, 31, 32, 33, 34, 35, 36, 37, 38, 39, 40, 41, 42, 43, 44, 45, 46, 47, 48, 49, 50, 51, 52, 53, 54, 55, 56, 57, 58, 59, 60, 61, 62] rfl rfl (by decide) (by decide) [0, 1, 2, 52, 53, 54, 55, 56, 57, 58, 59, 60, 61, 62, 3, 4, 5, 6, 7, 8, 9, 10, 11, 12, 13, 14, 15, 16, 17, 18, 19, 20, 21, 22, 23, 24, 25, 26, 27, 28, 29, 30, 31, 32, 33, 34, 35, 36, 37, 38, 39, 40, 41, 42, 43, 44, 45, 46, 47, 48, 49, 50, 51] (by decide) rfl (fun H locs hP hD hS => ?_)
      obtain rfl := Option.some.inj h
      refine vx_ret ?_
      refine W.widen (k := 1) (n := 6) (Nat.zero_le _) (Nat.zero_le _) ?_
      exact W.iret hx hb hr (fun t ht hW => ⟨⟨_, (u6, zU t5 0 t7.2), rfl, rfl, by rw [ht]; exact hP, hD⟩, hS.F ht⟩) hS.2.2 dX4_ask_62 hlocks
    replace h := ip c4 h
    obtain rfl := Option.some.inj h
    obtain ⟨sa, hsa⟩ := hE.2.2.1 (111, "the scale cannot answer") (List.mem_of_getElem? (i := 6) rfl)
    exact vx_throwS (A := A) (names := exNm) (ik := 78) (is := 111) (ic := 82) (sa := sa) hx hb hfl hown (by decide +kernel) exFit (hts (.classLink RX4 78 "java/lang/IllegalStateException") (List.mem_of_getElem? (i := 3) rfl)) (hts (.initialized "java/lang/IllegalStateException") (List.mem_of_getElem? (i := 4) rfl)) hsa (vx_hat (fun w hw => hts w (atmX4_ask_82 w hw)) bad_82 (exB82 hE.2.2.2)) ot_82 hE.1 hE.2.1 hS (hl.1.trans hml.symm) dX4_ask_32 dX4_ask_35 dX4_ask_36 dX4_ask_38 dX4_ask_41 (fun x hx => (hno x hx).elim) (Nat.le_of_ble_eq_true rfl) (Nat.le_of_ble_eq_true rfl) (Nat.le_of_ble_eq_true rfl) (Nat.le_of_ble_eq_true rfl) hlocks (fun t hv hz hk => ⟨(), trivial, rfl, hz, fun q hq _ => hk q hq⟩) hS.2.2 (Nat.le_of_ble_eq_true rfl) (Nat.le_of_ble_eq_true rfl)
  replace h := ip c2 h
  obtain rfl := Option.some.inj h
  obtain ⟨sa, hsa⟩ := hE.2.2.1 (106, "no weighing") (List.mem_of_getElem? (i := 5) rfl)
  exact vx_throwS (A := A) (names := exNm) (ik := 30) (is := 106) (ic := 34) (sa := sa) hx hb hfl hown (by decide +kernel) exFit (hts (.classLink RX4 30 "java/lang/IllegalArgumentException") (List.mem_of_getElem? (i := 1) rfl)) (hts (.initialized "java/lang/IllegalArgumentException") (List.mem_of_getElem? (i := 2) rfl)) hsa (vx_hat (fun w hw => hts w (atmX4_ask_34 w hw)) bad_34 (exB34 hE.2.2.2)) ot_34 hE.1 hE.2.1 hS (hl.1.trans hml.symm) dX4_ask_12 dX4_ask_15 dX4_ask_16 dX4_ask_18 dX4_ask_21 (fun x hx => (hno x hx).elim) (Nat.le_of_ble_eq_true rfl) (Nat.le_of_ble_eq_true rfl) (Nat.le_of_ble_eq_true rfl) (Nat.le_of_ble_eq_true rfl) hlocks (fun t hv hz hk => ⟨(), trivial, rfl, hz, fun q hq _ => hk q hq⟩) hS.2.2 (Nat.le_of_ble_eq_true rfl) (Nat.le_of_ble_eq_true rfl)
set_option maxHeartbeats 4000000 in
set_option maxRecDepth 100000 in
theorem c_X4_add (l : Launch) (hfl : l.stackTraces = false) (D : va_G) (T : Nat → ClassId) (h0 : Nat) (A0 : Nat → Nat → Nat) (Z0 : Nat → St) (v1 : Int32) (v2 : Int32) (sz : Nat) (r : Sum String (Int32 × (Nat → St))) (h : F_X4_add Z0 v1 v2 = some r) : vx_Met l yX4_add wsX4_add ({ frames := 6, cells := 1, slots := 6, locals := 108 } : Room) (va_Pc [.ref h0, .int v1, .int v2] (PX D T (scW T h0 A0 (Z0)) sz)) (QXi D (scW T h0) r (va_A (scW T h0 A0 (Z0)) sz)) (XXq r) 1 6 (va_A (scW T h0 A0 (Z0)) sz) := by
  refine met_ofX (cc := cX4_add) (maxL := 4) (ret := (some .int)) (lv := [(0, .ref h0), (1, .int v1), (2, .int v2)]) (by decide) rfl (Nat.le_of_ble_eq_true rfl) rfl ?_
  intro p e s m args below meth c ls C0 hno hl hB
  obtain ⟨hx, hb, hr, hml, hown, hts, hlocks, hname⟩ := C0
  obtain ⟨⟨hsz, hP, hK, hD0⟩, hE⟩ := hB
  subst hsz
  have hD := hD0.self (sz := s.heap.size)
  generalize hAe : va_A (scW T h0 A0 (Z0)) s.heap.size = A at hD hE ⊢
  have hA : ∀ q : Nat, s.heap.size ≤ q → A q := fun q h => by rw [← hAe]; exact Or.inr h
  have hS : va_S A s.heap s.heap [] := va_S.rf
  unfold F_X4_add at h
  refine lv_aload_n hx hb dX4_add_0 rfl (lv_at hl 0 rfl) ?_
  refine va_get (D := D) (ci := 4) (v := .ref (A0 0 0)) (C := RX4) (T := TX4) (N := 3) hx hb hts inX4_add_4 hown hK.1 hP 0 rfl rfl 0 (by decide) (hts (.fieldLink RX4 12 "LyingScale" "now" "LLyingScale$State;") (List.mem_of_getElem? (i := 5) rfl)) (fun _ h9 => h9) rfl dX4_add_1 ?_
  refine lv_iload_n hx hb dX4_add_4 rfl (lv_at hl 1 rfl) ?_
  refine lv_iload_n hx hb dX4_add_5 rfl (lv_at hl 2 rfl) ?_
  replace h := bd h
  obtain ⟨t1, et1, h⟩ := h
  refine callRi (v := t1) (va_runV (As := [.int v1, .int v2]) (rest := []) ⟨hx, hb, hml, hown, hts⟩ (c_X2_isWeighing l D T (A0 0) (Z0 0) v1 v2 t1 et1) (cwV 2 hts gX4_add_X2_isWeighing rfl rfl rfl hdV_X2_isWeighing ⟨Nat.le_of_ble_eq_true rfl, Nat.le_of_ble_eq_true rfl⟩) ⟨PB_blind, va_recv hK.1 hP (ci := 2) (q0 := 3) rfl rfl, PB_at (hP.sub (ws' := stW T (A0 0) (Z0 0)) [3, 4, 5, 6, 7, 8, 9, 10, 11, 12, 13] rfl) hK⟩ rfl rfl hl.1 rfl (lv_room (Nat.le_of_ble_eq_true rfl)) dX4_add_6 ⟨Nat.zero_le _, Nat.zero_le _⟩) ?_
  refine lv_if_ne (tgt := 22) hx hb dX4_add_9 (by decide) (fun c2 => ?_) (fun c2 => ?_)
  · replace h := im c2 h
    refine lv_aload_n hx hb dX4_add_22 rfl (lv_at hl 0 rfl) ?_
    refine va_get (D := D) (ci := 4) (v := .ref (A0 0 0)) (C := RX4) (T := TX4) (N := 3) hx hb hts inX4_add_4 hown hK.1 hP 0 rfl rfl 0 (by decide) (hts (.fieldLink RX4 12 "LyingScale" "now" "LLyingScale$State;") (List.mem_of_getElem? (i := 5) rfl)) (fun _ h9 => h9) rfl dX4_add_23 ?_
    replace h := bd h
    obtain ⟨t3, et3, h⟩ := h
    refine callRi (v := t3) (va_runV (As := []) (rest := []) ⟨hx, hb, hml, hown, hts⟩ (c_X2_canPlan l D T (A0 0) (Z0 0) t3 et3) (cwV 0 hts gX4_add_X2_canPlan rfl rfl rfl hdV_X2_canPlan ⟨Nat.le_of_ble_eq_true rfl, Nat.le_of_ble_eq_true rfl⟩) ⟨PB_blind, va_recv hK.1 hP (ci := 2) (q0 := 3) rfl rfl, PB_at (hP.sub (ws' := stW T (A0 0) (Z0 0)) [3, 4, 5, 6, 7, 8, 9, 10, 11, 12, 13] rfl) hK⟩ rfl rfl hl.1 rfl (lv_room (Nat.le_of_ble_eq_true rfl)) dX4_add_26 ⟨Nat.zero_le _, Nat.zero_le _⟩) ?_
    refine lv_if_ne (tgt := 42) hx hb dX4_add_29 (by decide) (fun c4 => ?_) (fun c4 => ?_)
    · replace h := im c4 h
      refine lv_aload_n hx hb dX4_add_42 rfl (lv_at hl 0 rfl) ?_
      refine va_get (D := D) (ci := 4) (v := .ref (A0 6 1)) (C := RX4) (T := TX4) (N := 3) hx hb hts inX4_add_4 hown hK.1 hP 0 rfl rfl 1 (by decide) (hts (.fieldLink RX4 19 "LyingScale" "history" "LLyingScale$History;") (List.mem_of_getElem? (i := 6) rfl)) (fun _ h9 => h9) rfl dX4_add_43 ?_
      refine lv_aload_n hx hb dX4_add_46 rfl (lv_at hl 0 rfl) ?_
      refine va_get (D := D) (ci := 4) (v := .ref (A0 0 0)) (C := RX4) (T := TX4) (N := 3) hx hb hts inX4_add_4 hown hK.1 hP 0 rfl rfl 0 (by decide) (hts (.fieldLink RX4 12 "LyingScale" "now" "LLyingScale$State;") (List.mem_of_getElem? (i := 5) rfl)) (fun _ h9 => h9) rfl dX4_add_47 ?_
      replace h := bd h
      obtain ⟨t5, et5, h⟩ := h
      refine callEv (va_runV (As := [.ref (A0 0 0)]) (rest := []) ⟨hx, hb, hml, hown, hts⟩ (c_X0_save l D T h0 A0 Z0 _ t5 et5) (cwV 1 hts gX4_add_X0_save rfl rfl rfl hdV_X0_save ⟨Nat.le_of_ble_eq_true rfl, Nat.le_of_ble_eq_true rfl⟩) ⟨PM_blind, va_recv hK.1 hP (ci := 0) (q0 := 1) rfl rfl, PM_at hP hD hK⟩ rfl rfl hl.1 rfl (lv_room (Nat.le_of_ble_eq_true rfl)) dX4_add_50 ⟨Nat.zero_le _, Nat.zero_le _⟩) hS hA hP hD (fun u6 H locs hP hD hS => ?_)
      refine lv_aload_n hx hb dX4_add_53 rfl (lv_at hl 0 rfl) ?_
      refine va_get (D := D) (ci := 4) (v := .ref (u6 0 0)) (C := RX4) (T := TX4) (N := 3) hx hb hts inX4_add_4 hown hK.1 hP 0 rfl rfl 0 (by decide) (hts (.fieldLink RX4 12 "LyingScale" "now" "LLyingScale$State;") (List.mem_of_getElem? (i := 5) rfl)) (fun _ h9 => h9) rfl dX4_add_54 ?_
      refine va_getN (D := D) (ci := 2) (v := .ref (u6 0 2)) (C := RX2) (T := TX2) (N := 9) hx hb hts inX4_add_2 hown hK.1 hP 3 rfl rfl 1 (by decide) (va_Nw.use rfl (hK.2 (.fieldLinkNest RX4 122 "LyingScale$State" "plan" "LLyingScale$Weighings;" "LyingScale") (List.mem_of_getElem? (i := 0) rfl))) (fun _ h9 => h9) rfl dX4_add_57 ?_
      refine va_getN (D := D) (ci := 3) (v := .int ((t5 0).1 6)) (C := RX3) (T := TX3) (N := 4) hx hb hts inX4_add_3 hown hK.1 hP 5 rfl rfl 3 (by decide) (va_Nw.use rfl (hK.2 (.fieldLinkNest RX4 45 "LyingScale$Weighings" "count" "I" "LyingScale") (List.mem_of_getElem? (i := 11) rfl))) (fun _ h9 => h9) rfl dX4_add_60 ?_
      refine lv_istore_n (lv' := [(3, .int ((t5 0).1 6)), (0, .ref h0), (1, .int v1), (2, .int v2)]) hx hb dX4_add_63 rfl hl (by decide) rfl (fun ls hl => ?_)
      refine lv_aload_n hx hb dX4_add_64 rfl (lv_at hl 1 rfl) ?_
      refine va_get (D := D) (ci := 4) (v := .ref (u6 0 0)) (C := RX4) (T := TX4) (N := 3) hx hb hts inX4_add_4 hown hK.1 hP 0 rfl rfl 0 (by decide) (hts (.fieldLink RX4 12 "LyingScale" "now" "LLyingScale$State;") (List.mem_of_getElem? (i := 5) rfl)) (fun _ h9 => h9) rfl dX4_add_65 ?_
      refine lv_iload_n hx hb dX4_add_68 rfl (lv_at hl 2 rfl) ?_
      refine lv_iload_n hx hb dX4_add_69 rfl (lv_at hl 3 rfl) ?_
      replace h := bd h
      obtain ⟨t7, et7, h⟩ := h
      refine callMv (wr := [(h0, .inr (4, [.ref (u6 0 0), .ref (u6 6 1), .ref (u6 5 0)])), (u6 6 1, .inr (0, [.ref (u6 6 2), .int ((t5 6).1 0)])), (u6 6 2, .inl (T 3, 4, .inr (.inr (.inr (.inr (hsQ u6)))))), (u6 1 0, .inr (2, [.ref (u6 1 1), .ref (u6 1 2), .ref (u6 1 3), .ref (u6 1 4), .int ((t5 1).1 0), .int ((t5 1).1 1), .int ((t5 1).1 2), .int ((t5 1).1 3), .int ((t5 1).1 4)])), (u6 1 1, .inr (3, [.ref (u6 1 5), .ref (u6 1 6), .ref (u6 1 7), .int ((t5 1).1 5)])), (u6 1 2, .inr (3, [.ref (u6 1 8), .ref (u6 1 9), .ref (u6 1 10), .int ((t5 1).1 6)])), (u6 1 3, .inl (T 0, 33, .inl ((t5 1).2 6))), (u6 1 4, .inl (T 0, 33, .inl ((t5 1).2 7))), (u6 1 5, .inl (T 0, 40, .inl ((t5 1).2 0))), (u6 1 6, .inl (T 0, 40, .inl ((t5 1).2 1))), (u6 1 7, .inl (T 0, 40, .inl ((t5 1).2 2))), (u6 1 8, .inl (T 0, 8, .inl ((t5 1).2 3))), (u6 1 9, .inl (T 0, 8, .inl ((t5 1).2 4))), (u6 1 10, .inl (T 0, 8, .inl ((t5 1).2 5))), (u6 2 0, .inr (2, [.ref (u6 2 1), .ref (u6 2 2), .ref (u6 2 3), .ref (u6 2 4), .int ((t5 2).1 0), .int ((t5 2).1 1), .int ((t5 2).1 2), .int ((t5 2).1 3), .int ((t5 2).1 4)])), (u6 2 1, .inr (3, [.ref (u6 2 5), .ref (u6 2 6), .ref (u6 2 7), .int ((t5 2).1 5)])), (u6 2 2, .inr (3, [.ref (u6 2 8), .ref (u6 2 9), .ref (u6 2 10), .int ((t5 2).1 6)])), (u6 2 3, .inl (T 0, 33, .inl ((t5 2).2 6))), (u6 2 4, .inl (T 0, 33, .inl ((t5 2).2 7))), (u6 2 5, .inl (T 0, 40, .inl ((t5 2).2 0))), (u6 2 6, .inl (T 0, 40, .inl ((t5 2).2 1))), (u6 2 7, .inl (T 0, 40, .inl ((t5 2).2 2))), (u6 2 8, .inl (T 0, 8, .inl ((t5 2).2 3))), (u6 2 9, .inl (T 0, 8, .inl ((t5 2).2 4))), (u6 2 10, .inl (T 0, 8, .inl ((t5 2).2 5))), (u6 3 0, .inr (2, [.ref (u6 3 1), .ref (u6 3 2), .ref (u6 3 3), .ref (u6 3 4), .int ((t5 3).1 0), .int ((t5 3).1 1), .int ((t5 3).1 2), .int ((t5 3).1 3), .int ((t5 3).1 4)])), (u6 3 1, .inr (3, [.ref (u6 3 5), .ref (u6 3 6), .ref (u6 3 7), .int ((t5 3).1 5)])), (u6 3 2, .inr (3, [.ref (u6 3 8), .ref (u6 3 9), .ref (u6 3 10), .int ((t5 3).1 6)])), (u6 3 3, .inl (T 0, 33, .inl ((t5 3).2 6))), (u6 3 4, .inl (T 0, 33, .inl ((t5 3).2 7))), (u6 3 5, .inl (T 0, 40, .inl ((t5 3).2 0))), (u6 3 6, .inl (T 0, 40, .inl ((t5 3).2 1))), (u6 3 7, .inl (T 0, 40, .inl ((t5 3).2 2))), (u6 3 8, .inl (T 0, 8, .inl ((t5 3).2 3))), (u6 3 9, .inl (T 0, 8, .inl ((t5 3).2 4))), (u6 3 10, .inl (T 0, 8, .inl ((t5 3).2 5))), (u6 4 0, .inr (2, [.ref (u6 4 1), .ref (u6 4 2), .ref (u6 4 3), .ref (u6 4 4), .int ((t5 4).1 0), .int ((t5 4).1 1), .int ((t5 4).1 2), .int ((t5 4).1 3), .int ((t5 4).1 4)])), (u6 4 1, .inr (3, [.ref (u6 4 5), .ref (u6 4 6), .ref (u6 4 7), .int ((t5 4).1 5)])), (u6 4 2, .inr (3, [.ref (u6 4 8), .ref (u6 4 9), .ref (u6 4 10), .int ((t5 4).1 6)])), (u6 4 3, .inl (T 0, 33, .inl ((t5 4).2 6))), (u6 4 4, .inl (T 0, 33, .inl ((t5 4).2 7))), (u6 4 5, .inl (T 0, 40, .inl ((t5 4).2 0))), (u6 4 6, .inl (T 0, 40, .inl ((t5 4).2 1))), (u6 4 7, .inl (T 0, 40, .inl ((t5 4).2 2))), (u6 4 8, .inl (T 0, 8, .inl ((t5 4).2 3))), (u6 4 9, .inl (T 0, 8, .inl ((t5 4).2 4))), (u6 4 10, .inl (T 0, 8, .inl ((t5 4).2 5))), (u6 5 0, .inr (1, [.ref (u6 5 1), .ref (u6 5 2), .ref (u6 5 3), .ref (u6 5 4), .int ((t5 5).1 0), .int ((t5 5).1 1), .int ((t5 5).1 2), .int ((t5 5).1 3), .int ((t5 5).1 4)])), (u6 5 1, .inl (T 0, 100, .inl ((t5 5).2 0))), (u6 5 2, .inl (T 0, 20, .inl ((t5 5).2 1))), (u6 5 3, .inl (T 0, 20, .inl ((t5 5).2 2))), (u6 5 4, .inl (T 0, 20, .inl ((t5 5).2 3)))]) (ws' := scW T h0 u6 (zU t5 0 t7)) (va_runV (As := [.int v1, .int v2]) (rest := []) ⟨hx, hb, hml, hown, hts⟩ (c_X2_planWeighing l D T (u6 0) (t5 0) v1 v2 _ t7 et7) (cwV 2 hts gX4_add_X2_planWeighing rfl rfl rfl hdV_X2_planWeighing ⟨Nat.le_of_ble_eq_true rfl, Nat.le_of_ble_eq_true rfl⟩) ⟨PM_blind, va_recv hK.1 hP (ci := 2) (q0 := 3) rfl rfl, PM_at (hP.sub (ws' := stW T (u6 0) (t5 0)) [3, 4, 5, 6, 7, 8, 9, 10, 11, 12, 13] rfl) (hD.sub (ws' := stW T (u6 0) (t5 0)) [3, 4, 5, 6, 7, 8, 9, 10, 11, 12, 13] (by decide) rfl) hK⟩ rfl rfl hl.1 rfl (lv_room (Nat.le_of_ble_eq_true rfl)) dX4_add_70 ⟨Nat.zero_le _, Nat.zero_le _⟩) hS hA hP hD [3, 4, 5, 6, 7, 8, 9, 10, 11, 12, 13] [0, 1, 2, 14, 15, 16, 17, 18, 19, 20, 21, 22, 23, 24, 25, 26, 27, 28, 29, 30, 31, 32, 33, 34, 35, 36, 37, 38, 39, 40, 41, 42, 43, 44, 45, 46, 47, 48, 49, 50, 51, 52, 53, 54, 55, 56, 57, 58, 59, 60, 61, 62] rfl rfl (by decide) (by decide) [0, 1, 2, 52, 53, 54, 55, 56, 57, 58, 59, 60, 61, 62, 3, 4, 5, 6, 7, 8, 9, 10, 11, 12, 13, 14, 15, 16, 17, 18, 19, 20, 21, 22, 23, 24, 25, 26, 27, 28, 29, 30, 31, 32, 33, 34, 35, 36, 37, 38, 39, 40, 41, 42, 43, 44, 45, 46, 47, 48, 49, 50, 51] (by decide) rfl (fun H locs hP hD hS => ?_)
      refine lv_iload_n hx hb dX4_add_73 rfl (lv_at hl 0 rfl) ?_
      obtain rfl := Option.some.inj h
      refine vx_ret ?_
      refine W.widen (k := 1) (n := 6) (Nat.zero_le _) (Nat.zero_le _) ?_
      exact W.iret hx hb hr (fun t ht hW => ⟨⟨_, (u6, zU t5 0 t7), rfl, rfl, by rw [ht]; exact hP, hD⟩, hS.F ht⟩) hS.2.2 dX4_add_74 hlocks
    replace h := ip c4 h
    obtain rfl := Option.some.inj h
    obtain ⟨sa, hsa⟩ := hE.2.2.1 (120, "the plan has 8 weighings") (List.mem_of_getElem? (i := 7) rfl)
    exact vx_throwS (A := A) (names := exNm) (ik := 78) (is := 120) (ic := 82) (sa := sa) hx hb hfl hown (by decide +kernel) exFit (hts (.classLink RX4 78 "java/lang/IllegalStateException") (List.mem_of_getElem? (i := 3) rfl)) (hts (.initialized "java/lang/IllegalStateException") (List.mem_of_getElem? (i := 4) rfl)) hsa (vx_hat (fun w hw => hts w (atmX4_add_82 w hw)) bad_82 (exB82 hE.2.2.2)) ot_82 hE.1 hE.2.1 hS (hl.1.trans hml.symm) dX4_add_32 dX4_add_35 dX4_add_36 dX4_add_38 dX4_add_41 (fun x hx => (hno x hx).elim) (Nat.le_of_ble_eq_true rfl) (Nat.le_of_ble_eq_true rfl) (Nat.le_of_ble_eq_true rfl) (Nat.le_of_ble_eq_true rfl) hlocks (fun t hv hz hk => ⟨(), trivial, rfl, hz, fun q hq _ => hk q hq⟩) hS.2.2 (Nat.le_of_ble_eq_true rfl) (Nat.le_of_ble_eq_true rfl)
  replace h := ip c2 h
  obtain rfl := Option.some.inj h
  obtain ⟨sa, hsa⟩ := hE.2.2.1 (106, "no weighing") (List.mem_of_getElem? (i := 5) rfl)
  exact vx_throwS (A := A) (names := exNm) (ik := 30) (is := 106) (ic := 34) (sa := sa) hx hb hfl hown (by decide +kernel) exFit (hts (.classLink RX4 30 "java/lang/IllegalArgumentException") (List.mem_of_getElem? (i := 1) rfl)) (hts (.initialized "java/lang/IllegalArgumentException") (List.mem_of_getElem? (i := 2) rfl)) hsa (vx_hat (fun w hw => hts w (atmX4_add_34 w hw)) bad_34 (exB34 hE.2.2.2)) ot_34 hE.1 hE.2.1 hS (hl.1.trans hml.symm) dX4_add_12 dX4_add_15 dX4_add_16 dX4_add_18 dX4_add_21 (fun x hx => (hno x hx).elim) (Nat.le_of_ble_eq_true rfl) (Nat.le_of_ble_eq_true rfl) (Nat.le_of_ble_eq_true rfl) (Nat.le_of_ble_eq_true rfl) hlocks (fun t hv hz hk => ⟨(), trivial, rfl, hz, fun q hq _ => hk q hq⟩) hS.2.2 (Nat.le_of_ble_eq_true rfl) (Nat.le_of_ble_eq_true rfl)
set_option maxHeartbeats 4000000 in
set_option maxRecDepth 100000 in
theorem c_X4_removeLast (l : Launch) (hfl : l.stackTraces = false) (D : va_G) (T : Nat → ClassId) (h0 : Nat) (A0 : Nat → Nat → Nat) (Z0 : Nat → St) (sz : Nat) (r : Sum String (Int32 × (Nat → St))) (h : F_X4_removeLast Z0 = some r) : vx_Met l yX4_removeLast wsX4_removeLast ({ frames := 6, cells := 1, slots := 6, locals := 108 } : Room) (va_Pc [.ref h0] (PX D T (scW T h0 A0 (Z0)) sz)) (QXi D (scW T h0) r (va_A (scW T h0 A0 (Z0)) sz)) (XXq r) 1 6 (va_A (scW T h0 A0 (Z0)) sz) := by
  refine met_ofX (cc := cX4_removeLast) (maxL := 1) (ret := (some .int)) (lv := [(0, .ref h0)]) (by decide) rfl (Nat.le_of_ble_eq_true rfl) rfl ?_
  intro p e s m args below meth c ls C0 hno hl hB
  obtain ⟨hx, hb, hr, hml, hown, hts, hlocks, hname⟩ := C0
  obtain ⟨⟨hsz, hP, hK, hD0⟩, hE⟩ := hB
  subst hsz
  have hD := hD0.self (sz := s.heap.size)
  generalize hAe : va_A (scW T h0 A0 (Z0)) s.heap.size = A at hD hE ⊢
  have hA : ∀ q : Nat, s.heap.size ≤ q → A q := fun q h => by rw [← hAe]; exact Or.inr h
  have hS : va_S A s.heap s.heap [] := va_S.rf
  unfold F_X4_removeLast at h
  refine lv_aload_n hx hb dX4_removeLast_0 rfl (lv_at hl 0 rfl) ?_
  refine va_get (D := D) (ci := 4) (v := .ref (A0 0 0)) (C := RX4) (T := TX4) (N := 3) hx hb hts inX4_removeLast_4 hown hK.1 hP 0 rfl rfl 0 (by decide) (hts (.fieldLink RX4 12 "LyingScale" "now" "LLyingScale$State;") (List.mem_of_getElem? (i := 3) rfl)) (fun _ h9 => h9) rfl dX4_removeLast_1 ?_
  refine va_getN (D := D) (ci := 2) (v := .ref (A0 0 2)) (C := RX2) (T := TX2) (N := 9) hx hb hts inX4_removeLast_2 hown hK.1 hP 3 rfl rfl 1 (by decide) (va_Nw.use rfl (hK.2 (.fieldLinkNest RX4 122 "LyingScale$State" "plan" "LLyingScale$Weighings;" "LyingScale") (List.mem_of_getElem? (i := 0) rfl))) (fun _ h9 => h9) rfl dX4_removeLast_4 ?_
  refine va_getN (D := D) (ci := 3) (v := .int ((Z0 0).1 6)) (C := RX3) (T := TX3) (N := 4) hx hb hts inX4_removeLast_3 hown hK.1 hP 5 rfl rfl 3 (by decide) (va_Nw.use rfl (hK.2 (.fieldLinkNest RX4 45 "LyingScale$Weighings" "count" "I" "LyingScale") (List.mem_of_getElem? (i := 11) rfl))) (fun _ h9 => h9) rfl dX4_removeLast_7 ?_
  refine lv_if_ne (tgt := 23) hx hb dX4_removeLast_10 (by decide) (fun c1 => ?_) (fun c1 => ?_)
  · replace h := im c1 h
    refine lv_aload_n hx hb dX4_removeLast_23 rfl (lv_at hl 0 rfl) ?_
    refine va_get (D := D) (ci := 4) (v := .ref (A0 6 1)) (C := RX4) (T := TX4) (N := 3) hx hb hts inX4_removeLast_4 hown hK.1 hP 0 rfl rfl 1 (by decide) (hts (.fieldLink RX4 19 "LyingScale" "history" "LLyingScale$History;") (List.mem_of_getElem? (i := 4) rfl)) (fun _ h9 => h9) rfl dX4_removeLast_24 ?_
    refine lv_aload_n hx hb dX4_removeLast_27 rfl (lv_at hl 0 rfl) ?_
    refine va_get (D := D) (ci := 4) (v := .ref (A0 0 0)) (C := RX4) (T := TX4) (N := 3) hx hb hts inX4_removeLast_4 hown hK.1 hP 0 rfl rfl 0 (by decide) (hts (.fieldLink RX4 12 "LyingScale" "now" "LLyingScale$State;") (List.mem_of_getElem? (i := 3) rfl)) (fun _ h9 => h9) rfl dX4_removeLast_28 ?_
    replace h := bd h
    obtain ⟨t2, et2, h⟩ := h
    refine callEv (va_runV (As := [.ref (A0 0 0)]) (rest := []) ⟨hx, hb, hml, hown, hts⟩ (c_X0_save l D T h0 A0 Z0 _ t2 et2) (cwV 1 hts gX4_removeLast_X0_save rfl rfl rfl hdV_X0_save ⟨Nat.le_of_ble_eq_true rfl, Nat.le_of_ble_eq_true rfl⟩) ⟨PM_blind, va_recv hK.1 hP (ci := 0) (q0 := 1) rfl rfl, PM_at hP hD hK⟩ rfl rfl hl.1 rfl (lv_room (Nat.le_of_ble_eq_true rfl)) dX4_removeLast_31 ⟨Nat.zero_le _, Nat.zero_le _⟩) hS hA hP hD (fun u3 H locs hP hD hS => ?_)
    refine lv_aload_n hx hb dX4_removeLast_34 rfl (lv_at hl 0 rfl) ?_
    refine va_get (D := D) (ci := 4) (v := .ref (u3 0 0)) (C := RX4) (T := TX4) (N := 3) hx hb hts inX4_removeLast_4 hown hK.1 hP 0 rfl rfl 0 (by decide) (hts (.fieldLink RX4 12 "LyingScale" "now" "LLyingScale$State;") (List.mem_of_getElem? (i := 3) rfl)) (fun _ h9 => h9) rfl dX4_removeLast_35 ?_
    refine va_getN (D := D) (ci := 2) (v := .ref (u3 0 2)) (C := RX2) (T := TX2) (N := 9) hx hb hts inX4_removeLast_2 hown hK.1 hP 3 rfl rfl 1 (by decide) (va_Nw.use rfl (hK.2 (.fieldLinkNest RX4 122 "LyingScale$State" "plan" "LLyingScale$Weighings;" "LyingScale") (List.mem_of_getElem? (i := 0) rfl))) (fun _ h9 => h9) rfl dX4_removeLast_38 ?_
    replace h := bd h
    obtain ⟨t4, et4, h⟩ := h
    refine callMv (wr := [(h0, .inr (4, [.ref (u3 0 0), .ref (u3 6 1), .ref (u3 5 0)])), (u3 6 1, .inr (0, [.ref (u3 6 2), .int ((t2 6).1 0)])), (u3 6 2, .inl (T 3, 4, .inr (.inr (.inr (.inr (hsQ u3)))))), (u3 0 0, .inr (2, [.ref (u3 0 1), .ref (u3 0 2), .ref (u3 0 3), .ref (u3 0 4), .int ((t2 0).1 0), .int ((t2 0).1 1), .int ((t2 0).1 2), .int ((t2 0).1 3), .int ((t2 0).1 4)])), (u3 0 1, .inr (3, [.ref (u3 0 5), .ref (u3 0 6), .ref (u3 0 7), .int ((t2 0).1 5)])), (u3 0 3, .inl (T 0, 33, .inl ((t2 0).2 6))), (u3 0 4, .inl (T 0, 33, .inl ((t2 0).2 7))), (u3 0 5, .inl (T 0, 40, .inl ((t2 0).2 0))), (u3 0 6, .inl (T 0, 40, .inl ((t2 0).2 1))), (u3 0 7, .inl (T 0, 40, .inl ((t2 0).2 2))), (u3 1 0, .inr (2, [.ref (u3 1 1), .ref (u3 1 2), .ref (u3 1 3), .ref (u3 1 4), .int ((t2 1).1 0), .int ((t2 1).1 1), .int ((t2 1).1 2), .int ((t2 1).1 3), .int ((t2 1).1 4)])), (u3 1 1, .inr (3, [.ref (u3 1 5), .ref (u3 1 6), .ref (u3 1 7), .int ((t2 1).1 5)])), (u3 1 2, .inr (3, [.ref (u3 1 8), .ref (u3 1 9), .ref (u3 1 10), .int ((t2 1).1 6)])), (u3 1 3, .inl (T 0, 33, .inl ((t2 1).2 6))), (u3 1 4, .inl (T 0, 33, .inl ((t2 1).2 7))), (u3 1 5, .inl (T 0, 40, .inl ((t2 1).2 0))), (u3 1 6, .inl (T 0, 40, .inl ((t2 1).2 1))), (u3 1 7, .inl (T 0, 40, .inl ((t2 1).2 2))), (u3 1 8, .inl (T 0, 8, .inl ((t2 1).2 3))), (u3 1 9, .inl (T 0, 8, .inl ((t2 1).2 4))), (u3 1 10, .inl (T 0, 8, .inl ((t2 1).2 5))), (u3 2 0, .inr (2, [.ref (u3 2 1), .ref (u3 2 2), .ref (u3 2 3), .ref (u3 2 4), .int ((t2 2).1 0), .int ((t2 2).1 1), .int ((t2 2).1 2), .int ((t2 2).1 3), .int ((t2 2).1 4)])), (u3 2 1, .inr (3, [.ref (u3 2 5), .ref (u3 2 6), .ref (u3 2 7), .int ((t2 2).1 5)])), (u3 2 2, .inr (3, [.ref (u3 2 8), .ref (u3 2 9), .ref (u3 2 10), .int ((t2 2).1 6)])), (u3 2 3, .inl (T 0, 33, .inl ((t2 2).2 6))), (u3 2 4, .inl (T 0, 33, .inl ((t2 2).2 7))), (u3 2 5, .inl (T 0, 40, .inl ((t2 2).2 0))), (u3 2 6, .inl (T 0, 40, .inl ((t2 2).2 1))), (u3 2 7, .inl (T 0, 40, .inl ((t2 2).2 2))), (u3 2 8, .inl (T 0, 8, .inl ((t2 2).2 3))), (u3 2 9, .inl (T 0, 8, .inl ((t2 2).2 4))), (u3 2 10, .inl (T 0, 8, .inl ((t2 2).2 5))), (u3 3 0, .inr (2, [.ref (u3 3 1), .ref (u3 3 2), .ref (u3 3 3), .ref (u3 3 4), .int ((t2 3).1 0), .int ((t2 3).1 1), .int ((t2 3).1 2), .int ((t2 3).1 3), .int ((t2 3).1 4)])), (u3 3 1, .inr (3, [.ref (u3 3 5), .ref (u3 3 6), .ref (u3 3 7), .int ((t2 3).1 5)])), (u3 3 2, .inr (3, [.ref (u3 3 8), .ref (u3 3 9), .ref (u3 3 10), .int ((t2 3).1 6)])), (u3 3 3, .inl (T 0, 33, .inl ((t2 3).2 6))), (u3 3 4, .inl (T 0, 33, .inl ((t2 3).2 7))), (u3 3 5, .inl (T 0, 40, .inl ((t2 3).2 0))), (u3 3 6, .inl (T 0, 40, .inl ((t2 3).2 1))), (u3 3 7, .inl (T 0, 40, .inl ((t2 3).2 2))), (u3 3 8, .inl (T 0, 8, .inl ((t2 3).2 3))), (u3 3 9, .inl (T 0, 8, .inl ((t2 3).2 4))), (u3 3 10, .inl (T 0, 8, .inl ((t2 3).2 5))), (u3 4 0, .inr (2, [.ref (u3 4 1), .ref (u3 4 2), .ref (u3 4 3), .ref (u3 4 4), .int ((t2 4).1 0), .int ((t2 4).1 1), .int ((t2 4).1 2), .int ((t2 4).1 3), .int ((t2 4).1 4)])), (u3 4 1, .inr (3, [.ref (u3 4 5), .ref (u3 4 6), .ref (u3 4 7), .int ((t2 4).1 5)])), (u3 4 2, .inr (3, [.ref (u3 4 8), .ref (u3 4 9), .ref (u3 4 10), .int ((t2 4).1 6)])), (u3 4 3, .inl (T 0, 33, .inl ((t2 4).2 6))), (u3 4 4, .inl (T 0, 33, .inl ((t2 4).2 7))), (u3 4 5, .inl (T 0, 40, .inl ((t2 4).2 0))), (u3 4 6, .inl (T 0, 40, .inl ((t2 4).2 1))), (u3 4 7, .inl (T 0, 40, .inl ((t2 4).2 2))), (u3 4 8, .inl (T 0, 8, .inl ((t2 4).2 3))), (u3 4 9, .inl (T 0, 8, .inl ((t2 4).2 4))), (u3 4 10, .inl (T 0, 8, .inl ((t2 4).2 5))), (u3 5 0, .inr (1, [.ref (u3 5 1), .ref (u3 5 2), .ref (u3 5 3), .ref (u3 5 4), .int ((t2 5).1 0), .int ((t2 5).1 1), .int ((t2 5).1 2), .int ((t2 5).1 3), .int ((t2 5).1 4)])), (u3 5 1, .inl (T 0, 100, .inl ((t2 5).2 0))), (u3 5 2, .inl (T 0, 20, .inl ((t2 5).2 1))), (u3 5 3, .inl (T 0, 20, .inl ((t2 5).2 2))), (u3 5 4, .inl (T 0, 20, .inl ((t2 5).2 3)))]) (ws' := scW T h0 u3 (zU t2 0 (plU (t2 0) t4))) (va_runV (As := []) (rest := []) ⟨hx, hb, hml, hown, hts⟩ (c_X3_dropLast l D T (plA (u3 0)) 8 (plS (t2 0)) _ (Nat.le_of_ble_eq_true rfl) t4 et4) (cwV 0 hts gX4_removeLast_X3_dropLast rfl rfl rfl hdV_X3_dropLast ⟨Nat.le_of_ble_eq_true rfl, Nat.le_of_ble_eq_true rfl⟩) ⟨PM_blind, va_recv hK.1 hP (ci := 3) (q0 := 5) rfl rfl, PM_at (hP.sub (ws' := wgW T 8 (plA (u3 0)) (plS (t2 0))) [5, 11, 12, 13] rfl) (hD.sub (ws' := wgW T 8 (plA (u3 0)) (plS (t2 0))) [5, 11, 12, 13] (by decide) rfl) hK⟩ rfl rfl hl.1 rfl (lv_room (Nat.le_of_ble_eq_true rfl)) dX4_removeLast_41 ⟨Nat.zero_le _, Nat.zero_le _⟩) hS hA hP hD [5, 11, 12, 13] [0, 1, 2, 3, 4, 6, 7, 8, 9, 10, 14, 15, 16, 17, 18, 19, 20, 21, 22, 23, 24, 25, 26, 27, 28, 29, 30, 31, 32, 33, 34, 35, 36, 37, 38, 39, 40, 41, 42, 43, 44, 45, 46, 47, 48, 49, 50, 51, 52, 53, 54, 55, 56, 57, 58, 59, 60, 61, 62] rfl rfl (by decide) (by decide) [0, 1, 2, 3, 4, 59, 5, 6, 7, 8, 9, 60, 61, 62, 10, 11, 12, 13, 14, 15, 16, 17, 18, 19, 20, 21, 22, 23, 24, 25, 26, 27, 28, 29, 30, 31, 32, 33, 34, 35, 36, 37, 38, 39, 40, 41, 42, 43, 44, 45, 46, 47, 48, 49, 50, 51, 52, 53, 54, 55, 56, 57, 58] (by decide) rfl (fun H locs hP hD hS => ?_)
    refine lv_aload_n hx hb dX4_removeLast_44 rfl (lv_at hl 0 rfl) ?_
    refine va_get (D := D) (ci := 4) (v := .ref (u3 0 0)) (C := RX4) (T := TX4) (N := 3) hx hb hts inX4_removeLast_4 hown hK.1 hP 0 rfl rfl 0 (by decide) (hts (.fieldLink RX4 12 "LyingScale" "now" "LLyingScale$State;") (List.mem_of_getElem? (i := 3) rfl)) (fun _ h9 => h9) rfl dX4_removeLast_45 ?_
    refine va_getN (D := D) (ci := 2) (v := .ref (u3 0 2)) (C := RX2) (T := TX2) (N := 9) hx hb hts inX4_removeLast_2 hown hK.1 hP 3 rfl rfl 1 (by decide) (va_Nw.use rfl (hK.2 (.fieldLinkNest RX4 122 "LyingScale$State" "plan" "LLyingScale$Weighings;" "LyingScale") (List.mem_of_getElem? (i := 0) rfl))) (fun _ h9 => h9) rfl dX4_removeLast_48 ?_
    refine va_getN (D := D) (ci := 3) (v := .int (((zU t2 0 (plU (t2 0) t4)) 0).1 6)) (C := RX3) (T := TX3) (N := 4) hx hb hts inX4_removeLast_3 hown hK.1 hP 5 rfl rfl 3 (by decide) (va_Nw.use rfl (hK.2 (.fieldLinkNest RX4 45 "LyingScale$Weighings" "count" "I" "LyingScale") (List.mem_of_getElem? (i := 11) rfl))) (fun _ h9 => h9) rfl dX4_removeLast_51 ?_
    obtain rfl := Option.some.inj h
    refine vx_ret ?_
    refine W.widen (k := 1) (n := 6) (Nat.zero_le _) (Nat.zero_le _) ?_
    exact W.iret hx hb hr (fun t ht hW => ⟨⟨_, (u3, zU t2 0 (plU (t2 0) t4)), rfl, rfl, by rw [ht]; exact hP, hD⟩, hS.F ht⟩) hS.2.2 dX4_removeLast_54 hlocks
  replace h := ip c1 h
  obtain rfl := Option.some.inj h
  obtain ⟨sa, hsa⟩ := hE.2.2.1 (128, "the plan is empty") (List.mem_of_getElem? (i := 8) rfl)
  exact vx_throwS (A := A) (names := exNm) (ik := 78) (is := 128) (ic := 82) (sa := sa) hx hb hfl hown (by decide +kernel) exFit (hts (.classLink RX4 78 "java/lang/IllegalStateException") (List.mem_of_getElem? (i := 1) rfl)) (hts (.initialized "java/lang/IllegalStateException") (List.mem_of_getElem? (i := 2) rfl)) hsa (vx_hat (fun w hw => hts w (atmX4_removeLast_82 w hw)) bad_82 (exB82 hE.2.2.2)) ot_82 hE.1 hE.2.1 hS (hl.1.trans hml.symm) dX4_removeLast_13 dX4_removeLast_16 dX4_removeLast_17 dX4_removeLast_19 dX4_removeLast_22 (fun x hx => (hno x hx).elim) (Nat.le_of_ble_eq_true rfl) (Nat.le_of_ble_eq_true rfl) (Nat.le_of_ble_eq_true rfl) (Nat.le_of_ble_eq_true rfl) hlocks (fun t hv hz hk => ⟨(), trivial, rfl, hz, fun q hq _ => hk q hq⟩) hS.2.2 (Nat.le_of_ble_eq_true rfl) (Nat.le_of_ble_eq_true rfl)
set_option maxHeartbeats 4000000 in
set_option maxRecDepth 100000 in
theorem c_X4_lies (l : Launch) (hfl : l.stackTraces = false) (D : va_G) (T : Nat → ClassId) (h0 : Nat) (A0 : Nat → Nat → Nat) (Z0 : Nat → St) (v1 : Int32) (sz : Nat) (r : Sum String (Int32 × (Nat → St))) (h : F_X4_lies Z0 v1 = some r) : vx_Met l yX4_lies wsX4_lies ({ frames := 6, cells := 1, slots := 6, locals := 82 } : Room) (va_Pc [.ref h0, .int v1] (PX D T (scW T h0 A0 (Z0)) sz)) (QXi D (scW T h0) r (va_A (scW T h0 A0 (Z0)) sz)) (XXq r) 1 6 (va_A (scW T h0 A0 (Z0)) sz) := by
  refine met_ofX (cc := cX4_lies) (maxL := 2) (ret := (some .int)) (lv := [(0, .ref h0), (1, .int v1)]) (by decide) rfl (Nat.le_of_ble_eq_true rfl) rfl ?_
  intro p e s m args below meth c ls C0 hno hl hB
  obtain ⟨hx, hb, hr, hml, hown, hts, hlocks, hname⟩ := C0
  obtain ⟨⟨hsz, hP, hK, hD0⟩, hE⟩ := hB
  subst hsz
  have hD := hD0.self (sz := s.heap.size)
  generalize hAe : va_A (scW T h0 A0 (Z0)) s.heap.size = A at hD hE ⊢
  have hA : ∀ q : Nat, s.heap.size ≤ q → A q := fun q h => by rw [← hAe]; exact Or.inr h
  have hS : va_S A s.heap s.heap [] := va_S.rf
  unfold F_X4_lies at h
  refine lv_aload_n hx hb dX4_lies_0 rfl (lv_at hl 0 rfl) ?_
  refine va_get (D := D) (ci := 4) (v := .ref (A0 0 0)) (C := RX4) (T := TX4) (N := 3) hx hb hts inX4_lies_4 hown hK.1 hP 0 rfl rfl 0 (by decide) (hts (.fieldLink RX4 12 "LyingScale" "now" "LLyingScale$State;") (List.mem_of_getElem? (i := 3) rfl)) (fun _ h9 => h9) rfl dX4_lies_1 ?_
  refine lv_iload_n hx hb dX4_lies_4 rfl (lv_at hl 1 rfl) ?_
  replace h := bd h
  obtain ⟨t1, et1, h⟩ := h
  refine callRi (v := t1) (va_runV (As := [.int v1]) (rest := []) ⟨hx, hb, hml, hown, hts⟩ (c_X2_isCase l D T (A0 0) (Z0 0) v1 t1 et1) (cwV 1 hts gX4_lies_X2_isCase rfl rfl rfl hdV_X2_isCase ⟨Nat.le_of_ble_eq_true rfl, Nat.le_of_ble_eq_true rfl⟩) ⟨PB_blind, va_recv hK.1 hP (ci := 2) (q0 := 3) rfl rfl, PB_at (hP.sub (ws' := stW T (A0 0) (Z0 0)) [3, 4, 5, 6, 7, 8, 9, 10, 11, 12, 13] rfl) hK⟩ rfl rfl hl.1 rfl (lv_room (Nat.le_of_ble_eq_true rfl)) dX4_lies_5 ⟨Nat.zero_le _, Nat.zero_le _⟩) ?_
  refine lv_if_ne (tgt := 21) hx hb dX4_lies_8 (by decide) (fun c2 => ?_) (fun c2 => ?_)
  · replace h := im c2 h
    refine lv_aload_n hx hb dX4_lies_21 rfl (lv_at hl 0 rfl) ?_
    refine va_get (D := D) (ci := 4) (v := .ref (A0 0 0)) (C := RX4) (T := TX4) (N := 3) hx hb hts inX4_lies_4 hown hK.1 hP 0 rfl rfl 0 (by decide) (hts (.fieldLink RX4 12 "LyingScale" "now" "LLyingScale$State;") (List.mem_of_getElem? (i := 3) rfl)) (fun _ h9 => h9) rfl dX4_lies_22 ?_
    refine va_getN (D := D) (ci := 2) (v := .ref (A0 0 3)) (C := RX2) (T := TX2) (N := 9) hx hb hts inX4_lies_2 hown hK.1 hP 3 rfl rfl 2 (by decide) (va_Nw.use rfl (hK.2 (.fieldLinkNest RX4 133 "LyingScale$State" "liesOf" "[I" "LyingScale") (List.mem_of_getElem? (i := 1) rfl))) (fun _ h9 => h9) rfl dX4_lies_25 ?_
    refine lv_iload_n hx hb dX4_lies_28 rfl (lv_at hl 1 rfl) ?_
    replace h := bd h
    obtain ⟨t3, et3, h⟩ := h
    refine callRi (v := t3) (va_runS (As := [.ref (A0 0 3), .int v1]) (rest := []) ⟨hx, hb, hml, hown, hts⟩ (c_X4_at l D T (A0 0 3) 33 ((Z0 0).2 6) v1 (Nat.le_of_ble_eq_true rfl) t3 et3) (va_cwS 2 hts gX4_lies_X4_at rfl rfl rfl hdS_X4_at ⟨Nat.le_of_ble_eq_true rfl, Nat.le_of_ble_eq_true rfl⟩) ⟨PB_blind, PB_at (hP.sub (ws' := ([(A0 0 3, .inl (T 0, 33, .inl ((Z0 0).2 6)))] : va_W)) [6] rfl) hK⟩ rfl rfl hl.1 rfl (lv_room (Nat.le_of_ble_eq_true rfl)) dX4_lies_29 ⟨Nat.zero_le _, Nat.zero_le _⟩) ?_
    obtain rfl := Option.some.inj h
    refine vx_ret ?_
    refine W.widen (k := 1) (n := 6) (Nat.zero_le _) (Nat.zero_le _) ?_
    exact W.iret hx hb hr (fun t ht hW => ⟨⟨_, (A0, Z0), rfl, rfl, by rw [ht]; exact hP, hD⟩, hS.F ht⟩) hS.2.2 dX4_lies_32 hlocks
  replace h := ip c2 h
  obtain rfl := Option.some.inj h
  obtain ⟨sa, hsa⟩ := hE.2.2.1 (95, "no such case") (List.mem_of_getElem? (i := 4) rfl)
  exact vx_throwS (A := A) (names := exNm) (ik := 93) (is := 95) (ic := 97) (sa := sa) hx hb hfl hown (by decide +kernel) exFit (hts (.classLink RX4 93 "java/lang/IndexOutOfBoundsException") (List.mem_of_getElem? (i := 1) rfl)) (hts (.initialized "java/lang/IndexOutOfBoundsException") (List.mem_of_getElem? (i := 2) rfl)) hsa (vx_hat (fun w hw => hts w (atmX4_lies_97 w hw)) bad_97 (exB97 hE.2.2.2)) ot_97 hE.1 hE.2.1 hS (hl.1.trans hml.symm) dX4_lies_11 dX4_lies_14 dX4_lies_15 dX4_lies_17 dX4_lies_20 (fun x hx => (hno x hx).elim) (Nat.le_of_ble_eq_true rfl) (Nat.le_of_ble_eq_true rfl) (Nat.le_of_ble_eq_true rfl) (Nat.le_of_ble_eq_true rfl) hlocks (fun t hv hz hk => ⟨(), trivial, rfl, hz, fun q hq _ => hk q hq⟩) hS.2.2 (Nat.le_of_ble_eq_true rfl) (Nat.le_of_ble_eq_true rfl)
set_option maxHeartbeats 4000000 in
set_option maxRecDepth 100000 in
theorem c_X4_answer (l : Launch) (hfl : l.stackTraces = false) (D : va_G) (T : Nat → ClassId) (h0 : Nat) (A0 : Nat → Nat → Nat) (Z0 : Nat → St) (v1 : Int32) (v2 : Int32) (v3 : Int32) (sz : Nat) (r : Sum String (Int32 × (Nat → St))) (h : F_X4_answer Z0 v1 v2 v3 = some r) : vx_Met l yX4_answer wsX4_answer ({ frames := 6, cells := 1, slots := 6, locals := 82 } : Room) (va_Pc [.ref h0, .int v1, .int v2, .int v3] (PX D T (scW T h0 A0 (Z0)) sz)) (QXi D (scW T h0) r (va_A (scW T h0 A0 (Z0)) sz)) (XXq r) 1 6 (va_A (scW T h0 A0 (Z0)) sz) := by
  refine met_ofX (cc := cX4_answer) (maxL := 4) (ret := (some .int)) (lv := [(0, .ref h0), (1, .int v1), (2, .int v2), (3, .int v3)]) (by decide) rfl (Nat.le_of_ble_eq_true rfl) rfl ?_
  intro p e s m args below meth c ls C0 hno hl hB
  obtain ⟨hx, hb, hr, hml, hown, hts, hlocks, hname⟩ := C0
  obtain ⟨⟨hsz, hP, hK, hD0⟩, hE⟩ := hB
  subst hsz
  have hD := hD0.self (sz := s.heap.size)
  generalize hAe : va_A (scW T h0 A0 (Z0)) s.heap.size = A at hD hE ⊢
  have hA : ∀ q : Nat, s.heap.size ≤ q → A q := fun q h => by rw [← hAe]; exact Or.inr h
  have hS : va_S A s.heap s.heap [] := va_S.rf
  unfold F_X4_answer at h
  refine lv_aload_n hx hb dX4_answer_0 rfl (lv_at hl 0 rfl) ?_
  refine va_get (D := D) (ci := 4) (v := .ref (A0 0 0)) (C := RX4) (T := TX4) (N := 3) hx hb hts inX4_answer_4 hown hK.1 hP 0 rfl rfl 0 (by decide) (hts (.fieldLink RX4 12 "LyingScale" "now" "LLyingScale$State;") (List.mem_of_getElem? (i := 5) rfl)) (fun _ h9 => h9) rfl dX4_answer_1 ?_
  refine lv_iload_n hx hb dX4_answer_4 rfl (lv_at hl 1 rfl) ?_
  replace h := bd h
  obtain ⟨t1, et1, h⟩ := h
  refine callRi (v := t1) (va_runV (As := [.int v1]) (rest := []) ⟨hx, hb, hml, hown, hts⟩ (c_X2_isCase l D T (A0 0) (Z0 0) v1 t1 et1) (cwV 1 hts gX4_answer_X2_isCase rfl rfl rfl hdV_X2_isCase ⟨Nat.le_of_ble_eq_true rfl, Nat.le_of_ble_eq_true rfl⟩) ⟨PB_blind, va_recv hK.1 hP (ci := 2) (q0 := 3) rfl rfl, PB_at (hP.sub (ws' := stW T (A0 0) (Z0 0)) [3, 4, 5, 6, 7, 8, 9, 10, 11, 12, 13] rfl) hK⟩ rfl rfl hl.1 rfl (lv_room (Nat.le_of_ble_eq_true rfl)) dX4_answer_5 ⟨Nat.zero_le _, Nat.zero_le _⟩) ?_
  refine lv_if_ne (tgt := 21) hx hb dX4_answer_8 (by decide) (fun c2 => ?_) (fun c2 => ?_)
  · replace h := im c2 h
    refine lv_aload_n hx hb dX4_answer_21 rfl (lv_at hl 0 rfl) ?_
    refine va_get (D := D) (ci := 4) (v := .ref (A0 0 0)) (C := RX4) (T := TX4) (N := 3) hx hb hts inX4_answer_4 hown hK.1 hP 0 rfl rfl 0 (by decide) (hts (.fieldLink RX4 12 "LyingScale" "now" "LLyingScale$State;") (List.mem_of_getElem? (i := 5) rfl)) (fun _ h9 => h9) rfl dX4_answer_22 ?_
    refine lv_iload_n hx hb dX4_answer_25 rfl (lv_at hl 2 rfl) ?_
    refine lv_iload_n hx hb dX4_answer_26 rfl (lv_at hl 3 rfl) ?_
    replace h := bd h
    obtain ⟨t3, et3, h⟩ := h
    refine callRi (v := t3) (va_runV (As := [.int v2, .int v3]) (rest := []) ⟨hx, hb, hml, hown, hts⟩ (c_X2_isWeighing l D T (A0 0) (Z0 0) v2 v3 t3 et3) (cwV 2 hts gX4_answer_X2_isWeighing rfl rfl rfl hdV_X2_isWeighing ⟨Nat.le_of_ble_eq_true rfl, Nat.le_of_ble_eq_true rfl⟩) ⟨PB_blind, va_recv hK.1 hP (ci := 2) (q0 := 3) rfl rfl, PB_at (hP.sub (ws' := stW T (A0 0) (Z0 0)) [3, 4, 5, 6, 7, 8, 9, 10, 11, 12, 13] rfl) hK⟩ rfl rfl hl.1 rfl (lv_room (Nat.le_of_ble_eq_true rfl)) dX4_answer_27 ⟨Nat.zero_le _, Nat.zero_le _⟩) ?_
    refine lv_if_ne (tgt := 43) hx hb dX4_answer_30 (by decide) (fun c4 => ?_) (fun c4 => ?_)
    · replace h := im c4 h
      refine lv_iload_n hx hb dX4_answer_43 rfl (lv_at hl 1 rfl) ?_
      refine lv_iload_n hx hb dX4_answer_44 rfl (lv_at hl 2 rfl) ?_
      refine lv_iload_n hx hb dX4_answer_45 rfl (lv_at hl 3 rfl) ?_
      replace h := bd h
      obtain ⟨t5, et5, h⟩ := h
      refine callRi (v := t5) (va_runS (As := [.int v1, .int v2, .int v3]) (rest := []) ⟨hx, hb, hml, hown, hts⟩ (c_X4_trueAnswer l D T v1 v2 v3 t5 et5) (va_cwS 3 hts gX4_answer_X4_trueAnswer rfl rfl rfl hdS_X4_trueAnswer ⟨Nat.le_of_ble_eq_true rfl, Nat.le_of_ble_eq_true rfl⟩) ⟨PB_blind, PB_at (hP.sub (ws' := ([] : va_W)) [] rfl) hK⟩ rfl rfl hl.1 rfl (lv_room (Nat.le_of_ble_eq_true rfl)) dX4_answer_46 ⟨Nat.zero_le _, Nat.zero_le _⟩) ?_
      obtain rfl := Option.some.inj h
      refine vx_ret ?_
      refine W.widen (k := 1) (n := 6) (Nat.zero_le _) (Nat.zero_le _) ?_
      exact W.iret hx hb hr (fun t ht hW => ⟨⟨_, (A0, Z0), rfl, rfl, by rw [ht]; exact hP, hD⟩, hS.F ht⟩) hS.2.2 dX4_answer_49 hlocks
    replace h := ip c4 h
    obtain rfl := Option.some.inj h
    obtain ⟨sa, hsa⟩ := hE.2.2.1 (106, "no weighing") (List.mem_of_getElem? (i := 5) rfl)
    exact vx_throwS (A := A) (names := exNm) (ik := 30) (is := 106) (ic := 34) (sa := sa) hx hb hfl hown (by decide +kernel) exFit (hts (.classLink RX4 30 "java/lang/IllegalArgumentException") (List.mem_of_getElem? (i := 3) rfl)) (hts (.initialized "java/lang/IllegalArgumentException") (List.mem_of_getElem? (i := 4) rfl)) hsa (vx_hat (fun w hw => hts w (atmX4_answer_34 w hw)) bad_34 (exB34 hE.2.2.2)) ot_34 hE.1 hE.2.1 hS (hl.1.trans hml.symm) dX4_answer_33 dX4_answer_36 dX4_answer_37 dX4_answer_39 dX4_answer_42 (fun x hx => (hno x hx).elim) (Nat.le_of_ble_eq_true rfl) (Nat.le_of_ble_eq_true rfl) (Nat.le_of_ble_eq_true rfl) (Nat.le_of_ble_eq_true rfl) hlocks (fun t hv hz hk => ⟨(), trivial, rfl, hz, fun q hq _ => hk q hq⟩) hS.2.2 (Nat.le_of_ble_eq_true rfl) (Nat.le_of_ble_eq_true rfl)
  replace h := ip c2 h
  obtain rfl := Option.some.inj h
  obtain ⟨sa, hsa⟩ := hE.2.2.1 (95, "no such case") (List.mem_of_getElem? (i := 4) rfl)
  exact vx_throwS (A := A) (names := exNm) (ik := 93) (is := 95) (ic := 97) (sa := sa) hx hb hfl hown (by decide +kernel) exFit (hts (.classLink RX4 93 "java/lang/IndexOutOfBoundsException") (List.mem_of_getElem? (i := 1) rfl)) (hts (.initialized "java/lang/IndexOutOfBoundsException") (List.mem_of_getElem? (i := 2) rfl)) hsa (vx_hat (fun w hw => hts w (atmX4_answer_97 w hw)) bad_97 (exB97 hE.2.2.2)) ot_97 hE.1 hE.2.1 hS (hl.1.trans hml.symm) dX4_answer_11 dX4_answer_14 dX4_answer_15 dX4_answer_17 dX4_answer_20 (fun x hx => (hno x hx).elim) (Nat.le_of_ble_eq_true rfl) (Nat.le_of_ble_eq_true rfl) (Nat.le_of_ble_eq_true rfl) (Nat.le_of_ble_eq_true rfl) hlocks (fun t hv hz hk => ⟨(), trivial, rfl, hz, fun q hq _ => hk q hq⟩) hS.2.2 (Nat.le_of_ble_eq_true rfl) (Nat.le_of_ble_eq_true rfl)
set_option maxHeartbeats 4000000 in
set_option maxRecDepth 100000 in
theorem c_X4_leftCase (l : Launch) (hfl : l.stackTraces = false) (D : va_G) (T : Nat → ClassId) (h0 : Nat) (A0 : Nat → Nat → Nat) (Z0 : Nat → St) (v1 : Int32) (sz : Nat) (r : Sum String (Int32 × (Nat → St))) (h : F_X4_leftCase Z0 v1 = some r) : vx_Met l yX4_leftCase wsX4_leftCase ({ frames := 6, cells := 1, slots := 6, locals := 82 } : Room) (va_Pc [.ref h0, .int v1] (PX D T (scW T h0 A0 (Z0)) sz)) (QXi D (scW T h0) r (va_A (scW T h0 A0 (Z0)) sz)) (XXq r) 1 6 (va_A (scW T h0 A0 (Z0)) sz) := by
  refine met_ofX (cc := cX4_leftCase) (maxL := 3) (ret := (some .int)) (lv := [(0, .ref h0), (1, .int v1)]) (by decide) rfl (Nat.le_of_ble_eq_true rfl) rfl ?_
  intro p e s m args below meth c ls C0 hno hl hB
  obtain ⟨hx, hb, hr, hml, hown, hts, hlocks, hname⟩ := C0
  obtain ⟨⟨hsz, hP, hK, hD0⟩, hE⟩ := hB
  subst hsz
  have hD := hD0.self (sz := s.heap.size)
  generalize hAe : va_A (scW T h0 A0 (Z0)) s.heap.size = A at hD hE ⊢
  have hA : ∀ q : Nat, s.heap.size ≤ q → A q := fun q h => by rw [← hAe]; exact Or.inr h
  have hS : va_S A s.heap s.heap [] := va_S.rf
  unfold F_X4_leftCase at h
  refine lv_aload_n hx hb dX4_leftCase_0 rfl (lv_at hl 0 rfl) ?_
  refine va_get (D := D) (ci := 4) (v := .ref (A0 0 0)) (C := RX4) (T := TX4) (N := 3) hx hb hts inX4_leftCase_4 hown hK.1 hP 0 rfl rfl 0 (by decide) (hts (.fieldLink RX4 12 "LyingScale" "now" "LLyingScale$State;") (List.mem_of_getElem? (i := 3) rfl)) (fun _ h9 => h9) rfl dX4_leftCase_1 ?_
  refine lv_iload_n hx hb dX4_leftCase_4 rfl (lv_at hl 1 rfl) ?_
  replace h := bd h
  obtain ⟨t1, et1, h⟩ := h
  refine callRi (v := t1) (va_runV (As := [.int v1]) (rest := []) ⟨hx, hb, hml, hown, hts⟩ (c_X2_findLeft l D T (A0 0) (Z0 0) v1 t1 et1) (cwV 1 hts gX4_leftCase_X2_findLeft rfl rfl rfl hdV_X2_findLeft ⟨Nat.le_of_ble_eq_true rfl, Nat.le_of_ble_eq_true rfl⟩) ⟨PB_blind, va_recv hK.1 hP (ci := 2) (q0 := 3) rfl rfl, PB_at (hP.sub (ws' := stW T (A0 0) (Z0 0)) [3, 4, 5, 6, 7, 8, 9, 10, 11, 12, 13] rfl) hK⟩ rfl rfl hl.1 rfl (lv_room (Nat.le_of_ble_eq_true rfl)) dX4_leftCase_5 ⟨Nat.zero_le _, Nat.zero_le _⟩) ?_
  refine lv_istore_n (lv' := [(2, .int t1), (0, .ref h0), (1, .int v1)]) hx hb dX4_leftCase_8 rfl hl (by decide) rfl (fun ls hl => ?_)
  refine lv_iload_n hx hb dX4_leftCase_9 rfl (lv_at hl 0 rfl) ?_
  refine lv_iconst (v := (-1)) hx hb dX4_leftCase_10 (by decide) ?_
  refine lv_icmp_ne (tgt := 24) hx hb dX4_leftCase_11 (by decide) (fun c2 => ?_) (fun c2 => ?_)
  · replace h := im c2 h
    refine lv_iload_n hx hb dX4_leftCase_24 rfl (lv_at hl 0 rfl) ?_
    obtain rfl := Option.some.inj h
    refine vx_ret ?_
    refine W.widen (k := 1) (n := 6) (Nat.zero_le _) (Nat.zero_le _) ?_
    exact W.iret hx hb hr (fun t ht hW => ⟨⟨_, (A0, Z0), rfl, rfl, by rw [ht]; exact hP, hD⟩, hS.F ht⟩) hS.2.2 dX4_leftCase_25 hlocks
  replace h := ip c2 h
  obtain rfl := Option.some.inj h
  obtain ⟨sa, hsa⟩ := hE.2.2.1 (149, "not so many cases are left") (List.mem_of_getElem? (i := 9) rfl)
  exact vx_throwS (A := A) (names := exNm) (ik := 93) (is := 149) (ic := 97) (sa := sa) hx hb hfl hown (by decide +kernel) exFit (hts (.classLink RX4 93 "java/lang/IndexOutOfBoundsException") (List.mem_of_getElem? (i := 1) rfl)) (hts (.initialized "java/lang/IndexOutOfBoundsException") (List.mem_of_getElem? (i := 2) rfl)) hsa (vx_hat (fun w hw => hts w (atmX4_leftCase_97 w hw)) bad_97 (exB97 hE.2.2.2)) ot_97 hE.1 hE.2.1 hS (hl.1.trans hml.symm) dX4_leftCase_14 dX4_leftCase_17 dX4_leftCase_18 dX4_leftCase_20 dX4_leftCase_23 (fun x hx => (hno x hx).elim) (Nat.le_of_ble_eq_true rfl) (Nat.le_of_ble_eq_true rfl) (Nat.le_of_ble_eq_true rfl) (Nat.le_of_ble_eq_true rfl) hlocks (fun t hv hz hk => ⟨(), trivial, rfl, hz, fun q hq _ => hk q hq⟩) hS.2.2 (Nat.le_of_ble_eq_true rfl) (Nat.le_of_ble_eq_true rfl)
