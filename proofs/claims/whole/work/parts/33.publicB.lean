theorem nnD {r : UInt64} (h : ¬ ¬ (r &&& 0x7fffffffffffffff ≤ 0x7ff0000000000000)) : vf_n64 r := by
  have h2 : r &&& 0x7fffffffffffffff ≤ 0x7ff0000000000000 := Decidable.not_not.mp h
  exact h2
def F_X4_weighing (Z0 : Nat → St) (v1 : Int32) (v2 : Int32) : Option (Sum String (Int32 × (Nat → St))) :=
  if v1 < 0 then (some (.inl "java/lang/IndexOutOfBoundsException")) else (if v1 < ((Z0 0).1 5) then (if v2 < 0 then (some (.inl "java/lang/IllegalArgumentException")) else (if v2 < 3 then ((F_X3_part 40 (tdS (Z0 0)) v1 v2).bind fun t5 => some (.inr (t5, Z0))) else (some (.inl "java/lang/IllegalArgumentException")))) else (some (.inl "java/lang/IndexOutOfBoundsException")))
def F_X4_value (Z0 : Nat → St) (v1 : Int32) : Option (Sum String (Int32 × (Nat → St))) :=
  if v1 < 0 then (some (.inl "java/lang/IllegalArgumentException")) else (if v1 < 9 then ((F_X2_number (Z0 0) v1).bind fun t3 => some (.inr (t3, Z0))) else (some (.inl "java/lang/IllegalArgumentException")))
def F_X4_weight (Z0 : Nat → St) (v1 : Int32) : Option (Sum String (Int64 × (Nat → St))) :=
  (F_X4_isAhead v1).bind fun t1 => if t1 = 0 then (some (.inl "java/lang/IllegalArgumentException")) else ((F_X2_weightAhead (Z0 0) v1).bind fun t3 => some (.inr (t3, Z0)))
def B_X4_bound_4 (Z0 : Nat → St) (k4 : Int64 → Int32 → Option (Int32 × (Nat → St))) (i1_4 : Int64) (i3_4 : Int32) : Option (Int32 × (Nat → St)) :=
  if 20 < i3_4 then (some ((-1), Z0)) else ((F_X2_weightAhead (Z0 0) i3_4).bind fun t2 => if 0 < (lg_cmp t2 i1_4) then (k4 (i1_4 * 3) (i3_4 + 1)) else (some (i3_4, Z0)))
def F_X4_bound (Z0 : Nat → St) : Option (Int32 × (Nat → St)) :=
  fx2 (B_X4_bound_4 Z0) 1000 1 0
def F_X4_weightBehind (Z0 : Nat → St) (v1 : Int32) (v2 : Int32) (v3 : Int32) (v4 : Int32) : Option (Sum String (Int64 × (Nat → St))) :=
  (F_X2_isWeighing (Z0 0) v1 v2).bind fun t1 => if t1 = 0 then (some (.inl "java/lang/IllegalArgumentException")) else ((F_X4_isAnswer v3).bind fun t3 => if t3 = 0 then (some (.inl "java/lang/IllegalArgumentException")) else ((F_X4_isAhead v4).bind fun t5 => if t5 = 0 then (some (.inl "java/lang/IllegalArgumentException")) else ((F_X2_weightIfTold (Z0 0) v1 v2 v3 v4).bind fun t7 => some (.inr (t7, Z0)))))
def F_X4_bestGroup (Z0 : Nat → St) (v1 : Int32) : Option (Sum String (Int32 × (Nat → St))) :=
  (F_X4_isAhead v1).bind fun t1 => if t1 = 0 then (some (.inl "java/lang/IllegalArgumentException")) else ((F_X2_findGroup (Z0 0) v1).bind fun t3 => some (.inr (t3, Z0)))
def F_X4_teaches (Z0 : Nat → St) (v1 : Int32) (v2 : Int32) : Option (Sum String (Int32 × (Nat → St))) :=
  (F_X2_isWeighing (Z0 0) v1 v2).bind fun t1 => if t1 = 0 then (some (.inl "java/lang/IllegalArgumentException")) else ((F_X2_differs (Z0 0) v1 v2).bind fun t3 => if ¬ t3 &&& 1 = t3 then none else some (.inr (t3, Z0)))
def F_X4_distance (Z0 : Nat → St) (v1 : Int32) (v2 : Int32) : Option (Sum String (Int32 × (Nat → St))) :=
  (F_X2_isCase (Z0 0) v1).bind fun t1 => if t1 = 0 then (some (.inl "java/lang/IndexOutOfBoundsException")) else ((F_X2_isCase (Z0 0) v2).bind fun t3 => if t3 = 0 then (some (.inl "java/lang/IndexOutOfBoundsException")) else ((F_X3_codeWord 8 (plS (Z0 0)) v1).bind fun t5 => (F_X3_codeWord 8 (plS (Z0 0)) v2).bind fun t6 => (F_X4_differences t5 t6).bind fun t7 => some (.inr (t7, Z0))))
def F_X4_leastDistance (Z0 : Nat → St) : Option (Int32 × (Nat → St)) :=
  (F_X2_leastDifferences (Z0 0)).bind fun t1 => some (t1.1, zU Z0 0 t1.2)
def F_X4_bears (Z0 : Nat → St) : Option (Int32 × (Nat → St)) :=
  (F_X2_leastDifferences (Z0 0)).bind fun t1 => if t1.1 = 0 then (some ((-1), zU Z0 0 t1.2)) else (some ((t1.1 - 1) / 2, zU Z0 0 t1.2))
def F_X4_decode (Z0 : Nat → St) (v1 : Int32) : Option (Sum String (Int32 × (Nat → St))) :=
  if v1 < 0 then (some (.inl "java/lang/IllegalArgumentException")) else ((F_X3_answerRows 8 (plS (Z0 0))).bind fun t2 => if v1 < t2 then ((F_X4_wordOf v1).bind fun t4 => (F_X2_nearestCase (Z0 0) t4).bind fun t5 => some (.inr (t5, Z0))) else (some (.inl "java/lang/IllegalArgumentException")))
def F_X4_share (Z0 : Nat → St) : Option (UInt64 × (Nat → St)) :=
  (F_X2_countLeft (Z0 0)).bind fun t1 => (F_X2_cases (Z0 0)).bind fun t2 => if ¬ (FP.ddiv (FP.i2d t1) (FP.i2d t2)) &&& 0x7fffffffffffffff ≤ 0x7ff0000000000000 then none else some (FP.ddiv (FP.i2d t1) (FP.i2d t2), Z0)
def F_X4_append (Z0 : Nat → St) (v1 : Int32) : Option (Sum String (Int32 × (Nat → St))) :=
  if v1 < 0 then (some (.inl "java/lang/IllegalArgumentException")) else (if v1 ≤ 127 then (if ((Z0 5).1 0) < 100 then ((F_X1_write (Z0 5) v1).bind fun t4 => some (.inr (((zU Z0 5 t4) 5).1 0, zU Z0 5 t4))) else (some (.inl "java/lang/IllegalStateException"))) else (some (.inl "java/lang/IllegalArgumentException")))
def F_X4_clearText (Z0 : Nat → St) : Option (Int32 × (Nat → St)) :=
  some ((Z0 5).1 0, zU Z0 5 (sI (Z0 5) 0 0))
def B_X4_carryOut_31 (k31 : Int32 → (Nat → St) → Option (Int32 × (Nat → St))) (i2_31 : Int32) (x0_31 : Nat → St) : Option (Int32 × (Nat → St)) :=
  if ((x0_31 5).1 1) ≤ i2_31 then (some ((x0_31 5).1 1, x0_31)) else ((F_X4_at 20 ((x0_31 5).2 1) i2_31).bind fun t6 => (F_X4_at 20 ((x0_31 5).2 2) i2_31).bind fun t7 => (F_X4_at 20 ((x0_31 5).2 3) i2_31).bind fun t8 => (F_X2_obey (x0_31 0) t6 t7 t8).bind fun t9 => if t9.1 = 0 then (some (i2_31, zU x0_31 0 t9.2)) else (k31 (i2_31 + 1) (zU x0_31 0 t9.2)))
def F_X4_carryOut (Z0 : Nat → St) : Option (Int32 × (Nat → St)) :=
  (F_X1_read (Z0 5)).bind fun t1 => if t1.1 = ((-1)) then ((F_X0_save (zU Z0 5 t1.2)).bind fun t3 => fx2 (B_X4_carryOut_31) 1000 0 t3) else (some (((-10)) - t1.1, zU Z0 5 t1.2))
def F_X4_undo (Z0 : Nat → St) : Option (Sum String (Int32 × (Nat → St))) :=
  if ((Z0 6).1 0) = 0 then (some (.inl "java/lang/IllegalStateException")) else ((F_X0_restore Z0).bind fun t2 => some (.inr ((t2 6).1 0, t2)))
def B_X4_digest_137 (Z0 : Nat → St) (k137 : Int64 → Int32 → Option (Int64 × (Nat → St))) (i1_137 : Int64) (i3_137 : Int32) : Option (Int64 × (Nat → St)) :=
  if ((Z0 0).1 6) ≤ i3_137 then ((F_X2_leastDifferences (Z0 0)).bind fun t7 => (F_X4_mix i1_137 t7.1.toInt64).bind fun t8 => (F_X4_bound (zU Z0 0 t7.2)).bind fun t9 => (F_X4_mix t8 t9.1.toInt64).bind fun t11 => (F_X2_weightAhead (t9.2 0) 5).bind fun t12 => (F_X4_mix t11 t12).bind fun t13 => (F_X2_findGroup (t9.2 0) 3).bind fun t14 => (F_X4_mix t13 t14.toInt64).bind fun t15 => (F_X4_mix t15 (((t9.2 6).1 0).toInt64)).bind fun t16 => some (t16, t9.2)) else ((F_X4_at 8 ((Z0 0).2 3) i3_137).bind fun t17 => (F_X4_mix i1_137 t17.toInt64).bind fun t18 => (F_X4_at 8 ((Z0 0).2 4) i3_137).bind fun t19 => (F_X4_mix t18 t19.toInt64).bind fun t20 => k137 t20 (i3_137 + 1))
def B_X4_digest_101 (Z0 : Nat → St) (k101 : Int64 → Int32 → Option (Int64 × (Nat → St))) (i1_101 : Int64) (i3_101 : Int32) : Option (Int64 × (Nat → St)) :=
  (F_X2_cases (Z0 0)).bind fun t4 => if t4 ≤ i3_101 then (fx2 (B_X4_digest_137 Z0) 1000 i1_101 0) else ((F_X4_at 33 ((Z0 0).2 6) i3_101).bind fun t21 => (F_X4_mix i1_101 t21.toInt64).bind fun t22 => k101 t22 (i3_101 + 1))
def B_X4_digest_62 (Z0 : Nat → St) (i3_45 : Int32) (k45 : Int64 → Int32 → Option (Int64 × (Nat → St))) (k62 : Int64 → Int32 → Option (Int64 × (Nat → St))) (i1_62 : Int64) (i4_62 : Int32) : Option (Int64 × (Nat → St)) :=
  if 3 ≤ i4_62 then (k45 i1_62 (i3_45 + 1)) else ((F_X3_part 40 (tdS (Z0 0)) i3_45 i4_62).bind fun t24 => (F_X4_mix i1_62 t24.toInt64).bind fun t25 => k62 t25 (i4_62 + 1))
def B_X4_digest_45 (Z0 : Nat → St) (k45 : Int64 → Int32 → Option (Int64 × (Nat → St))) (i1_45 : Int64) (i3_45 : Int32) : Option (Int64 × (Nat → St)) :=
  if ((Z0 0).1 5) ≤ i3_45 then (fx2 (B_X4_digest_101 Z0) 1000 i1_45 0) else (fx2 (B_X4_digest_62 Z0 i3_45 k45) 1000 i1_45 0)
def B_X4_digest_17 (Z0 : Nat → St) (k17 : Int64 → Int32 → Option (Int64 × (Nat → St))) (i1_17 : Int64) (i3_17 : Int32) : Option (Int64 × (Nat → St)) :=
  if 9 ≤ i3_17 then (fx2 (B_X4_digest_45 Z0) 1000 i1_17 0) else ((F_X2_number (Z0 0) i3_17).bind fun t26 => (F_X4_mix i1_17 t26.toInt64).bind fun t27 => k17 t27 (i3_17 + 1))
def F_X4_digest (Z0 : Nat → St) : Option (Int64 × (Nat → St)) :=
  (F_X4_mix 3821 (((Z0 5).1 0).toInt64)).bind fun t1 => fx2 (B_X4_digest_17 Z0) 1000 t1 0
theorem atmX4_weighing_34 : ∀ w ∈ (vx_atS RX4 34 "java/lang/IllegalArgumentException" ["java/lang/RuntimeException", "java/lang/Exception"]).filter goodWord, w ∈ wsX4_weighing := fun w h => by
  unfold wsX4_weighing
  refine List.mem_cons_of_mem _ ?_
  first | exact List.mem_append_right _ h | exact List.mem_append_left _ (List.mem_append_right _ h) | exact List.mem_append_left _ (List.mem_append_left _ (List.mem_append_right _ h))
theorem atmX4_weighing_97 : ∀ w ∈ (vx_atS RX4 97 "java/lang/IndexOutOfBoundsException" ["java/lang/RuntimeException", "java/lang/Exception"]).filter goodWord, w ∈ wsX4_weighing := fun w h => by
  unfold wsX4_weighing
  refine List.mem_cons_of_mem _ ?_
  first | exact List.mem_append_right _ h | exact List.mem_append_left _ (List.mem_append_right _ h) | exact List.mem_append_left _ (List.mem_append_left _ (List.mem_append_right _ h))
theorem inX4_weighing_2 : ∀ w ∈ u_ws RX2 TX2 9, w ∈ wsX4_weighing := by decide +kernel
theorem inX4_weighing_3 : ∀ w ∈ u_ws RX3 TX3 4, w ∈ wsX4_weighing := by decide +kernel
theorem inX4_weighing_4 : ∀ w ∈ u_ws RX4 TX4 3, w ∈ wsX4_weighing := by decide +kernel
theorem hdS_X4_weighing : yX4_weighing.cls ≠ "java/lang/invoke/MethodHandle" ∧ yX4_weighing.cls ≠ "java/lang/invoke/VarHandle" ∧ (parseMethodDescriptor yX4_weighing.desc).map (fun d => d.parameters.length) = some 2 := by decide +kernel
theorem hdV_X4_weighing : yX4_weighing.cls = RX4 ∧ yX4_weighing.cls ≠ "java/lang/invoke/MethodHandle" ∧ yX4_weighing.cls ≠ "java/lang/invoke/VarHandle" ∧ (parseMethodDescriptor yX4_weighing.desc).map (fun d => d.parameters.length) = some 2 := by decide +kernel
theorem atmX4_value_34 : ∀ w ∈ (vx_atS RX4 34 "java/lang/IllegalArgumentException" ["java/lang/RuntimeException", "java/lang/Exception"]).filter goodWord, w ∈ wsX4_value := fun w h => by
  unfold wsX4_value
  refine List.mem_cons_of_mem _ ?_
  first | exact List.mem_append_right _ h | exact List.mem_append_left _ (List.mem_append_right _ h) | exact List.mem_append_left _ (List.mem_append_left _ (List.mem_append_right _ h))
theorem inX4_value_4 : ∀ w ∈ u_ws RX4 TX4 3, w ∈ wsX4_value := by decide +kernel
theorem hdS_X4_value : yX4_value.cls ≠ "java/lang/invoke/MethodHandle" ∧ yX4_value.cls ≠ "java/lang/invoke/VarHandle" ∧ (parseMethodDescriptor yX4_value.desc).map (fun d => d.parameters.length) = some 1 := by decide +kernel
theorem hdV_X4_value : yX4_value.cls = RX4 ∧ yX4_value.cls ≠ "java/lang/invoke/MethodHandle" ∧ yX4_value.cls ≠ "java/lang/invoke/VarHandle" ∧ (parseMethodDescriptor yX4_value.desc).map (fun d => d.parameters.length) = some 1 := by decide +kernel
theorem atmX4_weight_34 : ∀ w ∈ (vx_atS RX4 34 "java/lang/IllegalArgumentException" ["java/lang/RuntimeException", "java/lang/Exception"]).filter goodWord, w ∈ wsX4_weight := fun w h => by
  unfold wsX4_weight
  refine List.mem_cons_of_mem _ ?_
  first | exact List.mem_append_right _ h | exact List.mem_append_left _ (List.mem_append_right _ h) | exact List.mem_append_left _ (List.mem_append_left _ (List.mem_append_right _ h))
theorem inX4_weight_4 : ∀ w ∈ u_ws RX4 TX4 3, w ∈ wsX4_weight := by decide +kernel
theorem hdS_X4_weight : yX4_weight.cls ≠ "java/lang/invoke/MethodHandle" ∧ yX4_weight.cls ≠ "java/lang/invoke/VarHandle" ∧ (parseMethodDescriptor yX4_weight.desc).map (fun d => d.parameters.length) = some 1 := by decide +kernel
theorem hdV_X4_weight : yX4_weight.cls = RX4 ∧ yX4_weight.cls ≠ "java/lang/invoke/MethodHandle" ∧ yX4_weight.cls ≠ "java/lang/invoke/VarHandle" ∧ (parseMethodDescriptor yX4_weight.desc).map (fun d => d.parameters.length) = some 1 := by decide +kernel
theorem inX4_bound_4 : ∀ w ∈ u_ws RX4 TX4 3, w ∈ wsX4_bound := by decide +kernel
theorem hdS_X4_bound : yX4_bound.cls ≠ "java/lang/invoke/MethodHandle" ∧ yX4_bound.cls ≠ "java/lang/invoke/VarHandle" ∧ (parseMethodDescriptor yX4_bound.desc).map (fun d => d.parameters.length) = some 0 := by decide +kernel
theorem hdV_X4_bound : yX4_bound.cls = RX4 ∧ yX4_bound.cls ≠ "java/lang/invoke/MethodHandle" ∧ yX4_bound.cls ≠ "java/lang/invoke/VarHandle" ∧ (parseMethodDescriptor yX4_bound.desc).map (fun d => d.parameters.length) = some 0 := by decide +kernel
theorem atmX4_weightBehind_34 : ∀ w ∈ (vx_atS RX4 34 "java/lang/IllegalArgumentException" ["java/lang/RuntimeException", "java/lang/Exception"]).filter goodWord, w ∈ wsX4_weightBehind := fun w h => by
  unfold wsX4_weightBehind
  refine List.mem_cons_of_mem _ ?_
  first | exact List.mem_append_right _ h | exact List.mem_append_left _ (List.mem_append_right _ h) | exact List.mem_append_left _ (List.mem_append_left _ (List.mem_append_right _ h))
theorem inX4_weightBehind_4 : ∀ w ∈ u_ws RX4 TX4 3, w ∈ wsX4_weightBehind := by decide +kernel
theorem hdS_X4_weightBehind : yX4_weightBehind.cls ≠ "java/lang/invoke/MethodHandle" ∧ yX4_weightBehind.cls ≠ "java/lang/invoke/VarHandle" ∧ (parseMethodDescriptor yX4_weightBehind.desc).map (fun d => d.parameters.length) = some 4 := by decide +kernel
theorem hdV_X4_weightBehind : yX4_weightBehind.cls = RX4 ∧ yX4_weightBehind.cls ≠ "java/lang/invoke/MethodHandle" ∧ yX4_weightBehind.cls ≠ "java/lang/invoke/VarHandle" ∧ (parseMethodDescriptor yX4_weightBehind.desc).map (fun d => d.parameters.length) = some 4 := by decide +kernel
theorem atmX4_bestGroup_34 : ∀ w ∈ (vx_atS RX4 34 "java/lang/IllegalArgumentException" ["java/lang/RuntimeException", "java/lang/Exception"]).filter goodWord, w ∈ wsX4_bestGroup := fun w h => by
  unfold wsX4_bestGroup
  refine List.mem_cons_of_mem _ ?_
  first | exact List.mem_append_right _ h | exact List.mem_append_left _ (List.mem_append_right _ h) | exact List.mem_append_left _ (List.mem_append_left _ (List.mem_append_right _ h))
theorem inX4_bestGroup_4 : ∀ w ∈ u_ws RX4 TX4 3, w ∈ wsX4_bestGroup := by decide +kernel
theorem hdS_X4_bestGroup : yX4_bestGroup.cls ≠ "java/lang/invoke/MethodHandle" ∧ yX4_bestGroup.cls ≠ "java/lang/invoke/VarHandle" ∧ (parseMethodDescriptor yX4_bestGroup.desc).map (fun d => d.parameters.length) = some 1 := by decide +kernel
theorem hdV_X4_bestGroup : yX4_bestGroup.cls = RX4 ∧ yX4_bestGroup.cls ≠ "java/lang/invoke/MethodHandle" ∧ yX4_bestGroup.cls ≠ "java/lang/invoke/VarHandle" ∧ (parseMethodDescriptor yX4_bestGroup.desc).map (fun d => d.parameters.length) = some 1 := by decide +kernel
theorem atmX4_teaches_34 : ∀ w ∈ (vx_atS RX4 34 "java/lang/IllegalArgumentException" ["java/lang/RuntimeException", "java/lang/Exception"]).filter goodWord, w ∈ wsX4_teaches := fun w h => by
  unfold wsX4_teaches
  refine List.mem_cons_of_mem _ ?_
  first | exact List.mem_append_right _ h | exact List.mem_append_left _ (List.mem_append_right _ h) | exact List.mem_append_left _ (List.mem_append_left _ (List.mem_append_right _ h))
theorem inX4_teaches_4 : ∀ w ∈ u_ws RX4 TX4 3, w ∈ wsX4_teaches := by decide +kernel
theorem hdS_X4_teaches : yX4_teaches.cls ≠ "java/lang/invoke/MethodHandle" ∧ yX4_teaches.cls ≠ "java/lang/invoke/VarHandle" ∧ (parseMethodDescriptor yX4_teaches.desc).map (fun d => d.parameters.length) = some 2 := by decide +kernel
theorem hdV_X4_teaches : yX4_teaches.cls = RX4 ∧ yX4_teaches.cls ≠ "java/lang/invoke/MethodHandle" ∧ yX4_teaches.cls ≠ "java/lang/invoke/VarHandle" ∧ (parseMethodDescriptor yX4_teaches.desc).map (fun d => d.parameters.length) = some 2 := by decide +kernel
theorem atmX4_distance_97 : ∀ w ∈ (vx_atS RX4 97 "java/lang/IndexOutOfBoundsException" ["java/lang/RuntimeException", "java/lang/Exception"]).filter goodWord, w ∈ wsX4_distance := fun w h => by
  unfold wsX4_distance
  refine List.mem_cons_of_mem _ ?_
  first | exact List.mem_append_right _ h | exact List.mem_append_left _ (List.mem_append_right _ h) | exact List.mem_append_left _ (List.mem_append_left _ (List.mem_append_right _ h))
theorem inX4_distance_2 : ∀ w ∈ u_ws RX2 TX2 9, w ∈ wsX4_distance := by decide +kernel
theorem inX4_distance_4 : ∀ w ∈ u_ws RX4 TX4 3, w ∈ wsX4_distance := by decide +kernel
theorem hdS_X4_distance : yX4_distance.cls ≠ "java/lang/invoke/MethodHandle" ∧ yX4_distance.cls ≠ "java/lang/invoke/VarHandle" ∧ (parseMethodDescriptor yX4_distance.desc).map (fun d => d.parameters.length) = some 2 := by decide +kernel
theorem hdV_X4_distance : yX4_distance.cls = RX4 ∧ yX4_distance.cls ≠ "java/lang/invoke/MethodHandle" ∧ yX4_distance.cls ≠ "java/lang/invoke/VarHandle" ∧ (parseMethodDescriptor yX4_distance.desc).map (fun d => d.parameters.length) = some 2 := by decide +kernel
theorem inX4_leastDistance_4 : ∀ w ∈ u_ws RX4 TX4 3, w ∈ wsX4_leastDistance := by decide +kernel
theorem hdS_X4_leastDistance : yX4_leastDistance.cls ≠ "java/lang/invoke/MethodHandle" ∧ yX4_leastDistance.cls ≠ "java/lang/invoke/VarHandle" ∧ (parseMethodDescriptor yX4_leastDistance.desc).map (fun d => d.parameters.length) = some 0 := by decide +kernel
theorem hdV_X4_leastDistance : yX4_leastDistance.cls = RX4 ∧ yX4_leastDistance.cls ≠ "java/lang/invoke/MethodHandle" ∧ yX4_leastDistance.cls ≠ "java/lang/invoke/VarHandle" ∧ (parseMethodDescriptor yX4_leastDistance.desc).map (fun d => d.parameters.length) = some 0 := by decide +kernel
theorem inX4_bears_4 : ∀ w ∈ u_ws RX4 TX4 3, w ∈ wsX4_bears := by decide +kernel
theorem hdS_X4_bears : yX4_bears.cls ≠ "java/lang/invoke/MethodHandle" ∧ yX4_bears.cls ≠ "java/lang/invoke/VarHandle" ∧ (parseMethodDescriptor yX4_bears.desc).map (fun d => d.parameters.length) = some 0 := by decide +kernel
theorem hdV_X4_bears : yX4_bears.cls = RX4 ∧ yX4_bears.cls ≠ "java/lang/invoke/MethodHandle" ∧ yX4_bears.cls ≠ "java/lang/invoke/VarHandle" ∧ (parseMethodDescriptor yX4_bears.desc).map (fun d => d.parameters.length) = some 0 := by decide +kernel
theorem atmX4_decode_34 : ∀ w ∈ (vx_atS RX4 34 "java/lang/IllegalArgumentException" ["java/lang/RuntimeException", "java/lang/Exception"]).filter goodWord, w ∈ wsX4_decode := fun w h => by
  unfold wsX4_decode
  refine List.mem_cons_of_mem _ ?_
  first | exact List.mem_append_right _ h | exact List.mem_append_left _ (List.mem_append_right _ h) | exact List.mem_append_left _ (List.mem_append_left _ (List.mem_append_right _ h))
theorem inX4_decode_2 : ∀ w ∈ u_ws RX2 TX2 9, w ∈ wsX4_decode := by decide +kernel
theorem inX4_decode_4 : ∀ w ∈ u_ws RX4 TX4 3, w ∈ wsX4_decode := by decide +kernel
theorem hdS_X4_decode : yX4_decode.cls ≠ "java/lang/invoke/MethodHandle" ∧ yX4_decode.cls ≠ "java/lang/invoke/VarHandle" ∧ (parseMethodDescriptor yX4_decode.desc).map (fun d => d.parameters.length) = some 1 := by decide +kernel
theorem hdV_X4_decode : yX4_decode.cls = RX4 ∧ yX4_decode.cls ≠ "java/lang/invoke/MethodHandle" ∧ yX4_decode.cls ≠ "java/lang/invoke/VarHandle" ∧ (parseMethodDescriptor yX4_decode.desc).map (fun d => d.parameters.length) = some 1 := by decide +kernel
theorem inX4_share_4 : ∀ w ∈ u_ws RX4 TX4 3, w ∈ wsX4_share := by decide +kernel
theorem hdS_X4_share : yX4_share.cls ≠ "java/lang/invoke/MethodHandle" ∧ yX4_share.cls ≠ "java/lang/invoke/VarHandle" ∧ (parseMethodDescriptor yX4_share.desc).map (fun d => d.parameters.length) = some 0 := by decide +kernel
theorem hdV_X4_share : yX4_share.cls = RX4 ∧ yX4_share.cls ≠ "java/lang/invoke/MethodHandle" ∧ yX4_share.cls ≠ "java/lang/invoke/VarHandle" ∧ (parseMethodDescriptor yX4_share.desc).map (fun d => d.parameters.length) = some 0 := by decide +kernel
theorem atmX4_append_34 : ∀ w ∈ (vx_atS RX4 34 "java/lang/IllegalArgumentException" ["java/lang/RuntimeException", "java/lang/Exception"]).filter goodWord, w ∈ wsX4_append := fun w h => by
  unfold wsX4_append
  refine List.mem_cons_of_mem _ ?_
  first | exact List.mem_append_right _ h | exact List.mem_append_left _ (List.mem_append_right _ h) | exact List.mem_append_left _ (List.mem_append_left _ (List.mem_append_right _ h))
theorem atmX4_append_82 : ∀ w ∈ (vx_atS RX4 82 "java/lang/IllegalStateException" ["java/lang/RuntimeException", "java/lang/Exception"]).filter goodWord, w ∈ wsX4_append := fun w h => by
  unfold wsX4_append
  refine List.mem_cons_of_mem _ ?_
  first | exact List.mem_append_right _ h | exact List.mem_append_left _ (List.mem_append_right _ h) | exact List.mem_append_left _ (List.mem_append_left _ (List.mem_append_right _ h))
theorem inX4_append_1 : ∀ w ∈ u_ws RX1 TX1 9, w ∈ wsX4_append := by decide +kernel
theorem inX4_append_4 : ∀ w ∈ u_ws RX4 TX4 3, w ∈ wsX4_append := by decide +kernel
theorem hdS_X4_append : yX4_append.cls ≠ "java/lang/invoke/MethodHandle" ∧ yX4_append.cls ≠ "java/lang/invoke/VarHandle" ∧ (parseMethodDescriptor yX4_append.desc).map (fun d => d.parameters.length) = some 1 := by decide +kernel
theorem hdV_X4_append : yX4_append.cls = RX4 ∧ yX4_append.cls ≠ "java/lang/invoke/MethodHandle" ∧ yX4_append.cls ≠ "java/lang/invoke/VarHandle" ∧ (parseMethodDescriptor yX4_append.desc).map (fun d => d.parameters.length) = some 1 := by decide +kernel
theorem inX4_clearText_1 : ∀ w ∈ u_ws RX1 TX1 9, w ∈ wsX4_clearText := by decide +kernel
theorem inX4_clearText_4 : ∀ w ∈ u_ws RX4 TX4 3, w ∈ wsX4_clearText := by decide +kernel
theorem hdS_X4_clearText : yX4_clearText.cls ≠ "java/lang/invoke/MethodHandle" ∧ yX4_clearText.cls ≠ "java/lang/invoke/VarHandle" ∧ (parseMethodDescriptor yX4_clearText.desc).map (fun d => d.parameters.length) = some 0 := by decide +kernel
theorem hdV_X4_clearText : yX4_clearText.cls = RX4 ∧ yX4_clearText.cls ≠ "java/lang/invoke/MethodHandle" ∧ yX4_clearText.cls ≠ "java/lang/invoke/VarHandle" ∧ (parseMethodDescriptor yX4_clearText.desc).map (fun d => d.parameters.length) = some 0 := by decide +kernel
theorem inX4_carryOut_1 : ∀ w ∈ u_ws RX1 TX1 9, w ∈ wsX4_carryOut := by decide +kernel
theorem inX4_carryOut_4 : ∀ w ∈ u_ws RX4 TX4 3, w ∈ wsX4_carryOut := by decide +kernel
theorem hdS_X4_carryOut : yX4_carryOut.cls ≠ "java/lang/invoke/MethodHandle" ∧ yX4_carryOut.cls ≠ "java/lang/invoke/VarHandle" ∧ (parseMethodDescriptor yX4_carryOut.desc).map (fun d => d.parameters.length) = some 0 := by decide +kernel
theorem hdV_X4_carryOut : yX4_carryOut.cls = RX4 ∧ yX4_carryOut.cls ≠ "java/lang/invoke/MethodHandle" ∧ yX4_carryOut.cls ≠ "java/lang/invoke/VarHandle" ∧ (parseMethodDescriptor yX4_carryOut.desc).map (fun d => d.parameters.length) = some 0 := by decide +kernel
theorem atmX4_undo_82 : ∀ w ∈ (vx_atS RX4 82 "java/lang/IllegalStateException" ["java/lang/RuntimeException", "java/lang/Exception"]).filter goodWord, w ∈ wsX4_undo := fun w h => by
  unfold wsX4_undo
  refine List.mem_cons_of_mem _ ?_
  first | exact List.mem_append_right _ h | exact List.mem_append_left _ (List.mem_append_right _ h) | exact List.mem_append_left _ (List.mem_append_left _ (List.mem_append_right _ h))
theorem inX4_undo_0 : ∀ w ∈ u_ws RX0 TX0 2, w ∈ wsX4_undo := by decide +kernel
theorem inX4_undo_4 : ∀ w ∈ u_ws RX4 TX4 3, w ∈ wsX4_undo := by decide +kernel
theorem hdS_X4_undo : yX4_undo.cls ≠ "java/lang/invoke/MethodHandle" ∧ yX4_undo.cls ≠ "java/lang/invoke/VarHandle" ∧ (parseMethodDescriptor yX4_undo.desc).map (fun d => d.parameters.length) = some 0 := by decide +kernel
theorem hdV_X4_undo : yX4_undo.cls = RX4 ∧ yX4_undo.cls ≠ "java/lang/invoke/MethodHandle" ∧ yX4_undo.cls ≠ "java/lang/invoke/VarHandle" ∧ (parseMethodDescriptor yX4_undo.desc).map (fun d => d.parameters.length) = some 0 := by decide +kernel
theorem inX4_digest_0 : ∀ w ∈ u_ws RX0 TX0 2, w ∈ wsX4_digest := by decide +kernel
theorem inX4_digest_1 : ∀ w ∈ u_ws RX1 TX1 9, w ∈ wsX4_digest := by decide +kernel
theorem inX4_digest_2 : ∀ w ∈ u_ws RX2 TX2 9, w ∈ wsX4_digest := by decide +kernel
theorem inX4_digest_3 : ∀ w ∈ u_ws RX3 TX3 4, w ∈ wsX4_digest := by decide +kernel
theorem inX4_digest_4 : ∀ w ∈ u_ws RX4 TX4 3, w ∈ wsX4_digest := by decide +kernel
theorem hdS_X4_digest : yX4_digest.cls ≠ "java/lang/invoke/MethodHandle" ∧ yX4_digest.cls ≠ "java/lang/invoke/VarHandle" ∧ (parseMethodDescriptor yX4_digest.desc).map (fun d => d.parameters.length) = some 0 := by decide +kernel
theorem hdV_X4_digest : yX4_digest.cls = RX4 ∧ yX4_digest.cls ≠ "java/lang/invoke/MethodHandle" ∧ yX4_digest.cls ≠ "java/lang/invoke/VarHandle" ∧ (parseMethodDescriptor yX4_digest.desc).map (fun d => d.parameters.length) = some 0 := by decide +kernel
set_option maxHeartbeats 4000000 in
set_option maxRecDepth 100000 in
theorem c_X4_weighing (l : Launch) (hfl : l.stackTraces = false) (D : va_G) (T : Nat → ClassId) (h0 : Nat) (A0 : Nat → Nat → Nat) (Z0 : Nat → St) (v1 : Int32) (v2 : Int32) (sz : Nat) (r : Sum String (Int32 × (Nat → St))) (h : F_X4_weighing Z0 v1 v2 = some r) : vx_Met l yX4_weighing wsX4_weighing ({ frames := 6, cells := 1, slots := 6, locals := 82 } : Room) (va_Pc [.ref h0, .int v1, .int v2] (PX D T (scW T h0 A0 (Z0)) sz)) (QXi D (scW T h0) r (va_A (scW T h0 A0 (Z0)) sz)) (XXq r) 1 6 (va_A (scW T h0 A0 (Z0)) sz) := by
  refine met_ofX (cc := cX4_weighing) (maxL := 3) (ret := (some .int)) (lv := [(0, .ref h0), (1, .int v1), (2, .int v2)]) (by decide) rfl (Nat.le_of_ble_eq_true rfl) rfl ?_
  intro p e s m args below meth c ls C0 hno hl hB
  obtain ⟨hx, hb, hr, hml, hown, hts, hlocks, hname⟩ := C0
  obtain ⟨⟨hsz, hP, hK, hD0⟩, hE⟩ := hB
  subst hsz
  have hD := hD0.self (sz := s.heap.size)
  generalize hAe : va_A (scW T h0 A0 (Z0)) s.heap.size = A at hD hE ⊢
  have hA : ∀ q : Nat, s.heap.size ≤ q → A q := fun q h => by rw [← hAe]; exact Or.inr h
  have hS : va_S A s.heap s.heap [] := va_S.rf
  unfold F_X4_weighing at h
  refine lv_iload_n hx hb dX4_weighing_0 rfl (lv_at hl 1 rfl) ?_
  refine lv_if_lt (tgt := 18) hx hb dX4_weighing_1 (by decide) (fun c1 => ?_) (fun c1 => ?_)
  · replace h := ip c1 h
    obtain rfl := Option.some.inj h
    obtain ⟨sa, hsa⟩ := hE.2.2.1 (151, "not so many weighings were told") (List.mem_of_getElem? (i := 10) rfl)
    exact vx_throwS (A := A) (names := exNm) (ik := 93) (is := 151) (ic := 97) (sa := sa) hx hb hfl hown (by decide +kernel) exFit (hts (.classLink RX4 93 "java/lang/IndexOutOfBoundsException") (List.mem_of_getElem? (i := 1) rfl)) (hts (.initialized "java/lang/IndexOutOfBoundsException") (List.mem_of_getElem? (i := 2) rfl)) hsa (vx_hat (fun w hw => hts w (atmX4_weighing_97 w hw)) bad_97 (exB97 hE.2.2.2)) ot_97 hE.1 hE.2.1 hS (hl.1.trans hml.symm) dX4_weighing_18 dX4_weighing_21 dX4_weighing_22 dX4_weighing_24 dX4_weighing_27 (fun x hx => (hno x hx).elim) (Nat.le_of_ble_eq_true rfl) (Nat.le_of_ble_eq_true rfl) (Nat.le_of_ble_eq_true rfl) (Nat.le_of_ble_eq_true rfl) hlocks (fun t hv hz hk => ⟨(), trivial, rfl, hz, fun q hq _ => hk q hq⟩) hS.2.2 (Nat.le_of_ble_eq_true rfl) (Nat.le_of_ble_eq_true rfl)
  replace h := im c1 h
  refine lv_iload_n hx hb dX4_weighing_4 rfl (lv_at hl 1 rfl) ?_
  refine lv_aload_n hx hb dX4_weighing_5 rfl (lv_at hl 0 rfl) ?_
  refine va_get (D := D) (ci := 4) (v := .ref (A0 0 0)) (C := RX4) (T := TX4) (N := 3) hx hb hts inX4_weighing_4 hown hK.1 hP 0 rfl rfl 0 (by decide) (hts (.fieldLink RX4 12 "LyingScale" "now" "LLyingScale$State;") (List.mem_of_getElem? (i := 5) rfl)) (fun _ h9 => h9) rfl dX4_weighing_6 ?_
  refine va_getN (D := D) (ci := 2) (v := .ref (A0 0 1)) (C := RX2) (T := TX2) (N := 9) hx hb hts inX4_weighing_2 hown hK.1 hP 3 rfl rfl 0 (by decide) (va_Nw.use rfl (hK.2 (.fieldLinkNest RX4 41 "LyingScale$State" "told" "LLyingScale$Weighings;" "LyingScale") (List.mem_of_getElem? (i := 10) rfl))) (fun _ h9 => h9) rfl dX4_weighing_9 ?_
  refine va_getN (D := D) (ci := 3) (v := .int ((Z0 0).1 5)) (C := RX3) (T := TX3) (N := 4) hx hb hts inX4_weighing_3 hown hK.1 hP 4 rfl rfl 3 (by decide) (va_Nw.use rfl (hK.2 (.fieldLinkNest RX4 45 "LyingScale$Weighings" "count" "I" "LyingScale") (List.mem_of_getElem? (i := 11) rfl))) (fun _ h9 => h9) rfl dX4_weighing_12 ?_
  refine lv_icmp_lt (tgt := 28) hx hb dX4_weighing_15 (by decide) (fun c2 => ?_) (fun c2 => ?_)
  · replace h := ip c2 h
    refine lv_iload_n hx hb dX4_weighing_28 rfl (lv_at hl 2 rfl) ?_
    refine lv_if_lt (tgt := 37) hx hb dX4_weighing_29 (by decide) (fun c3 => ?_) (fun c3 => ?_)
    · replace h := ip c3 h
      obtain rfl := Option.some.inj h
      obtain ⟨sa, hsa⟩ := hE.2.2.1 (153, "what is out of range") (List.mem_of_getElem? (i := 11) rfl)
      exact vx_throwS (A := A) (names := exNm) (ik := 30) (is := 153) (ic := 34) (sa := sa) hx hb hfl hown (by decide +kernel) exFit (hts (.classLink RX4 30 "java/lang/IllegalArgumentException") (List.mem_of_getElem? (i := 3) rfl)) (hts (.initialized "java/lang/IllegalArgumentException") (List.mem_of_getElem? (i := 4) rfl)) hsa (vx_hat (fun w hw => hts w (atmX4_weighing_34 w hw)) bad_34 (exB34 hE.2.2.2)) ot_34 hE.1 hE.2.1 hS (hl.1.trans hml.symm) dX4_weighing_37 dX4_weighing_40 dX4_weighing_41 dX4_weighing_43 dX4_weighing_46 (fun x hx => (hno x hx).elim) (Nat.le_of_ble_eq_true rfl) (Nat.le_of_ble_eq_true rfl) (Nat.le_of_ble_eq_true rfl) (Nat.le_of_ble_eq_true rfl) hlocks (fun t hv hz hk => ⟨(), trivial, rfl, hz, fun q hq _ => hk q hq⟩) hS.2.2 (Nat.le_of_ble_eq_true rfl) (Nat.le_of_ble_eq_true rfl)
    replace h := im c3 h
    refine lv_iload_n hx hb dX4_weighing_32 rfl (lv_at hl 2 rfl) ?_
    refine lv_iconst (v := 3) hx hb dX4_weighing_33 (by decide) ?_
    refine lv_icmp_lt (tgt := 47) hx hb dX4_weighing_34 (by decide) (fun c4 => ?_) (fun c4 => ?_)
    · replace h := ip c4 h
      refine lv_aload_n hx hb dX4_weighing_47 rfl (lv_at hl 0 rfl) ?_
      refine va_get (D := D) (ci := 4) (v := .ref (A0 0 0)) (C := RX4) (T := TX4) (N := 3) hx hb hts inX4_weighing_4 hown hK.1 hP 0 rfl rfl 0 (by decide) (hts (.fieldLink RX4 12 "LyingScale" "now" "LLyingScale$State;") (List.mem_of_getElem? (i := 5) rfl)) (fun _ h9 => h9) rfl dX4_weighing_48 ?_
      refine va_getN (D := D) (ci := 2) (v := .ref (A0 0 1)) (C := RX2) (T := TX2) (N := 9) hx hb hts inX4_weighing_2 hown hK.1 hP 3 rfl rfl 0 (by decide) (va_Nw.use rfl (hK.2 (.fieldLinkNest RX4 41 "LyingScale$State" "told" "LLyingScale$Weighings;" "LyingScale") (List.mem_of_getElem? (i := 10) rfl))) (fun _ h9 => h9) rfl dX4_weighing_51 ?_
      refine lv_iload_n hx hb dX4_weighing_54 rfl (lv_at hl 1 rfl) ?_
      refine lv_iload_n hx hb dX4_weighing_55 rfl (lv_at hl 2 rfl) ?_
      replace h := bd h
      obtain ⟨t5, et5, h⟩ := h
      refine callRi (v := t5) (va_runV (As := [.int v1, .int v2]) (rest := []) ⟨hx, hb, hml, hown, hts⟩ (c_X3_part l D T (tdA (A0 0)) 40 (tdS (Z0 0)) v1 v2 (Nat.le_of_ble_eq_true rfl) t5 et5) (cwV 2 hts gX4_weighing_X3_part rfl rfl rfl hdV_X3_part ⟨Nat.le_of_ble_eq_true rfl, Nat.le_of_ble_eq_true rfl⟩) ⟨PB_blind, va_recv hK.1 hP (ci := 3) (q0 := 4) rfl rfl, PB_at (hP.sub (ws' := wgW T 40 (tdA (A0 0)) (tdS (Z0 0))) [4, 8, 9, 10] rfl) hK⟩ rfl rfl hl.1 rfl (lv_room (Nat.le_of_ble_eq_true rfl)) dX4_weighing_56 ⟨Nat.zero_le _, Nat.zero_le _⟩) ?_
      obtain rfl := Option.some.inj h
      refine vx_ret ?_
      refine W.widen (k := 1) (n := 6) (Nat.zero_le _) (Nat.zero_le _) ?_
      exact W.iret hx hb hr (fun t ht hW => ⟨⟨_, (A0, Z0), rfl, rfl, by rw [ht]; exact hP, hD⟩, hS.F ht⟩) hS.2.2 dX4_weighing_59 hlocks
    replace h := im c4 h
    obtain rfl := Option.some.inj h
    obtain ⟨sa, hsa⟩ := hE.2.2.1 (153, "what is out of range") (List.mem_of_getElem? (i := 11) rfl)
    exact vx_throwS (A := A) (names := exNm) (ik := 30) (is := 153) (ic := 34) (sa := sa) hx hb hfl hown (by decide +kernel) exFit (hts (.classLink RX4 30 "java/lang/IllegalArgumentException") (List.mem_of_getElem? (i := 3) rfl)) (hts (.initialized "java/lang/IllegalArgumentException") (List.mem_of_getElem? (i := 4) rfl)) hsa (vx_hat (fun w hw => hts w (atmX4_weighing_34 w hw)) bad_34 (exB34 hE.2.2.2)) ot_34 hE.1 hE.2.1 hS (hl.1.trans hml.symm) dX4_weighing_37 dX4_weighing_40 dX4_weighing_41 dX4_weighing_43 dX4_weighing_46 (fun x hx => (hno x hx).elim) (Nat.le_of_ble_eq_true rfl) (Nat.le_of_ble_eq_true rfl) (Nat.le_of_ble_eq_true rfl) (Nat.le_of_ble_eq_true rfl) hlocks (fun t hv hz hk => ⟨(), trivial, rfl, hz, fun q hq _ => hk q hq⟩) hS.2.2 (Nat.le_of_ble_eq_true rfl) (Nat.le_of_ble_eq_true rfl)
  replace h := im c2 h
  obtain rfl := Option.some.inj h
  obtain ⟨sa, hsa⟩ := hE.2.2.1 (151, "not so many weighings were told") (List.mem_of_getElem? (i := 10) rfl)
  exact vx_throwS (A := A) (names := exNm) (ik := 93) (is := 151) (ic := 97) (sa := sa) hx hb hfl hown (by decide +kernel) exFit (hts (.classLink RX4 93 "java/lang/IndexOutOfBoundsException") (List.mem_of_getElem? (i := 1) rfl)) (hts (.initialized "java/lang/IndexOutOfBoundsException") (List.mem_of_getElem? (i := 2) rfl)) hsa (vx_hat (fun w hw => hts w (atmX4_weighing_97 w hw)) bad_97 (exB97 hE.2.2.2)) ot_97 hE.1 hE.2.1 hS (hl.1.trans hml.symm) dX4_weighing_18 dX4_weighing_21 dX4_weighing_22 dX4_weighing_24 dX4_weighing_27 (fun x hx => (hno x hx).elim) (Nat.le_of_ble_eq_true rfl) (Nat.le_of_ble_eq_true rfl) (Nat.le_of_ble_eq_true rfl) (Nat.le_of_ble_eq_true rfl) hlocks (fun t hv hz hk => ⟨(), trivial, rfl, hz, fun q hq _ => hk q hq⟩) hS.2.2 (Nat.le_of_ble_eq_true rfl) (Nat.le_of_ble_eq_true rfl)
set_option maxHeartbeats 4000000 in
set_option maxRecDepth 100000 in
theorem c_X4_value (l : Launch) (hfl : l.stackTraces = false) (D : va_G) (T : Nat → ClassId) (h0 : Nat) (A0 : Nat → Nat → Nat) (Z0 : Nat → St) (v1 : Int32) (sz : Nat) (r : Sum String (Int32 × (Nat → St))) (h : F_X4_value Z0 v1 = some r) : vx_Met l yX4_value wsX4_value ({ frames := 6, cells := 1, slots := 6, locals := 85 } : Room) (va_Pc [.ref h0, .int v1] (PX D T (scW T h0 A0 (Z0)) sz)) (QXi D (scW T h0) r (va_A (scW T h0 A0 (Z0)) sz)) (XXq r) 1 6 (va_A (scW T h0 A0 (Z0)) sz) := by
  refine met_ofX (cc := cX4_value) (maxL := 2) (ret := (some .int)) (lv := [(0, .ref h0), (1, .int v1)]) (by decide) rfl (Nat.le_of_ble_eq_true rfl) rfl ?_
  intro p e s m args below meth c ls C0 hno hl hB
  obtain ⟨hx, hb, hr, hml, hown, hts, hlocks, hname⟩ := C0
  obtain ⟨⟨hsz, hP, hK, hD0⟩, hE⟩ := hB
  subst hsz
  have hD := hD0.self (sz := s.heap.size)
  generalize hAe : va_A (scW T h0 A0 (Z0)) s.heap.size = A at hD hE ⊢
  have hA : ∀ q : Nat, s.heap.size ≤ q → A q := fun q h => by rw [← hAe]; exact Or.inr h
  have hS : va_S A s.heap s.heap [] := va_S.rf
  unfold F_X4_value at h
  refine lv_iload_n hx hb dX4_value_0 rfl (lv_at hl 1 rfl) ?_
  refine lv_if_lt (tgt := 10) hx hb dX4_value_1 (by decide) (fun c1 => ?_) (fun c1 => ?_)
  · replace h := ip c1 h
    obtain rfl := Option.some.inj h
    obtain ⟨sa, hsa⟩ := hE.2.2.1 (153, "what is out of range") (List.mem_of_getElem? (i := 11) rfl)
    exact vx_throwS (A := A) (names := exNm) (ik := 30) (is := 153) (ic := 34) (sa := sa) hx hb hfl hown (by decide +kernel) exFit (hts (.classLink RX4 30 "java/lang/IllegalArgumentException") (List.mem_of_getElem? (i := 1) rfl)) (hts (.initialized "java/lang/IllegalArgumentException") (List.mem_of_getElem? (i := 2) rfl)) hsa (vx_hat (fun w hw => hts w (atmX4_value_34 w hw)) bad_34 (exB34 hE.2.2.2)) ot_34 hE.1 hE.2.1 hS (hl.1.trans hml.symm) dX4_value_10 dX4_value_13 dX4_value_14 dX4_value_16 dX4_value_19 (fun x hx => (hno x hx).elim) (Nat.le_of_ble_eq_true rfl) (Nat.le_of_ble_eq_true rfl) (Nat.le_of_ble_eq_true rfl) (Nat.le_of_ble_eq_true rfl) hlocks (fun t hv hz hk => ⟨(), trivial, rfl, hz, fun q hq _ => hk q hq⟩) hS.2.2 (Nat.le_of_ble_eq_true rfl) (Nat.le_of_ble_eq_true rfl)
  replace h := im c1 h
  refine lv_iload_n hx hb dX4_value_4 rfl (lv_at hl 1 rfl) ?_
  refine lv_bipush (v := 9) hx hb dX4_value_5 (by decide) ?_
  refine lv_icmp_lt (tgt := 20) hx hb dX4_value_7 (by decide) (fun c2 => ?_) (fun c2 => ?_)
  · replace h := ip c2 h
    refine lv_aload_n hx hb dX4_value_20 rfl (lv_at hl 0 rfl) ?_
    refine va_get (D := D) (ci := 4) (v := .ref (A0 0 0)) (C := RX4) (T := TX4) (N := 3) hx hb hts inX4_value_4 hown hK.1 hP 0 rfl rfl 0 (by decide) (hts (.fieldLink RX4 12 "LyingScale" "now" "LLyingScale$State;") (List.mem_of_getElem? (i := 3) rfl)) (fun _ h9 => h9) rfl dX4_value_21 ?_
    refine lv_iload_n hx hb dX4_value_24 rfl (lv_at hl 1 rfl) ?_
    replace h := bd h
    obtain ⟨t3, et3, h⟩ := h
    refine callRi (v := t3) (va_runV (As := [.int v1]) (rest := []) ⟨hx, hb, hml, hown, hts⟩ (c_X2_number l D T (A0 0) (Z0 0) v1 t3 et3) (cwV 1 hts gX4_value_X2_number rfl rfl rfl hdV_X2_number ⟨Nat.le_of_ble_eq_true rfl, Nat.le_of_ble_eq_true rfl⟩) ⟨PB_blind, va_recv hK.1 hP (ci := 2) (q0 := 3) rfl rfl, PB_at (hP.sub (ws' := stW T (A0 0) (Z0 0)) [3, 4, 5, 6, 7, 8, 9, 10, 11, 12, 13] rfl) hK⟩ rfl rfl hl.1 rfl (lv_room (Nat.le_of_ble_eq_true rfl)) dX4_value_25 ⟨Nat.zero_le _, Nat.zero_le _⟩) ?_
    obtain rfl := Option.some.inj h
    refine vx_ret ?_
    refine W.widen (k := 1) (n := 6) (Nat.zero_le _) (Nat.zero_le _) ?_
    exact W.iret hx hb hr (fun t ht hW => ⟨⟨_, (A0, Z0), rfl, rfl, by rw [ht]; exact hP, hD⟩, hS.F ht⟩) hS.2.2 dX4_value_28 hlocks
  replace h := im c2 h
  obtain rfl := Option.some.inj h
  obtain ⟨sa, hsa⟩ := hE.2.2.1 (153, "what is out of range") (List.mem_of_getElem? (i := 11) rfl)
  exact vx_throwS (A := A) (names := exNm) (ik := 30) (is := 153) (ic := 34) (sa := sa) hx hb hfl hown (by decide +kernel) exFit (hts (.classLink RX4 30 "java/lang/IllegalArgumentException") (List.mem_of_getElem? (i := 1) rfl)) (hts (.initialized "java/lang/IllegalArgumentException") (List.mem_of_getElem? (i := 2) rfl)) hsa (vx_hat (fun w hw => hts w (atmX4_value_34 w hw)) bad_34 (exB34 hE.2.2.2)) ot_34 hE.1 hE.2.1 hS (hl.1.trans hml.symm) dX4_value_10 dX4_value_13 dX4_value_14 dX4_value_16 dX4_value_19 (fun x hx => (hno x hx).elim) (Nat.le_of_ble_eq_true rfl) (Nat.le_of_ble_eq_true rfl) (Nat.le_of_ble_eq_true rfl) (Nat.le_of_ble_eq_true rfl) hlocks (fun t hv hz hk => ⟨(), trivial, rfl, hz, fun q hq _ => hk q hq⟩) hS.2.2 (Nat.le_of_ble_eq_true rfl) (Nat.le_of_ble_eq_true rfl)
set_option maxHeartbeats 4000000 in
set_option maxRecDepth 100000 in
theorem c_X4_weight (l : Launch) (hfl : l.stackTraces = false) (D : va_G) (T : Nat → ClassId) (h0 : Nat) (A0 : Nat → Nat → Nat) (Z0 : Nat → St) (v1 : Int32) (sz : Nat) (r : Sum String (Int64 × (Nat → St))) (h : F_X4_weight Z0 v1 = some r) : vx_Met l yX4_weight wsX4_weight ({ frames := 6, cells := 1, slots := 6, locals := 96 } : Room) (va_Pc [.ref h0, .int v1] (PX D T (scW T h0 A0 (Z0)) sz)) (QXl D (scW T h0) r (va_A (scW T h0 A0 (Z0)) sz)) (XXq r) 1 6 (va_A (scW T h0 A0 (Z0)) sz) := by
  refine met_ofX (cc := cX4_weight) (maxL := 2) (ret := (some .long)) (lv := [(0, .ref h0), (1, .int v1)]) (by decide) rfl (Nat.le_of_ble_eq_true rfl) rfl ?_
  intro p e s m args below meth c ls C0 hno hl hB
  obtain ⟨hx, hb, hr, hml, hown, hts, hlocks, hname⟩ := C0
  obtain ⟨⟨hsz, hP, hK, hD0⟩, hE⟩ := hB
  subst hsz
  have hD := hD0.self (sz := s.heap.size)
  generalize hAe : va_A (scW T h0 A0 (Z0)) s.heap.size = A at hD hE ⊢
  have hA : ∀ q : Nat, s.heap.size ≤ q → A q := fun q h => by rw [← hAe]; exact Or.inr h
  have hS : va_S A s.heap s.heap [] := va_S.rf
  unfold F_X4_weight at h
  refine lv_iload_n hx hb dX4_weight_0 rfl (lv_at hl 1 rfl) ?_
  replace h := bd h
  obtain ⟨t1, et1, h⟩ := h
  refine callRi (v := t1) (va_runS (As := [.int v1]) (rest := []) ⟨hx, hb, hml, hown, hts⟩ (c_X4_isAhead l D T v1 t1 et1) (va_cwS 1 hts gX4_weight_X4_isAhead rfl rfl rfl hdS_X4_isAhead ⟨Nat.le_of_ble_eq_true rfl, Nat.le_of_ble_eq_true rfl⟩) ⟨PB_blind, PB_at (hP.sub (ws' := ([] : va_W)) [] rfl) hK⟩ rfl rfl hl.1 rfl (lv_room (Nat.le_of_ble_eq_true rfl)) dX4_weight_1 ⟨Nat.zero_le _, Nat.zero_le _⟩) ?_
  refine lv_if_ne (tgt := 17) hx hb dX4_weight_4 (by decide) (fun c2 => ?_) (fun c2 => ?_)
  · replace h := im c2 h
    refine lv_aload_n hx hb dX4_weight_17 rfl (lv_at hl 0 rfl) ?_
    refine va_get (D := D) (ci := 4) (v := .ref (A0 0 0)) (C := RX4) (T := TX4) (N := 3) hx hb hts inX4_weight_4 hown hK.1 hP 0 rfl rfl 0 (by decide) (hts (.fieldLink RX4 12 "LyingScale" "now" "LLyingScale$State;") (List.mem_of_getElem? (i := 3) rfl)) (fun _ h9 => h9) rfl dX4_weight_18 ?_
    refine lv_iload_n hx hb dX4_weight_21 rfl (lv_at hl 1 rfl) ?_
    replace h := bd h
    obtain ⟨t3, et3, h⟩ := h
    refine callRl (v := t3) (va_runV (As := [.int v1]) (rest := []) ⟨hx, hb, hml, hown, hts⟩ (c_X2_weightAhead l D T (A0 0) (Z0 0) v1 t3 et3) (cwV 1 hts gX4_weight_X2_weightAhead rfl rfl rfl hdV_X2_weightAhead ⟨Nat.le_of_ble_eq_true rfl, Nat.le_of_ble_eq_true rfl⟩) ⟨PB_blind, va_recv hK.1 hP (ci := 2) (q0 := 3) rfl rfl, PB_at (hP.sub (ws' := stW T (A0 0) (Z0 0)) [3, 4, 5, 6, 7, 8, 9, 10, 11, 12, 13] rfl) hK⟩ rfl rfl hl.1 rfl (lv_room (Nat.le_of_ble_eq_true rfl)) dX4_weight_22 ⟨Nat.zero_le _, Nat.zero_le _⟩) ?_
    obtain rfl := Option.some.inj h
    refine vx_ret ?_
    refine W.widen (k := 1) (n := 6) (Nat.zero_le _) (Nat.zero_le _) ?_
    exact W.lret hx hb hr (fun t ht hW => ⟨⟨_, (A0, Z0), rfl, rfl, by rw [ht]; exact hP, hD⟩, hS.F ht⟩) hS.2.2 dX4_weight_25 hlocks
  replace h := ip c2 h
  obtain rfl := Option.some.inj h
  obtain ⟨sa, hsa⟩ := hE.2.2.1 (164, "weighings is out of range") (List.mem_of_getElem? (i := 12) rfl)
  exact vx_throwS (A := A) (names := exNm) (ik := 30) (is := 164) (ic := 34) (sa := sa) hx hb hfl hown (by decide +kernel) exFit (hts (.classLink RX4 30 "java/lang/IllegalArgumentException") (List.mem_of_getElem? (i := 1) rfl)) (hts (.initialized "java/lang/IllegalArgumentException") (List.mem_of_getElem? (i := 2) rfl)) hsa (vx_hat (fun w hw => hts w (atmX4_weight_34 w hw)) bad_34 (exB34 hE.2.2.2)) ot_34 hE.1 hE.2.1 hS (hl.1.trans hml.symm) dX4_weight_7 dX4_weight_10 dX4_weight_11 dX4_weight_13 dX4_weight_16 (fun x hx => (hno x hx).elim) (Nat.le_of_ble_eq_true rfl) (Nat.le_of_ble_eq_true rfl) (Nat.le_of_ble_eq_true rfl) (Nat.le_of_ble_eq_true rfl) hlocks (fun t hv hz hk => ⟨(), trivial, rfl, hz, fun q hq _ => hk q hq⟩) hS.2.2 (Nat.le_of_ble_eq_true rfl) (Nat.le_of_ble_eq_true rfl)
set_option maxHeartbeats 4000000 in
set_option maxRecDepth 100000 in
theorem c_X4_bound (l : Launch) (D : va_G) (T : Nat → ClassId) (h0 : Nat) (A0 : Nat → Nat → Nat) (Z0 : Nat → St) (sz : Nat) (r : Int32 × (Nat → St)) (h : F_X4_bound Z0 = some r) : Met l yX4_bound wsX4_bound ({ frames := 4, cells := 0, slots := 0, locals := 96 } : Room) (va_Pc [.ref h0] (PM D T (scW T h0 A0 (Z0)) sz)) (QEi D (scW T h0) r.1 r.2 (va_A (scW T h0 A0 (Z0)) sz)) 0 0 (va_A (scW T h0 A0 (Z0)) sz) := by
  refine met_of (cc := cX4_bound) (maxL := 4) (ret := (some .int)) (lv := [(0, .ref h0)]) (by decide) rfl (Nat.le_of_ble_eq_true rfl) rfl ?_
  intro p e s m args below meth c ls C0 hl hB
  obtain ⟨hx, hb, hr, hml, hown, hts, hlocks, hname⟩ := C0
  obtain ⟨hsz, hP, hK, hD0⟩ := hB
  subst hsz
  have hD := hD0.self (sz := s.heap.size)
  generalize hAe : va_A (scW T h0 A0 (Z0)) s.heap.size = A at hD ⊢
  have hA : ∀ q : Nat, s.heap.size ≤ q → A q := fun q h => by rw [← hAe]; exact Or.inr h
  have hS : va_S A s.heap s.heap [] := va_S.rf
  unfold F_X4_bound at h
  refine lv_lconst (v := 1) hx hb dX4_bound_0 (by decide) ?_
  refine lv_lstore_n (lv' := [(1, .long 1), (0, .ref h0)]) hx hb dX4_bound_1 rfl hl (by decide) rfl (fun ls hl => ?_)
  refine lv_iconst (v := 0) hx hb dX4_bound_2 (by decide) ?_
  refine lv_istore_n (lv' := [(3, .int 0), (1, .long 1), (0, .ref h0)]) hx hb dX4_bound_3 rfl hl (by decide) rfl (fun ls hl => ?_)
  have K4 : ∀ (n4 : Nat) (i1_4 : Int64) (i3_4 : Int32) (H : Heap) (locs : List Loc) (ls : Array Slot), fx2 (B_X4_bound_4 Z0) n4 i1_4 i3_4 = some r → va_P D vwCl (scW T h0 A0 (Z0)) H → va_D A (scW T h0 A0 (Z0)) → va_S A s.heap H locs → lv_has ls 4 [(0, .ref h0), (1, .long i1_4), (3, .int i3_4)] → W p l e ({ frames := 4, cells := 0, slots := 0, locals := 96 } : Room) s m args below meth c H locs 0 0 (MQ below (QEi D (scW T h0) r.1 r.2 A) args s 0 0 A) (F0 m 4 ls []) := by
    intro n4
    induction n4 with
    | zero =>
        intro i1_4 i3_4 H locs ls h
        cases h
    | succ n4 ih4 =>
        intro i1_4 i3_4 H locs ls h hP hD hS hl
        replace h : B_X4_bound_4 Z0 (fx2 (B_X4_bound_4 Z0) n4) i1_4 i3_4 = some r := h
        unfold B_X4_bound_4 at h
        refine lv_iload_n hx hb dX4_bound_4 rfl (lv_at hl 2 rfl) ?_
        refine lv_bipush (v := 20) hx hb dX4_bound_5 (by decide) ?_
        refine lv_icmp_gt (tgt := 37) hx hb dX4_bound_7 (by decide) (fun c1 => ?_) (fun c1 => ?_)
        · replace h := ip c1 h
          refine lv_iconst (v := (-1)) hx hb dX4_bound_37 (by decide) ?_
          obtain rfl := Option.some.inj h
          exact W.iret hx hb hr (fun t ht hW => ⟨⟨_, A0, rfl, rfl, by rw [ht]; exact hP, hD⟩, hS.F ht⟩) hS.2.2 dX4_bound_38 hlocks
        replace h := im c1 h
        refine lv_aload_n hx hb dX4_bound_10 rfl (lv_at hl 0 rfl) ?_
        refine va_get (D := D) (ci := 4) (v := .ref (A0 0 0)) (C := RX4) (T := TX4) (N := 3) hx hb hts inX4_bound_4 hown hK.1 hP 0 rfl rfl 0 (by decide) (hts (.fieldLink RX4 12 "LyingScale" "now" "LLyingScale$State;") (List.mem_of_getElem? (i := 1) rfl)) (fun _ h9 => h9) rfl dX4_bound_11 ?_
        refine lv_iload_n hx hb dX4_bound_14 rfl (lv_at hl 2 rfl) ?_
        replace h := bd h
        obtain ⟨t2, et2, h⟩ := h
        refine callRl (v := t2) (va_runV (As := [.int i3_4]) (rest := []) ⟨hx, hb, hml, hown, hts⟩ (c_X2_weightAhead l D T (A0 0) (Z0 0) i3_4 t2 et2) (cwV 1 hts gX4_bound_X2_weightAhead rfl rfl rfl hdV_X2_weightAhead ⟨Nat.le_of_ble_eq_true rfl, Nat.le_of_ble_eq_true rfl⟩) ⟨PB_blind, va_recv hK.1 hP (ci := 2) (q0 := 3) rfl rfl, PB_at (hP.sub (ws' := stW T (A0 0) (Z0 0)) [3, 4, 5, 6, 7, 8, 9, 10, 11, 12, 13] rfl) hK⟩ rfl rfl hl.1 rfl (lv_room (Nat.le_of_ble_eq_true rfl)) dX4_bound_15 ⟨Nat.zero_le _, Nat.zero_le _⟩) ?_
        refine lv_lload_n hx hb dX4_bound_18 rfl (lv_at hl 1 rfl) ?_
        refine W.lcmp hx hb dX4_bound_19 ?_
        refine lv_if_gt (tgt := 25) hx hb dX4_bound_20 (by decide) (fun c3 => ?_) (fun c3 => ?_)
        · replace h := ip c3 h
          refine lv_lload_n hx hb dX4_bound_25 rfl (lv_at hl 1 rfl) ?_
          refine lv_ldc2 hx hb hown (hts (.constantLong RX4 170 (3)) (List.mem_of_getElem? (i := 2) rfl)) dX4_bound_26 ?_
          refine lv_lmul hx hb dX4_bound_29 ?_
          refine lv_lstore_n (lv' := [(1, .long (i1_4 * 3)), (0, .ref h0), (3, .int i3_4)]) hx hb dX4_bound_30 rfl hl (by decide) rfl (fun ls hl => ?_)
          refine lv_iinc (v := i3_4 + 1) (lv' := [(3, .int (i3_4 + 1)), (1, .long (i1_4 * 3)), (0, .ref h0)]) hx hb dX4_bound_31 hl (k := 2) rfl rfl (by decide) rfl (fun ls hl => ?_)
          refine lv_goto (tgt := 4) hx hb dX4_bound_34 (by decide) ?_
          exact ih4 (i1_4 * 3) (i3_4 + 1) _ _ ls h hP hD hS (lv_sub hl [2, 1, 0] rfl)
        replace h := im c3 h
        refine lv_iload_n hx hb dX4_bound_23 rfl (lv_at hl 2 rfl) ?_
        obtain rfl := Option.some.inj h
        exact W.iret hx hb hr (fun t ht hW => ⟨⟨_, A0, rfl, rfl, by rw [ht]; exact hP, hD⟩, hS.F ht⟩) hS.2.2 dX4_bound_24 hlocks
  exact K4 1000 1 0 _ _ ls h hP hD hS (lv_sub hl [2, 1, 0] rfl)
set_option maxHeartbeats 4000000 in
set_option maxRecDepth 100000 in
theorem c_X4_weightBehind (l : Launch) (hfl : l.stackTraces = false) (D : va_G) (T : Nat → ClassId) (h0 : Nat) (A0 : Nat → Nat → Nat) (Z0 : Nat → St) (v1 : Int32) (v2 : Int32) (v3 : Int32) (v4 : Int32) (sz : Nat) (r : Sum String (Int64 × (Nat → St))) (h : F_X4_weightBehind Z0 v1 v2 v3 v4 = some r) : vx_Met l yX4_weightBehind wsX4_weightBehind ({ frames := 6, cells := 1, slots := 6, locals := 99 } : Room) (va_Pc [.ref h0, .int v1, .int v2, .int v3, .int v4] (PX D T (scW T h0 A0 (Z0)) sz)) (QXl D (scW T h0) r (va_A (scW T h0 A0 (Z0)) sz)) (XXq r) 1 6 (va_A (scW T h0 A0 (Z0)) sz) := by
  refine met_ofX (cc := cX4_weightBehind) (maxL := 5) (ret := (some .long)) (lv := [(0, .ref h0), (1, .int v1), (2, .int v2), (3, .int v3), (4, .int v4)]) (by decide) rfl (Nat.le_of_ble_eq_true rfl) rfl ?_
  intro p e s m args below meth c ls C0 hno hl hB
  obtain ⟨hx, hb, hr, hml, hown, hts, hlocks, hname⟩ := C0
  obtain ⟨⟨hsz, hP, hK, hD0⟩, hE⟩ := hB
  subst hsz
  have hD := hD0.self (sz := s.heap.size)
  generalize hAe : va_A (scW T h0 A0 (Z0)) s.heap.size = A at hD hE ⊢
  have hA : ∀ q : Nat, s.heap.size ≤ q → A q := fun q h => by rw [← hAe]; exact Or.inr h
  have hS : va_S A s.heap s.heap [] := va_S.rf
  unfold F_X4_weightBehind at h
  refine lv_aload_n hx hb dX4_weightBehind_0 rfl (lv_at hl 0 rfl) ?_
  refine va_get (D := D) (ci := 4) (v := .ref (A0 0 0)) (C := RX4) (T := TX4) (N := 3) hx hb hts inX4_weightBehind_4 hown hK.1 hP 0 rfl rfl 0 (by decide) (hts (.fieldLink RX4 12 "LyingScale" "now" "LLyingScale$State;") (List.mem_of_getElem? (i := 3) rfl)) (fun _ h9 => h9) rfl dX4_weightBehind_1 ?_
  refine lv_iload_n hx hb dX4_weightBehind_4 rfl (lv_at hl 1 rfl) ?_
  refine lv_iload_n hx hb dX4_weightBehind_5 rfl (lv_at hl 2 rfl) ?_
  replace h := bd h
  obtain ⟨t1, et1, h⟩ := h
  refine callRi (v := t1) (va_runV (As := [.int v1, .int v2]) (rest := []) ⟨hx, hb, hml, hown, hts⟩ (c_X2_isWeighing l D T (A0 0) (Z0 0) v1 v2 t1 et1) (cwV 2 hts gX4_weightBehind_X2_isWeighing rfl rfl rfl hdV_X2_isWeighing ⟨Nat.le_of_ble_eq_true rfl, Nat.le_of_ble_eq_true rfl⟩) ⟨PB_blind, va_recv hK.1 hP (ci := 2) (q0 := 3) rfl rfl, PB_at (hP.sub (ws' := stW T (A0 0) (Z0 0)) [3, 4, 5, 6, 7, 8, 9, 10, 11, 12, 13] rfl) hK⟩ rfl rfl hl.1 rfl (lv_room (Nat.le_of_ble_eq_true rfl)) dX4_weightBehind_6 ⟨Nat.zero_le _, Nat.zero_le _⟩) ?_
  refine lv_if_eq (tgt := 27) hx hb dX4_weightBehind_9 (by decide) (fun c2 => ?_) (fun c2 => ?_)
  · replace h := ip c2 h
    obtain rfl := Option.some.inj h
    obtain ⟨sa, hsa⟩ := hE.2.2.1 (172, "no weighing, no answer, or weighings out of range") (List.mem_of_getElem? (i := 13) rfl)
    exact vx_throwS (A := A) (names := exNm) (ik := 30) (is := 172) (ic := 34) (sa := sa) hx hb hfl hown (by decide +kernel) exFit (hts (.classLink RX4 30 "java/lang/IllegalArgumentException") (List.mem_of_getElem? (i := 1) rfl)) (hts (.initialized "java/lang/IllegalArgumentException") (List.mem_of_getElem? (i := 2) rfl)) hsa (vx_hat (fun w hw => hts w (atmX4_weightBehind_34 w hw)) bad_34 (exB34 hE.2.2.2)) ot_34 hE.1 hE.2.1 hS (hl.1.trans hml.symm) dX4_weightBehind_27 dX4_weightBehind_30 dX4_weightBehind_31 dX4_weightBehind_33 dX4_weightBehind_36 (fun x hx => (hno x hx).elim) (Nat.le_of_ble_eq_true rfl) (Nat.le_of_ble_eq_true rfl) (Nat.le_of_ble_eq_true rfl) (Nat.le_of_ble_eq_true rfl) hlocks (fun t hv hz hk => ⟨(), trivial, rfl, hz, fun q hq _ => hk q hq⟩) hS.2.2 (Nat.le_of_ble_eq_true rfl) (Nat.le_of_ble_eq_true rfl)
  replace h := im c2 h
  refine lv_iload_n hx hb dX4_weightBehind_12 rfl (lv_at hl 3 rfl) ?_
  replace h := bd h
  obtain ⟨t3, et3, h⟩ := h
  refine callRi (v := t3) (va_runS (As := [.int v3]) (rest := []) ⟨hx, hb, hml, hown, hts⟩ (c_X4_isAnswer l D T v3 t3 et3) (va_cwS 1 hts gX4_weightBehind_X4_isAnswer rfl rfl rfl hdS_X4_isAnswer ⟨Nat.le_of_ble_eq_true rfl, Nat.le_of_ble_eq_true rfl⟩) ⟨PB_blind, PB_at (hP.sub (ws' := ([] : va_W)) [] rfl) hK⟩ rfl rfl hl.1 rfl (lv_room (Nat.le_of_ble_eq_true rfl)) dX4_weightBehind_13 ⟨Nat.zero_le _, Nat.zero_le _⟩) ?_
  refine lv_if_eq (tgt := 27) hx hb dX4_weightBehind_16 (by decide) (fun c4 => ?_) (fun c4 => ?_)
  · replace h := ip c4 h
    obtain rfl := Option.some.inj h
    obtain ⟨sa, hsa⟩ := hE.2.2.1 (172, "no weighing, no answer, or weighings out of range") (List.mem_of_getElem? (i := 13) rfl)
    exact vx_throwS (A := A) (names := exNm) (ik := 30) (is := 172) (ic := 34) (sa := sa) hx hb hfl hown (by decide +kernel) exFit (hts (.classLink RX4 30 "java/lang/IllegalArgumentException") (List.mem_of_getElem? (i := 1) rfl)) (hts (.initialized "java/lang/IllegalArgumentException") (List.mem_of_getElem? (i := 2) rfl)) hsa (vx_hat (fun w hw => hts w (atmX4_weightBehind_34 w hw)) bad_34 (exB34 hE.2.2.2)) ot_34 hE.1 hE.2.1 hS (hl.1.trans hml.symm) dX4_weightBehind_27 dX4_weightBehind_30 dX4_weightBehind_31 dX4_weightBehind_33 dX4_weightBehind_36 (fun x hx => (hno x hx).elim) (Nat.le_of_ble_eq_true rfl) (Nat.le_of_ble_eq_true rfl) (Nat.le_of_ble_eq_true rfl) (Nat.le_of_ble_eq_true rfl) hlocks (fun t hv hz hk => ⟨(), trivial, rfl, hz, fun q hq _ => hk q hq⟩) hS.2.2 (Nat.le_of_ble_eq_true rfl) (Nat.le_of_ble_eq_true rfl)
  replace h := im c4 h
  refine lv_iload hx hb dX4_weightBehind_19 (lv_at hl 4 rfl) ?_
  replace h := bd h
  obtain ⟨t5, et5, h⟩ := h
  refine callRi (v := t5) (va_runS (As := [.int v4]) (rest := []) ⟨hx, hb, hml, hown, hts⟩ (c_X4_isAhead l D T v4 t5 et5) (va_cwS 1 hts gX4_weightBehind_X4_isAhead rfl rfl rfl hdS_X4_isAhead ⟨Nat.le_of_ble_eq_true rfl, Nat.le_of_ble_eq_true rfl⟩) ⟨PB_blind, PB_at (hP.sub (ws' := ([] : va_W)) [] rfl) hK⟩ rfl rfl hl.1 rfl (lv_room (Nat.le_of_ble_eq_true rfl)) dX4_weightBehind_21 ⟨Nat.zero_le _, Nat.zero_le _⟩) ?_
  refine lv_if_ne (tgt := 37) hx hb dX4_weightBehind_24 (by decide) (fun c6 => ?_) (fun c6 => ?_)
  · replace h := im c6 h
    refine lv_aload_n hx hb dX4_weightBehind_37 rfl (lv_at hl 0 rfl) ?_
    refine va_get (D := D) (ci := 4) (v := .ref (A0 0 0)) (C := RX4) (T := TX4) (N := 3) hx hb hts inX4_weightBehind_4 hown hK.1 hP 0 rfl rfl 0 (by decide) (hts (.fieldLink RX4 12 "LyingScale" "now" "LLyingScale$State;") (List.mem_of_getElem? (i := 3) rfl)) (fun _ h9 => h9) rfl dX4_weightBehind_38 ?_
    refine lv_iload_n hx hb dX4_weightBehind_41 rfl (lv_at hl 1 rfl) ?_
    refine lv_iload_n hx hb dX4_weightBehind_42 rfl (lv_at hl 2 rfl) ?_
    refine lv_iload_n hx hb dX4_weightBehind_43 rfl (lv_at hl 3 rfl) ?_
    refine lv_iload hx hb dX4_weightBehind_44 (lv_at hl 4 rfl) ?_
    replace h := bd h
    obtain ⟨t7, et7, h⟩ := h
    refine callRl (v := t7) (va_runV (As := [.int v1, .int v2, .int v3, .int v4]) (rest := []) ⟨hx, hb, hml, hown, hts⟩ (c_X2_weightIfTold l D T (A0 0) (Z0 0) v1 v2 v3 v4 t7 et7) (cwV 4 hts gX4_weightBehind_X2_weightIfTold rfl rfl rfl hdV_X2_weightIfTold ⟨Nat.le_of_ble_eq_true rfl, Nat.le_of_ble_eq_true rfl⟩) ⟨PB_blind, va_recv hK.1 hP (ci := 2) (q0 := 3) rfl rfl, PB_at (hP.sub (ws' := stW T (A0 0) (Z0 0)) [3, 4, 5, 6, 7, 8, 9, 10, 11, 12, 13] rfl) hK⟩ rfl rfl hl.1 rfl (lv_room (Nat.le_of_ble_eq_true rfl)) dX4_weightBehind_46 ⟨Nat.zero_le _, Nat.zero_le _⟩) ?_
    obtain rfl := Option.some.inj h
    refine vx_ret ?_
    refine W.widen (k := 1) (n := 6) (Nat.zero_le _) (Nat.zero_le _) ?_
    exact W.lret hx hb hr (fun t ht hW => ⟨⟨_, (A0, Z0), rfl, rfl, by rw [ht]; exact hP, hD⟩, hS.F ht⟩) hS.2.2 dX4_weightBehind_49 hlocks
  replace h := ip c6 h
  obtain rfl := Option.some.inj h
  obtain ⟨sa, hsa⟩ := hE.2.2.1 (172, "no weighing, no answer, or weighings out of range") (List.mem_of_getElem? (i := 13) rfl)
  exact vx_throwS (A := A) (names := exNm) (ik := 30) (is := 172) (ic := 34) (sa := sa) hx hb hfl hown (by decide +kernel) exFit (hts (.classLink RX4 30 "java/lang/IllegalArgumentException") (List.mem_of_getElem? (i := 1) rfl)) (hts (.initialized "java/lang/IllegalArgumentException") (List.mem_of_getElem? (i := 2) rfl)) hsa (vx_hat (fun w hw => hts w (atmX4_weightBehind_34 w hw)) bad_34 (exB34 hE.2.2.2)) ot_34 hE.1 hE.2.1 hS (hl.1.trans hml.symm) dX4_weightBehind_27 dX4_weightBehind_30 dX4_weightBehind_31 dX4_weightBehind_33 dX4_weightBehind_36 (fun x hx => (hno x hx).elim) (Nat.le_of_ble_eq_true rfl) (Nat.le_of_ble_eq_true rfl) (Nat.le_of_ble_eq_true rfl) (Nat.le_of_ble_eq_true rfl) hlocks (fun t hv hz hk => ⟨(), trivial, rfl, hz, fun q hq _ => hk q hq⟩) hS.2.2 (Nat.le_of_ble_eq_true rfl) (Nat.le_of_ble_eq_true rfl)
set_option maxHeartbeats 4000000 in
set_option maxRecDepth 100000 in
theorem c_X4_bestGroup (l : Launch) (hfl : l.stackTraces = false) (D : va_G) (T : Nat → ClassId) (h0 : Nat) (A0 : Nat → Nat → Nat) (Z0 : Nat → St) (v1 : Int32) (sz : Nat) (r : Sum String (Int32 × (Nat → St))) (h : F_X4_bestGroup Z0 v1 = some r) : vx_Met l yX4_bestGroup wsX4_bestGroup ({ frames := 6, cells := 1, slots := 6, locals := 153 } : Room) (va_Pc [.ref h0, .int v1] (PX D T (scW T h0 A0 (Z0)) sz)) (QXi D (scW T h0) r (va_A (scW T h0 A0 (Z0)) sz)) (XXq r) 1 6 (va_A (scW T h0 A0 (Z0)) sz) := by
  refine met_ofX (cc := cX4_bestGroup) (maxL := 2) (ret := (some .int)) (lv := [(0, .ref h0), (1, .int v1)]) (by decide) rfl (Nat.le_of_ble_eq_true rfl) rfl ?_
  intro p e s m args below meth c ls C0 hno hl hB
  obtain ⟨hx, hb, hr, hml, hown, hts, hlocks, hname⟩ := C0
  obtain ⟨⟨hsz, hP, hK, hD0⟩, hE⟩ := hB
  subst hsz
  have hD := hD0.self (sz := s.heap.size)
  generalize hAe : va_A (scW T h0 A0 (Z0)) s.heap.size = A at hD hE ⊢
  have hA : ∀ q : Nat, s.heap.size ≤ q → A q := fun q h => by rw [← hAe]; exact Or.inr h
  have hS : va_S A s.heap s.heap [] := va_S.rf
  unfold F_X4_bestGroup at h
  refine lv_iload_n hx hb dX4_bestGroup_0 rfl (lv_at hl 1 rfl) ?_
  replace h := bd h
  obtain ⟨t1, et1, h⟩ := h
  refine callRi (v := t1) (va_runS (As := [.int v1]) (rest := []) ⟨hx, hb, hml, hown, hts⟩ (c_X4_isAhead l D T v1 t1 et1) (va_cwS 1 hts gX4_bestGroup_X4_isAhead rfl rfl rfl hdS_X4_isAhead ⟨Nat.le_of_ble_eq_true rfl, Nat.le_of_ble_eq_true rfl⟩) ⟨PB_blind, PB_at (hP.sub (ws' := ([] : va_W)) [] rfl) hK⟩ rfl rfl hl.1 rfl (lv_room (Nat.le_of_ble_eq_true rfl)) dX4_bestGroup_1 ⟨Nat.zero_le _, Nat.zero_le _⟩) ?_
  refine lv_if_ne (tgt := 17) hx hb dX4_bestGroup_4 (by decide) (fun c2 => ?_) (fun c2 => ?_)
  · replace h := im c2 h
    refine lv_aload_n hx hb dX4_bestGroup_17 rfl (lv_at hl 0 rfl) ?_
    refine va_get (D := D) (ci := 4) (v := .ref (A0 0 0)) (C := RX4) (T := TX4) (N := 3) hx hb hts inX4_bestGroup_4 hown hK.1 hP 0 rfl rfl 0 (by decide) (hts (.fieldLink RX4 12 "LyingScale" "now" "LLyingScale$State;") (List.mem_of_getElem? (i := 3) rfl)) (fun _ h9 => h9) rfl dX4_bestGroup_18 ?_
    refine lv_iload_n hx hb dX4_bestGroup_21 rfl (lv_at hl 1 rfl) ?_
    replace h := bd h
    obtain ⟨t3, et3, h⟩ := h
    refine callRi (v := t3) (va_runV (As := [.int v1]) (rest := []) ⟨hx, hb, hml, hown, hts⟩ (c_X2_findGroup l D T (A0 0) (Z0 0) v1 t3 et3) (cwV 1 hts gX4_bestGroup_X2_findGroup rfl rfl rfl hdV_X2_findGroup ⟨Nat.le_of_ble_eq_true rfl, Nat.le_of_ble_eq_true rfl⟩) ⟨PB_blind, va_recv hK.1 hP (ci := 2) (q0 := 3) rfl rfl, PB_at (hP.sub (ws' := stW T (A0 0) (Z0 0)) [3, 4, 5, 6, 7, 8, 9, 10, 11, 12, 13] rfl) hK⟩ rfl rfl hl.1 rfl (lv_room (Nat.le_of_ble_eq_true rfl)) dX4_bestGroup_22 ⟨Nat.zero_le _, Nat.zero_le _⟩) ?_
    obtain rfl := Option.some.inj h
    refine vx_ret ?_
    refine W.widen (k := 1) (n := 6) (Nat.zero_le _) (Nat.zero_le _) ?_
    exact W.iret hx hb hr (fun t ht hW => ⟨⟨_, (A0, Z0), rfl, rfl, by rw [ht]; exact hP, hD⟩, hS.F ht⟩) hS.2.2 dX4_bestGroup_25 hlocks
  replace h := ip c2 h
  obtain rfl := Option.some.inj h
  obtain ⟨sa, hsa⟩ := hE.2.2.1 (164, "weighings is out of range") (List.mem_of_getElem? (i := 12) rfl)
  exact vx_throwS (A := A) (names := exNm) (ik := 30) (is := 164) (ic := 34) (sa := sa) hx hb hfl hown (by decide +kernel) exFit (hts (.classLink RX4 30 "java/lang/IllegalArgumentException") (List.mem_of_getElem? (i := 1) rfl)) (hts (.initialized "java/lang/IllegalArgumentException") (List.mem_of_getElem? (i := 2) rfl)) hsa (vx_hat (fun w hw => hts w (atmX4_bestGroup_34 w hw)) bad_34 (exB34 hE.2.2.2)) ot_34 hE.1 hE.2.1 hS (hl.1.trans hml.symm) dX4_bestGroup_7 dX4_bestGroup_10 dX4_bestGroup_11 dX4_bestGroup_13 dX4_bestGroup_16 (fun x hx => (hno x hx).elim) (Nat.le_of_ble_eq_true rfl) (Nat.le_of_ble_eq_true rfl) (Nat.le_of_ble_eq_true rfl) (Nat.le_of_ble_eq_true rfl) hlocks (fun t hv hz hk => ⟨(), trivial, rfl, hz, fun q hq _ => hk q hq⟩) hS.2.2 (Nat.le_of_ble_eq_true rfl) (Nat.le_of_ble_eq_true rfl)
set_option maxHeartbeats 4000000 in
set_option maxRecDepth 100000 in
theorem c_X4_teaches (l : Launch) (hfl : l.stackTraces = false) (D : va_G) (T : Nat → ClassId) (h0 : Nat) (A0 : Nat → Nat → Nat) (Z0 : Nat → St) (v1 : Int32) (v2 : Int32) (sz : Nat) (r : Sum String (Int32 × (Nat → St))) (h : F_X4_teaches Z0 v1 v2 = some r) : vx_Met l yX4_teaches wsX4_teaches ({ frames := 6, cells := 1, slots := 6, locals := 82 } : Room) (va_Pc [.ref h0, .int v1, .int v2] (PX D T (scW T h0 A0 (Z0)) sz)) (QXi D (scW T h0) r (va_A (scW T h0 A0 (Z0)) sz)) (XXq r) 1 6 (va_A (scW T h0 A0 (Z0)) sz) := by
  refine met_ofX (cc := cX4_teaches) (maxL := 3) (ret := (some .boolean)) (lv := [(0, .ref h0), (1, .int v1), (2, .int v2)]) (by decide) rfl (Nat.le_of_ble_eq_true rfl) rfl ?_
  intro p e s m args below meth c ls C0 hno hl hB
  obtain ⟨hx, hb, hr, hml, hown, hts, hlocks, hname⟩ := C0
  obtain ⟨⟨hsz, hP, hK, hD0⟩, hE⟩ := hB
  subst hsz
  have hD := hD0.self (sz := s.heap.size)
  generalize hAe : va_A (scW T h0 A0 (Z0)) s.heap.size = A at hD hE ⊢
  have hA : ∀ q : Nat, s.heap.size ≤ q → A q := fun q h => by rw [← hAe]; exact Or.inr h
  have hS : va_S A s.heap s.heap [] := va_S.rf
  unfold F_X4_teaches at h
  refine lv_aload_n hx hb dX4_teaches_0 rfl (lv_at hl 0 rfl) ?_
  refine va_get (D := D) (ci := 4) (v := .ref (A0 0 0)) (C := RX4) (T := TX4) (N := 3) hx hb hts inX4_teaches_4 hown hK.1 hP 0 rfl rfl 0 (by decide) (hts (.fieldLink RX4 12 "LyingScale" "now" "LLyingScale$State;") (List.mem_of_getElem? (i := 3) rfl)) (fun _ h9 => h9) rfl dX4_teaches_1 ?_
  refine lv_iload_n hx hb dX4_teaches_4 rfl (lv_at hl 1 rfl) ?_
  refine lv_iload_n hx hb dX4_teaches_5 rfl (lv_at hl 2 rfl) ?_
  replace h := bd h
  obtain ⟨t1, et1, h⟩ := h
  refine callRi (v := t1) (va_runV (As := [.int v1, .int v2]) (rest := []) ⟨hx, hb, hml, hown, hts⟩ (c_X2_isWeighing l D T (A0 0) (Z0 0) v1 v2 t1 et1) (cwV 2 hts gX4_teaches_X2_isWeighing rfl rfl rfl hdV_X2_isWeighing ⟨Nat.le_of_ble_eq_true rfl, Nat.le_of_ble_eq_true rfl⟩) ⟨PB_blind, va_recv hK.1 hP (ci := 2) (q0 := 3) rfl rfl, PB_at (hP.sub (ws' := stW T (A0 0) (Z0 0)) [3, 4, 5, 6, 7, 8, 9, 10, 11, 12, 13] rfl) hK⟩ rfl rfl hl.1 rfl (lv_room (Nat.le_of_ble_eq_true rfl)) dX4_teaches_6 ⟨Nat.zero_le _, Nat.zero_le _⟩) ?_
  refine lv_if_ne (tgt := 22) hx hb dX4_teaches_9 (by decide) (fun c2 => ?_) (fun c2 => ?_)
  · replace h := im c2 h
    refine lv_aload_n hx hb dX4_teaches_22 rfl (lv_at hl 0 rfl) ?_
    refine va_get (D := D) (ci := 4) (v := .ref (A0 0 0)) (C := RX4) (T := TX4) (N := 3) hx hb hts inX4_teaches_4 hown hK.1 hP 0 rfl rfl 0 (by decide) (hts (.fieldLink RX4 12 "LyingScale" "now" "LLyingScale$State;") (List.mem_of_getElem? (i := 3) rfl)) (fun _ h9 => h9) rfl dX4_teaches_23 ?_
    refine lv_iload_n hx hb dX4_teaches_26 rfl (lv_at hl 1 rfl) ?_
    refine lv_iload_n hx hb dX4_teaches_27 rfl (lv_at hl 2 rfl) ?_
    replace h := bd h
    obtain ⟨t3, et3, h⟩ := h
    refine callRi (v := t3) (va_runV (As := [.int v1, .int v2]) (rest := []) ⟨hx, hb, hml, hown, hts⟩ (c_X2_differs l D T (A0 0) (Z0 0) v1 v2 t3 et3) (cwV 2 hts gX4_teaches_X2_differs rfl rfl rfl hdV_X2_differs ⟨Nat.le_of_ble_eq_true rfl, Nat.le_of_ble_eq_true rfl⟩) ⟨PB_blind, va_recv hK.1 hP (ci := 2) (q0 := 3) rfl rfl, PB_at (hP.sub (ws' := stW T (A0 0) (Z0 0)) [3, 4, 5, 6, 7, 8, 9, 10, 11, 12, 13] rfl) hK⟩ rfl rfl hl.1 rfl (lv_room (Nat.le_of_ble_eq_true rfl)) dX4_teaches_28 ⟨Nat.zero_le _, Nat.zero_le _⟩) ?_
    replace h := gd h
    obtain ⟨g4, h⟩ := h
    obtain rfl := Option.some.inj h
    refine vx_ret ?_
    refine W.widen (k := 1) (n := 6) (Nat.zero_le _) (Nat.zero_le _) ?_
    exact W.zret hx hb hr (nrZ g4) (fun t ht hW => ⟨⟨_, (A0, Z0), rfl, rfl, by rw [ht]; exact hP, hD⟩, hS.F ht⟩) hS.2.2 dX4_teaches_31 hlocks
  replace h := ip c2 h
  obtain rfl := Option.some.inj h
  obtain ⟨sa, hsa⟩ := hE.2.2.1 (106, "no weighing") (List.mem_of_getElem? (i := 5) rfl)
  exact vx_throwS (A := A) (names := exNm) (ik := 30) (is := 106) (ic := 34) (sa := sa) hx hb hfl hown (by decide +kernel) exFit (hts (.classLink RX4 30 "java/lang/IllegalArgumentException") (List.mem_of_getElem? (i := 1) rfl)) (hts (.initialized "java/lang/IllegalArgumentException") (List.mem_of_getElem? (i := 2) rfl)) hsa (vx_hat (fun w hw => hts w (atmX4_teaches_34 w hw)) bad_34 (exB34 hE.2.2.2)) ot_34 hE.1 hE.2.1 hS (hl.1.trans hml.symm) dX4_teaches_12 dX4_teaches_15 dX4_teaches_16 dX4_teaches_18 dX4_teaches_21 (fun x hx => (hno x hx).elim) (Nat.le_of_ble_eq_true rfl) (Nat.le_of_ble_eq_true rfl) (Nat.le_of_ble_eq_true rfl) (Nat.le_of_ble_eq_true rfl) hlocks (fun t hv hz hk => ⟨(), trivial, rfl, hz, fun q hq _ => hk q hq⟩) hS.2.2 (Nat.le_of_ble_eq_true rfl) (Nat.le_of_ble_eq_true rfl)
set_option maxHeartbeats 4000000 in
set_option maxRecDepth 100000 in
theorem c_X4_distance (l : Launch) (hfl : l.stackTraces = false) (D : va_G) (T : Nat → ClassId) (h0 : Nat) (A0 : Nat → Nat → Nat) (Z0 : Nat → St) (v1 : Int32) (v2 : Int32) (sz : Nat) (r : Sum String (Int32 × (Nat → St))) (h : F_X4_distance Z0 v1 v2 = some r) : vx_Met l yX4_distance wsX4_distance ({ frames := 6, cells := 1, slots := 6, locals := 82 } : Room) (va_Pc [.ref h0, .int v1, .int v2] (PX D T (scW T h0 A0 (Z0)) sz)) (QXi D (scW T h0) r (va_A (scW T h0 A0 (Z0)) sz)) (XXq r) 1 6 (va_A (scW T h0 A0 (Z0)) sz) := by
  refine met_ofX (cc := cX4_distance) (maxL := 3) (ret := (some .int)) (lv := [(0, .ref h0), (1, .int v1), (2, .int v2)]) (by decide) rfl (Nat.le_of_ble_eq_true rfl) rfl ?_
  intro p e s m args below meth c ls C0 hno hl hB
  obtain ⟨hx, hb, hr, hml, hown, hts, hlocks, hname⟩ := C0
  obtain ⟨⟨hsz, hP, hK, hD0⟩, hE⟩ := hB
  subst hsz
  have hD := hD0.self (sz := s.heap.size)
  generalize hAe : va_A (scW T h0 A0 (Z0)) s.heap.size = A at hD hE ⊢
  have hA : ∀ q : Nat, s.heap.size ≤ q → A q := fun q h => by rw [← hAe]; exact Or.inr h
  have hS : va_S A s.heap s.heap [] := va_S.rf
  unfold F_X4_distance at h
  refine lv_aload_n hx hb dX4_distance_0 rfl (lv_at hl 0 rfl) ?_
  refine va_get (D := D) (ci := 4) (v := .ref (A0 0 0)) (C := RX4) (T := TX4) (N := 3) hx hb hts inX4_distance_4 hown hK.1 hP 0 rfl rfl 0 (by decide) (hts (.fieldLink RX4 12 "LyingScale" "now" "LLyingScale$State;") (List.mem_of_getElem? (i := 3) rfl)) (fun _ h9 => h9) rfl dX4_distance_1 ?_
  refine lv_iload_n hx hb dX4_distance_4 rfl (lv_at hl 1 rfl) ?_
  replace h := bd h
  obtain ⟨t1, et1, h⟩ := h
  refine callRi (v := t1) (va_runV (As := [.int v1]) (rest := []) ⟨hx, hb, hml, hown, hts⟩ (c_X2_isCase l D T (A0 0) (Z0 0) v1 t1 et1) (cwV 1 hts gX4_distance_X2_isCase rfl rfl rfl hdV_X2_isCase ⟨Nat.le_of_ble_eq_true rfl, Nat.le_of_ble_eq_true rfl⟩) ⟨PB_blind, va_recv hK.1 hP (ci := 2) (q0 := 3) rfl rfl, PB_at (hP.sub (ws' := stW T (A0 0) (Z0 0)) [3, 4, 5, 6, 7, 8, 9, 10, 11, 12, 13] rfl) hK⟩ rfl rfl hl.1 rfl (lv_room (Nat.le_of_ble_eq_true rfl)) dX4_distance_5 ⟨Nat.zero_le _, Nat.zero_le _⟩) ?_
  refine lv_if_eq (tgt := 22) hx hb dX4_distance_8 (by decide) (fun c2 => ?_) (fun c2 => ?_)
  · replace h := ip c2 h
    obtain rfl := Option.some.inj h
    obtain ⟨sa, hsa⟩ := hE.2.2.1 (95, "no such case") (List.mem_of_getElem? (i := 4) rfl)
    exact vx_throwS (A := A) (names := exNm) (ik := 93) (is := 95) (ic := 97) (sa := sa) hx hb hfl hown (by decide +kernel) exFit (hts (.classLink RX4 93 "java/lang/IndexOutOfBoundsException") (List.mem_of_getElem? (i := 1) rfl)) (hts (.initialized "java/lang/IndexOutOfBoundsException") (List.mem_of_getElem? (i := 2) rfl)) hsa (vx_hat (fun w hw => hts w (atmX4_distance_97 w hw)) bad_97 (exB97 hE.2.2.2)) ot_97 hE.1 hE.2.1 hS (hl.1.trans hml.symm) dX4_distance_22 dX4_distance_25 dX4_distance_26 dX4_distance_28 dX4_distance_31 (fun x hx => (hno x hx).elim) (Nat.le_of_ble_eq_true rfl) (Nat.le_of_ble_eq_true rfl) (Nat.le_of_ble_eq_true rfl) (Nat.le_of_ble_eq_true rfl) hlocks (fun t hv hz hk => ⟨(), trivial, rfl, hz, fun q hq _ => hk q hq⟩) hS.2.2 (Nat.le_of_ble_eq_true rfl) (Nat.le_of_ble_eq_true rfl)
  replace h := im c2 h
  refine lv_aload_n hx hb dX4_distance_11 rfl (lv_at hl 0 rfl) ?_
  refine va_get (D := D) (ci := 4) (v := .ref (A0 0 0)) (C := RX4) (T := TX4) (N := 3) hx hb hts inX4_distance_4 hown hK.1 hP 0 rfl rfl 0 (by decide) (hts (.fieldLink RX4 12 "LyingScale" "now" "LLyingScale$State;") (List.mem_of_getElem? (i := 3) rfl)) (fun _ h9 => h9) rfl dX4_distance_12 ?_
  refine lv_iload_n hx hb dX4_distance_15 rfl (lv_at hl 2 rfl) ?_
  replace h := bd h
  obtain ⟨t3, et3, h⟩ := h
  refine callRi (v := t3) (va_runV (As := [.int v2]) (rest := []) ⟨hx, hb, hml, hown, hts⟩ (c_X2_isCase l D T (A0 0) (Z0 0) v2 t3 et3) (cwV 1 hts gX4_distance_X2_isCase rfl rfl rfl hdV_X2_isCase ⟨Nat.le_of_ble_eq_true rfl, Nat.le_of_ble_eq_true rfl⟩) ⟨PB_blind, va_recv hK.1 hP (ci := 2) (q0 := 3) rfl rfl, PB_at (hP.sub (ws' := stW T (A0 0) (Z0 0)) [3, 4, 5, 6, 7, 8, 9, 10, 11, 12, 13] rfl) hK⟩ rfl rfl hl.1 rfl (lv_room (Nat.le_of_ble_eq_true rfl)) dX4_distance_16 ⟨Nat.zero_le _, Nat.zero_le _⟩) ?_
  refine lv_if_ne (tgt := 32) hx hb dX4_distance_19 (by decide) (fun c4 => ?_) (fun c4 => ?_)
  · replace h := im c4 h
    refine lv_aload_n hx hb dX4_distance_32 rfl (lv_at hl 0 rfl) ?_
    refine va_get (D := D) (ci := 4) (v := .ref (A0 0 0)) (C := RX4) (T := TX4) (N := 3) hx hb hts inX4_distance_4 hown hK.1 hP 0 rfl rfl 0 (by decide) (hts (.fieldLink RX4 12 "LyingScale" "now" "LLyingScale$State;") (List.mem_of_getElem? (i := 3) rfl)) (fun _ h9 => h9) rfl dX4_distance_33 ?_
    refine va_getN (D := D) (ci := 2) (v := .ref (A0 0 2)) (C := RX2) (T := TX2) (N := 9) hx hb hts inX4_distance_2 hown hK.1 hP 3 rfl rfl 1 (by decide) (va_Nw.use rfl (hK.2 (.fieldLinkNest RX4 122 "LyingScale$State" "plan" "LLyingScale$Weighings;" "LyingScale") (List.mem_of_getElem? (i := 0) rfl))) (fun _ h9 => h9) rfl dX4_distance_36 ?_
    refine lv_iload_n hx hb dX4_distance_39 rfl (lv_at hl 1 rfl) ?_
    replace h := bd h
    obtain ⟨t5, et5, h⟩ := h
    refine callRi (v := t5) (va_runV (As := [.int v1]) (rest := []) ⟨hx, hb, hml, hown, hts⟩ (c_X3_codeWord l D T (plA (A0 0)) 8 (plS (Z0 0)) v1 (Nat.le_of_ble_eq_true rfl) t5 et5) (cwV 1 hts gX4_distance_X3_codeWord rfl rfl rfl hdV_X3_codeWord ⟨Nat.le_of_ble_eq_true rfl, Nat.le_of_ble_eq_true rfl⟩) ⟨PB_blind, va_recv hK.1 hP (ci := 3) (q0 := 5) rfl rfl, PB_at (hP.sub (ws' := wgW T 8 (plA (A0 0)) (plS (Z0 0))) [5, 11, 12, 13] rfl) hK⟩ rfl rfl hl.1 rfl (lv_room (Nat.le_of_ble_eq_true rfl)) dX4_distance_40 ⟨Nat.zero_le _, Nat.zero_le _⟩) ?_
    refine lv_aload_n hx hb dX4_distance_43 rfl (lv_at hl 0 rfl) ?_
    refine va_get (D := D) (ci := 4) (v := .ref (A0 0 0)) (C := RX4) (T := TX4) (N := 3) hx hb hts inX4_distance_4 hown hK.1 hP 0 rfl rfl 0 (by decide) (hts (.fieldLink RX4 12 "LyingScale" "now" "LLyingScale$State;") (List.mem_of_getElem? (i := 3) rfl)) (fun _ h9 => h9) rfl dX4_distance_44 ?_
    refine va_getN (D := D) (ci := 2) (v := .ref (A0 0 2)) (C := RX2) (T := TX2) (N := 9) hx hb hts inX4_distance_2 hown hK.1 hP 3 rfl rfl 1 (by decide) (va_Nw.use rfl (hK.2 (.fieldLinkNest RX4 122 "LyingScale$State" "plan" "LLyingScale$Weighings;" "LyingScale") (List.mem_of_getElem? (i := 0) rfl))) (fun _ h9 => h9) rfl dX4_distance_47 ?_
    refine lv_iload_n hx hb dX4_distance_50 rfl (lv_at hl 2 rfl) ?_
    replace h := bd h
    obtain ⟨t6, et6, h⟩ := h
    refine callRi (v := t6) (va_runV (As := [.int v2]) (rest := [.int t5]) ⟨hx, hb, hml, hown, hts⟩ (c_X3_codeWord l D T (plA (A0 0)) 8 (plS (Z0 0)) v2 (Nat.le_of_ble_eq_true rfl) t6 et6) (cwV 1 hts gX4_distance_X3_codeWord rfl rfl rfl hdV_X3_codeWord ⟨Nat.le_of_ble_eq_true rfl, Nat.le_of_ble_eq_true rfl⟩) ⟨PB_blind, va_recv hK.1 hP (ci := 3) (q0 := 5) rfl rfl, PB_at (hP.sub (ws' := wgW T 8 (plA (A0 0)) (plS (Z0 0))) [5, 11, 12, 13] rfl) hK⟩ rfl rfl hl.1 rfl (lv_room (Nat.le_of_ble_eq_true rfl)) dX4_distance_51 ⟨Nat.zero_le _, Nat.zero_le _⟩) ?_
    replace h := bd h
    obtain ⟨t7, et7, h⟩ := h
    refine callRi (v := t7) (va_runS (As := [.int t5, .int t6]) (rest := []) ⟨hx, hb, hml, hown, hts⟩ (c_X4_differences l D T t5 t6 t7 et7) (va_cwS 2 hts gX4_distance_X4_differences rfl rfl rfl hdS_X4_differences ⟨Nat.le_of_ble_eq_true rfl, Nat.le_of_ble_eq_true rfl⟩) ⟨PB_blind, PB_at (hP.sub (ws' := ([] : va_W)) [] rfl) hK⟩ rfl rfl hl.1 rfl (lv_room (Nat.le_of_ble_eq_true rfl)) dX4_distance_54 ⟨Nat.zero_le _, Nat.zero_le _⟩) ?_
    obtain rfl := Option.some.inj h
    refine vx_ret ?_
    refine W.widen (k := 1) (n := 6) (Nat.zero_le _) (Nat.zero_le _) ?_
    exact W.iret hx hb hr (fun t ht hW => ⟨⟨_, (A0, Z0), rfl, rfl, by rw [ht]; exact hP, hD⟩, hS.F ht⟩) hS.2.2 dX4_distance_57 hlocks
  replace h := ip c4 h
  obtain rfl := Option.some.inj h
  obtain ⟨sa, hsa⟩ := hE.2.2.1 (95, "no such case") (List.mem_of_getElem? (i := 4) rfl)
  exact vx_throwS (A := A) (names := exNm) (ik := 93) (is := 95) (ic := 97) (sa := sa) hx hb hfl hown (by decide +kernel) exFit (hts (.classLink RX4 93 "java/lang/IndexOutOfBoundsException") (List.mem_of_getElem? (i := 1) rfl)) (hts (.initialized "java/lang/IndexOutOfBoundsException") (List.mem_of_getElem? (i := 2) rfl)) hsa (vx_hat (fun w hw => hts w (atmX4_distance_97 w hw)) bad_97 (exB97 hE.2.2.2)) ot_97 hE.1 hE.2.1 hS (hl.1.trans hml.symm) dX4_distance_22 dX4_distance_25 dX4_distance_26 dX4_distance_28 dX4_distance_31 (fun x hx => (hno x hx).elim) (Nat.le_of_ble_eq_true rfl) (Nat.le_of_ble_eq_true rfl) (Nat.le_of_ble_eq_true rfl) (Nat.le_of_ble_eq_true rfl) hlocks (fun t hv hz hk => ⟨(), trivial, rfl, hz, fun q hq _ => hk q hq⟩) hS.2.2 (Nat.le_of_ble_eq_true rfl) (Nat.le_of_ble_eq_true rfl)
set_option maxHeartbeats 4000000 in
set_option maxRecDepth 100000 in
theorem c_X4_leastDistance (l : Launch) (D : va_G) (T : Nat → ClassId) (h0 : Nat) (A0 : Nat → Nat → Nat) (Z0 : Nat → St) (sz : Nat) (r : Int32 × (Nat → St)) (h : F_X4_leastDistance Z0 = some r) : Met l yX4_leastDistance wsX4_leastDistance ({ frames := 4, cells := 0, slots := 0, locals := 90 } : Room) (va_Pc [.ref h0] (PM D T (scW T h0 A0 (Z0)) sz)) (QEi D (scW T h0) r.1 r.2 (va_A (scW T h0 A0 (Z0)) sz)) 0 0 (va_A (scW T h0 A0 (Z0)) sz) := by
  refine met_of (cc := cX4_leastDistance) (maxL := 1) (ret := (some .int)) (lv := [(0, .ref h0)]) (by decide) rfl (Nat.le_of_ble_eq_true rfl) rfl ?_
  intro p e s m args below meth c ls C0 hl hB
  obtain ⟨hx, hb, hr, hml, hown, hts, hlocks, hname⟩ := C0
  obtain ⟨hsz, hP, hK, hD0⟩ := hB
  subst hsz
  have hD := hD0.self (sz := s.heap.size)
  generalize hAe : va_A (scW T h0 A0 (Z0)) s.heap.size = A at hD ⊢
  have hA : ∀ q : Nat, s.heap.size ≤ q → A q := fun q h => by rw [← hAe]; exact Or.inr h
  have hS : va_S A s.heap s.heap [] := va_S.rf
  unfold F_X4_leastDistance at h
  refine lv_aload_n hx hb dX4_leastDistance_0 rfl (lv_at hl 0 rfl) ?_
  refine va_get (D := D) (ci := 4) (v := .ref (A0 0 0)) (C := RX4) (T := TX4) (N := 3) hx hb hts inX4_leastDistance_4 hown hK.1 hP 0 rfl rfl 0 (by decide) (hts (.fieldLink RX4 12 "LyingScale" "now" "LLyingScale$State;") (List.mem_of_getElem? (i := 1) rfl)) (fun _ h9 => h9) rfl dX4_leastDistance_1 ?_
  replace h := bd h
  obtain ⟨t1, et1, h⟩ := h
  refine callMi (wr := [(h0, .inr (4, [.ref (A0 0 0), .ref (A0 6 1), .ref (A0 5 0)])), (A0 6 1, .inr (0, [.ref (A0 6 2), .int ((Z0 6).1 0)])), (A0 6 2, .inl (T 3, 4, .inr (.inr (.inr (.inr (hsQ A0)))))), (A0 1 0, .inr (2, [.ref (A0 1 1), .ref (A0 1 2), .ref (A0 1 3), .ref (A0 1 4), .int ((Z0 1).1 0), .int ((Z0 1).1 1), .int ((Z0 1).1 2), .int ((Z0 1).1 3), .int ((Z0 1).1 4)])), (A0 1 1, .inr (3, [.ref (A0 1 5), .ref (A0 1 6), .ref (A0 1 7), .int ((Z0 1).1 5)])), (A0 1 2, .inr (3, [.ref (A0 1 8), .ref (A0 1 9), .ref (A0 1 10), .int ((Z0 1).1 6)])), (A0 1 3, .inl (T 0, 33, .inl ((Z0 1).2 6))), (A0 1 4, .inl (T 0, 33, .inl ((Z0 1).2 7))), (A0 1 5, .inl (T 0, 40, .inl ((Z0 1).2 0))), (A0 1 6, .inl (T 0, 40, .inl ((Z0 1).2 1))), (A0 1 7, .inl (T 0, 40, .inl ((Z0 1).2 2))), (A0 1 8, .inl (T 0, 8, .inl ((Z0 1).2 3))), (A0 1 9, .inl (T 0, 8, .inl ((Z0 1).2 4))), (A0 1 10, .inl (T 0, 8, .inl ((Z0 1).2 5))), (A0 2 0, .inr (2, [.ref (A0 2 1), .ref (A0 2 2), .ref (A0 2 3), .ref (A0 2 4), .int ((Z0 2).1 0), .int ((Z0 2).1 1), .int ((Z0 2).1 2), .int ((Z0 2).1 3), .int ((Z0 2).1 4)])), (A0 2 1, .inr (3, [.ref (A0 2 5), .ref (A0 2 6), .ref (A0 2 7), .int ((Z0 2).1 5)])), (A0 2 2, .inr (3, [.ref (A0 2 8), .ref (A0 2 9), .ref (A0 2 10), .int ((Z0 2).1 6)])), (A0 2 3, .inl (T 0, 33, .inl ((Z0 2).2 6))), (A0 2 4, .inl (T 0, 33, .inl ((Z0 2).2 7))), (A0 2 5, .inl (T 0, 40, .inl ((Z0 2).2 0))), (A0 2 6, .inl (T 0, 40, .inl ((Z0 2).2 1))), (A0 2 7, .inl (T 0, 40, .inl ((Z0 2).2 2))), (A0 2 8, .inl (T 0, 8, .inl ((Z0 2).2 3))), (A0 2 9, .inl (T 0, 8, .inl ((Z0 2).2 4))), (A0 2 10, .inl (T 0, 8, .inl ((Z0 2).2 5))), (A0 3 0, .inr (2, [.ref (A0 3 1), .ref (A0 3 2), .ref (A0 3 3), .ref (A0 3 4), .int ((Z0 3).1 0), .int ((Z0 3).1 1), .int ((Z0 3).1 2), .int ((Z0 3).1 3), .int ((Z0 3).1 4)])), (A0 3 1, .inr (3, [.ref (A0 3 5), .ref (A0 3 6), .ref (A0 3 7), .int ((Z0 3).1 5)])), (A0 3 2, .inr (3, [.ref (A0 3 8), .ref (A0 3 9), .ref (A0 3 10), .int ((Z0 3).1 6)])), (A0 3 3, .inl (T 0, 33, .inl ((Z0 3).2 6))), (A0 3 4, .inl (T 0, 33, .inl ((Z0 3).2 7))), (A0 3 5, .inl (T 0, 40, .inl ((Z0 3).2 0))), (A0 3 6, .inl (T 0, 40, .inl ((Z0 3).2 1))), (A0 3 7, .inl (T 0, 40, .inl ((Z0 3).2 2))), (A0 3 8, .inl (T 0, 8, .inl ((Z0 3).2 3))), (A0 3 9, .inl (T 0, 8, .inl ((Z0 3).2 4))), (A0 3 10, .inl (T 0, 8, .inl ((Z0 3).2 5))), (A0 4 0, .inr (2, [.ref (A0 4 1), .ref (A0 4 2), .ref (A0 4 3), .ref (A0 4 4), .int ((Z0 4).1 0), .int ((Z0 4).1 1), .int ((Z0 4).1 2), .int ((Z0 4).1 3), .int ((Z0 4).1 4)])), (A0 4 1, .inr (3, [.ref (A0 4 5), .ref (A0 4 6), .ref (A0 4 7), .int ((Z0 4).1 5)])), (A0 4 2, .inr (3, [.ref (A0 4 8), .ref (A0 4 9), .ref (A0 4 10), .int ((Z0 4).1 6)])), (A0 4 3, .inl (T 0, 33, .inl ((Z0 4).2 6))), (A0 4 4, .inl (T 0, 33, .inl ((Z0 4).2 7))), (A0 4 5, .inl (T 0, 40, .inl ((Z0 4).2 0))), (A0 4 6, .inl (T 0, 40, .inl ((Z0 4).2 1))), (A0 4 7, .inl (T 0, 40, .inl ((Z0 4).2 2))), (A0 4 8, .inl (T 0, 8, .inl ((Z0 4).2 3))), (A0 4 9, .inl (T 0, 8, .inl ((Z0 4).2 4))), (A0 4 10, .inl (T 0, 8, .inl ((Z0 4).2 5))), (A0 5 0, .inr (1, [.ref (A0 5 1), .ref (A0 5 2), .ref (A0 5 3), .ref (A0 5 4), .int ((Z0 5).1 0), .int ((Z0 5).1 1), .int ((Z0 5).1 2), .int ((Z0 5).1 3), .int ((Z0 5).1 4)])), (A0 5 1, .inl (T 0, 100, .inl ((Z0 5).2 0))), (A0 5 2, .inl (T 0, 20, .inl ((Z0 5).2 1))), (A0 5 3, .inl (T 0, 20, .inl ((Z0 5).2 2))), (A0 5 4, .inl (T 0, 20, .inl ((Z0 5).2 3)))]) (ws' := scW T h0 A0 (zU Z0 0 t1.2)) (va_runV (As := []) (rest := []) ⟨hx, hb, hml, hown, hts⟩ (c_X2_leastDifferences l D T (A0 0) (Z0 0) _ t1 et1) (cwV 0 hts gX4_leastDistance_X2_leastDifferences rfl rfl rfl hdV_X2_leastDifferences ⟨Nat.le_of_ble_eq_true rfl, Nat.le_of_ble_eq_true rfl⟩) ⟨PM_blind, va_recv hK.1 hP (ci := 2) (q0 := 3) rfl rfl, PM_at (hP.sub (ws' := stW T (A0 0) (Z0 0)) [3, 4, 5, 6, 7, 8, 9, 10, 11, 12, 13] rfl) (hD.sub (ws' := stW T (A0 0) (Z0 0)) [3, 4, 5, 6, 7, 8, 9, 10, 11, 12, 13] (by decide) rfl) hK⟩ rfl rfl hl.1 rfl (lv_room (Nat.le_of_ble_eq_true rfl)) dX4_leastDistance_4 ⟨Nat.zero_le _, Nat.zero_le _⟩) hS hA hP hD [3, 4, 5, 6, 7, 8, 9, 10, 11, 12, 13] [0, 1, 2, 14, 15, 16, 17, 18, 19, 20, 21, 22, 23, 24, 25, 26, 27, 28, 29, 30, 31, 32, 33, 34, 35, 36, 37, 38, 39, 40, 41, 42, 43, 44, 45, 46, 47, 48, 49, 50, 51, 52, 53, 54, 55, 56, 57, 58, 59, 60, 61, 62] rfl rfl (by decide) (by decide) [0, 1, 2, 52, 53, 54, 55, 56, 57, 58, 59, 60, 61, 62, 3, 4, 5, 6, 7, 8, 9, 10, 11, 12, 13, 14, 15, 16, 17, 18, 19, 20, 21, 22, 23, 24, 25, 26, 27, 28, 29, 30, 31, 32, 33, 34, 35, 36, 37, 38, 39, 40, 41, 42, 43, 44, 45, 46, 47, 48, 49, 50, 51] (by decide) rfl (fun H locs hP hD hS => ?_)
  obtain rfl := Option.some.inj h
  exact W.iret hx hb hr (fun t ht hW => ⟨⟨_, A0, rfl, rfl, by rw [ht]; exact hP, hD⟩, hS.F ht⟩) hS.2.2 dX4_leastDistance_7 hlocks
set_option maxHeartbeats 4000000 in
set_option maxRecDepth 100000 in
theorem c_X4_bears (l : Launch) (D : va_G) (T : Nat → ClassId) (h0 : Nat) (A0 : Nat → Nat → Nat) (Z0 : Nat → St) (sz : Nat) (r : Int32 × (Nat → St)) (h : F_X4_bears Z0 = some r) : Met l yX4_bears wsX4_bears ({ frames := 4, cells := 0, slots := 0, locals := 90 } : Room) (va_Pc [.ref h0] (PM D T (scW T h0 A0 (Z0)) sz)) (QEi D (scW T h0) r.1 r.2 (va_A (scW T h0 A0 (Z0)) sz)) 0 0 (va_A (scW T h0 A0 (Z0)) sz) := by
  refine met_of (cc := cX4_bears) (maxL := 2) (ret := (some .int)) (lv := [(0, .ref h0)]) (by decide) rfl (Nat.le_of_ble_eq_true rfl) rfl ?_
  intro p e s m args below meth c ls C0 hl hB
  obtain ⟨hx, hb, hr, hml, hown, hts, hlocks, hname⟩ := C0
  obtain ⟨hsz, hP, hK, hD0⟩ := hB
  subst hsz
  have hD := hD0.self (sz := s.heap.size)
  generalize hAe : va_A (scW T h0 A0 (Z0)) s.heap.size = A at hD ⊢
  have hA : ∀ q : Nat, s.heap.size ≤ q → A q := fun q h => by rw [← hAe]; exact Or.inr h
  have hS : va_S A s.heap s.heap [] := va_S.rf
  unfold F_X4_bears at h
  refine lv_aload_n hx hb dX4_bears_0 rfl (lv_at hl 0 rfl) ?_
  refine va_get (D := D) (ci := 4) (v := .ref (A0 0 0)) (C := RX4) (T := TX4) (N := 3) hx hb hts inX4_bears_4 hown hK.1 hP 0 rfl rfl 0 (by decide) (hts (.fieldLink RX4 12 "LyingScale" "now" "LLyingScale$State;") (List.mem_of_getElem? (i := 1) rfl)) (fun _ h9 => h9) rfl dX4_bears_1 ?_
  replace h := bd h
  obtain ⟨t1, et1, h⟩ := h
  refine callMi (wr := [(h0, .inr (4, [.ref (A0 0 0), .ref (A0 6 1), .ref (A0 5 0)])), (A0 6 1, .inr (0, [.ref (A0 6 2), .int ((Z0 6).1 0)])), (A0 6 2, .inl (T 3, 4, .inr (.inr (.inr (.inr (hsQ A0)))))), (A0 1 0, .inr (2, [.ref (A0 1 1), .ref (A0 1 2), .ref (A0 1 3), .ref (A0 1 4), .int ((Z0 1).1 0), .int ((Z0 1).1 1), .int ((Z0 1).1 2), .int ((Z0 1).1 3), .int ((Z0 1).1 4)])), (A0 1 1, .inr (3, [.ref (A0 1 5), .ref (A0 1 6), .ref (A0 1 7), .int ((Z0 1).1 5)])), (A0 1 2, .inr (3, [.ref (A0 1 8), .ref (A0 1 9), .ref (A0 1 10), .int ((Z0 1).1 6)])), (A0 1 3, .inl (T 0, 33, .inl ((Z0 1).2 6))), (A0 1 4, .inl (T 0, 33, .inl ((Z0 1).2 7))), (A0 1 5, .inl (T 0, 40, .inl ((Z0 1).2 0))), (A0 1 6, .inl (T 0, 40, .inl ((Z0 1).2 1))), (A0 1 7, .inl (T 0, 40, .inl ((Z0 1).2 2))), (A0 1 8, .inl (T 0, 8, .inl ((Z0 1).2 3))), (A0 1 9, .inl (T 0, 8, .inl ((Z0 1).2 4))), (A0 1 10, .inl (T 0, 8, .inl ((Z0 1).2 5))), (A0 2 0, .inr (2, [.ref (A0 2 1), .ref (A0 2 2), .ref (A0 2 3), .ref (A0 2 4), .int ((Z0 2).1 0), .int ((Z0 2).1 1), .int ((Z0 2).1 2), .int ((Z0 2).1 3), .int ((Z0 2).1 4)])), (A0 2 1, .inr (3, [.ref (A0 2 5), .ref (A0 2 6), .ref (A0 2 7), .int ((Z0 2).1 5)])), (A0 2 2, .inr (3, [.ref (A0 2 8), .ref (A0 2 9), .ref (A0 2 10), .int ((Z0 2).1 6)])), (A0 2 3, .inl (T 0, 33, .inl ((Z0 2).2 6))), (A0 2 4, .inl (T 0, 33, .inl ((Z0 2).2 7))), (A0 2 5, .inl (T 0, 40, .inl ((Z0 2).2 0))), (A0 2 6, .inl (T 0, 40, .inl ((Z0 2).2 1))), (A0 2 7, .inl (T 0, 40, .inl ((Z0 2).2 2))), (A0 2 8, .inl (T 0, 8, .inl ((Z0 2).2 3))), (A0 2 9, .inl (T 0, 8, .inl ((Z0 2).2 4))), (A0 2 10, .inl (T 0, 8, .inl ((Z0 2).2 5))), (A0 3 0, .inr (2, [.ref (A0 3 1), .ref (A0 3 2), .ref (A0 3 3), .ref (A0 3 4), .int ((Z0 3).1 0), .int ((Z0 3).1 1), .int ((Z0 3).1 2), .int ((Z0 3).1 3), .int ((Z0 3).1 4)])), (A0 3 1, .inr (3, [.ref (A0 3 5), .ref (A0 3 6), .ref (A0 3 7), .int ((Z0 3).1 5)])), (A0 3 2, .inr (3, [.ref (A0 3 8), .ref (A0 3 9), .ref (A0 3 10), .int ((Z0 3).1 6)])), (A0 3 3, .inl (T 0, 33, .inl ((Z0 3).2 6))), (A0 3 4, .inl (T 0, 33, .inl ((Z0 3).2 7))), (A0 3 5, .inl (T 0, 40, .inl ((Z0 3).2 0))), (A0 3 6, .inl (T 0, 40, .inl ((Z0 3).2 1))), (A0 3 7, .inl (T 0, 40, .inl ((Z0 3).2 2))), (A0 3 8, .inl (T 0, 8, .inl ((Z0 3).2 3))), (A0 3 9, .inl (T 0, 8, .inl ((Z0 3).2 4))), (A0 3 10, .inl (T 0, 8, .inl ((Z0 3).2 5))), (A0 4 0, .inr (2, [.ref (A0 4 1), .ref (A0 4 2), .ref (A0 4 3), .ref (A0 4 4), .int ((Z0 4).1 0), .int ((Z0 4).1 1), .int ((Z0 4).1 2), .int ((Z0 4).1 3), .int ((Z0 4).1 4)])), (A0 4 1, .inr (3, [.ref (A0 4 5), .ref (A0 4 6), .ref (A0 4 7), .int ((Z0 4).1 5)])), (A0 4 2, .inr (3, [.ref (A0 4 8), .ref (A0 4 9), .ref (A0 4 10), .int ((Z0 4).1 6)])), (A0 4 3, .inl (T 0, 33, .inl ((Z0 4).2 6))), (A0 4 4, .inl (T 0, 33, .inl ((Z0 4).2 7))), (A0 4 5, .inl (T 0, 40, .inl ((Z0 4).2 0))), (A0 4 6, .inl (T 0, 40, .inl ((Z0 4).2 1))), (A0 4 7, .inl (T 0, 40, .inl ((Z0 4).2 2))), (A0 4 8, .inl (T 0, 8, .inl ((Z0 4).2 3))), (A0 4 9, .inl (T 0, 8, .inl ((Z0 4).2 4))), (A0 4 10, .inl (T 0, 8, .inl ((Z0 4).2 5))), (A0 5 0, .inr (1, [.ref (A0 5 1), .ref (A0 5 2), .ref (A0 5 3), .ref (A0 5 4), .int ((Z0 5).1 0), .int ((Z0 5).1 1), .int ((Z0 5).1 2), .int ((Z0 5).1 3), .int ((Z0 5).1 4)])), (A0 5 1, .inl (T 0, 100, .inl ((Z0 5).2 0))), (A0 5 2, .inl (T 0, 20, .inl ((Z0 5).2 1))), (A0 5 3, .inl (T 0, 20, .inl ((Z0 5).2 2))), (A0 5 4, .inl (T 0, 20, .inl ((Z0 5).2 3)))]) (ws' := scW T h0 A0 (zU Z0 0 t1.2)) (va_runV (As := []) (rest := []) ⟨hx, hb, hml, hown, hts⟩ (c_X2_leastDifferences l D T (A0 0) (Z0 0) _ t1 et1) (cwV 0 hts gX4_bears_X2_leastDifferences rfl rfl rfl hdV_X2_leastDifferences ⟨Nat.le_of_ble_eq_true rfl, Nat.le_of_ble_eq_true rfl⟩) ⟨PM_blind, va_recv hK.1 hP (ci := 2) (q0 := 3) rfl rfl, PM_at (hP.sub (ws' := stW T (A0 0) (Z0 0)) [3, 4, 5, 6, 7, 8, 9, 10, 11, 12, 13] rfl) (hD.sub (ws' := stW T (A0 0) (Z0 0)) [3, 4, 5, 6, 7, 8, 9, 10, 11, 12, 13] (by decide) rfl) hK⟩ rfl rfl hl.1 rfl (lv_room (Nat.le_of_ble_eq_true rfl)) dX4_bears_4 ⟨Nat.zero_le _, Nat.zero_le _⟩) hS hA hP hD [3, 4, 5, 6, 7, 8, 9, 10, 11, 12, 13] [0, 1, 2, 14, 15, 16, 17, 18, 19, 20, 21, 22, 23, 24, 25, 26, 27, 28, 29, 30, 31, 32, 33, 34, 35, 36, 37, 38, 39, 40, 41, 42, 43, 44, 45, 46, 47, 48, 49, 50, 51, 52, 53, 54, 55, 56, 57, 58, 59, 60, 61, 62] rfl rfl (by decide) (by decide) [0, 1, 2, 52, 53, 54, 55, 56, 57, 58, 59, 60, 61, 62, 3, 4, 5, 6, 7, 8, 9, 10, 11, 12, 13, 14, 15, 16, 17, 18, 19, 20, 21, 22, 23, 24, 25, 26, 27, 28, 29, 30, 31, 32, 33, 34, 35, 36, 37, 38, 39, 40, 41, 42, 43, 44, 45, 46, 47, 48, 49, 50, 51] (by decide) rfl (fun H locs hP hD hS => ?_)
  refine lv_istore_n (lv' := [(1, .int t1.1), (0, .ref h0)]) hx hb dX4_bears_7 rfl hl (by decide) rfl (fun ls hl => ?_)
  refine lv_iload_n hx hb dX4_bears_8 rfl (lv_at hl 0 rfl) ?_
  refine lv_if_ne (tgt := 16) hx hb dX4_bears_9 (by decide) (fun c2 => ?_) (fun c2 => ?_)
  · replace h := im c2 h
    refine lv_iload_n hx hb dX4_bears_16 rfl (lv_at hl 0 rfl) ?_
    refine lv_iconst (v := 1) hx hb dX4_bears_17 (by decide) ?_
    refine lv_isub hx hb dX4_bears_18 ?_
    refine lv_iconst (v := 2) hx hb dX4_bears_19 (by decide) ?_
    refine lv_idiv hx hb dX4_bears_20 (by decide) ?_
    obtain rfl := Option.some.inj h
    exact W.iret hx hb hr (fun t ht hW => ⟨⟨_, A0, rfl, rfl, by rw [ht]; exact hP, hD⟩, hS.F ht⟩) hS.2.2 dX4_bears_21 hlocks
  replace h := ip c2 h
  refine lv_iconst (v := (-1)) hx hb dX4_bears_12 (by decide) ?_
  refine lv_goto (tgt := 21) hx hb dX4_bears_13 (by decide) ?_
  obtain rfl := Option.some.inj h
  exact W.iret hx hb hr (fun t ht hW => ⟨⟨_, A0, rfl, rfl, by rw [ht]; exact hP, hD⟩, hS.F ht⟩) hS.2.2 dX4_bears_21 hlocks
set_option maxHeartbeats 4000000 in
set_option maxRecDepth 100000 in
theorem c_X4_decode (l : Launch) (hfl : l.stackTraces = false) (D : va_G) (T : Nat → ClassId) (h0 : Nat) (A0 : Nat → Nat → Nat) (Z0 : Nat → St) (v1 : Int32) (sz : Nat) (r : Sum String (Int32 × (Nat → St))) (h : F_X4_decode Z0 v1 = some r) : vx_Met l yX4_decode wsX4_decode ({ frames := 6, cells := 1, slots := 6, locals := 92 } : Room) (va_Pc [.ref h0, .int v1] (PX D T (scW T h0 A0 (Z0)) sz)) (QXi D (scW T h0) r (va_A (scW T h0 A0 (Z0)) sz)) (XXq r) 1 6 (va_A (scW T h0 A0 (Z0)) sz) := by
  refine met_ofX (cc := cX4_decode) (maxL := 2) (ret := (some .int)) (lv := [(0, .ref h0), (1, .int v1)]) (by decide) rfl (Nat.le_of_ble_eq_true rfl) rfl ?_
  intro p e s m args below meth c ls C0 hno hl hB
  obtain ⟨hx, hb, hr, hml, hown, hts, hlocks, hname⟩ := C0
  obtain ⟨⟨hsz, hP, hK, hD0⟩, hE⟩ := hB
  subst hsz
  have hD := hD0.self (sz := s.heap.size)
  generalize hAe : va_A (scW T h0 A0 (Z0)) s.heap.size = A at hD hE ⊢
  have hA : ∀ q : Nat, s.heap.size ≤ q → A q := fun q h => by rw [← hAe]; exact Or.inr h
  have hS : va_S A s.heap s.heap [] := va_S.rf
  unfold F_X4_decode at h
  refine lv_iload_n hx hb dX4_decode_0 rfl (lv_at hl 1 rfl) ?_
  refine lv_if_lt (tgt := 18) hx hb dX4_decode_1 (by decide) (fun c1 => ?_) (fun c1 => ?_)
  · replace h := ip c1 h
    obtain rfl := Option.some.inj h
    obtain ⟨sa, hsa⟩ := hE.2.2.1 (196, "answers is out of range") (List.mem_of_getElem? (i := 14) rfl)
    exact vx_throwS (A := A) (names := exNm) (ik := 30) (is := 196) (ic := 34) (sa := sa) hx hb hfl hown (by decide +kernel) exFit (hts (.classLink RX4 30 "java/lang/IllegalArgumentException") (List.mem_of_getElem? (i := 1) rfl)) (hts (.initialized "java/lang/IllegalArgumentException") (List.mem_of_getElem? (i := 2) rfl)) hsa (vx_hat (fun w hw => hts w (atmX4_decode_34 w hw)) bad_34 (exB34 hE.2.2.2)) ot_34 hE.1 hE.2.1 hS (hl.1.trans hml.symm) dX4_decode_18 dX4_decode_21 dX4_decode_22 dX4_decode_24 dX4_decode_27 (fun x hx => (hno x hx).elim) (Nat.le_of_ble_eq_true rfl) (Nat.le_of_ble_eq_true rfl) (Nat.le_of_ble_eq_true rfl) (Nat.le_of_ble_eq_true rfl) hlocks (fun t hv hz hk => ⟨(), trivial, rfl, hz, fun q hq _ => hk q hq⟩) hS.2.2 (Nat.le_of_ble_eq_true rfl) (Nat.le_of_ble_eq_true rfl)
  replace h := im c1 h
  refine lv_iload_n hx hb dX4_decode_4 rfl (lv_at hl 1 rfl) ?_
  refine lv_aload_n hx hb dX4_decode_5 rfl (lv_at hl 0 rfl) ?_
  refine va_get (D := D) (ci := 4) (v := .ref (A0 0 0)) (C := RX4) (T := TX4) (N := 3) hx hb hts inX4_decode_4 hown hK.1 hP 0 rfl rfl 0 (by decide) (hts (.fieldLink RX4 12 "LyingScale" "now" "LLyingScale$State;") (List.mem_of_getElem? (i := 3) rfl)) (fun _ h9 => h9) rfl dX4_decode_6 ?_
  refine va_getN (D := D) (ci := 2) (v := .ref (A0 0 2)) (C := RX2) (T := TX2) (N := 9) hx hb hts inX4_decode_2 hown hK.1 hP 3 rfl rfl 1 (by decide) (va_Nw.use rfl (hK.2 (.fieldLinkNest RX4 122 "LyingScale$State" "plan" "LLyingScale$Weighings;" "LyingScale") (List.mem_of_getElem? (i := 0) rfl))) (fun _ h9 => h9) rfl dX4_decode_9 ?_
  replace h := bd h
  obtain ⟨t2, et2, h⟩ := h
  refine callRi (v := t2) (va_runV (As := []) (rest := [.int v1]) ⟨hx, hb, hml, hown, hts⟩ (c_X3_answerRows l D T (plA (A0 0)) 8 (plS (Z0 0)) (Nat.le_of_ble_eq_true rfl) t2 et2) (cwV 0 hts gX4_decode_X3_answerRows rfl rfl rfl hdV_X3_answerRows ⟨Nat.le_of_ble_eq_true rfl, Nat.le_of_ble_eq_true rfl⟩) ⟨PB_blind, va_recv hK.1 hP (ci := 3) (q0 := 5) rfl rfl, PB_at (hP.sub (ws' := wgW T 8 (plA (A0 0)) (plS (Z0 0))) [5, 11, 12, 13] rfl) hK⟩ rfl rfl hl.1 rfl (lv_room (Nat.le_of_ble_eq_true rfl)) dX4_decode_12 ⟨Nat.zero_le _, Nat.zero_le _⟩) ?_
  refine lv_icmp_lt (tgt := 28) hx hb dX4_decode_15 (by decide) (fun c3 => ?_) (fun c3 => ?_)
  · replace h := ip c3 h
    refine lv_aload_n hx hb dX4_decode_28 rfl (lv_at hl 0 rfl) ?_
    refine va_get (D := D) (ci := 4) (v := .ref (A0 0 0)) (C := RX4) (T := TX4) (N := 3) hx hb hts inX4_decode_4 hown hK.1 hP 0 rfl rfl 0 (by decide) (hts (.fieldLink RX4 12 "LyingScale" "now" "LLyingScale$State;") (List.mem_of_getElem? (i := 3) rfl)) (fun _ h9 => h9) rfl dX4_decode_29 ?_
    refine lv_iload_n hx hb dX4_decode_32 rfl (lv_at hl 1 rfl) ?_
    replace h := bd h
    obtain ⟨t4, et4, h⟩ := h
    refine callRi (v := t4) (va_runS (As := [.int v1]) (rest := [.ref (A0 0 0)]) ⟨hx, hb, hml, hown, hts⟩ (c_X4_wordOf l D T v1 t4 et4) (va_cwS 1 hts gX4_decode_X4_wordOf rfl rfl rfl hdS_X4_wordOf ⟨Nat.le_of_ble_eq_true rfl, Nat.le_of_ble_eq_true rfl⟩) ⟨PB_blind, PB_at (hP.sub (ws' := ([] : va_W)) [] rfl) hK⟩ rfl rfl hl.1 rfl (lv_room (Nat.le_of_ble_eq_true rfl)) dX4_decode_33 ⟨Nat.zero_le _, Nat.zero_le _⟩) ?_
    replace h := bd h
    obtain ⟨t5, et5, h⟩ := h
    refine callRi (v := t5) (va_runV (As := [.int t4]) (rest := []) ⟨hx, hb, hml, hown, hts⟩ (c_X2_nearestCase l D T (A0 0) (Z0 0) t4 t5 et5) (cwV 1 hts gX4_decode_X2_nearestCase rfl rfl rfl hdV_X2_nearestCase ⟨Nat.le_of_ble_eq_true rfl, Nat.le_of_ble_eq_true rfl⟩) ⟨PB_blind, va_recv hK.1 hP (ci := 2) (q0 := 3) rfl rfl, PB_at (hP.sub (ws' := stW T (A0 0) (Z0 0)) [3, 4, 5, 6, 7, 8, 9, 10, 11, 12, 13] rfl) hK⟩ rfl rfl hl.1 rfl (lv_room (Nat.le_of_ble_eq_true rfl)) dX4_decode_36 ⟨Nat.zero_le _, Nat.zero_le _⟩) ?_
    obtain rfl := Option.some.inj h
    refine vx_ret ?_
    refine W.widen (k := 1) (n := 6) (Nat.zero_le _) (Nat.zero_le _) ?_
    exact W.iret hx hb hr (fun t ht hW => ⟨⟨_, (A0, Z0), rfl, rfl, by rw [ht]; exact hP, hD⟩, hS.F ht⟩) hS.2.2 dX4_decode_39 hlocks
  replace h := im c3 h
  obtain rfl := Option.some.inj h
  obtain ⟨sa, hsa⟩ := hE.2.2.1 (196, "answers is out of range") (List.mem_of_getElem? (i := 14) rfl)
  exact vx_throwS (A := A) (names := exNm) (ik := 30) (is := 196) (ic := 34) (sa := sa) hx hb hfl hown (by decide +kernel) exFit (hts (.classLink RX4 30 "java/lang/IllegalArgumentException") (List.mem_of_getElem? (i := 1) rfl)) (hts (.initialized "java/lang/IllegalArgumentException") (List.mem_of_getElem? (i := 2) rfl)) hsa (vx_hat (fun w hw => hts w (atmX4_decode_34 w hw)) bad_34 (exB34 hE.2.2.2)) ot_34 hE.1 hE.2.1 hS (hl.1.trans hml.symm) dX4_decode_18 dX4_decode_21 dX4_decode_22 dX4_decode_24 dX4_decode_27 (fun x hx => (hno x hx).elim) (Nat.le_of_ble_eq_true rfl) (Nat.le_of_ble_eq_true rfl) (Nat.le_of_ble_eq_true rfl) (Nat.le_of_ble_eq_true rfl) hlocks (fun t hv hz hk => ⟨(), trivial, rfl, hz, fun q hq _ => hk q hq⟩) hS.2.2 (Nat.le_of_ble_eq_true rfl) (Nat.le_of_ble_eq_true rfl)
set_option maxHeartbeats 4000000 in
set_option maxRecDepth 100000 in
theorem c_X4_share (l : Launch) (D : va_G) (T : Nat → ClassId) (h0 : Nat) (A0 : Nat → Nat → Nat) (Z0 : Nat → St) (sz : Nat) (r : UInt64 × (Nat → St)) (h : F_X4_share Z0 = some r) : Met l yX4_share wsX4_share ({ frames := 3, cells := 0, slots := 0, locals := 64 } : Room) (va_Pc [.ref h0] (PM D T (scW T h0 A0 (Z0)) sz)) (QEd D (scW T h0) r.1 r.2 (va_A (scW T h0 A0 (Z0)) sz)) 0 0 (va_A (scW T h0 A0 (Z0)) sz) := by
  refine met_of (cc := cX4_share) (maxL := 1) (ret := (some .double)) (lv := [(0, .ref h0)]) (by decide) rfl (Nat.le_of_ble_eq_true rfl) rfl ?_
  intro p e s m args below meth c ls C0 hl hB
  obtain ⟨hx, hb, hr, hml, hown, hts, hlocks, hname⟩ := C0
  obtain ⟨hsz, hP, hK, hD0⟩ := hB
  subst hsz
  have hD := hD0.self (sz := s.heap.size)
  generalize hAe : va_A (scW T h0 A0 (Z0)) s.heap.size = A at hD ⊢
  have hA : ∀ q : Nat, s.heap.size ≤ q → A q := fun q h => by rw [← hAe]; exact Or.inr h
  have hS : va_S A s.heap s.heap [] := va_S.rf
  unfold F_X4_share at h
  refine lv_aload_n hx hb dX4_share_0 rfl (lv_at hl 0 rfl) ?_
  refine va_get (D := D) (ci := 4) (v := .ref (A0 0 0)) (C := RX4) (T := TX4) (N := 3) hx hb hts inX4_share_4 hown hK.1 hP 0 rfl rfl 0 (by decide) (hts (.fieldLink RX4 12 "LyingScale" "now" "LLyingScale$State;") (List.mem_of_getElem? (i := 1) rfl)) (fun _ h9 => h9) rfl dX4_share_1 ?_
  replace h := bd h
  obtain ⟨t1, et1, h⟩ := h
  refine callRi (v := t1) (va_runV (As := []) (rest := []) ⟨hx, hb, hml, hown, hts⟩ (c_X2_countLeft l D T (A0 0) (Z0 0) t1 et1) (cwV 0 hts gX4_share_X2_countLeft rfl rfl rfl hdV_X2_countLeft ⟨Nat.le_of_ble_eq_true rfl, Nat.le_of_ble_eq_true rfl⟩) ⟨PB_blind, va_recv hK.1 hP (ci := 2) (q0 := 3) rfl rfl, PB_at (hP.sub (ws' := stW T (A0 0) (Z0 0)) [3, 4, 5, 6, 7, 8, 9, 10, 11, 12, 13] rfl) hK⟩ rfl rfl hl.1 rfl (lv_room (Nat.le_of_ble_eq_true rfl)) dX4_share_4 ⟨Nat.zero_le _, Nat.zero_le _⟩) ?_
  refine lv_i2d hx hb dX4_share_7 ?_
  refine lv_aload_n hx hb dX4_share_8 rfl (lv_at hl 0 rfl) ?_
  refine va_get (D := D) (ci := 4) (v := .ref (A0 0 0)) (C := RX4) (T := TX4) (N := 3) hx hb hts inX4_share_4 hown hK.1 hP 0 rfl rfl 0 (by decide) (hts (.fieldLink RX4 12 "LyingScale" "now" "LLyingScale$State;") (List.mem_of_getElem? (i := 1) rfl)) (fun _ h9 => h9) rfl dX4_share_9 ?_
  replace h := bd h
  obtain ⟨t2, et2, h⟩ := h
  refine callRi (v := t2) (va_runV (As := []) (rest := [.double (FP.i2d t1)]) ⟨hx, hb, hml, hown, hts⟩ (c_X2_cases l D T (A0 0) (Z0 0) t2 et2) (cwV 0 hts gX4_share_X2_cases rfl rfl rfl hdV_X2_cases ⟨Nat.le_of_ble_eq_true rfl, Nat.le_of_ble_eq_true rfl⟩) ⟨PB_blind, va_recv hK.1 hP (ci := 2) (q0 := 3) rfl rfl, PB_at (hP.sub (ws' := stW T (A0 0) (Z0 0)) [3, 4, 5, 6, 7, 8, 9, 10, 11, 12, 13] rfl) hK⟩ rfl rfl hl.1 rfl (lv_room (Nat.le_of_ble_eq_true rfl)) dX4_share_12 ⟨Nat.zero_le _, Nat.zero_le _⟩) ?_
  refine lv_i2d hx hb dX4_share_15 ?_
  replace h := gd h
  obtain ⟨g3, h⟩ := h
  refine lv_ddiv hx hb dX4_share_16 (nnD g3) ?_
  obtain rfl := Option.some.inj h
  exact W.dret hx hb hr (fun t ht hW => ⟨⟨_, A0, rfl, rfl, by rw [ht]; exact hP, hD⟩, hS.F ht⟩) hS.2.2 dX4_share_17 hlocks
set_option maxHeartbeats 4000000 in
set_option maxRecDepth 100000 in
theorem c_X4_append (l : Launch) (hfl : l.stackTraces = false) (D : va_G) (T : Nat → ClassId) (h0 : Nat) (A0 : Nat → Nat → Nat) (Z0 : Nat → St) (v1 : Int32) (sz : Nat) (r : Sum String (Int32 × (Nat → St))) (h : F_X4_append Z0 v1 = some r) : vx_Met l yX4_append wsX4_append ({ frames := 6, cells := 1, slots := 6, locals := 82 } : Room) (va_Pc [.ref h0, .int v1] (PX D T (scW T h0 A0 (Z0)) sz)) (QXi D (scW T h0) r (va_A (scW T h0 A0 (Z0)) sz)) (XXq r) 1 6 (va_A (scW T h0 A0 (Z0)) sz) := by
  refine met_ofX (cc := cX4_append) (maxL := 2) (ret := (some .int)) (lv := [(0, .ref h0), (1, .int v1)]) (by decide) rfl (Nat.le_of_ble_eq_true rfl) rfl ?_
  intro p e s m args below meth c ls C0 hno hl hB
  obtain ⟨hx, hb, hr, hml, hown, hts, hlocks, hname⟩ := C0
  obtain ⟨⟨hsz, hP, hK, hD0⟩, hE⟩ := hB
  subst hsz
  have hD := hD0.self (sz := s.heap.size)
  generalize hAe : va_A (scW T h0 A0 (Z0)) s.heap.size = A at hD hE ⊢
  have hA : ∀ q : Nat, s.heap.size ≤ q → A q := fun q h => by rw [← hAe]; exact Or.inr h
  have hS : va_S A s.heap s.heap [] := va_S.rf
  unfold F_X4_append at h
  refine lv_iload_n hx hb dX4_append_0 rfl (lv_at hl 1 rfl) ?_
  refine lv_if_lt (tgt := 10) hx hb dX4_append_1 (by decide) (fun c1 => ?_) (fun c1 => ?_)
  · replace h := ip c1 h
    obtain rfl := Option.some.inj h
    obtain ⟨sa, hsa⟩ := hE.2.2.1 (207, "value is out of range") (List.mem_of_getElem? (i := 15) rfl)
    exact vx_throwS (A := A) (names := exNm) (ik := 30) (is := 207) (ic := 34) (sa := sa) hx hb hfl hown (by decide +kernel) exFit (hts (.classLink RX4 30 "java/lang/IllegalArgumentException") (List.mem_of_getElem? (i := 1) rfl)) (hts (.initialized "java/lang/IllegalArgumentException") (List.mem_of_getElem? (i := 2) rfl)) hsa (vx_hat (fun w hw => hts w (atmX4_append_34 w hw)) bad_34 (exB34 hE.2.2.2)) ot_34 hE.1 hE.2.1 hS (hl.1.trans hml.symm) dX4_append_10 dX4_append_13 dX4_append_14 dX4_append_16 dX4_append_19 (fun x hx => (hno x hx).elim) (Nat.le_of_ble_eq_true rfl) (Nat.le_of_ble_eq_true rfl) (Nat.le_of_ble_eq_true rfl) (Nat.le_of_ble_eq_true rfl) hlocks (fun t hv hz hk => ⟨(), trivial, rfl, hz, fun q hq _ => hk q hq⟩) hS.2.2 (Nat.le_of_ble_eq_true rfl) (Nat.le_of_ble_eq_true rfl)
  replace h := im c1 h
  refine lv_iload_n hx hb dX4_append_4 rfl (lv_at hl 1 rfl) ?_
  refine lv_bipush (v := 127) hx hb dX4_append_5 (by decide) ?_
  refine lv_icmp_le (tgt := 20) hx hb dX4_append_7 (by decide) (fun c2 => ?_) (fun c2 => ?_)
  · replace h := ip c2 h
    refine lv_aload_n hx hb dX4_append_20 rfl (lv_at hl 0 rfl) ?_
    refine va_get (D := D) (ci := 4) (v := .ref (A0 5 0)) (C := RX4) (T := TX4) (N := 3) hx hb hts inX4_append_4 hown hK.1 hP 0 rfl rfl 2 (by decide) (hts (.fieldLink RX4 26 "LyingScale" "orders" "LLyingScale$Orders;") (List.mem_of_getElem? (i := 5) rfl)) (fun _ h9 => h9) rfl dX4_append_21 ?_
    refine va_getN (D := D) (ci := 1) (v := .int ((Z0 5).1 0)) (C := RX1) (T := TX1) (N := 9) hx hb hts inX4_append_1 hown hK.1 hP 58 rfl rfl 4 (by decide) (va_Nw.use rfl (hK.2 (.fieldLinkNest RX4 209 "LyingScale$Orders" "length" "I" "LyingScale") (List.mem_of_getElem? (i := 2) rfl))) (fun _ h9 => h9) rfl dX4_append_24 ?_
    refine lv_bipush (v := 100) hx hb dX4_append_27 (by decide) ?_
    refine lv_icmp_lt (tgt := 42) hx hb dX4_append_29 (by decide) (fun c3 => ?_) (fun c3 => ?_)
    · replace h := ip c3 h
      refine lv_aload_n hx hb dX4_append_42 rfl (lv_at hl 0 rfl) ?_
      refine va_get (D := D) (ci := 4) (v := .ref (A0 5 0)) (C := RX4) (T := TX4) (N := 3) hx hb hts inX4_append_4 hown hK.1 hP 0 rfl rfl 2 (by decide) (hts (.fieldLink RX4 26 "LyingScale" "orders" "LLyingScale$Orders;") (List.mem_of_getElem? (i := 5) rfl)) (fun _ h9 => h9) rfl dX4_append_43 ?_
      refine lv_iload_n hx hb dX4_append_46 rfl (lv_at hl 1 rfl) ?_
      replace h := bd h
      obtain ⟨t4, et4, h⟩ := h
      refine callMv (wr := [(h0, .inr (4, [.ref (A0 0 0), .ref (A0 6 1), .ref (A0 5 0)])), (A0 6 1, .inr (0, [.ref (A0 6 2), .int ((Z0 6).1 0)])), (A0 6 2, .inl (T 3, 4, .inr (.inr (.inr (.inr (hsQ A0)))))), (A0 0 0, .inr (2, [.ref (A0 0 1), .ref (A0 0 2), .ref (A0 0 3), .ref (A0 0 4), .int ((Z0 0).1 0), .int ((Z0 0).1 1), .int ((Z0 0).1 2), .int ((Z0 0).1 3), .int ((Z0 0).1 4)])), (A0 0 1, .inr (3, [.ref (A0 0 5), .ref (A0 0 6), .ref (A0 0 7), .int ((Z0 0).1 5)])), (A0 0 2, .inr (3, [.ref (A0 0 8), .ref (A0 0 9), .ref (A0 0 10), .int ((Z0 0).1 6)])), (A0 0 3, .inl (T 0, 33, .inl ((Z0 0).2 6))), (A0 0 4, .inl (T 0, 33, .inl ((Z0 0).2 7))), (A0 0 5, .inl (T 0, 40, .inl ((Z0 0).2 0))), (A0 0 6, .inl (T 0, 40, .inl ((Z0 0).2 1))), (A0 0 7, .inl (T 0, 40, .inl ((Z0 0).2 2))), (A0 0 8, .inl (T 0, 8, .inl ((Z0 0).2 3))), (A0 0 9, .inl (T 0, 8, .inl ((Z0 0).2 4))), (A0 0 10, .inl (T 0, 8, .inl ((Z0 0).2 5))), (A0 1 0, .inr (2, [.ref (A0 1 1), .ref (A0 1 2), .ref (A0 1 3), .ref (A0 1 4), .int ((Z0 1).1 0), .int ((Z0 1).1 1), .int ((Z0 1).1 2), .int ((Z0 1).1 3), .int ((Z0 1).1 4)])), (A0 1 1, .inr (3, [.ref (A0 1 5), .ref (A0 1 6), .ref (A0 1 7), .int ((Z0 1).1 5)])), (A0 1 2, .inr (3, [.ref (A0 1 8), .ref (A0 1 9), .ref (A0 1 10), .int ((Z0 1).1 6)])), (A0 1 3, .inl (T 0, 33, .inl ((Z0 1).2 6))), (A0 1 4, .inl (T 0, 33, .inl ((Z0 1).2 7))), (A0 1 5, .inl (T 0, 40, .inl ((Z0 1).2 0))), (A0 1 6, .inl (T 0, 40, .inl ((Z0 1).2 1))), (A0 1 7, .inl (T 0, 40, .inl ((Z0 1).2 2))), (A0 1 8, .inl (T 0, 8, .inl ((Z0 1).2 3))), (A0 1 9, .inl (T 0, 8, .inl ((Z0 1).2 4))), (A0 1 10, .inl (T 0, 8, .inl ((Z0 1).2 5))), (A0 2 0, .inr (2, [.ref (A0 2 1), .ref (A0 2 2), .ref (A0 2 3), .ref (A0 2 4), .int ((Z0 2).1 0), .int ((Z0 2).1 1), .int ((Z0 2).1 2), .int ((Z0 2).1 3), .int ((Z0 2).1 4)])), (A0 2 1, .inr (3, [.ref (A0 2 5), .ref (A0 2 6), .ref (A0 2 7), .int ((Z0 2).1 5)])), (A0 2 2, .inr (3, [.ref (A0 2 8), .ref (A0 2 9), .ref (A0 2 10), .int ((Z0 2).1 6)])), (A0 2 3, .inl (T 0, 33, .inl ((Z0 2).2 6))), (A0 2 4, .inl (T 0, 33, .inl ((Z0 2).2 7))), (A0 2 5, .inl (T 0, 40, .inl ((Z0 2).2 0))), (A0 2 6, .inl (T 0, 40, .inl ((Z0 2).2 1))), (A0 2 7, .inl (T 0, 40, .inl ((Z0 2).2 2))), (A0 2 8, .inl (T 0, 8, .inl ((Z0 2).2 3))), (A0 2 9, .inl (T 0, 8, .inl ((Z0 2).2 4))), (A0 2 10, .inl (T 0, 8, .inl ((Z0 2).2 5))), (A0 3 0, .inr (2, [.ref (A0 3 1), .ref (A0 3 2), .ref (A0 3 3), .ref (A0 3 4), .int ((Z0 3).1 0), .int ((Z0 3).1 1), .int ((Z0 3).1 2), .int ((Z0 3).1 3), .int ((Z0 3).1 4)])), (A0 3 1, .inr (3, [.ref (A0 3 5), .ref (A0 3 6), .ref (A0 3 7), .int ((Z0 3).1 5)])), (A0 3 2, .inr (3, [.ref (A0 3 8), .ref (A0 3 9), .ref (A0 3 10), .int ((Z0 3).1 6)])), (A0 3 3, .inl (T 0, 33, .inl ((Z0 3).2 6))), (A0 3 4, .inl (T 0, 33, .inl ((Z0 3).2 7))), (A0 3 5, .inl (T 0, 40, .inl ((Z0 3).2 0))), (A0 3 6, .inl (T 0, 40, .inl ((Z0 3).2 1))), (A0 3 7, .inl (T 0, 40, .inl ((Z0 3).2 2))), (A0 3 8, .inl (T 0, 8, .inl ((Z0 3).2 3))), (A0 3 9, .inl (T 0, 8, .inl ((Z0 3).2 4))), (A0 3 10, .inl (T 0, 8, .inl ((Z0 3).2 5))), (A0 4 0, .inr (2, [.ref (A0 4 1), .ref (A0 4 2), .ref (A0 4 3), .ref (A0 4 4), .int ((Z0 4).1 0), .int ((Z0 4).1 1), .int ((Z0 4).1 2), .int ((Z0 4).1 3), .int ((Z0 4).1 4)])), (A0 4 1, .inr (3, [.ref (A0 4 5), .ref (A0 4 6), .ref (A0 4 7), .int ((Z0 4).1 5)])), (A0 4 2, .inr (3, [.ref (A0 4 8), .ref (A0 4 9), .ref (A0 4 10), .int ((Z0 4).1 6)])), (A0 4 3, .inl (T 0, 33, .inl ((Z0 4).2 6))), (A0 4 4, .inl (T 0, 33, .inl ((Z0 4).2 7))), (A0 4 5, .inl (T 0, 40, .inl ((Z0 4).2 0))), (A0 4 6, .inl (T 0, 40, .inl ((Z0 4).2 1))), (A0 4 7, .inl (T 0, 40, .inl ((Z0 4).2 2))), (A0 4 8, .inl (T 0, 8, .inl ((Z0 4).2 3))), (A0 4 9, .inl (T 0, 8, .inl ((Z0 4).2 4))), (A0 4 10, .inl (T 0, 8, .inl ((Z0 4).2 5)))]) (ws' := scW T h0 A0 (zU Z0 5 t4)) (va_runV (As := [.int v1]) (rest := []) ⟨hx, hb, hml, hown, hts⟩ (c_X1_write l D T (A0 5) (Z0 5) v1 _ t4 et4) (cwV 1 hts gX4_append_X1_write rfl rfl rfl hdV_X1_write ⟨Nat.le_of_ble_eq_true rfl, Nat.le_of_ble_eq_true rfl⟩) ⟨PM_blind, va_recv hK.1 hP (ci := 1) (q0 := 58) rfl rfl, PM_at (hP.sub (ws' := orW T (A0 5) (Z0 5)) [58, 59, 60, 61, 62] rfl) (hD.sub (ws' := orW T (A0 5) (Z0 5)) [58, 59, 60, 61, 62] (by decide) rfl) hK⟩ rfl rfl hl.1 rfl (lv_room (Nat.le_of_ble_eq_true rfl)) dX4_append_47 ⟨Nat.zero_le _, Nat.zero_le _⟩) hS hA hP hD [58, 59, 60, 61, 62] [0, 1, 2, 3, 4, 5, 6, 7, 8, 9, 10, 11, 12, 13, 14, 15, 16, 17, 18, 19, 20, 21, 22, 23, 24, 25, 26, 27, 28, 29, 30, 31, 32, 33, 34, 35, 36, 37, 38, 39, 40, 41, 42, 43, 44, 45, 46, 47, 48, 49, 50, 51, 52, 53, 54, 55, 56, 57] rfl rfl (by decide) (by decide) [0, 1, 2, 3, 4, 5, 6, 7, 8, 9, 10, 11, 12, 13, 14, 15, 16, 17, 18, 19, 20, 21, 22, 23, 24, 25, 26, 27, 28, 29, 30, 31, 32, 33, 34, 35, 36, 37, 38, 39, 40, 41, 42, 43, 44, 45, 46, 47, 48, 49, 50, 51, 52, 53, 54, 55, 56, 57, 58, 59, 60, 61, 62] (by decide) rfl (fun H locs hP hD hS => ?_)
      refine lv_aload_n hx hb dX4_append_50 rfl (lv_at hl 0 rfl) ?_
      refine va_get (D := D) (ci := 4) (v := .ref (A0 5 0)) (C := RX4) (T := TX4) (N := 3) hx hb hts inX4_append_4 hown hK.1 hP 0 rfl rfl 2 (by decide) (hts (.fieldLink RX4 26 "LyingScale" "orders" "LLyingScale$Orders;") (List.mem_of_getElem? (i := 5) rfl)) (fun _ h9 => h9) rfl dX4_append_51 ?_
      refine va_getN (D := D) (ci := 1) (v := .int (((zU Z0 5 t4) 5).1 0)) (C := RX1) (T := TX1) (N := 9) hx hb hts inX4_append_1 hown hK.1 hP 58 rfl rfl 4 (by decide) (va_Nw.use rfl (hK.2 (.fieldLinkNest RX4 209 "LyingScale$Orders" "length" "I" "LyingScale") (List.mem_of_getElem? (i := 2) rfl))) (fun _ h9 => h9) rfl dX4_append_54 ?_
      obtain rfl := Option.some.inj h
      refine vx_ret ?_
      refine W.widen (k := 1) (n := 6) (Nat.zero_le _) (Nat.zero_le _) ?_
      exact W.iret hx hb hr (fun t ht hW => ⟨⟨_, (A0, zU Z0 5 t4), rfl, rfl, by rw [ht]; exact hP, hD⟩, hS.F ht⟩) hS.2.2 dX4_append_57 hlocks
    replace h := im c3 h
    obtain rfl := Option.some.inj h
    obtain ⟨sa, hsa⟩ := hE.2.2.1 (212, "the text has 100 bytes") (List.mem_of_getElem? (i := 16) rfl)
    exact vx_throwS (A := A) (names := exNm) (ik := 78) (is := 212) (ic := 82) (sa := sa) hx hb hfl hown (by decide +kernel) exFit (hts (.classLink RX4 78 "java/lang/IllegalStateException") (List.mem_of_getElem? (i := 3) rfl)) (hts (.initialized "java/lang/IllegalStateException") (List.mem_of_getElem? (i := 4) rfl)) hsa (vx_hat (fun w hw => hts w (atmX4_append_82 w hw)) bad_82 (exB82 hE.2.2.2)) ot_82 hE.1 hE.2.1 hS (hl.1.trans hml.symm) dX4_append_32 dX4_append_35 dX4_append_36 dX4_append_38 dX4_append_41 (fun x hx => (hno x hx).elim) (Nat.le_of_ble_eq_true rfl) (Nat.le_of_ble_eq_true rfl) (Nat.le_of_ble_eq_true rfl) (Nat.le_of_ble_eq_true rfl) hlocks (fun t hv hz hk => ⟨(), trivial, rfl, hz, fun q hq _ => hk q hq⟩) hS.2.2 (Nat.le_of_ble_eq_true rfl) (Nat.le_of_ble_eq_true rfl)
  replace h := im c2 h
  obtain rfl := Option.some.inj h
  obtain ⟨sa, hsa⟩ := hE.2.2.1 (207, "value is out of range") (List.mem_of_getElem? (i := 15) rfl)
  exact vx_throwS (A := A) (names := exNm) (ik := 30) (is := 207) (ic := 34) (sa := sa) hx hb hfl hown (by decide +kernel) exFit (hts (.classLink RX4 30 "java/lang/IllegalArgumentException") (List.mem_of_getElem? (i := 1) rfl)) (hts (.initialized "java/lang/IllegalArgumentException") (List.mem_of_getElem? (i := 2) rfl)) hsa (vx_hat (fun w hw => hts w (atmX4_append_34 w hw)) bad_34 (exB34 hE.2.2.2)) ot_34 hE.1 hE.2.1 hS (hl.1.trans hml.symm) dX4_append_10 dX4_append_13 dX4_append_14 dX4_append_16 dX4_append_19 (fun x hx => (hno x hx).elim) (Nat.le_of_ble_eq_true rfl) (Nat.le_of_ble_eq_true rfl) (Nat.le_of_ble_eq_true rfl) (Nat.le_of_ble_eq_true rfl) hlocks (fun t hv hz hk => ⟨(), trivial, rfl, hz, fun q hq _ => hk q hq⟩) hS.2.2 (Nat.le_of_ble_eq_true rfl) (Nat.le_of_ble_eq_true rfl)
set_option maxHeartbeats 4000000 in
set_option maxRecDepth 100000 in
theorem c_X4_clearText (l : Launch) (D : va_G) (T : Nat → ClassId) (h0 : Nat) (A0 : Nat → Nat → Nat) (Z0 : Nat → St) (sz : Nat) (r : Int32 × (Nat → St)) (h : F_X4_clearText Z0 = some r) : Met l yX4_clearText wsX4_clearText ({ frames := 0, cells := 0, slots := 0, locals := 0 } : Room) (va_Pc [.ref h0] (PM D T (scW T h0 A0 (Z0)) sz)) (QEi D (scW T h0) r.1 r.2 (va_A (scW T h0 A0 (Z0)) sz)) 0 0 (va_A (scW T h0 A0 (Z0)) sz) := by
  refine met_of (cc := cX4_clearText) (maxL := 2) (ret := (some .int)) (lv := [(0, .ref h0)]) (by decide) rfl (Nat.le_of_ble_eq_true rfl) rfl ?_
  intro p e s m args below meth c ls C0 hl hB
  obtain ⟨hx, hb, hr, hml, hown, hts, hlocks, hname⟩ := C0
  obtain ⟨hsz, hP, hK, hD0⟩ := hB
  subst hsz
  have hD := hD0.self (sz := s.heap.size)
  generalize hAe : va_A (scW T h0 A0 (Z0)) s.heap.size = A at hD ⊢
  have hA : ∀ q : Nat, s.heap.size ≤ q → A q := fun q h => by rw [← hAe]; exact Or.inr h
  have hS : va_S A s.heap s.heap [] := va_S.rf
  unfold F_X4_clearText at h
  refine lv_aload_n hx hb dX4_clearText_0 rfl (lv_at hl 0 rfl) ?_
  refine va_get (D := D) (ci := 4) (v := .ref (A0 5 0)) (C := RX4) (T := TX4) (N := 3) hx hb hts inX4_clearText_4 hown hK.1 hP 0 rfl rfl 2 (by decide) (hts (.fieldLink RX4 26 "LyingScale" "orders" "LLyingScale$Orders;") (List.mem_of_getElem? (i := 1) rfl)) (fun _ h9 => h9) rfl dX4_clearText_1 ?_
  refine va_getN (D := D) (ci := 1) (v := .int ((Z0 5).1 0)) (C := RX1) (T := TX1) (N := 9) hx hb hts inX4_clearText_1 hown hK.1 hP 58 rfl rfl 4 (by decide) (va_Nw.use rfl (hK.2 (.fieldLinkNest RX4 209 "LyingScale$Orders" "length" "I" "LyingScale") (List.mem_of_getElem? (i := 2) rfl))) (fun _ h9 => h9) rfl dX4_clearText_4 ?_
  refine lv_istore_n (lv' := [(1, .int ((Z0 5).1 0)), (0, .ref h0)]) hx hb dX4_clearText_7 rfl hl (by decide) rfl (fun ls hl => ?_)
  refine lv_aload_n hx hb dX4_clearText_8 rfl (lv_at hl 1 rfl) ?_
  refine va_get (D := D) (ci := 4) (v := .ref (A0 5 0)) (C := RX4) (T := TX4) (N := 3) hx hb hts inX4_clearText_4 hown hK.1 hP 0 rfl rfl 2 (by decide) (hts (.fieldLink RX4 26 "LyingScale" "orders" "LLyingScale$Orders;") (List.mem_of_getElem? (i := 1) rfl)) (fun _ h9 => h9) rfl dX4_clearText_9 ?_
  refine lv_iconst (v := 0) hx hb dX4_clearText_12 (by decide) ?_
  refine va_putN (D := D) (ci := 1) (v := .int 0) (ty := .int) (C := RX1) (T := TX1) (N := 9) hx hb hts inX4_clearText_1 tyX1 tyX1_ok nmX1 hown hK.1 hP hD hS 58 rfl rfl 4 (by decide) (va_Nw.use rfl (hK.2 (.fieldLinkNest RX4 209 "LyingScale$Orders" "length" "I" "LyingScale") (List.mem_of_getElem? (i := 2) rfl))) (fun _ h9 => h9) rfl (by decide +kernel) rfl rfl (Nat.le_of_ble_eq_true rfl) dX4_clearText_13 (fun H locs hP hD hS => ?_)
  replace hP : va_P D vwCl (scW T h0 A0 (zU Z0 5 (sI (Z0 5) 0 0))) H := hP
  replace hD : va_D A (scW T h0 A0 (zU Z0 5 (sI (Z0 5) 0 0))) := hD
  refine lv_iload_n hx hb dX4_clearText_16 rfl (lv_at hl 0 rfl) ?_
  obtain rfl := Option.some.inj h
  exact W.iret hx hb hr (fun t ht hW => ⟨⟨_, A0, rfl, rfl, by rw [ht]; exact hP, hD⟩, hS.F ht⟩) hS.2.2 dX4_clearText_17 hlocks
set_option maxHeartbeats 4000000 in
set_option maxRecDepth 100000 in
theorem c_X4_carryOut (l : Launch) (D : va_G) (T : Nat → ClassId) (h0 : Nat) (A0 : Nat → Nat → Nat) (Z0 : Nat → St) (sz : Nat) (r : Int32 × (Nat → St)) (h : F_X4_carryOut Z0 = some r) : Met l yX4_carryOut wsX4_carryOut ({ frames := 6, cells := 0, slots := 0, locals := 139 } : Room) (va_Pc [.ref h0] (PM D T (scW T h0 A0 (Z0)) sz)) (QEi D (scW T h0) r.1 r.2 (va_A (scW T h0 A0 (Z0)) sz)) 0 0 (va_A (scW T h0 A0 (Z0)) sz) := by
  refine met_of (cc := cX4_carryOut) (maxL := 3) (ret := (some .int)) (lv := [(0, .ref h0)]) (by decide) rfl (Nat.le_of_ble_eq_true rfl) rfl ?_
  intro p e s m args below meth c ls C0 hl hB
  obtain ⟨hx, hb, hr, hml, hown, hts, hlocks, hname⟩ := C0
  obtain ⟨hsz, hP, hK, hD0⟩ := hB
  subst hsz
  have hD := hD0.self (sz := s.heap.size)
  generalize hAe : va_A (scW T h0 A0 (Z0)) s.heap.size = A at hD ⊢
  have hA : ∀ q : Nat, s.heap.size ≤ q → A q := fun q h => by rw [← hAe]; exact Or.inr h
  have hS : va_S A s.heap s.heap [] := va_S.rf
  unfold F_X4_carryOut at h
  refine lv_aload_n hx hb dX4_carryOut_0 rfl (lv_at hl 0 rfl) ?_
  refine va_get (D := D) (ci := 4) (v := .ref (A0 5 0)) (C := RX4) (T := TX4) (N := 3) hx hb hts inX4_carryOut_4 hown hK.1 hP 0 rfl rfl 2 (by decide) (hts (.fieldLink RX4 26 "LyingScale" "orders" "LLyingScale$Orders;") (List.mem_of_getElem? (i := 1) rfl)) (fun _ h9 => h9) rfl dX4_carryOut_1 ?_
  replace h := bd h
  obtain ⟨t1, et1, h⟩ := h
  refine callMi (wr := [(h0, .inr (4, [.ref (A0 0 0), .ref (A0 6 1), .ref (A0 5 0)])), (A0 6 1, .inr (0, [.ref (A0 6 2), .int ((Z0 6).1 0)])), (A0 6 2, .inl (T 3, 4, .inr (.inr (.inr (.inr (hsQ A0)))))), (A0 0 0, .inr (2, [.ref (A0 0 1), .ref (A0 0 2), .ref (A0 0 3), .ref (A0 0 4), .int ((Z0 0).1 0), .int ((Z0 0).1 1), .int ((Z0 0).1 2), .int ((Z0 0).1 3), .int ((Z0 0).1 4)])), (A0 0 1, .inr (3, [.ref (A0 0 5), .ref (A0 0 6), .ref (A0 0 7), .int ((Z0 0).1 5)])), (A0 0 2, .inr (3, [.ref (A0 0 8), .ref (A0 0 9), .ref (A0 0 10), .int ((Z0 0).1 6)])), (A0 0 3, .inl (T 0, 33, .inl ((Z0 0).2 6))), (A0 0 4, .inl (T 0, 33, .inl ((Z0 0).2 7))), (A0 0 5, .inl (T 0, 40, .inl ((Z0 0).2 0))), (A0 0 6, .inl (T 0, 40, .inl ((Z0 0).2 1))), (A0 0 7, .inl (T 0, 40, .inl ((Z0 0).2 2))), (A0 0 8, .inl (T 0, 8, .inl ((Z0 0).2 3))), (A0 0 9, .inl (T 0, 8, .inl ((Z0 0).2 4))), (A0 0 10, .inl (T 0, 8, .inl ((Z0 0).2 5))), (A0 1 0, .inr (2, [.ref (A0 1 1), .ref (A0 1 2), .ref (A0 1 3), .ref (A0 1 4), .int ((Z0 1).1 0), .int ((Z0 1).1 1), .int ((Z0 1).1 2), .int ((Z0 1).1 3), .int ((Z0 1).1 4)])), (A0 1 1, .inr (3, [.ref (A0 1 5), .ref (A0 1 6), .ref (A0 1 7), .int ((Z0 1).1 5)])), (A0 1 2, .inr (3, [.ref (A0 1 8), .ref (A0 1 9), .ref (A0 1 10), .int ((Z0 1).1 6)])), (A0 1 3, .inl (T 0, 33, .inl ((Z0 1).2 6))), (A0 1 4, .inl (T 0, 33, .inl ((Z0 1).2 7))), (A0 1 5, .inl (T 0, 40, .inl ((Z0 1).2 0))), (A0 1 6, .inl (T 0, 40, .inl ((Z0 1).2 1))), (A0 1 7, .inl (T 0, 40, .inl ((Z0 1).2 2))), (A0 1 8, .inl (T 0, 8, .inl ((Z0 1).2 3))), (A0 1 9, .inl (T 0, 8, .inl ((Z0 1).2 4))), (A0 1 10, .inl (T 0, 8, .inl ((Z0 1).2 5))), (A0 2 0, .inr (2, [.ref (A0 2 1), .ref (A0 2 2), .ref (A0 2 3), .ref (A0 2 4), .int ((Z0 2).1 0), .int ((Z0 2).1 1), .int ((Z0 2).1 2), .int ((Z0 2).1 3), .int ((Z0 2).1 4)])), (A0 2 1, .inr (3, [.ref (A0 2 5), .ref (A0 2 6), .ref (A0 2 7), .int ((Z0 2).1 5)])), (A0 2 2, .inr (3, [.ref (A0 2 8), .ref (A0 2 9), .ref (A0 2 10), .int ((Z0 2).1 6)])), (A0 2 3, .inl (T 0, 33, .inl ((Z0 2).2 6))), (A0 2 4, .inl (T 0, 33, .inl ((Z0 2).2 7))), (A0 2 5, .inl (T 0, 40, .inl ((Z0 2).2 0))), (A0 2 6, .inl (T 0, 40, .inl ((Z0 2).2 1))), (A0 2 7, .inl (T 0, 40, .inl ((Z0 2).2 2))), (A0 2 8, .inl (T 0, 8, .inl ((Z0 2).2 3))), (A0 2 9, .inl (T 0, 8, .inl ((Z0 2).2 4))), (A0 2 10, .inl (T 0, 8, .inl ((Z0 2).2 5))), (A0 3 0, .inr (2, [.ref (A0 3 1), .ref (A0 3 2), .ref (A0 3 3), .ref (A0 3 4), .int ((Z0 3).1 0), .int ((Z0 3).1 1), .int ((Z0 3).1 2), .int ((Z0 3).1 3), .int ((Z0 3).1 4)])), (A0 3 1, .inr (3, [.ref (A0 3 5), .ref (A0 3 6), .ref (A0 3 7), .int ((Z0 3).1 5)])), (A0 3 2, .inr (3, [.ref (A0 3 8), .ref (A0 3 9), .ref (A0 3 10), .int ((Z0 3).1 6)])), (A0 3 3, .inl (T 0, 33, .inl ((Z0 3).2 6))), (A0 3 4, .inl (T 0, 33, .inl ((Z0 3).2 7))), (A0 3 5, .inl (T 0, 40, .inl ((Z0 3).2 0))), (A0 3 6, .inl (T 0, 40, .inl ((Z0 3).2 1))), (A0 3 7, .inl (T 0, 40, .inl ((Z0 3).2 2))), (A0 3 8, .inl (T 0, 8, .inl ((Z0 3).2 3))), (A0 3 9, .inl (T 0, 8, .inl ((Z0 3).2 4))), (A0 3 10, .inl (T 0, 8, .inl ((Z0 3).2 5))), (A0 4 0, .inr (2, [.ref (A0 4 1), .ref (A0 4 2), .ref (A0 4 3), .ref (A0 4 4), .int ((Z0 4).1 0), .int ((Z0 4).1 1), .int ((Z0 4).1 2), .int ((Z0 4).1 3), .int ((Z0 4).1 4)])), (A0 4 1, .inr (3, [.ref (A0 4 5), .ref (A0 4 6), .ref (A0 4 7), .int ((Z0 4).1 5)])), (A0 4 2, .inr (3, [.ref (A0 4 8), .ref (A0 4 9), .ref (A0 4 10), .int ((Z0 4).1 6)])), (A0 4 3, .inl (T 0, 33, .inl ((Z0 4).2 6))), (A0 4 4, .inl (T 0, 33, .inl ((Z0 4).2 7))), (A0 4 5, .inl (T 0, 40, .inl ((Z0 4).2 0))), (A0 4 6, .inl (T 0, 40, .inl ((Z0 4).2 1))), (A0 4 7, .inl (T 0, 40, .inl ((Z0 4).2 2))), (A0 4 8, .inl (T 0, 8, .inl ((Z0 4).2 3))), (A0 4 9, .inl (T 0, 8, .inl ((Z0 4).2 4))), (A0 4 10, .inl (T 0, 8, .inl ((Z0 4).2 5)))]) (ws' := scW T h0 A0 (zU Z0 5 t1.2)) (va_runV (As := []) (rest := []) ⟨hx, hb, hml, hown, hts⟩ (c_X1_read l D T (A0 5) (Z0 5) _ t1 et1) (cwV 0 hts gX4_carryOut_X1_read rfl rfl rfl hdV_X1_read ⟨Nat.le_of_ble_eq_true rfl, Nat.le_of_ble_eq_true rfl⟩) ⟨PM_blind, va_recv hK.1 hP (ci := 1) (q0 := 58) rfl rfl, PM_at (hP.sub (ws' := orW T (A0 5) (Z0 5)) [58, 59, 60, 61, 62] rfl) (hD.sub (ws' := orW T (A0 5) (Z0 5)) [58, 59, 60, 61, 62] (by decide) rfl) hK⟩ rfl rfl hl.1 rfl (lv_room (Nat.le_of_ble_eq_true rfl)) dX4_carryOut_4 ⟨Nat.zero_le _, Nat.zero_le _⟩) hS hA hP hD [58, 59, 60, 61, 62] [0, 1, 2, 3, 4, 5, 6, 7, 8, 9, 10, 11, 12, 13, 14, 15, 16, 17, 18, 19, 20, 21, 22, 23, 24, 25, 26, 27, 28, 29, 30, 31, 32, 33, 34, 35, 36, 37, 38, 39, 40, 41, 42, 43, 44, 45, 46, 47, 48, 49, 50, 51, 52, 53, 54, 55, 56, 57] rfl rfl (by decide) (by decide) [0, 1, 2, 3, 4, 5, 6, 7, 8, 9, 10, 11, 12, 13, 14, 15, 16, 17, 18, 19, 20, 21, 22, 23, 24, 25, 26, 27, 28, 29, 30, 31, 32, 33, 34, 35, 36, 37, 38, 39, 40, 41, 42, 43, 44, 45, 46, 47, 48, 49, 50, 51, 52, 53, 54, 55, 56, 57, 58, 59, 60, 61, 62] (by decide) rfl (fun H locs hP hD hS => ?_)
  refine lv_istore_n (lv' := [(1, .int t1.1), (0, .ref h0)]) hx hb dX4_carryOut_7 rfl hl (by decide) rfl (fun ls hl => ?_)
  refine lv_iload_n hx hb dX4_carryOut_8 rfl (lv_at hl 0 rfl) ?_
  refine lv_iconst (v := (-1)) hx hb dX4_carryOut_9 (by decide) ?_
  refine lv_icmp_eq (tgt := 18) hx hb dX4_carryOut_10 (by decide) (fun c2 => ?_) (fun c2 => ?_)
  · replace h := ip c2 h
    refine lv_aload_n hx hb dX4_carryOut_18 rfl (lv_at hl 1 rfl) ?_
    refine va_get (D := D) (ci := 4) (v := .ref (A0 6 1)) (C := RX4) (T := TX4) (N := 3) hx hb hts inX4_carryOut_4 hown hK.1 hP 0 rfl rfl 1 (by decide) (hts (.fieldLink RX4 19 "LyingScale" "history" "LLyingScale$History;") (List.mem_of_getElem? (i := 2) rfl)) (fun _ h9 => h9) rfl dX4_carryOut_19 ?_
    refine lv_aload_n hx hb dX4_carryOut_22 rfl (lv_at hl 1 rfl) ?_
    refine va_get (D := D) (ci := 4) (v := .ref (A0 0 0)) (C := RX4) (T := TX4) (N := 3) hx hb hts inX4_carryOut_4 hown hK.1 hP 0 rfl rfl 0 (by decide) (hts (.fieldLink RX4 12 "LyingScale" "now" "LLyingScale$State;") (List.mem_of_getElem? (i := 3) rfl)) (fun _ h9 => h9) rfl dX4_carryOut_23 ?_
    replace h := bd h
    obtain ⟨t3, et3, h⟩ := h
    refine callEv (va_runV (As := [.ref (A0 0 0)]) (rest := []) ⟨hx, hb, hml, hown, hts⟩ (c_X0_save l D T h0 A0 (zU Z0 5 t1.2) _ t3 et3) (cwV 1 hts gX4_carryOut_X0_save rfl rfl rfl hdV_X0_save ⟨Nat.le_of_ble_eq_true rfl, Nat.le_of_ble_eq_true rfl⟩) ⟨PM_blind, va_recv hK.1 hP (ci := 0) (q0 := 1) rfl rfl, PM_at hP hD hK⟩ rfl rfl hl.1 rfl (lv_room (Nat.le_of_ble_eq_true rfl)) dX4_carryOut_26 ⟨Nat.zero_le _, Nat.zero_le _⟩) hS hA hP hD (fun u4 H locs hP hD hS => ?_)
    refine lv_iconst (v := 0) hx hb dX4_carryOut_29 (by decide) ?_
    refine lv_istore_n (lv' := [(2, .int 0), (1, .int t1.1), (0, .ref h0)]) hx hb dX4_carryOut_30 rfl hl (by decide) rfl (fun ls hl => ?_)
    have K31 : ∀ (n31 : Nat) (i2_31 : Int32) (x0_31 : Nat → St) (H : Heap) (locs : List Loc) (ls : Array Slot), fx2 (B_X4_carryOut_31) n31 i2_31 x0_31 = some r → va_P D vwCl (scW T h0 u4 (x0_31)) H → va_D A (scW T h0 u4 (x0_31)) → va_S A s.heap H locs → lv_has ls 3 [(0, .ref h0), (1, .int t1.1), (2, .int i2_31)] → W p l e ({ frames := 6, cells := 0, slots := 0, locals := 139 } : Room) s m args below meth c H locs 0 0 (MQ below (QEi D (scW T h0) r.1 r.2 A) args s 0 0 A) (F0 m 31 ls []) := by
      intro n31
      induction n31 with
      | zero =>
          intro i2_31 x0_31 H locs ls h
          cases h
      | succ n31 ih31 =>
          intro i2_31 x0_31 H locs ls h hP hD hS hl
          replace h : B_X4_carryOut_31 (fx2 (B_X4_carryOut_31) n31) i2_31 x0_31 = some r := h
          unfold B_X4_carryOut_31 at h
          refine lv_iload_n hx hb dX4_carryOut_31 rfl (lv_at hl 2 rfl) ?_
          refine lv_aload_n hx hb dX4_carryOut_32 rfl (lv_at hl 0 rfl) ?_
          refine va_get (D := D) (ci := 4) (v := .ref (u4 5 0)) (C := RX4) (T := TX4) (N := 3) hx hb hts inX4_carryOut_4 hown hK.1 hP 0 rfl rfl 2 (by decide) (hts (.fieldLink RX4 26 "LyingScale" "orders" "LLyingScale$Orders;") (List.mem_of_getElem? (i := 1) rfl)) (fun _ h9 => h9) rfl dX4_carryOut_33 ?_
          refine va_getN (D := D) (ci := 1) (v := .int ((x0_31 5).1 1)) (C := RX1) (T := TX1) (N := 9) hx hb hts inX4_carryOut_1 hown hK.1 hP 58 rfl rfl 5 (by decide) (va_Nw.use rfl (hK.2 (.fieldLinkNest RX4 220 "LyingScale$Orders" "count" "I" "LyingScale") (List.mem_of_getElem? (i := 3) rfl))) (fun _ h9 => h9) rfl dX4_carryOut_36 ?_
          refine lv_icmp_ge (tgt := 93) hx hb dX4_carryOut_39 (by decide) (fun c5 => ?_) (fun c5 => ?_)
          · replace h := ip c5 h
            refine lv_aload_n hx hb dX4_carryOut_93 rfl (lv_at hl 0 rfl) ?_
            refine va_get (D := D) (ci := 4) (v := .ref (u4 5 0)) (C := RX4) (T := TX4) (N := 3) hx hb hts inX4_carryOut_4 hown hK.1 hP 0 rfl rfl 2 (by decide) (hts (.fieldLink RX4 26 "LyingScale" "orders" "LLyingScale$Orders;") (List.mem_of_getElem? (i := 1) rfl)) (fun _ h9 => h9) rfl dX4_carryOut_94 ?_
            refine va_getN (D := D) (ci := 1) (v := .int ((x0_31 5).1 1)) (C := RX1) (T := TX1) (N := 9) hx hb hts inX4_carryOut_1 hown hK.1 hP 58 rfl rfl 5 (by decide) (va_Nw.use rfl (hK.2 (.fieldLinkNest RX4 220 "LyingScale$Orders" "count" "I" "LyingScale") (List.mem_of_getElem? (i := 3) rfl))) (fun _ h9 => h9) rfl dX4_carryOut_97 ?_
            obtain rfl := Option.some.inj h
            exact W.iret hx hb hr (fun t ht hW => ⟨⟨_, u4, rfl, rfl, by rw [ht]; exact hP, hD⟩, hS.F ht⟩) hS.2.2 dX4_carryOut_100 hlocks
          replace h := im c5 h
          refine lv_aload_n hx hb dX4_carryOut_42 rfl (lv_at hl 0 rfl) ?_
          refine va_get (D := D) (ci := 4) (v := .ref (u4 0 0)) (C := RX4) (T := TX4) (N := 3) hx hb hts inX4_carryOut_4 hown hK.1 hP 0 rfl rfl 0 (by decide) (hts (.fieldLink RX4 12 "LyingScale" "now" "LLyingScale$State;") (List.mem_of_getElem? (i := 3) rfl)) (fun _ h9 => h9) rfl dX4_carryOut_43 ?_
          refine lv_aload_n hx hb dX4_carryOut_46 rfl (lv_at hl 0 rfl) ?_
          refine va_get (D := D) (ci := 4) (v := .ref (u4 5 0)) (C := RX4) (T := TX4) (N := 3) hx hb hts inX4_carryOut_4 hown hK.1 hP 0 rfl rfl 2 (by decide) (hts (.fieldLink RX4 26 "LyingScale" "orders" "LLyingScale$Orders;") (List.mem_of_getElem? (i := 1) rfl)) (fun _ h9 => h9) rfl dX4_carryOut_47 ?_
          refine va_getN (D := D) (ci := 1) (v := .ref (u4 5 2)) (C := RX1) (T := TX1) (N := 9) hx hb hts inX4_carryOut_1 hown hK.1 hP 58 rfl rfl 1 (by decide) (va_Nw.use rfl (hK.2 (.fieldLinkNest RX4 221 "LyingScale$Orders" "lefts" "[I" "LyingScale") (List.mem_of_getElem? (i := 4) rfl))) (fun _ h9 => h9) rfl dX4_carryOut_50 ?_
          refine lv_iload_n hx hb dX4_carryOut_53 rfl (lv_at hl 2 rfl) ?_
          replace h := bd h
          obtain ⟨t6, et6, h⟩ := h
          refine callRi (v := t6) (va_runS (As := [.ref (u4 5 2), .int i2_31]) (rest := [.ref (u4 0 0)]) ⟨hx, hb, hml, hown, hts⟩ (c_X4_at l D T (u4 5 2) 20 ((x0_31 5).2 1) i2_31 (Nat.le_of_ble_eq_true rfl) t6 et6) (va_cwS 2 hts gX4_carryOut_X4_at rfl rfl rfl hdS_X4_at ⟨Nat.le_of_ble_eq_true rfl, Nat.le_of_ble_eq_true rfl⟩) ⟨PB_blind, PB_at (hP.sub (ws' := ([(u4 5 2, .inl (T 0, 20, .inl ((x0_31 5).2 1)))] : va_W)) [60] rfl) hK⟩ rfl rfl hl.1 rfl (lv_room (Nat.le_of_ble_eq_true rfl)) dX4_carryOut_54 ⟨Nat.zero_le _, Nat.zero_le _⟩) ?_
          refine lv_aload_n hx hb dX4_carryOut_57 rfl (lv_at hl 0 rfl) ?_
          refine va_get (D := D) (ci := 4) (v := .ref (u4 5 0)) (C := RX4) (T := TX4) (N := 3) hx hb hts inX4_carryOut_4 hown hK.1 hP 0 rfl rfl 2 (by decide) (hts (.fieldLink RX4 26 "LyingScale" "orders" "LLyingScale$Orders;") (List.mem_of_getElem? (i := 1) rfl)) (fun _ h9 => h9) rfl dX4_carryOut_58 ?_
          refine va_getN (D := D) (ci := 1) (v := .ref (u4 5 3)) (C := RX1) (T := TX1) (N := 9) hx hb hts inX4_carryOut_1 hown hK.1 hP 58 rfl rfl 2 (by decide) (va_Nw.use rfl (hK.2 (.fieldLinkNest RX4 224 "LyingScale$Orders" "rights" "[I" "LyingScale") (List.mem_of_getElem? (i := 5) rfl))) (fun _ h9 => h9) rfl dX4_carryOut_61 ?_
          refine lv_iload_n hx hb dX4_carryOut_64 rfl (lv_at hl 2 rfl) ?_
          replace h := bd h
          obtain ⟨t7, et7, h⟩ := h
          refine callRi (v := t7) (va_runS (As := [.ref (u4 5 3), .int i2_31]) (rest := [.int t6, .ref (u4 0 0)]) ⟨hx, hb, hml, hown, hts⟩ (c_X4_at l D T (u4 5 3) 20 ((x0_31 5).2 2) i2_31 (Nat.le_of_ble_eq_true rfl) t7 et7) (va_cwS 2 hts gX4_carryOut_X4_at rfl rfl rfl hdS_X4_at ⟨Nat.le_of_ble_eq_true rfl, Nat.le_of_ble_eq_true rfl⟩) ⟨PB_blind, PB_at (hP.sub (ws' := ([(u4 5 3, .inl (T 0, 20, .inl ((x0_31 5).2 2)))] : va_W)) [61] rfl) hK⟩ rfl rfl hl.1 rfl (lv_room (Nat.le_of_ble_eq_true rfl)) dX4_carryOut_65 ⟨Nat.zero_le _, Nat.zero_le _⟩) ?_
          refine lv_aload_n hx hb dX4_carryOut_68 rfl (lv_at hl 0 rfl) ?_
          refine va_get (D := D) (ci := 4) (v := .ref (u4 5 0)) (C := RX4) (T := TX4) (N := 3) hx hb hts inX4_carryOut_4 hown hK.1 hP 0 rfl rfl 2 (by decide) (hts (.fieldLink RX4 26 "LyingScale" "orders" "LLyingScale$Orders;") (List.mem_of_getElem? (i := 1) rfl)) (fun _ h9 => h9) rfl dX4_carryOut_69 ?_
          refine va_getN (D := D) (ci := 1) (v := .ref (u4 5 4)) (C := RX1) (T := TX1) (N := 9) hx hb hts inX4_carryOut_1 hown hK.1 hP 58 rfl rfl 3 (by decide) (va_Nw.use rfl (hK.2 (.fieldLinkNest RX4 227 "LyingScale$Orders" "deeds" "[I" "LyingScale") (List.mem_of_getElem? (i := 6) rfl))) (fun _ h9 => h9) rfl dX4_carryOut_72 ?_
          refine lv_iload_n hx hb dX4_carryOut_75 rfl (lv_at hl 2 rfl) ?_
          replace h := bd h
          obtain ⟨t8, et8, h⟩ := h
          refine callRi (v := t8) (va_runS (As := [.ref (u4 5 4), .int i2_31]) (rest := [.int t7, .int t6, .ref (u4 0 0)]) ⟨hx, hb, hml, hown, hts⟩ (c_X4_at l D T (u4 5 4) 20 ((x0_31 5).2 3) i2_31 (Nat.le_of_ble_eq_true rfl) t8 et8) (va_cwS 2 hts gX4_carryOut_X4_at rfl rfl rfl hdS_X4_at ⟨Nat.le_of_ble_eq_true rfl, Nat.le_of_ble_eq_true rfl⟩) ⟨PB_blind, PB_at (hP.sub (ws' := ([(u4 5 4, .inl (T 0, 20, .inl ((x0_31 5).2 3)))] : va_W)) [62] rfl) hK⟩ rfl rfl hl.1 rfl (lv_room (Nat.le_of_ble_eq_true rfl)) dX4_carryOut_76 ⟨Nat.zero_le _, Nat.zero_le _⟩) ?_
          replace h := bd h
          obtain ⟨t9, et9, h⟩ := h
          refine callMi (wr := [(h0, .inr (4, [.ref (u4 0 0), .ref (u4 6 1), .ref (u4 5 0)])), (u4 6 1, .inr (0, [.ref (u4 6 2), .int ((x0_31 6).1 0)])), (u4 6 2, .inl (T 3, 4, .inr (.inr (.inr (.inr (hsQ u4)))))), (u4 1 0, .inr (2, [.ref (u4 1 1), .ref (u4 1 2), .ref (u4 1 3), .ref (u4 1 4), .int ((x0_31 1).1 0), .int ((x0_31 1).1 1), .int ((x0_31 1).1 2), .int ((x0_31 1).1 3), .int ((x0_31 1).1 4)])), (u4 1 1, .inr (3, [.ref (u4 1 5), .ref (u4 1 6), .ref (u4 1 7), .int ((x0_31 1).1 5)])), (u4 1 2, .inr (3, [.ref (u4 1 8), .ref (u4 1 9), .ref (u4 1 10), .int ((x0_31 1).1 6)])), (u4 1 3, .inl (T 0, 33, .inl ((x0_31 1).2 6))), (u4 1 4, .inl (T 0, 33, .inl ((x0_31 1).2 7))), (u4 1 5, .inl (T 0, 40, .inl ((x0_31 1).2 0))), (u4 1 6, .inl (T 0, 40, .inl ((x0_31 1).2 1))), (u4 1 7, .inl (T 0, 40, .inl ((x0_31 1).2 2))), (u4 1 8, .inl (T 0, 8, .inl ((x0_31 1).2 3))), (u4 1 9, .inl (T 0, 8, .inl ((x0_31 1).2 4))), (u4 1 10, .inl (T 0, 8, .inl ((x0_31 1).2 5))), (u4 2 0, .inr (2, [.ref (u4 2 1), .ref (u4 2 2), .ref (u4 2 3), .ref (u4 2 4), .int ((x0_31 2).1 0), .int ((x0_31 2).1 1), .int ((x0_31 2).1 2), .int ((x0_31 2).1 3), .int ((x0_31 2).1 4)])), (u4 2 1, .inr (3, [.ref (u4 2 5), .ref (u4 2 6), .ref (u4 2 7), .int ((x0_31 2).1 5)])), (u4 2 2, .inr (3, [.ref (u4 2 8), .ref (u4 2 9), .ref (u4 2 10), .int ((x0_31 2).1 6)])), (u4 2 3, .inl (T 0, 33, .inl ((x0_31 2).2 6))), (u4 2 4, .inl (T 0, 33, .inl ((x0_31 2).2 7))), (u4 2 5, .inl (T 0, 40, .inl ((x0_31 2).2 0))), (u4 2 6, .inl (T 0, 40, .inl ((x0_31 2).2 1))), (u4 2 7, .inl (T 0, 40, .inl ((x0_31 2).2 2))), (u4 2 8, .inl (T 0, 8, .inl ((x0_31 2).2 3))), (u4 2 9, .inl (T 0, 8, .inl ((x0_31 2).2 4))), (u4 2 10, .inl (T 0, 8, .inl ((x0_31 2).2 5))), (u4 3 0, .inr (2, [.ref (u4 3 1), .ref (u4 3 2), .ref (u4 3 3), .ref (u4 3 4), .int ((x0_31 3).1 0), .int ((x0_31 3).1 1), .int ((x0_31 3).1 2), .int ((x0_31 3).1 3), .int ((x0_31 3).1 4)])), (u4 3 1, .inr (3, [.ref (u4 3 5), .ref (u4 3 6), .ref (u4 3 7), .int ((x0_31 3).1 5)])), (u4 3 2, .inr (3, [.ref (u4 3 8), .ref (u4 3 9), .ref (u4 3 10), .int ((x0_31 3).1 6)])), (u4 3 3, .inl (T 0, 33, .inl ((x0_31 3).2 6))), (u4 3 4, .inl (T 0, 33, .inl ((x0_31 3).2 7))), (u4 3 5, .inl (T 0, 40, .inl ((x0_31 3).2 0))), (u4 3 6, .inl (T 0, 40, .inl ((x0_31 3).2 1))), (u4 3 7, .inl (T 0, 40, .inl ((x0_31 3).2 2))), (u4 3 8, .inl (T 0, 8, .inl ((x0_31 3).2 3))), (u4 3 9, .inl (T 0, 8, .inl ((x0_31 3).2 4))), (u4 3 10, .inl (T 0, 8, .inl ((x0_31 3).2 5))), (u4 4 0, .inr (2, [.ref (u4 4 1), .ref (u4 4 2), .ref (u4 4 3), .ref (u4 4 4), .int ((x0_31 4).1 0), .int ((x0_31 4).1 1), .int ((x0_31 4).1 2), .int ((x0_31 4).1 3), .int ((x0_31 4).1 4)])), (u4 4 1, .inr (3, [.ref (u4 4 5), .ref (u4 4 6), .ref (u4 4 7), .int ((x0_31 4).1 5)])), (u4 4 2, .inr (3, [.ref (u4 4 8), .ref (u4 4 9), .ref (u4 4 10), .int ((x0_31 4).1 6)])), (u4 4 3, .inl (T 0, 33, .inl ((x0_31 4).2 6))), (u4 4 4, .inl (T 0, 33, .inl ((x0_31 4).2 7))), (u4 4 5, .inl (T 0, 40, .inl ((x0_31 4).2 0))), (u4 4 6, .inl (T 0, 40, .inl ((x0_31 4).2 1))), (u4 4 7, .inl (T 0, 40, .inl ((x0_31 4).2 2))), (u4 4 8, .inl (T 0, 8, .inl ((x0_31 4).2 3))), (u4 4 9, .inl (T 0, 8, .inl ((x0_31 4).2 4))), (u4 4 10, .inl (T 0, 8, .inl ((x0_31 4).2 5))), (u4 5 0, .inr (1, [.ref (u4 5 1), .ref (u4 5 2), .ref (u4 5 3), .ref (u4 5 4), .int ((x0_31 5).1 0), .int ((x0_31 5).1 1), .int ((x0_31 5).1 2), .int ((x0_31 5).1 3), .int ((x0_31 5).1 4)])), (u4 5 1, .inl (T 0, 100, .inl ((x0_31 5).2 0))), (u4 5 2, .inl (T 0, 20, .inl ((x0_31 5).2 1))), (u4 5 3, .inl (T 0, 20, .inl ((x0_31 5).2 2))), (u4 5 4, .inl (T 0, 20, .inl ((x0_31 5).2 3)))]) (ws' := scW T h0 u4 (zU x0_31 0 t9.2)) (va_runV (As := [.int t6, .int t7, .int t8]) (rest := []) ⟨hx, hb, hml, hown, hts⟩ (c_X2_obey l D T (u4 0) (x0_31 0) t6 t7 t8 _ t9 et9) (cwV 3 hts gX4_carryOut_X2_obey rfl rfl rfl hdV_X2_obey ⟨Nat.le_of_ble_eq_true rfl, Nat.le_of_ble_eq_true rfl⟩) ⟨PM_blind, va_recv hK.1 hP (ci := 2) (q0 := 3) rfl rfl, PM_at (hP.sub (ws' := stW T (u4 0) (x0_31 0)) [3, 4, 5, 6, 7, 8, 9, 10, 11, 12, 13] rfl) (hD.sub (ws' := stW T (u4 0) (x0_31 0)) [3, 4, 5, 6, 7, 8, 9, 10, 11, 12, 13] (by decide) rfl) hK⟩ rfl rfl hl.1 rfl (lv_room (Nat.le_of_ble_eq_true rfl)) dX4_carryOut_79 ⟨Nat.zero_le _, Nat.zero_le _⟩) hS hA hP hD [3, 4, 5, 6, 7, 8, 9, 10, 11, 12, 13] [0, 1, 2, 14, 15, 16, 17, 18, 19, 20, 21, 22, 23, 24, 25, 26, 27, 28, 29, 30, 31, 32, 33, 34, 35, 36, 37, 38, 39, 40, 41, 42, 43, 44, 45, 46, 47, 48, 49, 50, 51, 52, 53, 54, 55, 56, 57, 58, 59, 60, 61, 62] rfl rfl (by decide) (by decide) [0, 1, 2, 52, 53, 54, 55, 56, 57, 58, 59, 60, 61, 62, 3, 4, 5, 6, 7, 8, 9, 10, 11, 12, 13, 14, 15, 16, 17, 18, 19, 20, 21, 22, 23, 24, 25, 26, 27, 28, 29, 30, 31, 32, 33, 34, 35, 36, 37, 38, 39, 40, 41, 42, 43, 44, 45, 46, 47, 48, 49, 50, 51] (by decide) rfl (fun H locs hP hD hS => ?_)
          refine lv_if_ne (tgt := 87) hx hb dX4_carryOut_82 (by decide) (fun c10 => ?_) (fun c10 => ?_)
          · replace h := im c10 h
            refine lv_iinc (v := i2_31 + 1) (lv' := [(2, .int (i2_31 + 1)), (0, .ref h0), (1, .int t1.1)]) hx hb dX4_carryOut_87 hl (k := 2) rfl rfl (by decide) rfl (fun ls hl => ?_)
            refine lv_goto (tgt := 31) hx hb dX4_carryOut_90 (by decide) ?_
            exact ih31 (i2_31 + 1) (zU x0_31 0 t9.2) _ _ ls h hP hD hS (lv_sub hl [1, 2, 0] rfl)
          replace h := ip c10 h
          refine lv_iload_n hx hb dX4_carryOut_85 rfl (lv_at hl 2 rfl) ?_
          obtain rfl := Option.some.inj h
          exact W.iret hx hb hr (fun t ht hW => ⟨⟨_, u4, rfl, rfl, by rw [ht]; exact hP, hD⟩, hS.F ht⟩) hS.2.2 dX4_carryOut_86 hlocks
    exact K31 1000 0 t3 _ _ ls h hP hD hS (lv_sub hl [2, 1, 0] rfl)
  replace h := im c2 h
  refine lv_bipush (v := (-10)) hx hb dX4_carryOut_13 (by decide) ?_
  refine lv_iload_n hx hb dX4_carryOut_15 rfl (lv_at hl 0 rfl) ?_
  refine lv_isub hx hb dX4_carryOut_16 ?_
  obtain rfl := Option.some.inj h
  exact W.iret hx hb hr (fun t ht hW => ⟨⟨_, A0, rfl, rfl, by rw [ht]; exact hP, hD⟩, hS.F ht⟩) hS.2.2 dX4_carryOut_17 hlocks
set_option maxHeartbeats 4000000 in
set_option maxRecDepth 100000 in
theorem c_X4_undo (l : Launch) (hfl : l.stackTraces = false) (D : va_G) (T : Nat → ClassId) (h0 : Nat) (A0 : Nat → Nat → Nat) (Z0 : Nat → St) (sz : Nat) (r : Sum String (Int32 × (Nat → St))) (h : F_X4_undo Z0 = some r) : vx_Met l yX4_undo wsX4_undo ({ frames := 6, cells := 1, slots := 6, locals := 108 } : Room) (va_Pc [.ref h0] (PX D T (scW T h0 A0 (Z0)) sz)) (QXi D (scW T h0) r (va_A (scW T h0 A0 (Z0)) sz)) (XXq r) 1 6 (va_A (scW T h0 A0 (Z0)) sz) := by
  refine met_ofX (cc := cX4_undo) (maxL := 1) (ret := (some .int)) (lv := [(0, .ref h0)]) (by decide) rfl (Nat.le_of_ble_eq_true rfl) rfl ?_
  intro p e s m args below meth c ls C0 hno hl hB
  obtain ⟨hx, hb, hr, hml, hown, hts, hlocks, hname⟩ := C0
  obtain ⟨⟨hsz, hP, hK, hD0⟩, hE⟩ := hB
  subst hsz
  have hD := hD0.self (sz := s.heap.size)
  generalize hAe : va_A (scW T h0 A0 (Z0)) s.heap.size = A at hD hE ⊢
  have hA : ∀ q : Nat, s.heap.size ≤ q → A q := fun q h => by rw [← hAe]; exact Or.inr h
  have hS : va_S A s.heap s.heap [] := va_S.rf
  unfold F_X4_undo at h
  refine lv_aload_n hx hb dX4_undo_0 rfl (lv_at hl 0 rfl) ?_
  refine va_get (D := D) (ci := 4) (v := .ref (A0 6 1)) (C := RX4) (T := TX4) (N := 3) hx hb hts inX4_undo_4 hown hK.1 hP 0 rfl rfl 1 (by decide) (hts (.fieldLink RX4 19 "LyingScale" "history" "LLyingScale$History;") (List.mem_of_getElem? (i := 3) rfl)) (fun _ h9 => h9) rfl dX4_undo_1 ?_
  refine va_getN (D := D) (ci := 0) (v := .int ((Z0 6).1 0)) (C := RX0) (T := TX0) (N := 2) hx hb hts inX4_undo_0 hown hK.1 hP 1 rfl rfl 1 (by decide) (va_Nw.use rfl (hK.2 (.fieldLinkNest RX4 234 "LyingScale$History" "count" "I" "LyingScale") (List.mem_of_getElem? (i := 7) rfl))) (fun _ h9 => h9) rfl dX4_undo_4 ?_
  refine lv_if_ne (tgt := 20) hx hb dX4_undo_7 (by decide) (fun c1 => ?_) (fun c1 => ?_)
  · replace h := im c1 h
    refine lv_aload_n hx hb dX4_undo_20 rfl (lv_at hl 0 rfl) ?_
    refine va_get (D := D) (ci := 4) (v := .ref (A0 6 1)) (C := RX4) (T := TX4) (N := 3) hx hb hts inX4_undo_4 hown hK.1 hP 0 rfl rfl 1 (by decide) (hts (.fieldLink RX4 19 "LyingScale" "history" "LLyingScale$History;") (List.mem_of_getElem? (i := 3) rfl)) (fun _ h9 => h9) rfl dX4_undo_21 ?_
    refine lv_aload_n hx hb dX4_undo_24 rfl (lv_at hl 0 rfl) ?_
    refine va_get (D := D) (ci := 4) (v := .ref (A0 0 0)) (C := RX4) (T := TX4) (N := 3) hx hb hts inX4_undo_4 hown hK.1 hP 0 rfl rfl 0 (by decide) (hts (.fieldLink RX4 12 "LyingScale" "now" "LLyingScale$State;") (List.mem_of_getElem? (i := 4) rfl)) (fun _ h9 => h9) rfl dX4_undo_25 ?_
    replace h := bd h
    obtain ⟨t2, et2, h⟩ := h
    refine callEv (va_runV (As := [.ref (A0 0 0)]) (rest := []) ⟨hx, hb, hml, hown, hts⟩ (c_X0_restore l D T h0 A0 Z0 _ t2 et2) (cwV 1 hts gX4_undo_X0_restore rfl rfl rfl hdV_X0_restore ⟨Nat.le_of_ble_eq_true rfl, Nat.le_of_ble_eq_true rfl⟩) ⟨PM_blind, va_recv hK.1 hP (ci := 0) (q0 := 1) rfl rfl, PM_at hP hD hK⟩ rfl rfl hl.1 rfl (lv_room (Nat.le_of_ble_eq_true rfl)) dX4_undo_28 ⟨Nat.zero_le _, Nat.zero_le _⟩) hS hA hP hD (fun u3 H locs hP hD hS => ?_)
    refine lv_aload_n hx hb dX4_undo_31 rfl (lv_at hl 0 rfl) ?_
    refine va_get (D := D) (ci := 4) (v := .ref (u3 6 1)) (C := RX4) (T := TX4) (N := 3) hx hb hts inX4_undo_4 hown hK.1 hP 0 rfl rfl 1 (by decide) (hts (.fieldLink RX4 19 "LyingScale" "history" "LLyingScale$History;") (List.mem_of_getElem? (i := 3) rfl)) (fun _ h9 => h9) rfl dX4_undo_32 ?_
    refine va_getN (D := D) (ci := 0) (v := .int ((t2 6).1 0)) (C := RX0) (T := TX0) (N := 2) hx hb hts inX4_undo_0 hown hK.1 hP 1 rfl rfl 1 (by decide) (va_Nw.use rfl (hK.2 (.fieldLinkNest RX4 234 "LyingScale$History" "count" "I" "LyingScale") (List.mem_of_getElem? (i := 7) rfl))) (fun _ h9 => h9) rfl dX4_undo_35 ?_
    obtain rfl := Option.some.inj h
    refine vx_ret ?_
    refine W.widen (k := 1) (n := 6) (Nat.zero_le _) (Nat.zero_le _) ?_
    exact W.iret hx hb hr (fun t ht hW => ⟨⟨_, (u3, t2), rfl, rfl, by rw [ht]; exact hP, hD⟩, hS.F ht⟩) hS.2.2 dX4_undo_38 hlocks
  replace h := ip c1 h
  obtain rfl := Option.some.inj h
  obtain ⟨sa, hsa⟩ := hE.2.2.1 (235, "there is no saved state") (List.mem_of_getElem? (i := 17) rfl)
  exact vx_throwS (A := A) (names := exNm) (ik := 78) (is := 235) (ic := 82) (sa := sa) hx hb hfl hown (by decide +kernel) exFit (hts (.classLink RX4 78 "java/lang/IllegalStateException") (List.mem_of_getElem? (i := 1) rfl)) (hts (.initialized "java/lang/IllegalStateException") (List.mem_of_getElem? (i := 2) rfl)) hsa (vx_hat (fun w hw => hts w (atmX4_undo_82 w hw)) bad_82 (exB82 hE.2.2.2)) ot_82 hE.1 hE.2.1 hS (hl.1.trans hml.symm) dX4_undo_10 dX4_undo_13 dX4_undo_14 dX4_undo_16 dX4_undo_19 (fun x hx => (hno x hx).elim) (Nat.le_of_ble_eq_true rfl) (Nat.le_of_ble_eq_true rfl) (Nat.le_of_ble_eq_true rfl) (Nat.le_of_ble_eq_true rfl) hlocks (fun t hv hz hk => ⟨(), trivial, rfl, hz, fun q hq _ => hk q hq⟩) hS.2.2 (Nat.le_of_ble_eq_true rfl) (Nat.le_of_ble_eq_true rfl)
set_option maxHeartbeats 4000000 in
set_option maxRecDepth 100000 in
theorem c_X4_digest (l : Launch) (D : va_G) (T : Nat → ClassId) (h0 : Nat) (A0 : Nat → Nat → Nat) (Z0 : Nat → St) (sz : Nat) (r : Int64 × (Nat → St)) (h : F_X4_digest Z0 = some r) : Met l yX4_digest wsX4_digest ({ frames := 6, cells := 0, slots := 0, locals := 153 } : Room) (va_Pc [.ref h0] (PM D T (scW T h0 A0 (Z0)) sz)) (QEl D (scW T h0) r.1 r.2 (va_A (scW T h0 A0 (Z0)) sz)) 0 0 (va_A (scW T h0 A0 (Z0)) sz) := by
  refine met_of (cc := cX4_digest) (maxL := 5) (ret := (some .long)) (lv := [(0, .ref h0)]) (by decide) rfl (Nat.le_of_ble_eq_true rfl) rfl ?_
  intro p e s m args below meth c ls C0 hl hB
  obtain ⟨hx, hb, hr, hml, hown, hts, hlocks, hname⟩ := C0
  obtain ⟨hsz, hP, hK, hD0⟩ := hB
  subst hsz
  have hD := hD0.self (sz := s.heap.size)
  generalize hAe : va_A (scW T h0 A0 (Z0)) s.heap.size = A at hD ⊢
  have hA : ∀ q : Nat, s.heap.size ≤ q → A q := fun q h => by rw [← hAe]; exact Or.inr h
  have hS : va_S A s.heap s.heap [] := va_S.rf
  unfold F_X4_digest at h
  refine lv_ldc2 hx hb hown (hts (.constantLong RX4 240 (3821)) (List.mem_of_getElem? (i := 1) rfl)) dX4_digest_0 ?_
  refine lv_aload_n hx hb dX4_digest_3 rfl (lv_at hl 0 rfl) ?_
  refine va_get (D := D) (ci := 4) (v := .ref (A0 5 0)) (C := RX4) (T := TX4) (N := 3) hx hb hts inX4_digest_4 hown hK.1 hP 0 rfl rfl 2 (by decide) (hts (.fieldLink RX4 26 "LyingScale" "orders" "LLyingScale$Orders;") (List.mem_of_getElem? (i := 2) rfl)) (fun _ h9 => h9) rfl dX4_digest_4 ?_
  refine va_getN (D := D) (ci := 1) (v := .int ((Z0 5).1 0)) (C := RX1) (T := TX1) (N := 9) hx hb hts inX4_digest_1 hown hK.1 hP 58 rfl rfl 4 (by decide) (va_Nw.use rfl (hK.2 (.fieldLinkNest RX4 209 "LyingScale$Orders" "length" "I" "LyingScale") (List.mem_of_getElem? (i := 2) rfl))) (fun _ h9 => h9) rfl dX4_digest_7 ?_
  refine lv_i2l (v := ((Z0 5).1 0).toInt64) hx hb dX4_digest_10 rfl ?_
  replace h := bd h
  obtain ⟨t1, et1, h⟩ := h
  refine callRl (v := t1) (va_runS (As := [.long 3821, .long (((Z0 5).1 0).toInt64)]) (rest := []) ⟨hx, hb, hml, hown, hts⟩ (c_X4_mix l D T 3821 (((Z0 5).1 0).toInt64) t1 et1) (va_cwS 2 hts gX4_digest_X4_mix rfl rfl rfl hdS_X4_mix ⟨Nat.le_of_ble_eq_true rfl, Nat.le_of_ble_eq_true rfl⟩) ⟨PB_blind, PB_at (hP.sub (ws' := ([] : va_W)) [] rfl) hK⟩ rfl rfl hl.1 rfl (lv_room (Nat.le_of_ble_eq_true rfl)) dX4_digest_11 ⟨Nat.zero_le _, Nat.zero_le _⟩) ?_
  refine lv_lstore_n (lv' := [(1, .long t1), (0, .ref h0)]) hx hb dX4_digest_14 rfl hl (by decide) rfl (fun ls hl => ?_)
  refine lv_iconst (v := 0) hx hb dX4_digest_15 (by decide) ?_
  refine lv_istore_n (lv' := [(3, .int 0), (1, .long t1), (0, .ref h0)]) hx hb dX4_digest_16 rfl hl (by decide) rfl (fun ls hl => ?_)
  have K17 : ∀ (n17 : Nat) (i1_17 : Int64) (i3_17 : Int32) (H : Heap) (locs : List Loc) (ls : Array Slot), fx2 (B_X4_digest_17 Z0) n17 i1_17 i3_17 = some r → va_P D vwCl (scW T h0 A0 (Z0)) H → va_D A (scW T h0 A0 (Z0)) → va_S A s.heap H locs → lv_has ls 5 [(0, .ref h0), (1, .long i1_17), (3, .int i3_17)] → W p l e ({ frames := 6, cells := 0, slots := 0, locals := 153 } : Room) s m args below meth c H locs 0 0 (MQ below (QEl D (scW T h0) r.1 r.2 A) args s 0 0 A) (F0 m 17 ls []) := by
    intro n17
    induction n17 with
    | zero =>
        intro i1_17 i3_17 H locs ls h
        cases h
    | succ n17 ih17 =>
        intro i1_17 i3_17 H locs ls h hP hD hS hl
        replace h : B_X4_digest_17 Z0 (fx2 (B_X4_digest_17 Z0) n17) i1_17 i3_17 = some r := h
        unfold B_X4_digest_17 at h
        refine lv_iload_n hx hb dX4_digest_17 rfl (lv_at hl 2 rfl) ?_
        refine lv_bipush (v := 9) hx hb dX4_digest_18 (by decide) ?_
        refine lv_icmp_ge (tgt := 43) hx hb dX4_digest_20 (by decide) (fun c2 => ?_) (fun c2 => ?_)
        · replace h := ip c2 h
          refine lv_iconst (v := 0) hx hb dX4_digest_43 (by decide) ?_
          refine lv_istore_n (lv' := [(3, .int 0), (0, .ref h0), (1, .long i1_17)]) hx hb dX4_digest_44 rfl hl (by decide) rfl (fun ls hl => ?_)
          have K45 : ∀ (n45 : Nat) (i1_45 : Int64) (i3_45 : Int32) (H : Heap) (locs : List Loc) (ls : Array Slot), fx2 (B_X4_digest_45 Z0) n45 i1_45 i3_45 = some r → va_P D vwCl (scW T h0 A0 (Z0)) H → va_D A (scW T h0 A0 (Z0)) → va_S A s.heap H locs → lv_has ls 5 [(0, .ref h0), (1, .long i1_45), (3, .int i3_45)] → W p l e ({ frames := 6, cells := 0, slots := 0, locals := 153 } : Room) s m args below meth c H locs 0 0 (MQ below (QEl D (scW T h0) r.1 r.2 A) args s 0 0 A) (F0 m 45 ls []) := by
            intro n45
            induction n45 with
            | zero =>
                intro i1_45 i3_45 H locs ls h
                cases h
            | succ n45 ih45 =>
                intro i1_45 i3_45 H locs ls h hP hD hS hl
                replace h : B_X4_digest_45 Z0 (fx2 (B_X4_digest_45 Z0) n45) i1_45 i3_45 = some r := h
                unfold B_X4_digest_45 at h
                refine lv_iload_n hx hb dX4_digest_45 rfl (lv_at hl 2 rfl) ?_
                refine lv_aload_n hx hb dX4_digest_46 rfl (lv_at hl 0 rfl) ?_
                refine va_get (D := D) (ci := 4) (v := .ref (A0 0 0)) (C := RX4) (T := TX4) (N := 3) hx hb hts inX4_digest_4 hown hK.1 hP 0 rfl rfl 0 (by decide) (hts (.fieldLink RX4 12 "LyingScale" "now" "LLyingScale$State;") (List.mem_of_getElem? (i := 3) rfl)) (fun _ h9 => h9) rfl dX4_digest_47 ?_
                refine va_getN (D := D) (ci := 2) (v := .ref (A0 0 1)) (C := RX2) (T := TX2) (N := 9) hx hb hts inX4_digest_2 hown hK.1 hP 3 rfl rfl 0 (by decide) (va_Nw.use rfl (hK.2 (.fieldLinkNest RX4 41 "LyingScale$State" "told" "LLyingScale$Weighings;" "LyingScale") (List.mem_of_getElem? (i := 10) rfl))) (fun _ h9 => h9) rfl dX4_digest_50 ?_
                refine va_getN (D := D) (ci := 3) (v := .int ((Z0 0).1 5)) (C := RX3) (T := TX3) (N := 4) hx hb hts inX4_digest_3 hown hK.1 hP 4 rfl rfl 3 (by decide) (va_Nw.use rfl (hK.2 (.fieldLinkNest RX4 45 "LyingScale$Weighings" "count" "I" "LyingScale") (List.mem_of_getElem? (i := 11) rfl))) (fun _ h9 => h9) rfl dX4_digest_53 ?_
                refine lv_icmp_ge (tgt := 99) hx hb dX4_digest_56 (by decide) (fun c3 => ?_) (fun c3 => ?_)
                · replace h := ip c3 h
                  refine lv_iconst (v := 0) hx hb dX4_digest_99 (by decide) ?_
                  refine lv_istore_n (lv' := [(3, .int 0), (0, .ref h0), (1, .long i1_45)]) hx hb dX4_digest_100 rfl hl (by decide) rfl (fun ls hl => ?_)
                  have K101 : ∀ (n101 : Nat) (i1_101 : Int64) (i3_101 : Int32) (H : Heap) (locs : List Loc) (ls : Array Slot), fx2 (B_X4_digest_101 Z0) n101 i1_101 i3_101 = some r → va_P D vwCl (scW T h0 A0 (Z0)) H → va_D A (scW T h0 A0 (Z0)) → va_S A s.heap H locs → lv_has ls 5 [(0, .ref h0), (1, .long i1_101), (3, .int i3_101)] → W p l e ({ frames := 6, cells := 0, slots := 0, locals := 153 } : Room) s m args below meth c H locs 0 0 (MQ below (QEl D (scW T h0) r.1 r.2 A) args s 0 0 A) (F0 m 101 ls []) := by
                    intro n101
                    induction n101 with
                    | zero =>
                        intro i1_101 i3_101 H locs ls h
                        cases h
                    | succ n101 ih101 =>
                        intro i1_101 i3_101 H locs ls h hP hD hS hl
                        replace h : B_X4_digest_101 Z0 (fx2 (B_X4_digest_101 Z0) n101) i1_101 i3_101 = some r := h
                        unfold B_X4_digest_101 at h
                        refine lv_iload_n hx hb dX4_digest_101 rfl (lv_at hl 2 rfl) ?_
                        refine lv_aload_n hx hb dX4_digest_102 rfl (lv_at hl 0 rfl) ?_
                        refine va_get (D := D) (ci := 4) (v := .ref (A0 0 0)) (C := RX4) (T := TX4) (N := 3) hx hb hts inX4_digest_4 hown hK.1 hP 0 rfl rfl 0 (by decide) (hts (.fieldLink RX4 12 "LyingScale" "now" "LLyingScale$State;") (List.mem_of_getElem? (i := 3) rfl)) (fun _ h9 => h9) rfl dX4_digest_103 ?_
                        replace h := bd h
                        obtain ⟨t4, et4, h⟩ := h
                        refine callRi (v := t4) (va_runV (As := []) (rest := [.int i3_101]) ⟨hx, hb, hml, hown, hts⟩ (c_X2_cases l D T (A0 0) (Z0 0) t4 et4) (cwV 0 hts gX4_digest_X2_cases rfl rfl rfl hdV_X2_cases ⟨Nat.le_of_ble_eq_true rfl, Nat.le_of_ble_eq_true rfl⟩) ⟨PB_blind, va_recv hK.1 hP (ci := 2) (q0 := 3) rfl rfl, PB_at (hP.sub (ws' := stW T (A0 0) (Z0 0)) [3, 4, 5, 6, 7, 8, 9, 10, 11, 12, 13] rfl) hK⟩ rfl rfl hl.1 rfl (lv_room (Nat.le_of_ble_eq_true rfl)) dX4_digest_106 ⟨Nat.zero_le _, Nat.zero_le _⟩) ?_
                        refine lv_icmp_ge (tgt := 135) hx hb dX4_digest_109 (by decide) (fun c5 => ?_) (fun c5 => ?_)
                        · replace h := ip c5 h
                          refine lv_iconst (v := 0) hx hb dX4_digest_135 (by decide) ?_
                          refine lv_istore_n (lv' := [(3, .int 0), (0, .ref h0), (1, .long i1_101)]) hx hb dX4_digest_136 rfl hl (by decide) rfl (fun ls hl => ?_)
                          have K137 : ∀ (n137 : Nat) (i1_137 : Int64) (i3_137 : Int32) (H : Heap) (locs : List Loc) (ls : Array Slot), fx2 (B_X4_digest_137 Z0) n137 i1_137 i3_137 = some r → va_P D vwCl (scW T h0 A0 (Z0)) H → va_D A (scW T h0 A0 (Z0)) → va_S A s.heap H locs → lv_has ls 5 [(0, .ref h0), (1, .long i1_137), (3, .int i3_137)] → W p l e ({ frames := 6, cells := 0, slots := 0, locals := 153 } : Room) s m args below meth c H locs 0 0 (MQ below (QEl D (scW T h0) r.1 r.2 A) args s 0 0 A) (F0 m 137 ls []) := by
                            intro n137
                            induction n137 with
                            | zero =>
                                intro i1_137 i3_137 H locs ls h
                                cases h
                            | succ n137 ih137 =>
                                intro i1_137 i3_137 H locs ls h hP hD hS hl
                                replace h : B_X4_digest_137 Z0 (fx2 (B_X4_digest_137 Z0) n137) i1_137 i3_137 = some r := h
                                unfold B_X4_digest_137 at h
                                refine lv_iload_n hx hb dX4_digest_137 rfl (lv_at hl 2 rfl) ?_
                                refine lv_aload_n hx hb dX4_digest_138 rfl (lv_at hl 0 rfl) ?_
                                refine va_get (D := D) (ci := 4) (v := .ref (A0 0 0)) (C := RX4) (T := TX4) (N := 3) hx hb hts inX4_digest_4 hown hK.1 hP 0 rfl rfl 0 (by decide) (hts (.fieldLink RX4 12 "LyingScale" "now" "LLyingScale$State;") (List.mem_of_getElem? (i := 3) rfl)) (fun _ h9 => h9) rfl dX4_digest_139 ?_
                                refine va_getN (D := D) (ci := 2) (v := .ref (A0 0 2)) (C := RX2) (T := TX2) (N := 9) hx hb hts inX4_digest_2 hown hK.1 hP 3 rfl rfl 1 (by decide) (va_Nw.use rfl (hK.2 (.fieldLinkNest RX4 122 "LyingScale$State" "plan" "LLyingScale$Weighings;" "LyingScale") (List.mem_of_getElem? (i := 0) rfl))) (fun _ h9 => h9) rfl dX4_digest_142 ?_
                                refine va_getN (D := D) (ci := 3) (v := .int ((Z0 0).1 6)) (C := RX3) (T := TX3) (N := 4) hx hb hts inX4_digest_3 hown hK.1 hP 5 rfl rfl 3 (by decide) (va_Nw.use rfl (hK.2 (.fieldLinkNest RX4 45 "LyingScale$Weighings" "count" "I" "LyingScale") (List.mem_of_getElem? (i := 11) rfl))) (fun _ h9 => h9) rfl dX4_digest_145 ?_
                                refine lv_icmp_ge (tgt := 197) hx hb dX4_digest_148 (by decide) (fun c6 => ?_) (fun c6 => ?_)
                                · replace h := ip c6 h
                                  refine lv_lload_n hx hb dX4_digest_197 rfl (lv_at hl 1 rfl) ?_
                                  refine lv_aload_n hx hb dX4_digest_198 rfl (lv_at hl 0 rfl) ?_
                                  refine va_get (D := D) (ci := 4) (v := .ref (A0 0 0)) (C := RX4) (T := TX4) (N := 3) hx hb hts inX4_digest_4 hown hK.1 hP 0 rfl rfl 0 (by decide) (hts (.fieldLink RX4 12 "LyingScale" "now" "LLyingScale$State;") (List.mem_of_getElem? (i := 3) rfl)) (fun _ h9 => h9) rfl dX4_digest_199 ?_
                                  replace h := bd h
                                  obtain ⟨t7, et7, h⟩ := h
                                  refine callMi (wr := [(h0, .inr (4, [.ref (A0 0 0), .ref (A0 6 1), .ref (A0 5 0)])), (A0 6 1, .inr (0, [.ref (A0 6 2), .int ((Z0 6).1 0)])), (A0 6 2, .inl (T 3, 4, .inr (.inr (.inr (.inr (hsQ A0)))))), (A0 1 0, .inr (2, [.ref (A0 1 1), .ref (A0 1 2), .ref (A0 1 3), .ref (A0 1 4), .int ((Z0 1).1 0), .int ((Z0 1).1 1), .int ((Z0 1).1 2), .int ((Z0 1).1 3), .int ((Z0 1).1 4)])), (A0 1 1, .inr (3, [.ref (A0 1 5), .ref (A0 1 6), .ref (A0 1 7), .int ((Z0 1).1 5)])), (A0 1 2, .inr (3, [.ref (A0 1 8), .ref (A0 1 9), .ref (A0 1 10), .int ((Z0 1).1 6)])), (A0 1 3, .inl (T 0, 33, .inl ((Z0 1).2 6))), (A0 1 4, .inl (T 0, 33, .inl ((Z0 1).2 7))), (A0 1 5, .inl (T 0, 40, .inl ((Z0 1).2 0))), (A0 1 6, .inl (T 0, 40, .inl ((Z0 1).2 1))), (A0 1 7, .inl (T 0, 40, .inl ((Z0 1).2 2))), (A0 1 8, .inl (T 0, 8, .inl ((Z0 1).2 3))), (A0 1 9, .inl (T 0, 8, .inl ((Z0 1).2 4))), (A0 1 10, .inl (T 0, 8, .inl ((Z0 1).2 5))), (A0 2 0, .inr (2, [.ref (A0 2 1), .ref (A0 2 2), .ref (A0 2 3), .ref (A0 2 4), .int ((Z0 2).1 0), .int ((Z0 2).1 1), .int ((Z0 2).1 2), .int ((Z0 2).1 3), .int ((Z0 2).1 4)])), (A0 2 1, .inr (3, [.ref (A0 2 5), .ref (A0 2 6), .ref (A0 2 7), .int ((Z0 2).1 5)])), (A0 2 2, .inr (3, [.ref (A0 2 8), .ref (A0 2 9), .ref (A0 2 10), .int ((Z0 2).1 6)])), (A0 2 3, .inl (T 0, 33, .inl ((Z0 2).2 6))), (A0 2 4, .inl (T 0, 33, .inl ((Z0 2).2 7))), (A0 2 5, .inl (T 0, 40, .inl ((Z0 2).2 0))), (A0 2 6, .inl (T 0, 40, .inl ((Z0 2).2 1))), (A0 2 7, .inl (T 0, 40, .inl ((Z0 2).2 2))), (A0 2 8, .inl (T 0, 8, .inl ((Z0 2).2 3))), (A0 2 9, .inl (T 0, 8, .inl ((Z0 2).2 4))), (A0 2 10, .inl (T 0, 8, .inl ((Z0 2).2 5))), (A0 3 0, .inr (2, [.ref (A0 3 1), .ref (A0 3 2), .ref (A0 3 3), .ref (A0 3 4), .int ((Z0 3).1 0), .int ((Z0 3).1 1), .int ((Z0 3).1 2), .int ((Z0 3).1 3), .int ((Z0 3).1 4)])), (A0 3 1, .inr (3, [.ref (A0 3 5), .ref (A0 3 6), .ref (A0 3 7), .int ((Z0 3).1 5)])), (A0 3 2, .inr (3, [.ref (A0 3 8), .ref (A0 3 9), .ref (A0 3 10), .int ((Z0 3).1 6)])), (A0 3 3, .inl (T 0, 33, .inl ((Z0 3).2 6))), (A0 3 4, .inl (T 0, 33, .inl ((Z0 3).2 7))), (A0 3 5, .inl (T 0, 40, .inl ((Z0 3).2 0))), (A0 3 6, .inl (T 0, 40, .inl ((Z0 3).2 1))), (A0 3 7, .inl (T 0, 40, .inl ((Z0 3).2 2))), (A0 3 8, .inl (T 0, 8, .inl ((Z0 3).2 3))), (A0 3 9, .inl (T 0, 8, .inl ((Z0 3).2 4))), (A0 3 10, .inl (T 0, 8, .inl ((Z0 3).2 5))), (A0 4 0, .inr (2, [.ref (A0 4 1), .ref (A0 4 2), .ref (A0 4 3), .ref (A0 4 4), .int ((Z0 4).1 0), .int ((Z0 4).1 1), .int ((Z0 4).1 2), .int ((Z0 4).1 3), .int ((Z0 4).1 4)])), (A0 4 1, .inr (3, [.ref (A0 4 5), .ref (A0 4 6), .ref (A0 4 7), .int ((Z0 4).1 5)])), (A0 4 2, .inr (3, [.ref (A0 4 8), .ref (A0 4 9), .ref (A0 4 10), .int ((Z0 4).1 6)])), (A0 4 3, .inl (T 0, 33, .inl ((Z0 4).2 6))), (A0 4 4, .inl (T 0, 33, .inl ((Z0 4).2 7))), (A0 4 5, .inl (T 0, 40, .inl ((Z0 4).2 0))), (A0 4 6, .inl (T 0, 40, .inl ((Z0 4).2 1))), (A0 4 7, .inl (T 0, 40, .inl ((Z0 4).2 2))), (A0 4 8, .inl (T 0, 8, .inl ((Z0 4).2 3))), (A0 4 9, .inl (T 0, 8, .inl ((Z0 4).2 4))), (A0 4 10, .inl (T 0, 8, .inl ((Z0 4).2 5))), (A0 5 0, .inr (1, [.ref (A0 5 1), .ref (A0 5 2), .ref (A0 5 3), .ref (A0 5 4), .int ((Z0 5).1 0), .int ((Z0 5).1 1), .int ((Z0 5).1 2), .int ((Z0 5).1 3), .int ((Z0 5).1 4)])), (A0 5 1, .inl (T 0, 100, .inl ((Z0 5).2 0))), (A0 5 2, .inl (T 0, 20, .inl ((Z0 5).2 1))), (A0 5 3, .inl (T 0, 20, .inl ((Z0 5).2 2))), (A0 5 4, .inl (T 0, 20, .inl ((Z0 5).2 3)))]) (ws' := scW T h0 A0 (zU Z0 0 t7.2)) (va_runV (As := []) (rest := [.long i1_137]) ⟨hx, hb, hml, hown, hts⟩ (c_X2_leastDifferences l D T (A0 0) (Z0 0) _ t7 et7) (cwV 0 hts gX4_digest_X2_leastDifferences rfl rfl rfl hdV_X2_leastDifferences ⟨Nat.le_of_ble_eq_true rfl, Nat.le_of_ble_eq_true rfl⟩) ⟨PM_blind, va_recv hK.1 hP (ci := 2) (q0 := 3) rfl rfl, PM_at (hP.sub (ws' := stW T (A0 0) (Z0 0)) [3, 4, 5, 6, 7, 8, 9, 10, 11, 12, 13] rfl) (hD.sub (ws' := stW T (A0 0) (Z0 0)) [3, 4, 5, 6, 7, 8, 9, 10, 11, 12, 13] (by decide) rfl) hK⟩ rfl rfl hl.1 rfl (lv_room (Nat.le_of_ble_eq_true rfl)) dX4_digest_202 ⟨Nat.zero_le _, Nat.zero_le _⟩) hS hA hP hD [3, 4, 5, 6, 7, 8, 9, 10, 11, 12, 13] [0, 1, 2, 14, 15, 16, 17, 18, 19, 20, 21, 22, 23, 24, 25, 26, 27, 28, 29, 30, 31, 32, 33, 34, 35, 36, 37, 38, 39, 40, 41, 42, 43, 44, 45, 46, 47, 48, 49, 50, 51, 52, 53, 54, 55, 56, 57, 58, 59, 60, 61, 62] rfl rfl (by decide) (by decide) [0, 1, 2, 52, 53, 54, 55, 56, 57, 58, 59, 60, 61, 62, 3, 4, 5, 6, 7, 8, 9, 10, 11, 12, 13, 14, 15, 16, 17, 18, 19, 20, 21, 22, 23, 24, 25, 26, 27, 28, 29, 30, 31, 32, 33, 34, 35, 36, 37, 38, 39, 40, 41, 42, 43, 44, 45, 46, 47, 48, 49, 50, 51] (by decide) rfl (fun H locs hP hD hS => ?_)
                                  refine lv_i2l (v := t7.1.toInt64) hx hb dX4_digest_205 rfl ?_
                                  replace h := bd h
                                  obtain ⟨t8, et8, h⟩ := h
                                  refine callRl (v := t8) (va_runS (As := [.long i1_137, .long t7.1.toInt64]) (rest := []) ⟨hx, hb, hml, hown, hts⟩ (c_X4_mix l D T i1_137 t7.1.toInt64 t8 et8) (va_cwS 2 hts gX4_digest_X4_mix rfl rfl rfl hdS_X4_mix ⟨Nat.le_of_ble_eq_true rfl, Nat.le_of_ble_eq_true rfl⟩) ⟨PB_blind, PB_at (hP.sub (ws' := ([] : va_W)) [] rfl) hK⟩ rfl rfl hl.1 rfl (lv_room (Nat.le_of_ble_eq_true rfl)) dX4_digest_206 ⟨Nat.zero_le _, Nat.zero_le _⟩) ?_
                                  refine lv_lstore_n (lv' := [(1, .long t8), (0, .ref h0), (3, .int i3_137)]) hx hb dX4_digest_209 rfl hl (by decide) rfl (fun ls hl => ?_)
                                  refine lv_lload_n hx hb dX4_digest_210 rfl (lv_at hl 0 rfl) ?_
                                  refine lv_aload_n hx hb dX4_digest_211 rfl (lv_at hl 1 rfl) ?_
                                  replace h := bd h
                                  obtain ⟨t9, et9, h⟩ := h
                                  refine callEi (va_runV (As := []) (rest := [.long t8]) ⟨hx, hb, hml, hown, hts⟩ (c_X4_bound l D T h0 A0 (zU Z0 0 t7.2) _ t9 et9) (cwV 0 hts gX4_digest_X4_bound rfl rfl rfl hdV_X4_bound ⟨Nat.le_of_ble_eq_true rfl, Nat.le_of_ble_eq_true rfl⟩) ⟨PM_blind, va_recv hK.1 hP (ci := 4) (q0 := 0) rfl rfl, PM_at hP hD hK⟩ rfl rfl hl.1 rfl (lv_room (Nat.le_of_ble_eq_true rfl)) dX4_digest_212 ⟨Nat.zero_le _, Nat.zero_le _⟩) hS hA hP hD (fun u10 H locs hP hD hS => ?_)
                                  refine lv_i2l (v := t9.1.toInt64) hx hb dX4_digest_215 rfl ?_
                                  replace h := bd h
                                  obtain ⟨t11, et11, h⟩ := h
                                  refine callRl (v := t11) (va_runS (As := [.long t8, .long t9.1.toInt64]) (rest := []) ⟨hx, hb, hml, hown, hts⟩ (c_X4_mix l D T t8 t9.1.toInt64 t11 et11) (va_cwS 2 hts gX4_digest_X4_mix rfl rfl rfl hdS_X4_mix ⟨Nat.le_of_ble_eq_true rfl, Nat.le_of_ble_eq_true rfl⟩) ⟨PB_blind, PB_at (hP.sub (ws' := ([] : va_W)) [] rfl) hK⟩ rfl rfl hl.1 rfl (lv_room (Nat.le_of_ble_eq_true rfl)) dX4_digest_216 ⟨Nat.zero_le _, Nat.zero_le _⟩) ?_
                                  refine lv_lstore_n (lv' := [(1, .long t11), (0, .ref h0), (3, .int i3_137)]) hx hb dX4_digest_219 rfl hl (by decide) rfl (fun ls hl => ?_)
                                  refine lv_lload_n hx hb dX4_digest_220 rfl (lv_at hl 0 rfl) ?_
                                  refine lv_aload_n hx hb dX4_digest_221 rfl (lv_at hl 1 rfl) ?_
                                  refine va_get (D := D) (ci := 4) (v := .ref (u10 0 0)) (C := RX4) (T := TX4) (N := 3) hx hb hts inX4_digest_4 hown hK.1 hP 0 rfl rfl 0 (by decide) (hts (.fieldLink RX4 12 "LyingScale" "now" "LLyingScale$State;") (List.mem_of_getElem? (i := 3) rfl)) (fun _ h9 => h9) rfl dX4_digest_222 ?_
                                  refine lv_iconst (v := 5) hx hb dX4_digest_225 (by decide) ?_
                                  replace h := bd h
                                  obtain ⟨t12, et12, h⟩ := h
                                  refine callRl (v := t12) (va_runV (As := [.int 5]) (rest := [.long t11]) ⟨hx, hb, hml, hown, hts⟩ (c_X2_weightAhead l D T (u10 0) (t9.2 0) 5 t12 et12) (cwV 1 hts gX4_digest_X2_weightAhead rfl rfl rfl hdV_X2_weightAhead ⟨Nat.le_of_ble_eq_true rfl, Nat.le_of_ble_eq_true rfl⟩) ⟨PB_blind, va_recv hK.1 hP (ci := 2) (q0 := 3) rfl rfl, PB_at (hP.sub (ws' := stW T (u10 0) (t9.2 0)) [3, 4, 5, 6, 7, 8, 9, 10, 11, 12, 13] rfl) hK⟩ rfl rfl hl.1 rfl (lv_room (Nat.le_of_ble_eq_true rfl)) dX4_digest_226 ⟨Nat.zero_le _, Nat.zero_le _⟩) ?_
                                  replace h := bd h
                                  obtain ⟨t13, et13, h⟩ := h
                                  refine callRl (v := t13) (va_runS (As := [.long t11, .long t12]) (rest := []) ⟨hx, hb, hml, hown, hts⟩ (c_X4_mix l D T t11 t12 t13 et13) (va_cwS 2 hts gX4_digest_X4_mix rfl rfl rfl hdS_X4_mix ⟨Nat.le_of_ble_eq_true rfl, Nat.le_of_ble_eq_true rfl⟩) ⟨PB_blind, PB_at (hP.sub (ws' := ([] : va_W)) [] rfl) hK⟩ rfl rfl hl.1 rfl (lv_room (Nat.le_of_ble_eq_true rfl)) dX4_digest_229 ⟨Nat.zero_le _, Nat.zero_le _⟩) ?_
                                  refine lv_lstore_n (lv' := [(1, .long t13), (0, .ref h0), (3, .int i3_137)]) hx hb dX4_digest_232 rfl hl (by decide) rfl (fun ls hl => ?_)
                                  refine lv_lload_n hx hb dX4_digest_233 rfl (lv_at hl 0 rfl) ?_
                                  refine lv_aload_n hx hb dX4_digest_234 rfl (lv_at hl 1 rfl) ?_
                                  refine va_get (D := D) (ci := 4) (v := .ref (u10 0 0)) (C := RX4) (T := TX4) (N := 3) hx hb hts inX4_digest_4 hown hK.1 hP 0 rfl rfl 0 (by decide) (hts (.fieldLink RX4 12 "LyingScale" "now" "LLyingScale$State;") (List.mem_of_getElem? (i := 3) rfl)) (fun _ h9 => h9) rfl dX4_digest_235 ?_
                                  refine lv_iconst (v := 3) hx hb dX4_digest_238 (by decide) ?_
                                  replace h := bd h
                                  obtain ⟨t14, et14, h⟩ := h
                                  refine callRi (v := t14) (va_runV (As := [.int 3]) (rest := [.long t13]) ⟨hx, hb, hml, hown, hts⟩ (c_X2_findGroup l D T (u10 0) (t9.2 0) 3 t14 et14) (cwV 1 hts gX4_digest_X2_findGroup rfl rfl rfl hdV_X2_findGroup ⟨Nat.le_of_ble_eq_true rfl, Nat.le_of_ble_eq_true rfl⟩) ⟨PB_blind, va_recv hK.1 hP (ci := 2) (q0 := 3) rfl rfl, PB_at (hP.sub (ws' := stW T (u10 0) (t9.2 0)) [3, 4, 5, 6, 7, 8, 9, 10, 11, 12, 13] rfl) hK⟩ rfl rfl hl.1 rfl (lv_room (Nat.le_of_ble_eq_true rfl)) dX4_digest_239 ⟨Nat.zero_le _, Nat.zero_le _⟩) ?_
                                  refine lv_i2l (v := t14.toInt64) hx hb dX4_digest_242 rfl ?_
                                  replace h := bd h
                                  obtain ⟨t15, et15, h⟩ := h
                                  refine callRl (v := t15) (va_runS (As := [.long t13, .long t14.toInt64]) (rest := []) ⟨hx, hb, hml, hown, hts⟩ (c_X4_mix l D T t13 t14.toInt64 t15 et15) (va_cwS 2 hts gX4_digest_X4_mix rfl rfl rfl hdS_X4_mix ⟨Nat.le_of_ble_eq_true rfl, Nat.le_of_ble_eq_true rfl⟩) ⟨PB_blind, PB_at (hP.sub (ws' := ([] : va_W)) [] rfl) hK⟩ rfl rfl hl.1 rfl (lv_room (Nat.le_of_ble_eq_true rfl)) dX4_digest_243 ⟨Nat.zero_le _, Nat.zero_le _⟩) ?_
                                  refine lv_lstore_n (lv' := [(1, .long t15), (0, .ref h0), (3, .int i3_137)]) hx hb dX4_digest_246 rfl hl (by decide) rfl (fun ls hl => ?_)
                                  refine lv_lload_n hx hb dX4_digest_247 rfl (lv_at hl 0 rfl) ?_
                                  refine lv_aload_n hx hb dX4_digest_248 rfl (lv_at hl 1 rfl) ?_
                                  refine va_get (D := D) (ci := 4) (v := .ref (u10 6 1)) (C := RX4) (T := TX4) (N := 3) hx hb hts inX4_digest_4 hown hK.1 hP 0 rfl rfl 1 (by decide) (hts (.fieldLink RX4 19 "LyingScale" "history" "LLyingScale$History;") (List.mem_of_getElem? (i := 4) rfl)) (fun _ h9 => h9) rfl dX4_digest_249 ?_
                                  refine va_getN (D := D) (ci := 0) (v := .int ((t9.2 6).1 0)) (C := RX0) (T := TX0) (N := 2) hx hb hts inX4_digest_0 hown hK.1 hP 1 rfl rfl 1 (by decide) (va_Nw.use rfl (hK.2 (.fieldLinkNest RX4 234 "LyingScale$History" "count" "I" "LyingScale") (List.mem_of_getElem? (i := 7) rfl))) (fun _ h9 => h9) rfl dX4_digest_252 ?_
                                  refine lv_i2l (v := ((t9.2 6).1 0).toInt64) hx hb dX4_digest_255 rfl ?_
                                  replace h := bd h
                                  obtain ⟨t16, et16, h⟩ := h
                                  refine callRl (v := t16) (va_runS (As := [.long t15, .long (((t9.2 6).1 0).toInt64)]) (rest := []) ⟨hx, hb, hml, hown, hts⟩ (c_X4_mix l D T t15 (((t9.2 6).1 0).toInt64) t16 et16) (va_cwS 2 hts gX4_digest_X4_mix rfl rfl rfl hdS_X4_mix ⟨Nat.le_of_ble_eq_true rfl, Nat.le_of_ble_eq_true rfl⟩) ⟨PB_blind, PB_at (hP.sub (ws' := ([] : va_W)) [] rfl) hK⟩ rfl rfl hl.1 rfl (lv_room (Nat.le_of_ble_eq_true rfl)) dX4_digest_256 ⟨Nat.zero_le _, Nat.zero_le _⟩) ?_
                                  obtain rfl := Option.some.inj h
                                  exact W.lret hx hb hr (fun t ht hW => ⟨⟨_, u10, rfl, rfl, by rw [ht]; exact hP, hD⟩, hS.F ht⟩) hS.2.2 dX4_digest_259 hlocks
                                replace h := im c6 h
                                refine lv_lload_n hx hb dX4_digest_151 rfl (lv_at hl 1 rfl) ?_
                                refine lv_aload_n hx hb dX4_digest_152 rfl (lv_at hl 0 rfl) ?_
                                refine va_get (D := D) (ci := 4) (v := .ref (A0 0 0)) (C := RX4) (T := TX4) (N := 3) hx hb hts inX4_digest_4 hown hK.1 hP 0 rfl rfl 0 (by decide) (hts (.fieldLink RX4 12 "LyingScale" "now" "LLyingScale$State;") (List.mem_of_getElem? (i := 3) rfl)) (fun _ h9 => h9) rfl dX4_digest_153 ?_
                                refine va_getN (D := D) (ci := 2) (v := .ref (A0 0 2)) (C := RX2) (T := TX2) (N := 9) hx hb hts inX4_digest_2 hown hK.1 hP 3 rfl rfl 1 (by decide) (va_Nw.use rfl (hK.2 (.fieldLinkNest RX4 122 "LyingScale$State" "plan" "LLyingScale$Weighings;" "LyingScale") (List.mem_of_getElem? (i := 0) rfl))) (fun _ h9 => h9) rfl dX4_digest_156 ?_
                                refine va_getN (D := D) (ci := 3) (v := .ref (A0 0 8)) (C := RX3) (T := TX3) (N := 4) hx hb hts inX4_digest_3 hown hK.1 hP 5 rfl rfl 0 (by decide) (va_Nw.use rfl (hK.2 (.fieldLinkNest RX4 246 "LyingScale$Weighings" "lefts" "[I" "LyingScale") (List.mem_of_getElem? (i := 8) rfl))) (fun _ h9 => h9) rfl dX4_digest_159 ?_
                                refine lv_iload_n hx hb dX4_digest_162 rfl (lv_at hl 2 rfl) ?_
                                replace h := bd h
                                obtain ⟨t17, et17, h⟩ := h
                                refine callRi (v := t17) (va_runS (As := [.ref (A0 0 8), .int i3_137]) (rest := [.long i1_137]) ⟨hx, hb, hml, hown, hts⟩ (c_X4_at l D T (A0 0 8) 8 ((Z0 0).2 3) i3_137 (Nat.le_of_ble_eq_true rfl) t17 et17) (va_cwS 2 hts gX4_digest_X4_at rfl rfl rfl hdS_X4_at ⟨Nat.le_of_ble_eq_true rfl, Nat.le_of_ble_eq_true rfl⟩) ⟨PB_blind, PB_at (hP.sub (ws' := ([(A0 0 8, .inl (T 0, 8, .inl ((Z0 0).2 3)))] : va_W)) [11] rfl) hK⟩ rfl rfl hl.1 rfl (lv_room (Nat.le_of_ble_eq_true rfl)) dX4_digest_163 ⟨Nat.zero_le _, Nat.zero_le _⟩) ?_
                                refine lv_i2l (v := t17.toInt64) hx hb dX4_digest_166 rfl ?_
                                replace h := bd h
                                obtain ⟨t18, et18, h⟩ := h
                                refine callRl (v := t18) (va_runS (As := [.long i1_137, .long t17.toInt64]) (rest := []) ⟨hx, hb, hml, hown, hts⟩ (c_X4_mix l D T i1_137 t17.toInt64 t18 et18) (va_cwS 2 hts gX4_digest_X4_mix rfl rfl rfl hdS_X4_mix ⟨Nat.le_of_ble_eq_true rfl, Nat.le_of_ble_eq_true rfl⟩) ⟨PB_blind, PB_at (hP.sub (ws' := ([] : va_W)) [] rfl) hK⟩ rfl rfl hl.1 rfl (lv_room (Nat.le_of_ble_eq_true rfl)) dX4_digest_167 ⟨Nat.zero_le _, Nat.zero_le _⟩) ?_
                                refine lv_lstore_n (lv' := [(1, .long t18), (0, .ref h0), (3, .int i3_137)]) hx hb dX4_digest_170 rfl hl (by decide) rfl (fun ls hl => ?_)
                                refine lv_lload_n hx hb dX4_digest_171 rfl (lv_at hl 0 rfl) ?_
                                refine lv_aload_n hx hb dX4_digest_172 rfl (lv_at hl 1 rfl) ?_
                                refine va_get (D := D) (ci := 4) (v := .ref (A0 0 0)) (C := RX4) (T := TX4) (N := 3) hx hb hts inX4_digest_4 hown hK.1 hP 0 rfl rfl 0 (by decide) (hts (.fieldLink RX4 12 "LyingScale" "now" "LLyingScale$State;") (List.mem_of_getElem? (i := 3) rfl)) (fun _ h9 => h9) rfl dX4_digest_173 ?_
                                refine va_getN (D := D) (ci := 2) (v := .ref (A0 0 2)) (C := RX2) (T := TX2) (N := 9) hx hb hts inX4_digest_2 hown hK.1 hP 3 rfl rfl 1 (by decide) (va_Nw.use rfl (hK.2 (.fieldLinkNest RX4 122 "LyingScale$State" "plan" "LLyingScale$Weighings;" "LyingScale") (List.mem_of_getElem? (i := 0) rfl))) (fun _ h9 => h9) rfl dX4_digest_176 ?_
                                refine va_getN (D := D) (ci := 3) (v := .ref (A0 0 9)) (C := RX3) (T := TX3) (N := 4) hx hb hts inX4_digest_3 hown hK.1 hP 5 rfl rfl 1 (by decide) (va_Nw.use rfl (hK.2 (.fieldLinkNest RX4 247 "LyingScale$Weighings" "rights" "[I" "LyingScale") (List.mem_of_getElem? (i := 9) rfl))) (fun _ h9 => h9) rfl dX4_digest_179 ?_
                                refine lv_iload_n hx hb dX4_digest_182 rfl (lv_at hl 2 rfl) ?_
                                replace h := bd h
                                obtain ⟨t19, et19, h⟩ := h
                                refine callRi (v := t19) (va_runS (As := [.ref (A0 0 9), .int i3_137]) (rest := [.long t18]) ⟨hx, hb, hml, hown, hts⟩ (c_X4_at l D T (A0 0 9) 8 ((Z0 0).2 4) i3_137 (Nat.le_of_ble_eq_true rfl) t19 et19) (va_cwS 2 hts gX4_digest_X4_at rfl rfl rfl hdS_X4_at ⟨Nat.le_of_ble_eq_true rfl, Nat.le_of_ble_eq_true rfl⟩) ⟨PB_blind, PB_at (hP.sub (ws' := ([(A0 0 9, .inl (T 0, 8, .inl ((Z0 0).2 4)))] : va_W)) [12] rfl) hK⟩ rfl rfl hl.1 rfl (lv_room (Nat.le_of_ble_eq_true rfl)) dX4_digest_183 ⟨Nat.zero_le _, Nat.zero_le _⟩) ?_
                                refine lv_i2l (v := t19.toInt64) hx hb dX4_digest_186 rfl ?_
                                replace h := bd h
                                obtain ⟨t20, et20, h⟩ := h
                                refine callRl (v := t20) (va_runS (As := [.long t18, .long t19.toInt64]) (rest := []) ⟨hx, hb, hml, hown, hts⟩ (c_X4_mix l D T t18 t19.toInt64 t20 et20) (va_cwS 2 hts gX4_digest_X4_mix rfl rfl rfl hdS_X4_mix ⟨Nat.le_of_ble_eq_true rfl, Nat.le_of_ble_eq_true rfl⟩) ⟨PB_blind, PB_at (hP.sub (ws' := ([] : va_W)) [] rfl) hK⟩ rfl rfl hl.1 rfl (lv_room (Nat.le_of_ble_eq_true rfl)) dX4_digest_187 ⟨Nat.zero_le _, Nat.zero_le _⟩) ?_
                                refine lv_lstore_n (lv' := [(1, .long t20), (0, .ref h0), (3, .int i3_137)]) hx hb dX4_digest_190 rfl hl (by decide) rfl (fun ls hl => ?_)
                                refine lv_iinc (v := i3_137 + 1) (lv' := [(3, .int (i3_137 + 1)), (1, .long t20), (0, .ref h0)]) hx hb dX4_digest_191 hl (k := 2) rfl rfl (by decide) rfl (fun ls hl => ?_)
                                refine lv_goto (tgt := 137) hx hb dX4_digest_194 (by decide) ?_
                                exact ih137 t20 (i3_137 + 1) _ _ ls h hP hD hS (lv_sub hl [2, 1, 0] rfl)
                          exact K137 1000 i1_101 0 _ _ ls h hP hD hS (lv_sub hl [1, 2, 0] rfl)
                        replace h := im c5 h
                        refine lv_lload_n hx hb dX4_digest_112 rfl (lv_at hl 1 rfl) ?_
                        refine lv_aload_n hx hb dX4_digest_113 rfl (lv_at hl 0 rfl) ?_
                        refine va_get (D := D) (ci := 4) (v := .ref (A0 0 0)) (C := RX4) (T := TX4) (N := 3) hx hb hts inX4_digest_4 hown hK.1 hP 0 rfl rfl 0 (by decide) (hts (.fieldLink RX4 12 "LyingScale" "now" "LLyingScale$State;") (List.mem_of_getElem? (i := 3) rfl)) (fun _ h9 => h9) rfl dX4_digest_114 ?_
                        refine va_getN (D := D) (ci := 2) (v := .ref (A0 0 3)) (C := RX2) (T := TX2) (N := 9) hx hb hts inX4_digest_2 hown hK.1 hP 3 rfl rfl 2 (by decide) (va_Nw.use rfl (hK.2 (.fieldLinkNest RX4 133 "LyingScale$State" "liesOf" "[I" "LyingScale") (List.mem_of_getElem? (i := 1) rfl))) (fun _ h9 => h9) rfl dX4_digest_117 ?_
                        refine lv_iload_n hx hb dX4_digest_120 rfl (lv_at hl 2 rfl) ?_
                        replace h := bd h
                        obtain ⟨t21, et21, h⟩ := h
                        refine callRi (v := t21) (va_runS (As := [.ref (A0 0 3), .int i3_101]) (rest := [.long i1_101]) ⟨hx, hb, hml, hown, hts⟩ (c_X4_at l D T (A0 0 3) 33 ((Z0 0).2 6) i3_101 (Nat.le_of_ble_eq_true rfl) t21 et21) (va_cwS 2 hts gX4_digest_X4_at rfl rfl rfl hdS_X4_at ⟨Nat.le_of_ble_eq_true rfl, Nat.le_of_ble_eq_true rfl⟩) ⟨PB_blind, PB_at (hP.sub (ws' := ([(A0 0 3, .inl (T 0, 33, .inl ((Z0 0).2 6)))] : va_W)) [6] rfl) hK⟩ rfl rfl hl.1 rfl (lv_room (Nat.le_of_ble_eq_true rfl)) dX4_digest_121 ⟨Nat.zero_le _, Nat.zero_le _⟩) ?_
                        refine lv_i2l (v := t21.toInt64) hx hb dX4_digest_124 rfl ?_
                        replace h := bd h
                        obtain ⟨t22, et22, h⟩ := h
                        refine callRl (v := t22) (va_runS (As := [.long i1_101, .long t21.toInt64]) (rest := []) ⟨hx, hb, hml, hown, hts⟩ (c_X4_mix l D T i1_101 t21.toInt64 t22 et22) (va_cwS 2 hts gX4_digest_X4_mix rfl rfl rfl hdS_X4_mix ⟨Nat.le_of_ble_eq_true rfl, Nat.le_of_ble_eq_true rfl⟩) ⟨PB_blind, PB_at (hP.sub (ws' := ([] : va_W)) [] rfl) hK⟩ rfl rfl hl.1 rfl (lv_room (Nat.le_of_ble_eq_true rfl)) dX4_digest_125 ⟨Nat.zero_le _, Nat.zero_le _⟩) ?_
                        refine lv_lstore_n (lv' := [(1, .long t22), (0, .ref h0), (3, .int i3_101)]) hx hb dX4_digest_128 rfl hl (by decide) rfl (fun ls hl => ?_)
                        refine lv_iinc (v := i3_101 + 1) (lv' := [(3, .int (i3_101 + 1)), (1, .long t22), (0, .ref h0)]) hx hb dX4_digest_129 hl (k := 2) rfl rfl (by decide) rfl (fun ls hl => ?_)
                        refine lv_goto (tgt := 101) hx hb dX4_digest_132 (by decide) ?_
                        exact ih101 t22 (i3_101 + 1) _ _ ls h hP hD hS (lv_sub hl [2, 1, 0] rfl)
                  exact K101 1000 i1_45 0 _ _ ls h hP hD hS (lv_sub hl [1, 2, 0] rfl)
                replace h := im c3 h
                refine lv_iconst (v := 0) hx hb dX4_digest_59 (by decide) ?_
                refine lv_istore (lv' := [(4, .int 0), (0, .ref h0), (1, .long i1_45), (3, .int i3_45)]) hx hb dX4_digest_60 hl (by decide) rfl (fun ls hl => ?_)
                have K62 : ∀ (n62 : Nat) (i1_62 : Int64) (i4_62 : Int32) (H : Heap) (locs : List Loc) (ls : Array Slot), fx2 (B_X4_digest_62 Z0 i3_45 (fx2 (B_X4_digest_45 Z0) n45)) n62 i1_62 i4_62 = some r → va_P D vwCl (scW T h0 A0 (Z0)) H → va_D A (scW T h0 A0 (Z0)) → va_S A s.heap H locs → lv_has ls 5 [(0, .ref h0), (1, .long i1_62), (3, .int i3_45), (4, .int i4_62)] → W p l e ({ frames := 6, cells := 0, slots := 0, locals := 153 } : Room) s m args below meth c H locs 0 0 (MQ below (QEl D (scW T h0) r.1 r.2 A) args s 0 0 A) (F0 m 62 ls []) := by
                  intro n62
                  induction n62 with
                  | zero =>
                      intro i1_62 i4_62 H locs ls h
                      cases h
                  | succ n62 ih62 =>
                      intro i1_62 i4_62 H locs ls h hP hD hS hl
                      replace h : B_X4_digest_62 Z0 i3_45 (fx2 (B_X4_digest_45 Z0) n45) (fx2 (B_X4_digest_62 Z0 i3_45 (fx2 (B_X4_digest_45 Z0) n45)) n62) i1_62 i4_62 = some r := h
                      unfold B_X4_digest_62 at h
                      refine lv_iload hx hb dX4_digest_62 (lv_at hl 3 rfl) ?_
                      refine lv_iconst (v := 3) hx hb dX4_digest_64 (by decide) ?_
                      refine lv_icmp_ge (tgt := 93) hx hb dX4_digest_65 (by decide) (fun c23 => ?_) (fun c23 => ?_)
                      · replace h := ip c23 h
                        refine lv_iinc (v := i3_45 + 1) (lv' := [(3, .int (i3_45 + 1)), (0, .ref h0), (1, .long i1_62), (4, .int i4_62)]) hx hb dX4_digest_93 hl (k := 2) rfl rfl (by decide) rfl (fun ls hl => ?_)
                        refine lv_goto (tgt := 45) hx hb dX4_digest_96 (by decide) ?_
                        exact ih45 i1_62 (i3_45 + 1) _ _ ls h hP hD hS (lv_sub hl [1, 2, 0] rfl)
                      replace h := im c23 h
                      refine lv_lload_n hx hb dX4_digest_68 rfl (lv_at hl 1 rfl) ?_
                      refine lv_aload_n hx hb dX4_digest_69 rfl (lv_at hl 0 rfl) ?_
                      refine va_get (D := D) (ci := 4) (v := .ref (A0 0 0)) (C := RX4) (T := TX4) (N := 3) hx hb hts inX4_digest_4 hown hK.1 hP 0 rfl rfl 0 (by decide) (hts (.fieldLink RX4 12 "LyingScale" "now" "LLyingScale$State;") (List.mem_of_getElem? (i := 3) rfl)) (fun _ h9 => h9) rfl dX4_digest_70 ?_
                      refine va_getN (D := D) (ci := 2) (v := .ref (A0 0 1)) (C := RX2) (T := TX2) (N := 9) hx hb hts inX4_digest_2 hown hK.1 hP 3 rfl rfl 0 (by decide) (va_Nw.use rfl (hK.2 (.fieldLinkNest RX4 41 "LyingScale$State" "told" "LLyingScale$Weighings;" "LyingScale") (List.mem_of_getElem? (i := 10) rfl))) (fun _ h9 => h9) rfl dX4_digest_73 ?_
                      refine lv_iload_n hx hb dX4_digest_76 rfl (lv_at hl 2 rfl) ?_
                      refine lv_iload hx hb dX4_digest_77 (lv_at hl 3 rfl) ?_
                      replace h := bd h
                      obtain ⟨t24, et24, h⟩ := h
                      refine callRi (v := t24) (va_runV (As := [.int i3_45, .int i4_62]) (rest := [.long i1_62]) ⟨hx, hb, hml, hown, hts⟩ (c_X3_part l D T (tdA (A0 0)) 40 (tdS (Z0 0)) i3_45 i4_62 (Nat.le_of_ble_eq_true rfl) t24 et24) (cwV 2 hts gX4_digest_X3_part rfl rfl rfl hdV_X3_part ⟨Nat.le_of_ble_eq_true rfl, Nat.le_of_ble_eq_true rfl⟩) ⟨PB_blind, va_recv hK.1 hP (ci := 3) (q0 := 4) rfl rfl, PB_at (hP.sub (ws' := wgW T 40 (tdA (A0 0)) (tdS (Z0 0))) [4, 8, 9, 10] rfl) hK⟩ rfl rfl hl.1 rfl (lv_room (Nat.le_of_ble_eq_true rfl)) dX4_digest_79 ⟨Nat.zero_le _, Nat.zero_le _⟩) ?_
                      refine lv_i2l (v := t24.toInt64) hx hb dX4_digest_82 rfl ?_
                      replace h := bd h
                      obtain ⟨t25, et25, h⟩ := h
                      refine callRl (v := t25) (va_runS (As := [.long i1_62, .long t24.toInt64]) (rest := []) ⟨hx, hb, hml, hown, hts⟩ (c_X4_mix l D T i1_62 t24.toInt64 t25 et25) (va_cwS 2 hts gX4_digest_X4_mix rfl rfl rfl hdS_X4_mix ⟨Nat.le_of_ble_eq_true rfl, Nat.le_of_ble_eq_true rfl⟩) ⟨PB_blind, PB_at (hP.sub (ws' := ([] : va_W)) [] rfl) hK⟩ rfl rfl hl.1 rfl (lv_room (Nat.le_of_ble_eq_true rfl)) dX4_digest_83 ⟨Nat.zero_le _, Nat.zero_le _⟩) ?_
                      refine lv_lstore_n (lv' := [(1, .long t25), (0, .ref h0), (3, .int i3_45), (4, .int i4_62)]) hx hb dX4_digest_86 rfl hl (by decide) rfl (fun ls hl => ?_)
                      refine lv_iinc (v := i4_62 + 1) (lv' := [(4, .int (i4_62 + 1)), (1, .long t25), (0, .ref h0), (3, .int i3_45)]) hx hb dX4_digest_87 hl (k := 3) rfl rfl (by decide) rfl (fun ls hl => ?_)
                      refine lv_goto (tgt := 62) hx hb dX4_digest_90 (by decide) ?_
                      exact ih62 t25 (i4_62 + 1) _ _ ls h hP hD hS (lv_sub hl [2, 1, 3, 0] rfl)
                exact K62 1000 i1_45 0 _ _ ls h hP hD hS (lv_sub hl [1, 2, 3, 0] rfl)
          exact K45 1000 i1_17 0 _ _ ls h hP hD hS (lv_sub hl [1, 2, 0] rfl)
        replace h := im c2 h
        refine lv_lload_n hx hb dX4_digest_23 rfl (lv_at hl 1 rfl) ?_
        refine lv_aload_n hx hb dX4_digest_24 rfl (lv_at hl 0 rfl) ?_
        refine va_get (D := D) (ci := 4) (v := .ref (A0 0 0)) (C := RX4) (T := TX4) (N := 3) hx hb hts inX4_digest_4 hown hK.1 hP 0 rfl rfl 0 (by decide) (hts (.fieldLink RX4 12 "LyingScale" "now" "LLyingScale$State;") (List.mem_of_getElem? (i := 3) rfl)) (fun _ h9 => h9) rfl dX4_digest_25 ?_
        refine lv_iload_n hx hb dX4_digest_28 rfl (lv_at hl 2 rfl) ?_
        replace h := bd h
        obtain ⟨t26, et26, h⟩ := h
        refine callRi (v := t26) (va_runV (As := [.int i3_17]) (rest := [.long i1_17]) ⟨hx, hb, hml, hown, hts⟩ (c_X2_number l D T (A0 0) (Z0 0) i3_17 t26 et26) (cwV 1 hts gX4_digest_X2_number rfl rfl rfl hdV_X2_number ⟨Nat.le_of_ble_eq_true rfl, Nat.le_of_ble_eq_true rfl⟩) ⟨PB_blind, va_recv hK.1 hP (ci := 2) (q0 := 3) rfl rfl, PB_at (hP.sub (ws' := stW T (A0 0) (Z0 0)) [3, 4, 5, 6, 7, 8, 9, 10, 11, 12, 13] rfl) hK⟩ rfl rfl hl.1 rfl (lv_room (Nat.le_of_ble_eq_true rfl)) dX4_digest_29 ⟨Nat.zero_le _, Nat.zero_le _⟩) ?_
        refine lv_i2l (v := t26.toInt64) hx hb dX4_digest_32 rfl ?_
        replace h := bd h
        obtain ⟨t27, et27, h⟩ := h
        refine callRl (v := t27) (va_runS (As := [.long i1_17, .long t26.toInt64]) (rest := []) ⟨hx, hb, hml, hown, hts⟩ (c_X4_mix l D T i1_17 t26.toInt64 t27 et27) (va_cwS 2 hts gX4_digest_X4_mix rfl rfl rfl hdS_X4_mix ⟨Nat.le_of_ble_eq_true rfl, Nat.le_of_ble_eq_true rfl⟩) ⟨PB_blind, PB_at (hP.sub (ws' := ([] : va_W)) [] rfl) hK⟩ rfl rfl hl.1 rfl (lv_room (Nat.le_of_ble_eq_true rfl)) dX4_digest_33 ⟨Nat.zero_le _, Nat.zero_le _⟩) ?_
        refine lv_lstore_n (lv' := [(1, .long t27), (0, .ref h0), (3, .int i3_17)]) hx hb dX4_digest_36 rfl hl (by decide) rfl (fun ls hl => ?_)
        refine lv_iinc (v := i3_17 + 1) (lv' := [(3, .int (i3_17 + 1)), (1, .long t27), (0, .ref h0)]) hx hb dX4_digest_37 hl (k := 2) rfl rfl (by decide) rfl (fun ls hl => ?_)
        refine lv_goto (tgt := 17) hx hb dX4_digest_40 (by decide) ?_
        exact ih17 t27 (i3_17 + 1) _ _ ls h hP hD hS (lv_sub hl [2, 1, 0] rfl)
  exact K17 1000 t1 0 _ _ ls h hP hD hS (lv_sub hl [2, 1, 0] rfl)
