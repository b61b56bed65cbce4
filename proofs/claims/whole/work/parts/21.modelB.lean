def F_X5_whyNotAsk (x0 : St) (v1 : Int32) (v2 : Int32) : Option (Int32) :=
  (F_X5_areSides x0 v1 v2).bind fun t1 => if t1 = 0 then (some 1) else (if ((x0.2 0) 4) < 0 then (some 2) else (if ((x0.2 0) 2) = 40 then (some 2) else (if ((x0.2 0) 5) = 30 then (some 2) else (some 0))))
def F_X5_asks (x0 : St) (v1 : Int32) (v2 : Int32) : Option (Int32 × St) :=
  (F_X5_truth ((x0.2 0) 4) v1 v2).bind fun t1 => (some ((t1 + ((((x0.2 0) 6) >>> (((x0.2 0) 5) &&& 31)) &&& 1)) - (t1 + ((((x0.2 0) 6) >>> (((x0.2 0) 5) &&& 31)) &&& 1)) / 3 * 3)).bind fun t2 => (some (sA x0 0 (upd (x0.2 0) 5 (((x0.2 0) 5) + 1)))).bind fun y3 => (F_X5_lays y3 v1 v2 t2).bind fun t4 => some (t2, t4)
def F_X5_ask (x0 : St) (v1 : Int32) (v2 : Int32) : Option (Int32 × St) :=
  (F_X5_whyNotAsk x0 v1 v2).bind fun t1 => if t1 ≤ 0 then ((F_X5_begins x0).bind fun t3 => (F_X5_asks t3 v1 v2).bind fun t4 => (F_X5_saved t4.2 t4.1).bind fun t5 => some (t5.1, t5.2)) else ((F_X5_fails x0 t1).bind fun t6 => some (t6.1, t6.2))
def F_X5_whyNotAdd (x0 : St) (v1 : Int32) (v2 : Int32) : Option (Int32) :=
  (F_X5_areSides x0 v1 v2).bind fun t1 => if t1 = 0 then (some 1) else (if ((x0.2 0) 3) = 8 then (some 2) else (some 0))
def F_X5_adds (x0 : St) (v1 : Int32) (v2 : Int32) : Option (Int32 × St) :=
  if (127 + (2 * ((x0.2 0) 3))) < 0 ∨ 176 ≤ (127 + (2 * ((x0.2 0) 3))).toNatClampNeg then none else (some (sA x0 0 (upd (x0.2 0) (127 + (2 * ((x0.2 0) 3))).toNatClampNeg v1))).bind fun y2 => if ((127 + (2 * ((y2.2 0) 3))) + 1) < 0 ∨ 176 ≤ ((127 + (2 * ((y2.2 0) 3))) + 1).toNatClampNeg then none else (some (sA y2 0 (upd (y2.2 0) ((127 + (2 * ((y2.2 0) 3))) + 1).toNatClampNeg v2))).bind fun y4 => (some (sA y4 0 (upd (y4.2 0) 3 (((y4.2 0) 3) + 1)))).bind fun y5 => some (((y5.2 0) 3) - 1, y5)
def F_X5_add (x0 : St) (v1 : Int32) (v2 : Int32) : Option (Int32 × St) :=
  (F_X5_whyNotAdd x0 v1 v2).bind fun t1 => if t1 ≤ 0 then ((F_X5_begins x0).bind fun t3 => (F_X5_adds t3 v1 v2).bind fun t4 => (F_X5_saved t4.2 t4.1).bind fun t5 => some (t5.1, t5.2)) else ((F_X5_fails x0 t1).bind fun t6 => some (t6.1, t6.2))
def F_X5_removeLast (x0 : St) : Option (Int32 × St) :=
  if ((x0.2 0) 3) = 0 then ((F_X5_fails x0 1).bind fun t5 => some (t5.1, t5.2)) else ((F_X5_begins x0).bind fun t2 => (some (sA t2 0 (upd (t2.2 0) 3 (((t2.2 0) 3) - 1)))).bind fun y3 => (F_X5_saved y3 ((y3.2 0) 3)).bind fun t4 => some (t4.1, t4.2))
def F_X5_lies (x0 : St) (v1 : Int32) : Option (Int32 × St) :=
  (F_X5_isCase x0 v1).bind fun t1 => if t1 = 0 then ((F_X5_fails x0 1).bind fun t3 => some (t3.1, t3.2)) else (if (143 + v1) < 0 ∨ 176 ≤ (143 + v1).toNatClampNeg then none else (F_X5_tells x0 ((x0.2 0) (143 + v1).toNatClampNeg)).bind fun t5 => some (t5.1, t5.2))
def F_X5_answer (x0 : St) (v1 : Int32) (v2 : Int32) (v3 : Int32) : Option (Int32 × St) :=
  (F_X5_isCase x0 v1).bind fun t1 => if t1 = 0 then ((F_X5_fails x0 1).bind fun t8 => some (t8.1, t8.2)) else ((F_X5_areSides x0 v2 v3).bind fun t3 => if t3 = 0 then ((F_X5_fails x0 2).bind fun t5 => some (t5.1, t5.2)) else ((F_X5_truth v1 v2 v3).bind fun t6 => (F_X5_tells x0 t6).bind fun t7 => some (t7.1, t7.2)))
def B_X5_leftCase_4 (x0 : St) (v1 : Int32) (k4 : Int32 → Int32 → Option (Int32 × St)) (i2_4 : Int32) (i3_4 : Int32) : Option (Int32 × St) :=
  (F_X5_cases x0).bind fun t1 => if t1 ≤ i3_4 then ((F_X5_fails x0 1).bind fun t3 => some (t3.1, t3.2)) else (if v1 < 0 then ((F_X5_fails x0 1).bind fun t5 => some (t5.1, t5.2)) else ((F_X5_isLeft x0 i3_4).bind fun t6 => if t6 = 0 then (k4 i2_4 (i3_4 + 1)) else (if i2_4 = 0 then ((F_X5_tells x0 i3_4).bind fun t9 => some (t9.1, t9.2)) else (k4 (i2_4 + (-1)) (i3_4 + 1)))))
def F_X5_leftCase (x0 : St) (v1 : Int32) : Option (Int32 × St) :=
  fx2 (B_X5_leftCase_4 x0 v1) 1000 v1 0
def F_X5_weighing (x0 : St) (v1 : Int32) (v2 : Int32) : Option (Int32 × St) :=
  (F_X5_in v1 0 (((x0.2 0) 2) - 1)).bind fun t1 => if t1 = 0 then ((F_X5_fails x0 1).bind fun t8 => some (t8.1, t8.2)) else ((F_X5_in v2 0 2).bind fun t3 => if t3 = 0 then ((F_X5_fails x0 2).bind fun t5 => some (t5.1, t5.2)) else (if ((7 + (3 * v1)) + v2) < 0 ∨ 176 ≤ ((7 + (3 * v1)) + v2).toNatClampNeg then none else (F_X5_tells x0 ((x0.2 0) ((7 + (3 * v1)) + v2).toNatClampNeg)).bind fun t7 => some (t7.1, t7.2)))
def B_X5_falseOnes_4 (x0 : St) (k4 : Int32 → Int32 → Option (Int32)) (i1_4 : Int32) (i2_4 : Int32) : Option (Int32) :=
  (F_X5_cases x0).bind fun t1 => if t1 ≤ i2_4 then (some i1_4) else ((F_X5_isLeft x0 i2_4).bind fun t3 => if t3 = 0 then (k4 (i1_4 ||| 0) (i2_4 + 1)) else (k4 (i1_4 ||| (1 <<< (((i2_4 - 1) / 2) &&& 31))) (i2_4 + 1)))
def F_X5_falseOnes (x0 : St) : Option (Int32) :=
  fx2 (B_X5_falseOnes_4 x0) 1000 0 1
def F_X5_number (x0 : St) (v1 : Int32) : Option (Int32) :=
  if v1 = 0 then (if v1 < 0 ∨ 176 ≤ v1.toNatClampNeg then none else some ((x0.2 0) v1.toNatClampNeg)) else if v1 = 1 then (if v1 < 0 ∨ 176 ≤ v1.toNatClampNeg then none else some ((x0.2 0) v1.toNatClampNeg)) else if v1 = 2 then (if v1 < 0 ∨ 176 ≤ v1.toNatClampNeg then none else some ((x0.2 0) v1.toNatClampNeg)) else if v1 = 3 then ((F_X5_lefts x0).bind fun t8 => some t8) else if v1 = 4 then (some ((x0.2 0) 3)) else if v1 = 5 then (some ((x0.2 0) 4)) else if v1 = 6 then (some ((x0.2 0) 5)) else if v1 = 7 then ((F_X5_falseOnes x0).bind fun t13 => some t13) else ((F_X5_isLeft x0 0).bind fun t14 => if t14 = 0 then (some 0) else (some 1))
def F_X5_value (x0 : St) (v1 : Int32) : Option (Int32 × St) :=
  (F_X5_in v1 0 8).bind fun t1 => if t1 = 0 then ((F_X5_fails x0 1).bind fun t3 => some (t3.1, t3.2)) else ((F_X5_number x0 v1).bind fun t4 => (F_X5_tells x0 t4).bind fun t5 => some (t5.1, t5.2))
def B_X5_weighs_6 (x0 : St) (v1 : Int32) (v2 : Int32) (v3 : Int32) (v4 : Int32) (k6 : Int64 → Int32 → Option (Int64)) (i5_6 : Int64) (i7_6 : Int32) : Option (Int64) :=
  (F_X5_cases x0).bind fun t1 => if t1 ≤ i7_6 then (some i5_6) else (if (143 + i7_6) < 0 ∨ 176 ≤ (143 + i7_6).toNatClampNeg then none else if v1 ≤ 0 then (if ((x0.2 0) 1) < (((x0.2 0) (143 + i7_6).toNatClampNeg) + 0) then (k6 (i5_6 + 0) (i7_6 + 1)) else ((F_X5_volume v4 (((x0.2 0) 1) - (((x0.2 0) (143 + i7_6).toNatClampNeg) + 0))).bind fun t6 => k6 (i5_6 + t6) (i7_6 + 1))) else ((F_X5_truth i7_6 v1 v2).bind fun t7 => if t7 = v3 then (if ((x0.2 0) 1) < (((x0.2 0) (143 + i7_6).toNatClampNeg) + 0) then (k6 (i5_6 + 0) (i7_6 + 1)) else ((F_X5_volume v4 (((x0.2 0) 1) - (((x0.2 0) (143 + i7_6).toNatClampNeg) + 0))).bind fun t10 => k6 (i5_6 + t10) (i7_6 + 1))) else (if ((x0.2 0) 1) < (((x0.2 0) (143 + i7_6).toNatClampNeg) + 1) then (k6 (i5_6 + 0) (i7_6 + 1)) else ((F_X5_volume v4 (((x0.2 0) 1) - (((x0.2 0) (143 + i7_6).toNatClampNeg) + 1))).bind fun t12 => k6 (i5_6 + t12) (i7_6 + 1)))))
def F_X5_weighs (x0 : St) (v1 : Int32) (v2 : Int32) (v3 : Int32) (v4 : Int32) : Option (Int64) :=
  fx2 (B_X5_weighs_6 x0 v1 v2 v3 v4) 1000 0 0
def F_X5_weight (x0 : St) (v1 : Int32) : Option (Int64 × St) :=
  (F_X5_in v1 0 20).bind fun t1 => if t1 = 0 then ((F_X5_fails x0 1).bind fun t4 => some (t4.1.toInt64, t4.2)) else ((F_X5_weighs (sI x0 1 0) 0 0 0 v1).bind fun t3 => some (t3, sI x0 1 0))
def B_X5_least_4 (x0 : St) (k4 : Int64 → Int32 → Option (Int32)) (i1_4 : Int64) (i3_4 : Int32) : Option (Int32) :=
  if 20 < i3_4 then (some ((-1))) else ((F_X5_weighs x0 0 0 0 i3_4).bind fun t2 => if 0 < (lg_cmp t2 i1_4) then (k4 (i1_4 * 3) (i3_4 + 1)) else (some i3_4))
def F_X5_least (x0 : St) : Option (Int32) :=
  fx2 (B_X5_least_4 x0) 1000 1 0
def F_X5_bound (x0 : St) : Option (Int32 × St) :=
  (F_X5_least x0).bind fun t1 => (F_X5_tells x0 t1).bind fun t2 => some (t2.1, t2.2)
def F_X5_weightBehind (x0 : St) (v1 : Int32) (v2 : Int32) (v3 : Int32) (v4 : Int32) : Option (Int64 × St) :=
  (F_X5_areSides x0 v1 v2).bind fun t1 => if t1 = 0 then ((F_X5_fails x0 1).bind fun t3 => some (t3.1.toInt64, t3.2)) else ((F_X5_in v3 0 2).bind fun t4 => if t4 = 0 then ((F_X5_fails x0 1).bind fun t6 => some (t6.1.toInt64, t6.2)) else ((F_X5_in v4 0 20).bind fun t7 => if t7 = 0 then ((F_X5_fails x0 1).bind fun t10 => some (t10.1.toInt64, t10.2)) else ((F_X5_weighs (sI x0 1 0) v1 v2 v3 v4).bind fun t9 => some (t9, sI x0 1 0))))
def B_X5_best_34 (x0 : St) (v1 : Int32) (i2_7 : Int32) (i3_7 : Int64) (i5_7 : Int32) (k7 : Int32 → Int64 → Int32 → Option (Int32)) (k34 : Int64 → Int32 → Option (Int32)) (i7_34 : Int64) (i9_34 : Int32) : Option (Int32) :=
  if 3 ≤ i9_34 then (if i2_7 = 0 then (if i5_7 = i5_7 then (k7 i5_7 i7_34 (i5_7 + 1)) else (k7 i5_7 i3_7 (i5_7 + 1))) else (if 0 ≤ (lg_cmp i7_34 i3_7) then (if i2_7 = i5_7 then (k7 i2_7 i7_34 (i5_7 + 1)) else (k7 i2_7 i3_7 (i5_7 + 1))) else (if i5_7 = i5_7 then (k7 i5_7 i7_34 (i5_7 + 1)) else (k7 i5_7 i3_7 (i5_7 + 1))))) else ((F_X5_weighs x0 ((1 <<< (i5_7 &&& 31)) - 1) (((1 <<< (i5_7 &&& 31)) - 1) <<< (i5_7 &&& 31)) i9_34 v1).bind fun t8 => if (lg_cmp t8 i7_34) ≤ 0 then (k34 i7_34 (i9_34 + 1)) else (k34 t8 (i9_34 + 1)))
def B_X5_best_7 (x0 : St) (v1 : Int32) (k7 : Int32 → Int64 → Int32 → Option (Int32)) (i2_7 : Int32) (i3_7 : Int64) (i5_7 : Int32) : Option (Int32) :=
  if (((x0.2 0) 0) / 2) < i5_7 then (some i2_7) else (fx2 (B_X5_best_34 x0 v1 i2_7 i3_7 i5_7 k7) 1000 0 0)
def F_X5_best (x0 : St) (v1 : Int32) : Option (Int32) :=
  fx3 (B_X5_best_7 x0 v1) 1000 0 0 1
theorem inX5_whyNotAsk_5 : ∀ w ∈ u_ws RX5 TX5 11, w ∈ wsX5_whyNotAsk := by decide +kernel
theorem hdS_X5_whyNotAsk : yX5_whyNotAsk.cls ≠ "java/lang/invoke/MethodHandle" ∧ yX5_whyNotAsk.cls ≠ "java/lang/invoke/VarHandle" ∧ (parseMethodDescriptor yX5_whyNotAsk.desc).map (fun d => d.parameters.length) = some 2 := by decide +kernel
theorem hdV_X5_whyNotAsk : yX5_whyNotAsk.cls = RX5 ∧ yX5_whyNotAsk.cls ≠ "java/lang/invoke/MethodHandle" ∧ yX5_whyNotAsk.cls ≠ "java/lang/invoke/VarHandle" ∧ (parseMethodDescriptor yX5_whyNotAsk.desc).map (fun d => d.parameters.length) = some 2 := by decide +kernel
theorem inX5_asks_5 : ∀ w ∈ u_ws RX5 TX5 11, w ∈ wsX5_asks := by decide +kernel
theorem hdS_X5_asks : yX5_asks.cls ≠ "java/lang/invoke/MethodHandle" ∧ yX5_asks.cls ≠ "java/lang/invoke/VarHandle" ∧ (parseMethodDescriptor yX5_asks.desc).map (fun d => d.parameters.length) = some 2 := by decide +kernel
theorem hdV_X5_asks : yX5_asks.cls = RX5 ∧ yX5_asks.cls ≠ "java/lang/invoke/MethodHandle" ∧ yX5_asks.cls ≠ "java/lang/invoke/VarHandle" ∧ (parseMethodDescriptor yX5_asks.desc).map (fun d => d.parameters.length) = some 2 := by decide +kernel
theorem hdS_X5_ask : yX5_ask.cls ≠ "java/lang/invoke/MethodHandle" ∧ yX5_ask.cls ≠ "java/lang/invoke/VarHandle" ∧ (parseMethodDescriptor yX5_ask.desc).map (fun d => d.parameters.length) = some 2 := by decide +kernel
theorem hdV_X5_ask : yX5_ask.cls = RX5 ∧ yX5_ask.cls ≠ "java/lang/invoke/MethodHandle" ∧ yX5_ask.cls ≠ "java/lang/invoke/VarHandle" ∧ (parseMethodDescriptor yX5_ask.desc).map (fun d => d.parameters.length) = some 2 := by decide +kernel
theorem inX5_whyNotAdd_5 : ∀ w ∈ u_ws RX5 TX5 11, w ∈ wsX5_whyNotAdd := by decide +kernel
theorem hdS_X5_whyNotAdd : yX5_whyNotAdd.cls ≠ "java/lang/invoke/MethodHandle" ∧ yX5_whyNotAdd.cls ≠ "java/lang/invoke/VarHandle" ∧ (parseMethodDescriptor yX5_whyNotAdd.desc).map (fun d => d.parameters.length) = some 2 := by decide +kernel
theorem hdV_X5_whyNotAdd : yX5_whyNotAdd.cls = RX5 ∧ yX5_whyNotAdd.cls ≠ "java/lang/invoke/MethodHandle" ∧ yX5_whyNotAdd.cls ≠ "java/lang/invoke/VarHandle" ∧ (parseMethodDescriptor yX5_whyNotAdd.desc).map (fun d => d.parameters.length) = some 2 := by decide +kernel
theorem inX5_adds_5 : ∀ w ∈ u_ws RX5 TX5 11, w ∈ wsX5_adds := by decide +kernel
theorem hdS_X5_adds : yX5_adds.cls ≠ "java/lang/invoke/MethodHandle" ∧ yX5_adds.cls ≠ "java/lang/invoke/VarHandle" ∧ (parseMethodDescriptor yX5_adds.desc).map (fun d => d.parameters.length) = some 2 := by decide +kernel
theorem hdV_X5_adds : yX5_adds.cls = RX5 ∧ yX5_adds.cls ≠ "java/lang/invoke/MethodHandle" ∧ yX5_adds.cls ≠ "java/lang/invoke/VarHandle" ∧ (parseMethodDescriptor yX5_adds.desc).map (fun d => d.parameters.length) = some 2 := by decide +kernel
theorem hdS_X5_add : yX5_add.cls ≠ "java/lang/invoke/MethodHandle" ∧ yX5_add.cls ≠ "java/lang/invoke/VarHandle" ∧ (parseMethodDescriptor yX5_add.desc).map (fun d => d.parameters.length) = some 2 := by decide +kernel
theorem hdV_X5_add : yX5_add.cls = RX5 ∧ yX5_add.cls ≠ "java/lang/invoke/MethodHandle" ∧ yX5_add.cls ≠ "java/lang/invoke/VarHandle" ∧ (parseMethodDescriptor yX5_add.desc).map (fun d => d.parameters.length) = some 2 := by decide +kernel
theorem inX5_removeLast_5 : ∀ w ∈ u_ws RX5 TX5 11, w ∈ wsX5_removeLast := by decide +kernel
theorem hdS_X5_removeLast : yX5_removeLast.cls ≠ "java/lang/invoke/MethodHandle" ∧ yX5_removeLast.cls ≠ "java/lang/invoke/VarHandle" ∧ (parseMethodDescriptor yX5_removeLast.desc).map (fun d => d.parameters.length) = some 0 := by decide +kernel
theorem hdV_X5_removeLast : yX5_removeLast.cls = RX5 ∧ yX5_removeLast.cls ≠ "java/lang/invoke/MethodHandle" ∧ yX5_removeLast.cls ≠ "java/lang/invoke/VarHandle" ∧ (parseMethodDescriptor yX5_removeLast.desc).map (fun d => d.parameters.length) = some 0 := by decide +kernel
theorem inX5_lies_5 : ∀ w ∈ u_ws RX5 TX5 11, w ∈ wsX5_lies := by decide +kernel
theorem hdS_X5_lies : yX5_lies.cls ≠ "java/lang/invoke/MethodHandle" ∧ yX5_lies.cls ≠ "java/lang/invoke/VarHandle" ∧ (parseMethodDescriptor yX5_lies.desc).map (fun d => d.parameters.length) = some 1 := by decide +kernel
theorem hdV_X5_lies : yX5_lies.cls = RX5 ∧ yX5_lies.cls ≠ "java/lang/invoke/MethodHandle" ∧ yX5_lies.cls ≠ "java/lang/invoke/VarHandle" ∧ (parseMethodDescriptor yX5_lies.desc).map (fun d => d.parameters.length) = some 1 := by decide +kernel
theorem hdS_X5_answer : yX5_answer.cls ≠ "java/lang/invoke/MethodHandle" ∧ yX5_answer.cls ≠ "java/lang/invoke/VarHandle" ∧ (parseMethodDescriptor yX5_answer.desc).map (fun d => d.parameters.length) = some 3 := by decide +kernel
theorem hdV_X5_answer : yX5_answer.cls = RX5 ∧ yX5_answer.cls ≠ "java/lang/invoke/MethodHandle" ∧ yX5_answer.cls ≠ "java/lang/invoke/VarHandle" ∧ (parseMethodDescriptor yX5_answer.desc).map (fun d => d.parameters.length) = some 3 := by decide +kernel
theorem hdS_X5_leftCase : yX5_leftCase.cls ≠ "java/lang/invoke/MethodHandle" ∧ yX5_leftCase.cls ≠ "java/lang/invoke/VarHandle" ∧ (parseMethodDescriptor yX5_leftCase.desc).map (fun d => d.parameters.length) = some 1 := by decide +kernel
theorem hdV_X5_leftCase : yX5_leftCase.cls = RX5 ∧ yX5_leftCase.cls ≠ "java/lang/invoke/MethodHandle" ∧ yX5_leftCase.cls ≠ "java/lang/invoke/VarHandle" ∧ (parseMethodDescriptor yX5_leftCase.desc).map (fun d => d.parameters.length) = some 1 := by decide +kernel
theorem inX5_weighing_5 : ∀ w ∈ u_ws RX5 TX5 11, w ∈ wsX5_weighing := by decide +kernel
theorem hdS_X5_weighing : yX5_weighing.cls ≠ "java/lang/invoke/MethodHandle" ∧ yX5_weighing.cls ≠ "java/lang/invoke/VarHandle" ∧ (parseMethodDescriptor yX5_weighing.desc).map (fun d => d.parameters.length) = some 2 := by decide +kernel
theorem hdV_X5_weighing : yX5_weighing.cls = RX5 ∧ yX5_weighing.cls ≠ "java/lang/invoke/MethodHandle" ∧ yX5_weighing.cls ≠ "java/lang/invoke/VarHandle" ∧ (parseMethodDescriptor yX5_weighing.desc).map (fun d => d.parameters.length) = some 2 := by decide +kernel
theorem hdS_X5_falseOnes : yX5_falseOnes.cls ≠ "java/lang/invoke/MethodHandle" ∧ yX5_falseOnes.cls ≠ "java/lang/invoke/VarHandle" ∧ (parseMethodDescriptor yX5_falseOnes.desc).map (fun d => d.parameters.length) = some 0 := by decide +kernel
theorem hdV_X5_falseOnes : yX5_falseOnes.cls = RX5 ∧ yX5_falseOnes.cls ≠ "java/lang/invoke/MethodHandle" ∧ yX5_falseOnes.cls ≠ "java/lang/invoke/VarHandle" ∧ (parseMethodDescriptor yX5_falseOnes.desc).map (fun d => d.parameters.length) = some 0 := by decide +kernel
theorem inX5_number_5 : ∀ w ∈ u_ws RX5 TX5 11, w ∈ wsX5_number := by decide +kernel
theorem hdS_X5_number : yX5_number.cls ≠ "java/lang/invoke/MethodHandle" ∧ yX5_number.cls ≠ "java/lang/invoke/VarHandle" ∧ (parseMethodDescriptor yX5_number.desc).map (fun d => d.parameters.length) = some 1 := by decide +kernel
theorem hdV_X5_number : yX5_number.cls = RX5 ∧ yX5_number.cls ≠ "java/lang/invoke/MethodHandle" ∧ yX5_number.cls ≠ "java/lang/invoke/VarHandle" ∧ (parseMethodDescriptor yX5_number.desc).map (fun d => d.parameters.length) = some 1 := by decide +kernel
theorem hdS_X5_value : yX5_value.cls ≠ "java/lang/invoke/MethodHandle" ∧ yX5_value.cls ≠ "java/lang/invoke/VarHandle" ∧ (parseMethodDescriptor yX5_value.desc).map (fun d => d.parameters.length) = some 1 := by decide +kernel
theorem hdV_X5_value : yX5_value.cls = RX5 ∧ yX5_value.cls ≠ "java/lang/invoke/MethodHandle" ∧ yX5_value.cls ≠ "java/lang/invoke/VarHandle" ∧ (parseMethodDescriptor yX5_value.desc).map (fun d => d.parameters.length) = some 1 := by decide +kernel
theorem inX5_weighs_5 : ∀ w ∈ u_ws RX5 TX5 11, w ∈ wsX5_weighs := by decide +kernel
theorem hdS_X5_weighs : yX5_weighs.cls ≠ "java/lang/invoke/MethodHandle" ∧ yX5_weighs.cls ≠ "java/lang/invoke/VarHandle" ∧ (parseMethodDescriptor yX5_weighs.desc).map (fun d => d.parameters.length) = some 4 := by decide +kernel
theorem hdV_X5_weighs : yX5_weighs.cls = RX5 ∧ yX5_weighs.cls ≠ "java/lang/invoke/MethodHandle" ∧ yX5_weighs.cls ≠ "java/lang/invoke/VarHandle" ∧ (parseMethodDescriptor yX5_weighs.desc).map (fun d => d.parameters.length) = some 4 := by decide +kernel
theorem inX5_weight_5 : ∀ w ∈ u_ws RX5 TX5 11, w ∈ wsX5_weight := by decide +kernel
theorem hdS_X5_weight : yX5_weight.cls ≠ "java/lang/invoke/MethodHandle" ∧ yX5_weight.cls ≠ "java/lang/invoke/VarHandle" ∧ (parseMethodDescriptor yX5_weight.desc).map (fun d => d.parameters.length) = some 1 := by decide +kernel
theorem hdV_X5_weight : yX5_weight.cls = RX5 ∧ yX5_weight.cls ≠ "java/lang/invoke/MethodHandle" ∧ yX5_weight.cls ≠ "java/lang/invoke/VarHandle" ∧ (parseMethodDescriptor yX5_weight.desc).map (fun d => d.parameters.length) = some 1 := by decide +kernel
theorem hdS_X5_least : yX5_least.cls ≠ "java/lang/invoke/MethodHandle" ∧ yX5_least.cls ≠ "java/lang/invoke/VarHandle" ∧ (parseMethodDescriptor yX5_least.desc).map (fun d => d.parameters.length) = some 0 := by decide +kernel
theorem hdV_X5_least : yX5_least.cls = RX5 ∧ yX5_least.cls ≠ "java/lang/invoke/MethodHandle" ∧ yX5_least.cls ≠ "java/lang/invoke/VarHandle" ∧ (parseMethodDescriptor yX5_least.desc).map (fun d => d.parameters.length) = some 0 := by decide +kernel
theorem hdS_X5_bound : yX5_bound.cls ≠ "java/lang/invoke/MethodHandle" ∧ yX5_bound.cls ≠ "java/lang/invoke/VarHandle" ∧ (parseMethodDescriptor yX5_bound.desc).map (fun d => d.parameters.length) = some 0 := by decide +kernel
theorem hdV_X5_bound : yX5_bound.cls = RX5 ∧ yX5_bound.cls ≠ "java/lang/invoke/MethodHandle" ∧ yX5_bound.cls ≠ "java/lang/invoke/VarHandle" ∧ (parseMethodDescriptor yX5_bound.desc).map (fun d => d.parameters.length) = some 0 := by decide +kernel
theorem inX5_weightBehind_5 : ∀ w ∈ u_ws RX5 TX5 11, w ∈ wsX5_weightBehind := by decide +kernel
theorem hdS_X5_weightBehind : yX5_weightBehind.cls ≠ "java/lang/invoke/MethodHandle" ∧ yX5_weightBehind.cls ≠ "java/lang/invoke/VarHandle" ∧ (parseMethodDescriptor yX5_weightBehind.desc).map (fun d => d.parameters.length) = some 4 := by decide +kernel
theorem hdV_X5_weightBehind : yX5_weightBehind.cls = RX5 ∧ yX5_weightBehind.cls ≠ "java/lang/invoke/MethodHandle" ∧ yX5_weightBehind.cls ≠ "java/lang/invoke/VarHandle" ∧ (parseMethodDescriptor yX5_weightBehind.desc).map (fun d => d.parameters.length) = some 4 := by decide +kernel
theorem inX5_best_5 : ∀ w ∈ u_ws RX5 TX5 11, w ∈ wsX5_best := by decide +kernel
theorem hdS_X5_best : yX5_best.cls ≠ "java/lang/invoke/MethodHandle" ∧ yX5_best.cls ≠ "java/lang/invoke/VarHandle" ∧ (parseMethodDescriptor yX5_best.desc).map (fun d => d.parameters.length) = some 1 := by decide +kernel
theorem hdV_X5_best : yX5_best.cls = RX5 ∧ yX5_best.cls ≠ "java/lang/invoke/MethodHandle" ∧ yX5_best.cls ≠ "java/lang/invoke/VarHandle" ∧ (parseMethodDescriptor yX5_best.desc).map (fun d => d.parameters.length) = some 1 := by decide +kernel
set_option maxHeartbeats 4000000 in
set_option maxRecDepth 100000 in
theorem c_X5_whyNotAsk (l : Launch) (D : va_G) (T : Nat → ClassId) (a0 : Nat → Nat) (x0 : St) (v1 : Int32) (v2 : Int32) (r : Int32) (h : F_X5_whyNotAsk x0 v1 v2 = some r) : Met l yX5_whyNotAsk wsX5_whyNotAsk ({ frames := 2, cells := 0, slots := 0, locals := 45 } : Room) (va_Pc [.ref (a0 0), .int v1, .int v2] (PB D T (mdW T a0 (x0)))) (QRi r) 0 0 (fun _ => False) := by
  refine met_of (cc := cX5_whyNotAsk) (maxL := 3) (ret := (some .int)) (lv := [(0, .ref (a0 0)), (1, .int v1), (2, .int v2)]) (by decide) rfl (Nat.le_of_ble_eq_true rfl) rfl ?_
  intro p e s m args below meth c ls C0 hl hB
  obtain ⟨hx, hb, hr, hml, hown, hts, hlocks, hname⟩ := C0
  obtain ⟨hP, hK⟩ := hB
  unfold F_X5_whyNotAsk at h
  refine lv_aload_n hx hb dX5_whyNotAsk_0 rfl (lv_at hl 0 rfl) ?_
  refine lv_iload_n hx hb dX5_whyNotAsk_1 rfl (lv_at hl 1 rfl) ?_
  refine lv_iload_n hx hb dX5_whyNotAsk_2 rfl (lv_at hl 2 rfl) ?_
  replace h := bd h
  obtain ⟨t1, et1, h⟩ := h
  refine callRi (v := t1) (va_runV (As := [.int v1, .int v2]) (rest := []) ⟨hx, hb, hml, hown, hts⟩ (c_X5_areSides l D T a0 x0 v1 v2 t1 et1) (cwV 2 hts gX5_whyNotAsk_X5_areSides rfl rfl rfl hdV_X5_areSides ⟨Nat.le_of_ble_eq_true rfl, Nat.le_of_ble_eq_true rfl⟩) ⟨PB_blind, va_recv hK.1 hP (ci := 5) (q0 := 0) rfl rfl, PB_at hP hK⟩ rfl rfl hl.1 rfl (lv_room (Nat.le_of_ble_eq_true rfl)) dX5_whyNotAsk_3 ⟨Nat.zero_le _, Nat.zero_le _⟩) ?_
  refine lv_if_ne (tgt := 13) hx hb dX5_whyNotAsk_6 (by decide) (fun c2 => ?_) (fun c2 => ?_)
  · replace h := im c2 h
    refine lv_aload_n hx hb dX5_whyNotAsk_13 rfl (lv_at hl 0 rfl) ?_
    refine va_get (D := D) (ci := 5) (v := .ref (a0 1)) (C := RX5) (T := TX5) (N := 11) hx hb hts inX5_whyNotAsk_5 hown hK.1 hP 0 rfl rfl 0 (by decide) (hts (.fieldLink RX5 7 "LyingScaleModel" "s" "[I") (List.mem_of_getElem? (i := 1) rfl)) (fun _ h9 => h9) rfl dX5_whyNotAsk_14 ?_
    refine lv_iconst (v := 4) hx hb dX5_whyNotAsk_17 (by decide) ?_
    refine va_iald hx hb hK.1 hP 1 0 rfl rfl (show ¬ ((4 : Int32) < 0 ∨ 176 ≤ Int32.toNatClampNeg 4) from by decide) dX5_whyNotAsk_18 ?_
    refine eqi (congrArg (x0.2 0) (show Int32.toNatClampNeg 4 = 4 from by decide)) ?_
    refine lv_if_lt (tgt := 44) hx hb dX5_whyNotAsk_19 (by decide) (fun c3 => ?_) (fun c3 => ?_)
    · replace h := ip c3 h
      refine lv_iconst (v := 2) hx hb dX5_whyNotAsk_44 (by decide) ?_
      refine lv_goto (tgt := 49) hx hb dX5_whyNotAsk_45 (by decide) ?_
      exact W.iret hx hb hr (fun t ht hW => ⟨_, rfl, Option.some.inj h, ht⟩) (fun q hq => absurd hq List.not_mem_nil) dX5_whyNotAsk_49 hlocks
    replace h := im c3 h
    refine lv_aload_n hx hb dX5_whyNotAsk_22 rfl (lv_at hl 0 rfl) ?_
    refine va_get (D := D) (ci := 5) (v := .ref (a0 1)) (C := RX5) (T := TX5) (N := 11) hx hb hts inX5_whyNotAsk_5 hown hK.1 hP 0 rfl rfl 0 (by decide) (hts (.fieldLink RX5 7 "LyingScaleModel" "s" "[I") (List.mem_of_getElem? (i := 1) rfl)) (fun _ h9 => h9) rfl dX5_whyNotAsk_23 ?_
    refine lv_iconst (v := 2) hx hb dX5_whyNotAsk_26 (by decide) ?_
    refine va_iald hx hb hK.1 hP 1 0 rfl rfl (show ¬ ((2 : Int32) < 0 ∨ 176 ≤ Int32.toNatClampNeg 2) from by decide) dX5_whyNotAsk_27 ?_
    refine eqi (congrArg (x0.2 0) (show Int32.toNatClampNeg 2 = 2 from by decide)) ?_
    refine lv_bipush (v := 40) hx hb dX5_whyNotAsk_28 (by decide) ?_
    refine lv_icmp_eq (tgt := 44) hx hb dX5_whyNotAsk_30 (by decide) (fun c4 => ?_) (fun c4 => ?_)
    · replace h := ip c4 h
      refine lv_iconst (v := 2) hx hb dX5_whyNotAsk_44 (by decide) ?_
      refine lv_goto (tgt := 49) hx hb dX5_whyNotAsk_45 (by decide) ?_
      exact W.iret hx hb hr (fun t ht hW => ⟨_, rfl, Option.some.inj h, ht⟩) (fun q hq => absurd hq List.not_mem_nil) dX5_whyNotAsk_49 hlocks
    replace h := im c4 h
    refine lv_aload_n hx hb dX5_whyNotAsk_33 rfl (lv_at hl 0 rfl) ?_
    refine va_get (D := D) (ci := 5) (v := .ref (a0 1)) (C := RX5) (T := TX5) (N := 11) hx hb hts inX5_whyNotAsk_5 hown hK.1 hP 0 rfl rfl 0 (by decide) (hts (.fieldLink RX5 7 "LyingScaleModel" "s" "[I") (List.mem_of_getElem? (i := 1) rfl)) (fun _ h9 => h9) rfl dX5_whyNotAsk_34 ?_
    refine lv_iconst (v := 5) hx hb dX5_whyNotAsk_37 (by decide) ?_
    refine va_iald hx hb hK.1 hP 1 0 rfl rfl (show ¬ ((5 : Int32) < 0 ∨ 176 ≤ Int32.toNatClampNeg 5) from by decide) dX5_whyNotAsk_38 ?_
    refine eqi (congrArg (x0.2 0) (show Int32.toNatClampNeg 5 = 5 from by decide)) ?_
    refine lv_bipush (v := 30) hx hb dX5_whyNotAsk_39 (by decide) ?_
    refine lv_icmp_ne (tgt := 48) hx hb dX5_whyNotAsk_41 (by decide) (fun c5 => ?_) (fun c5 => ?_)
    · replace h := im c5 h
      refine lv_iconst (v := 0) hx hb dX5_whyNotAsk_48 (by decide) ?_
      exact W.iret hx hb hr (fun t ht hW => ⟨_, rfl, Option.some.inj h, ht⟩) (fun q hq => absurd hq List.not_mem_nil) dX5_whyNotAsk_49 hlocks
    replace h := ip c5 h
    refine lv_iconst (v := 2) hx hb dX5_whyNotAsk_44 (by decide) ?_
    refine lv_goto (tgt := 49) hx hb dX5_whyNotAsk_45 (by decide) ?_
    exact W.iret hx hb hr (fun t ht hW => ⟨_, rfl, Option.some.inj h, ht⟩) (fun q hq => absurd hq List.not_mem_nil) dX5_whyNotAsk_49 hlocks
  replace h := ip c2 h
  refine lv_iconst (v := 1) hx hb dX5_whyNotAsk_9 (by decide) ?_
  refine lv_goto (tgt := 49) hx hb dX5_whyNotAsk_10 (by decide) ?_
  exact W.iret hx hb hr (fun t ht hW => ⟨_, rfl, Option.some.inj h, ht⟩) (fun q hq => absurd hq List.not_mem_nil) dX5_whyNotAsk_49 hlocks
set_option maxHeartbeats 4000000 in
set_option maxRecDepth 100000 in
theorem c_X5_asks (l : Launch) (D : va_G) (T : Nat → ClassId) (a0 : Nat → Nat) (x0 : St) (v1 : Int32) (v2 : Int32) (sz : Nat) (r : Int32 × St) (h : F_X5_asks x0 v1 v2 = some r) : Met l yX5_asks wsX5_asks ({ frames := 2, cells := 0, slots := 0, locals := 49 } : Room) (va_Pc [.ref (a0 0), .int v1, .int v2] (PM D T (mdW T a0 (x0)) sz)) (QMi D (mdW T a0 (r.2)) r.1 (va_A (mdW T a0 (x0)) sz)) 0 0 (va_A (mdW T a0 (x0)) sz) := by
  refine met_of (cc := cX5_asks) (maxL := 5) (ret := (some .int)) (lv := [(0, .ref (a0 0)), (1, .int v1), (2, .int v2)]) (by decide) rfl (Nat.le_of_ble_eq_true rfl) rfl ?_
  intro p e s m args below meth c ls C0 hl hB
  obtain ⟨hx, hb, hr, hml, hown, hts, hlocks, hname⟩ := C0
  obtain ⟨hsz, hP, hK, hD0⟩ := hB
  subst hsz
  have hD := hD0.self (sz := s.heap.size)
  generalize hAe : va_A (mdW T a0 (x0)) s.heap.size = A at hD ⊢
  have hA : ∀ q : Nat, s.heap.size ≤ q → A q := fun q h => by rw [← hAe]; exact Or.inr h
  obtain ⟨H, hH⟩ : ∃ H, H = s.heap := ⟨_, rfl⟩
  obtain ⟨locs, hlo⟩ : ∃ L : List Loc, L = [] := ⟨_, rfl⟩
  have hS : va_S A s.heap s.heap [] := va_S.rf
  rw [← hH] at hP ⊢
  rw [← hlo]
  replace hS : va_S A s.heap H locs := by rw [hH, hlo]; exact hS
  clear hH hlo
  unfold F_X5_asks at h
  refine lv_aload_n hx hb dX5_asks_0 rfl (lv_at hl 0 rfl) ?_
  refine va_get (D := D) (ci := 5) (v := .ref (a0 1)) (C := RX5) (T := TX5) (N := 11) hx hb hts inX5_asks_5 hown hK.1 hP 0 rfl rfl 0 (by decide) (hts (.fieldLink RX5 7 "LyingScaleModel" "s" "[I") (List.mem_of_getElem? (i := 1) rfl)) (fun _ h9 => h9) rfl dX5_asks_1 ?_
  refine lv_bipush (v := 6) hx hb dX5_asks_4 (by decide) ?_
  refine va_iald hx hb hK.1 hP 1 0 rfl rfl (show ¬ ((6 : Int32) < 0 ∨ 176 ≤ Int32.toNatClampNeg 6) from by decide) dX5_asks_6 ?_
  refine eqi (congrArg (x0.2 0) (show Int32.toNatClampNeg 6 = 6 from by decide)) ?_
  refine lv_aload_n hx hb dX5_asks_7 rfl (lv_at hl 0 rfl) ?_
  refine va_get (D := D) (ci := 5) (v := .ref (a0 1)) (C := RX5) (T := TX5) (N := 11) hx hb hts inX5_asks_5 hown hK.1 hP 0 rfl rfl 0 (by decide) (hts (.fieldLink RX5 7 "LyingScaleModel" "s" "[I") (List.mem_of_getElem? (i := 1) rfl)) (fun _ h9 => h9) rfl dX5_asks_8 ?_
  refine lv_iconst (v := 5) hx hb dX5_asks_11 (by decide) ?_
  refine va_iald hx hb hK.1 hP 1 0 rfl rfl (show ¬ ((5 : Int32) < 0 ∨ 176 ≤ Int32.toNatClampNeg 5) from by decide) dX5_asks_12 ?_
  refine eqi (congrArg (x0.2 0) (show Int32.toNatClampNeg 5 = 5 from by decide)) ?_
  refine lv_ishr hx hb dX5_asks_13 ?_
  refine lv_iconst (v := 1) hx hb dX5_asks_14 (by decide) ?_
  refine lv_iand hx hb dX5_asks_15 ?_
  refine lv_istore_n (lv' := [(3, .int ((((x0.2 0) 6) >>> (((x0.2 0) 5) &&& 31)) &&& 1)), (0, .ref (a0 0)), (1, .int v1), (2, .int v2)]) hx hb dX5_asks_16 rfl hl (by decide) rfl (fun ls hl => ?_)
  refine lv_aload_n hx hb dX5_asks_17 rfl (lv_at hl 1 rfl) ?_
  refine va_get (D := D) (ci := 5) (v := .ref (a0 1)) (C := RX5) (T := TX5) (N := 11) hx hb hts inX5_asks_5 hown hK.1 hP 0 rfl rfl 0 (by decide) (hts (.fieldLink RX5 7 "LyingScaleModel" "s" "[I") (List.mem_of_getElem? (i := 1) rfl)) (fun _ h9 => h9) rfl dX5_asks_18 ?_
  refine lv_iconst (v := 4) hx hb dX5_asks_21 (by decide) ?_
  refine va_iald hx hb hK.1 hP 1 0 rfl rfl (show ¬ ((4 : Int32) < 0 ∨ 176 ≤ Int32.toNatClampNeg 4) from by decide) dX5_asks_22 ?_
  refine eqi (congrArg (x0.2 0) (show Int32.toNatClampNeg 4 = 4 from by decide)) ?_
  refine lv_iload_n hx hb dX5_asks_23 rfl (lv_at hl 2 rfl) ?_
  refine lv_iload_n hx hb dX5_asks_24 rfl (lv_at hl 3 rfl) ?_
  replace h := bd h
  obtain ⟨t1, et1, h⟩ := h
  refine callRi (v := t1) (va_runS (As := [.int ((x0.2 0) 4), .int v1, .int v2]) (rest := []) ⟨hx, hb, hml, hown, hts⟩ (c_X5_truth l D T ((x0.2 0) 4) v1 v2 t1 et1) (va_cwS 3 hts gX5_asks_X5_truth rfl rfl rfl hdS_X5_truth ⟨Nat.le_of_ble_eq_true rfl, Nat.le_of_ble_eq_true rfl⟩) ⟨PB_blind, PB_at (hP.sub (ws' := ([] : va_W)) [] rfl) hK⟩ rfl rfl hl.1 rfl (lv_room (Nat.le_of_ble_eq_true rfl)) dX5_asks_25 ⟨Nat.zero_le _, Nat.zero_le _⟩) ?_
  refine lv_iload_n hx hb dX5_asks_28 rfl (lv_at hl 0 rfl) ?_
  refine lv_iadd hx hb dX5_asks_29 ?_
  refine lv_iconst (v := 3) hx hb dX5_asks_30 (by decide) ?_
  refine lv_irem hx hb dX5_asks_31 (by decide) ?_
  replace h := bd h
  obtain ⟨t2, et2, h⟩ := h
  refine eqi (Option.some.inj et2) ?_
  refine lv_istore (lv' := [(4, .int t2), (3, .int ((((x0.2 0) 6) >>> (((x0.2 0) 5) &&& 31)) &&& 1)), (0, .ref (a0 0)), (1, .int v1), (2, .int v2)]) hx hb dX5_asks_32 hl (by decide) rfl (fun ls hl => ?_)
  refine lv_aload_n hx hb dX5_asks_34 rfl (lv_at hl 2 rfl) ?_
  refine va_get (D := D) (ci := 5) (v := .ref (a0 1)) (C := RX5) (T := TX5) (N := 11) hx hb hts inX5_asks_5 hown hK.1 hP 0 rfl rfl 0 (by decide) (hts (.fieldLink RX5 7 "LyingScaleModel" "s" "[I") (List.mem_of_getElem? (i := 1) rfl)) (fun _ h9 => h9) rfl dX5_asks_35 ?_
  refine lv_iconst (v := 5) hx hb dX5_asks_38 (by decide) ?_
  refine lv_dup2_11 hx hb dX5_asks_39 rfl rfl ?_
  refine va_iald hx hb hK.1 hP 1 0 rfl rfl (show ¬ ((5 : Int32) < 0 ∨ 176 ≤ Int32.toNatClampNeg 5) from by decide) dX5_asks_40 ?_
  refine eqi (congrArg (x0.2 0) (show Int32.toNatClampNeg 5 = 5 from by decide)) ?_
  refine lv_iconst (v := 1) hx hb dX5_asks_41 (by decide) ?_
  refine lv_iadd hx hb dX5_asks_42 ?_
  refine va_iast hx hb hK.1 hP hD hS 1 0 rfl rfl (show ¬ ((5 : Int32) < 0 ∨ 176 ≤ Int32.toNatClampNeg 5) from by decide) dX5_asks_43 (fun H locs hP hD hS => ?_)
  rw [(show Int32.toNatClampNeg 5 = 5 from by decide)] at hP hD
  replace hP : va_P D vwCl (mdW T a0 (sA x0 0 (upd (x0.2 0) 5 (((x0.2 0) 5) + 1)))) H := hP
  replace hD : va_D A (mdW T a0 (sA x0 0 (upd (x0.2 0) 5 (((x0.2 0) 5) + 1)))) := hD
  replace h := bd h
  obtain ⟨y3, ey3, h⟩ := h
  rw [Option.some.inj ey3] at hP hD
  refine lv_aload_n hx hb dX5_asks_44 rfl (lv_at hl 2 rfl) ?_
  refine lv_iload_n hx hb dX5_asks_45 rfl (lv_at hl 3 rfl) ?_
  refine lv_iload_n hx hb dX5_asks_46 rfl (lv_at hl 4 rfl) ?_
  refine lv_iload hx hb dX5_asks_47 (lv_at hl 0 rfl) ?_
  replace h := bd h
  obtain ⟨t4, et4, h⟩ := h
  refine callMv (wr := []) (ws' := mdW T a0 (t4)) (va_runV (As := [.int v1, .int v2, .int t2]) (rest := []) ⟨hx, hb, hml, hown, hts⟩ (c_X5_lays l D T a0 y3 v1 v2 t2 _ t4 et4) (cwV 3 hts gX5_asks_X5_lays rfl rfl rfl hdV_X5_lays ⟨Nat.le_of_ble_eq_true rfl, Nat.le_of_ble_eq_true rfl⟩) ⟨PM_blind, va_recv hK.1 hP (ci := 5) (q0 := 0) rfl rfl, PM_at hP hD hK⟩ rfl rfl hl.1 rfl (lv_room (Nat.le_of_ble_eq_true rfl)) dX5_asks_49 ⟨Nat.zero_le _, Nat.zero_le _⟩) hS hA hP hD [0, 1, 2, 3, 4] [] rfl rfl (by decide) (by decide) [0, 1, 2, 3, 4] (by decide) rfl (fun H locs hP hD hS => ?_)
  refine lv_iload hx hb dX5_asks_52 (lv_at hl 0 rfl) ?_
  obtain rfl := Option.some.inj h
  exact W.iret hx hb hr (fun t ht hW => ⟨⟨_, (), rfl, rfl, by rw [ht]; exact hP, hD⟩, hS.F ht⟩) hS.2.2 dX5_asks_54 hlocks
set_option maxHeartbeats 4000000 in
set_option maxRecDepth 100000 in
theorem c_X5_ask (l : Launch) (D : va_G) (T : Nat → ClassId) (a0 : Nat → Nat) (x0 : St) (v1 : Int32) (v2 : Int32) (sz : Nat) (r : Int32 × St) (h : F_X5_ask x0 v1 v2 = some r) : Met l yX5_ask wsX5_ask ({ frames := 3, cells := 0, slots := 0, locals := 73 } : Room) (va_Pc [.ref (a0 0), .int v1, .int v2] (PM D T (mdW T a0 (x0)) sz)) (QMi D (mdW T a0 (r.2)) r.1 (va_A (mdW T a0 (x0)) sz)) 0 0 (va_A (mdW T a0 (x0)) sz) := by
  refine met_of (cc := cX5_ask) (maxL := 4) (ret := (some .int)) (lv := [(0, .ref (a0 0)), (1, .int v1), (2, .int v2)]) (by decide) rfl (Nat.le_of_ble_eq_true rfl) rfl ?_
  intro p e s m args below meth c ls C0 hl hB
  obtain ⟨hx, hb, hr, hml, hown, hts, hlocks, hname⟩ := C0
  obtain ⟨hsz, hP, hK, hD0⟩ := hB
  subst hsz
  have hD := hD0.self (sz := s.heap.size)
  generalize hAe : va_A (mdW T a0 (x0)) s.heap.size = A at hD ⊢
  have hA : ∀ q : Nat, s.heap.size ≤ q → A q := fun q h => by rw [← hAe]; exact Or.inr h
  obtain ⟨H, hH⟩ : ∃ H, H = s.heap := ⟨_, rfl⟩
  obtain ⟨locs, hlo⟩ : ∃ L : List Loc, L = [] := ⟨_, rfl⟩
  have hS : va_S A s.heap s.heap [] := va_S.rf
  rw [← hH] at hP ⊢
  rw [← hlo]
  replace hS : va_S A s.heap H locs := by rw [hH, hlo]; exact hS
  clear hH hlo
  unfold F_X5_ask at h
  refine lv_aload_n hx hb dX5_ask_0 rfl (lv_at hl 0 rfl) ?_
  refine lv_iload_n hx hb dX5_ask_1 rfl (lv_at hl 1 rfl) ?_
  refine lv_iload_n hx hb dX5_ask_2 rfl (lv_at hl 2 rfl) ?_
  replace h := bd h
  obtain ⟨t1, et1, h⟩ := h
  refine callRi (v := t1) (va_runV (As := [.int v1, .int v2]) (rest := []) ⟨hx, hb, hml, hown, hts⟩ (c_X5_whyNotAsk l D T a0 x0 v1 v2 t1 et1) (cwV 2 hts gX5_ask_X5_whyNotAsk rfl rfl rfl hdV_X5_whyNotAsk ⟨Nat.le_of_ble_eq_true rfl, Nat.le_of_ble_eq_true rfl⟩) ⟨PB_blind, va_recv hK.1 hP (ci := 5) (q0 := 0) rfl rfl, PB_at hP hK⟩ rfl rfl hl.1 rfl (lv_room (Nat.le_of_ble_eq_true rfl)) dX5_ask_3 ⟨Nat.zero_le _, Nat.zero_le _⟩) ?_
  refine lv_istore_n (lv' := [(3, .int t1), (0, .ref (a0 0)), (1, .int v1), (2, .int v2)]) hx hb dX5_ask_6 rfl hl (by decide) rfl (fun ls hl => ?_)
  refine lv_iload_n hx hb dX5_ask_7 rfl (lv_at hl 0 rfl) ?_
  refine lv_if_le (tgt := 17) hx hb dX5_ask_8 (by decide) (fun c2 => ?_) (fun c2 => ?_)
  · replace h := ip c2 h
    refine lv_aload_n hx hb dX5_ask_17 rfl (lv_at hl 1 rfl) ?_
    replace h := bd h
    obtain ⟨t3, et3, h⟩ := h
    refine callMv (wr := []) (ws' := mdW T a0 (t3)) (va_runV (As := []) (rest := []) ⟨hx, hb, hml, hown, hts⟩ (c_X5_begins l D T a0 x0 _ t3 et3) (cwV 0 hts gX5_ask_X5_begins rfl rfl rfl hdV_X5_begins ⟨Nat.le_of_ble_eq_true rfl, Nat.le_of_ble_eq_true rfl⟩) ⟨PM_blind, va_recv hK.1 hP (ci := 5) (q0 := 0) rfl rfl, PM_at hP hD hK⟩ rfl rfl hl.1 rfl (lv_room (Nat.le_of_ble_eq_true rfl)) dX5_ask_18 ⟨Nat.zero_le _, Nat.zero_le _⟩) hS hA hP hD [0, 1, 2, 3, 4] [] rfl rfl (by decide) (by decide) [0, 1, 2, 3, 4] (by decide) rfl (fun H locs hP hD hS => ?_)
    refine lv_aload_n hx hb dX5_ask_21 rfl (lv_at hl 1 rfl) ?_
    refine lv_aload_n hx hb dX5_ask_22 rfl (lv_at hl 1 rfl) ?_
    refine lv_iload_n hx hb dX5_ask_23 rfl (lv_at hl 2 rfl) ?_
    refine lv_iload_n hx hb dX5_ask_24 rfl (lv_at hl 3 rfl) ?_
    replace h := bd h
    obtain ⟨t4, et4, h⟩ := h
    refine callMi (wr := []) (ws' := mdW T a0 (t4.2)) (va_runV (As := [.int v1, .int v2]) (rest := [.ref (a0 0)]) ⟨hx, hb, hml, hown, hts⟩ (c_X5_asks l D T a0 t3 v1 v2 _ t4 et4) (cwV 2 hts gX5_ask_X5_asks rfl rfl rfl hdV_X5_asks ⟨Nat.le_of_ble_eq_true rfl, Nat.le_of_ble_eq_true rfl⟩) ⟨PM_blind, va_recv hK.1 hP (ci := 5) (q0 := 0) rfl rfl, PM_at hP hD hK⟩ rfl rfl hl.1 rfl (lv_room (Nat.le_of_ble_eq_true rfl)) dX5_ask_25 ⟨Nat.zero_le _, Nat.zero_le _⟩) hS hA hP hD [0, 1, 2, 3, 4] [] rfl rfl (by decide) (by decide) [0, 1, 2, 3, 4] (by decide) rfl (fun H locs hP hD hS => ?_)
    replace h := bd h
    obtain ⟨t5, et5, h⟩ := h
    refine callMi (wr := []) (ws' := mdW T a0 (t5.2)) (va_runV (As := [.int t4.1]) (rest := []) ⟨hx, hb, hml, hown, hts⟩ (c_X5_saved l D T a0 t4.2 t4.1 _ t5 et5) (cwV 1 hts gX5_ask_X5_saved rfl rfl rfl hdV_X5_saved ⟨Nat.le_of_ble_eq_true rfl, Nat.le_of_ble_eq_true rfl⟩) ⟨PM_blind, va_recv hK.1 hP (ci := 5) (q0 := 0) rfl rfl, PM_at hP hD hK⟩ rfl rfl hl.1 rfl (lv_room (Nat.le_of_ble_eq_true rfl)) dX5_ask_28 ⟨Nat.zero_le _, Nat.zero_le _⟩) hS hA hP hD [0, 1, 2, 3, 4] [] rfl rfl (by decide) (by decide) [0, 1, 2, 3, 4] (by decide) rfl (fun H locs hP hD hS => ?_)
    obtain rfl := Option.some.inj h
    exact W.iret hx hb hr (fun t ht hW => ⟨⟨_, (), rfl, rfl, by rw [ht]; exact hP, hD⟩, hS.F ht⟩) hS.2.2 dX5_ask_31 hlocks
  replace h := im c2 h
  refine lv_aload_n hx hb dX5_ask_11 rfl (lv_at hl 1 rfl) ?_
  refine lv_iload_n hx hb dX5_ask_12 rfl (lv_at hl 0 rfl) ?_
  replace h := bd h
  obtain ⟨t6, et6, h⟩ := h
  refine callMi (wr := []) (ws' := mdW T a0 (t6.2)) (va_runV (As := [.int t1]) (rest := []) ⟨hx, hb, hml, hown, hts⟩ (c_X5_fails l D T a0 x0 t1 _ t6 et6) (cwV 1 hts gX5_ask_X5_fails rfl rfl rfl hdV_X5_fails ⟨Nat.le_of_ble_eq_true rfl, Nat.le_of_ble_eq_true rfl⟩) ⟨PM_blind, va_recv hK.1 hP (ci := 5) (q0 := 0) rfl rfl, PM_at hP hD hK⟩ rfl rfl hl.1 rfl (lv_room (Nat.le_of_ble_eq_true rfl)) dX5_ask_13 ⟨Nat.zero_le _, Nat.zero_le _⟩) hS hA hP hD [0, 1, 2, 3, 4] [] rfl rfl (by decide) (by decide) [0, 1, 2, 3, 4] (by decide) rfl (fun H locs hP hD hS => ?_)
  obtain rfl := Option.some.inj h
  exact W.iret hx hb hr (fun t ht hW => ⟨⟨_, (), rfl, rfl, by rw [ht]; exact hP, hD⟩, hS.F ht⟩) hS.2.2 dX5_ask_16 hlocks
set_option maxHeartbeats 4000000 in
set_option maxRecDepth 100000 in
theorem c_X5_whyNotAdd (l : Launch) (D : va_G) (T : Nat → ClassId) (a0 : Nat → Nat) (x0 : St) (v1 : Int32) (v2 : Int32) (r : Int32) (h : F_X5_whyNotAdd x0 v1 v2 = some r) : Met l yX5_whyNotAdd wsX5_whyNotAdd ({ frames := 2, cells := 0, slots := 0, locals := 45 } : Room) (va_Pc [.ref (a0 0), .int v1, .int v2] (PB D T (mdW T a0 (x0)))) (QRi r) 0 0 (fun _ => False) := by
  refine met_of (cc := cX5_whyNotAdd) (maxL := 3) (ret := (some .int)) (lv := [(0, .ref (a0 0)), (1, .int v1), (2, .int v2)]) (by decide) rfl (Nat.le_of_ble_eq_true rfl) rfl ?_
  intro p e s m args below meth c ls C0 hl hB
  obtain ⟨hx, hb, hr, hml, hown, hts, hlocks, hname⟩ := C0
  obtain ⟨hP, hK⟩ := hB
  unfold F_X5_whyNotAdd at h
  refine lv_aload_n hx hb dX5_whyNotAdd_0 rfl (lv_at hl 0 rfl) ?_
  refine lv_iload_n hx hb dX5_whyNotAdd_1 rfl (lv_at hl 1 rfl) ?_
  refine lv_iload_n hx hb dX5_whyNotAdd_2 rfl (lv_at hl 2 rfl) ?_
  replace h := bd h
  obtain ⟨t1, et1, h⟩ := h
  refine callRi (v := t1) (va_runV (As := [.int v1, .int v2]) (rest := []) ⟨hx, hb, hml, hown, hts⟩ (c_X5_areSides l D T a0 x0 v1 v2 t1 et1) (cwV 2 hts gX5_whyNotAdd_X5_areSides rfl rfl rfl hdV_X5_areSides ⟨Nat.le_of_ble_eq_true rfl, Nat.le_of_ble_eq_true rfl⟩) ⟨PB_blind, va_recv hK.1 hP (ci := 5) (q0 := 0) rfl rfl, PB_at hP hK⟩ rfl rfl hl.1 rfl (lv_room (Nat.le_of_ble_eq_true rfl)) dX5_whyNotAdd_3 ⟨Nat.zero_le _, Nat.zero_le _⟩) ?_
  refine lv_if_ne (tgt := 13) hx hb dX5_whyNotAdd_6 (by decide) (fun c2 => ?_) (fun c2 => ?_)
  · replace h := im c2 h
    refine lv_aload_n hx hb dX5_whyNotAdd_13 rfl (lv_at hl 0 rfl) ?_
    refine va_get (D := D) (ci := 5) (v := .ref (a0 1)) (C := RX5) (T := TX5) (N := 11) hx hb hts inX5_whyNotAdd_5 hown hK.1 hP 0 rfl rfl 0 (by decide) (hts (.fieldLink RX5 7 "LyingScaleModel" "s" "[I") (List.mem_of_getElem? (i := 1) rfl)) (fun _ h9 => h9) rfl dX5_whyNotAdd_14 ?_
    refine lv_iconst (v := 3) hx hb dX5_whyNotAdd_17 (by decide) ?_
    refine va_iald hx hb hK.1 hP 1 0 rfl rfl (show ¬ ((3 : Int32) < 0 ∨ 176 ≤ Int32.toNatClampNeg 3) from by decide) dX5_whyNotAdd_18 ?_
    refine eqi (congrArg (x0.2 0) (show Int32.toNatClampNeg 3 = 3 from by decide)) ?_
    refine lv_bipush (v := 8) hx hb dX5_whyNotAdd_19 (by decide) ?_
    refine lv_icmp_ne (tgt := 28) hx hb dX5_whyNotAdd_21 (by decide) (fun c3 => ?_) (fun c3 => ?_)
    · replace h := im c3 h
      refine lv_iconst (v := 0) hx hb dX5_whyNotAdd_28 (by decide) ?_
      exact W.iret hx hb hr (fun t ht hW => ⟨_, rfl, Option.some.inj h, ht⟩) (fun q hq => absurd hq List.not_mem_nil) dX5_whyNotAdd_29 hlocks
    replace h := ip c3 h
    refine lv_iconst (v := 2) hx hb dX5_whyNotAdd_24 (by decide) ?_
    refine lv_goto (tgt := 29) hx hb dX5_whyNotAdd_25 (by decide) ?_
    exact W.iret hx hb hr (fun t ht hW => ⟨_, rfl, Option.some.inj h, ht⟩) (fun q hq => absurd hq List.not_mem_nil) dX5_whyNotAdd_29 hlocks
  replace h := ip c2 h
  refine lv_iconst (v := 1) hx hb dX5_whyNotAdd_9 (by decide) ?_
  refine lv_goto (tgt := 29) hx hb dX5_whyNotAdd_10 (by decide) ?_
  exact W.iret hx hb hr (fun t ht hW => ⟨_, rfl, Option.some.inj h, ht⟩) (fun q hq => absurd hq List.not_mem_nil) dX5_whyNotAdd_29 hlocks
set_option maxHeartbeats 4000000 in
set_option maxRecDepth 100000 in
theorem c_X5_adds (l : Launch) (D : va_G) (T : Nat → ClassId) (a0 : Nat → Nat) (x0 : St) (v1 : Int32) (v2 : Int32) (sz : Nat) (r : Int32 × St) (h : F_X5_adds x0 v1 v2 = some r) : Met l yX5_adds wsX5_adds ({ frames := 0, cells := 0, slots := 0, locals := 0 } : Room) (va_Pc [.ref (a0 0), .int v1, .int v2] (PM D T (mdW T a0 (x0)) sz)) (QMi D (mdW T a0 (r.2)) r.1 (va_A (mdW T a0 (x0)) sz)) 0 0 (va_A (mdW T a0 (x0)) sz) := by
  refine met_of (cc := cX5_adds) (maxL := 3) (ret := (some .int)) (lv := [(0, .ref (a0 0)), (1, .int v1), (2, .int v2)]) (by decide) rfl (Nat.le_of_ble_eq_true rfl) rfl ?_
  intro p e s m args below meth c ls C0 hl hB
  obtain ⟨hx, hb, hr, hml, hown, hts, hlocks, hname⟩ := C0
  obtain ⟨hsz, hP, hK, hD0⟩ := hB
  subst hsz
  have hD := hD0.self (sz := s.heap.size)
  generalize hAe : va_A (mdW T a0 (x0)) s.heap.size = A at hD ⊢
  have hA : ∀ q : Nat, s.heap.size ≤ q → A q := fun q h => by rw [← hAe]; exact Or.inr h
  obtain ⟨H, hH⟩ : ∃ H, H = s.heap := ⟨_, rfl⟩
  obtain ⟨locs, hlo⟩ : ∃ L : List Loc, L = [] := ⟨_, rfl⟩
  have hS : va_S A s.heap s.heap [] := va_S.rf
  rw [← hH] at hP ⊢
  rw [← hlo]
  replace hS : va_S A s.heap H locs := by rw [hH, hlo]; exact hS
  clear hH hlo
  unfold F_X5_adds at h
  refine lv_aload_n hx hb dX5_adds_0 rfl (lv_at hl 0 rfl) ?_
  refine va_get (D := D) (ci := 5) (v := .ref (a0 1)) (C := RX5) (T := TX5) (N := 11) hx hb hts inX5_adds_5 hown hK.1 hP 0 rfl rfl 0 (by decide) (hts (.fieldLink RX5 7 "LyingScaleModel" "s" "[I") (List.mem_of_getElem? (i := 1) rfl)) (fun _ h9 => h9) rfl dX5_adds_1 ?_
  refine lv_bipush (v := 127) hx hb dX5_adds_4 (by decide) ?_
  refine lv_iconst (v := 2) hx hb dX5_adds_6 (by decide) ?_
  refine lv_aload_n hx hb dX5_adds_7 rfl (lv_at hl 0 rfl) ?_
  refine va_get (D := D) (ci := 5) (v := .ref (a0 1)) (C := RX5) (T := TX5) (N := 11) hx hb hts inX5_adds_5 hown hK.1 hP 0 rfl rfl 0 (by decide) (hts (.fieldLink RX5 7 "LyingScaleModel" "s" "[I") (List.mem_of_getElem? (i := 1) rfl)) (fun _ h9 => h9) rfl dX5_adds_8 ?_
  refine lv_iconst (v := 3) hx hb dX5_adds_11 (by decide) ?_
  refine va_iald hx hb hK.1 hP 1 0 rfl rfl (show ¬ ((3 : Int32) < 0 ∨ 176 ≤ Int32.toNatClampNeg 3) from by decide) dX5_adds_12 ?_
  refine eqi (congrArg (x0.2 0) (show Int32.toNatClampNeg 3 = 3 from by decide)) ?_
  refine lv_imul hx hb dX5_adds_13 ?_
  refine lv_iadd hx hb dX5_adds_14 ?_
  refine lv_iload_n hx hb dX5_adds_15 rfl (lv_at hl 1 rfl) ?_
  replace h := gd h
  obtain ⟨g1, h⟩ := h
  refine va_iast hx hb hK.1 hP hD hS 1 0 rfl rfl g1 dX5_adds_16 (fun H locs hP hD hS => ?_)
  replace hP : va_P D vwCl (mdW T a0 (sA x0 0 (upd (x0.2 0) (127 + (2 * ((x0.2 0) 3))).toNatClampNeg v1))) H := hP
  replace hD : va_D A (mdW T a0 (sA x0 0 (upd (x0.2 0) (127 + (2 * ((x0.2 0) 3))).toNatClampNeg v1))) := hD
  replace h := bd h
  obtain ⟨y2, ey2, h⟩ := h
  rw [Option.some.inj ey2] at hP hD
  refine lv_aload_n hx hb dX5_adds_17 rfl (lv_at hl 0 rfl) ?_
  refine va_get (D := D) (ci := 5) (v := .ref (a0 1)) (C := RX5) (T := TX5) (N := 11) hx hb hts inX5_adds_5 hown hK.1 hP 0 rfl rfl 0 (by decide) (hts (.fieldLink RX5 7 "LyingScaleModel" "s" "[I") (List.mem_of_getElem? (i := 1) rfl)) (fun _ h9 => h9) rfl dX5_adds_18 ?_
  refine lv_bipush (v := 127) hx hb dX5_adds_21 (by decide) ?_
  refine lv_iconst (v := 2) hx hb dX5_adds_23 (by decide) ?_
  refine lv_aload_n hx hb dX5_adds_24 rfl (lv_at hl 0 rfl) ?_
  refine va_get (D := D) (ci := 5) (v := .ref (a0 1)) (C := RX5) (T := TX5) (N := 11) hx hb hts inX5_adds_5 hown hK.1 hP 0 rfl rfl 0 (by decide) (hts (.fieldLink RX5 7 "LyingScaleModel" "s" "[I") (List.mem_of_getElem? (i := 1) rfl)) (fun _ h9 => h9) rfl dX5_adds_25 ?_
  refine lv_iconst (v := 3) hx hb dX5_adds_28 (by decide) ?_
  refine va_iald hx hb hK.1 hP 1 0 rfl rfl (show ¬ ((3 : Int32) < 0 ∨ 176 ≤ Int32.toNatClampNeg 3) from by decide) dX5_adds_29 ?_
  refine eqi (congrArg (y2.2 0) (show Int32.toNatClampNeg 3 = 3 from by decide)) ?_
  refine lv_imul hx hb dX5_adds_30 ?_
  refine lv_iadd hx hb dX5_adds_31 ?_
  refine lv_iconst (v := 1) hx hb dX5_adds_32 (by decide) ?_
  refine lv_iadd hx hb dX5_adds_33 ?_
  refine lv_iload_n hx hb dX5_adds_34 rfl (lv_at hl 2 rfl) ?_
  replace h := gd h
  obtain ⟨g3, h⟩ := h
  refine va_iast hx hb hK.1 hP hD hS 1 0 rfl rfl g3 dX5_adds_35 (fun H locs hP hD hS => ?_)
  replace hP : va_P D vwCl (mdW T a0 (sA y2 0 (upd (y2.2 0) ((127 + (2 * ((y2.2 0) 3))) + 1).toNatClampNeg v2))) H := hP
  replace hD : va_D A (mdW T a0 (sA y2 0 (upd (y2.2 0) ((127 + (2 * ((y2.2 0) 3))) + 1).toNatClampNeg v2))) := hD
  replace h := bd h
  obtain ⟨y4, ey4, h⟩ := h
  rw [Option.some.inj ey4] at hP hD
  refine lv_aload_n hx hb dX5_adds_36 rfl (lv_at hl 0 rfl) ?_
  refine va_get (D := D) (ci := 5) (v := .ref (a0 1)) (C := RX5) (T := TX5) (N := 11) hx hb hts inX5_adds_5 hown hK.1 hP 0 rfl rfl 0 (by decide) (hts (.fieldLink RX5 7 "LyingScaleModel" "s" "[I") (List.mem_of_getElem? (i := 1) rfl)) (fun _ h9 => h9) rfl dX5_adds_37 ?_
  refine lv_iconst (v := 3) hx hb dX5_adds_40 (by decide) ?_
  refine lv_dup2_11 hx hb dX5_adds_41 rfl rfl ?_
  refine va_iald hx hb hK.1 hP 1 0 rfl rfl (show ¬ ((3 : Int32) < 0 ∨ 176 ≤ Int32.toNatClampNeg 3) from by decide) dX5_adds_42 ?_
  refine eqi (congrArg (y4.2 0) (show Int32.toNatClampNeg 3 = 3 from by decide)) ?_
  refine lv_iconst (v := 1) hx hb dX5_adds_43 (by decide) ?_
  refine lv_iadd hx hb dX5_adds_44 ?_
  refine va_iast hx hb hK.1 hP hD hS 1 0 rfl rfl (show ¬ ((3 : Int32) < 0 ∨ 176 ≤ Int32.toNatClampNeg 3) from by decide) dX5_adds_45 (fun H locs hP hD hS => ?_)
  rw [(show Int32.toNatClampNeg 3 = 3 from by decide)] at hP hD
  replace hP : va_P D vwCl (mdW T a0 (sA y4 0 (upd (y4.2 0) 3 (((y4.2 0) 3) + 1)))) H := hP
  replace hD : va_D A (mdW T a0 (sA y4 0 (upd (y4.2 0) 3 (((y4.2 0) 3) + 1)))) := hD
  replace h := bd h
  obtain ⟨y5, ey5, h⟩ := h
  rw [Option.some.inj ey5] at hP hD
  refine lv_aload_n hx hb dX5_adds_46 rfl (lv_at hl 0 rfl) ?_
  refine va_get (D := D) (ci := 5) (v := .ref (a0 1)) (C := RX5) (T := TX5) (N := 11) hx hb hts inX5_adds_5 hown hK.1 hP 0 rfl rfl 0 (by decide) (hts (.fieldLink RX5 7 "LyingScaleModel" "s" "[I") (List.mem_of_getElem? (i := 1) rfl)) (fun _ h9 => h9) rfl dX5_adds_47 ?_
  refine lv_iconst (v := 3) hx hb dX5_adds_50 (by decide) ?_
  refine va_iald hx hb hK.1 hP 1 0 rfl rfl (show ¬ ((3 : Int32) < 0 ∨ 176 ≤ Int32.toNatClampNeg 3) from by decide) dX5_adds_51 ?_
  refine eqi (congrArg (y5.2 0) (show Int32.toNatClampNeg 3 = 3 from by decide)) ?_
  refine lv_iconst (v := 1) hx hb dX5_adds_52 (by decide) ?_
  refine lv_isub hx hb dX5_adds_53 ?_
  obtain rfl := Option.some.inj h
  exact W.iret hx hb hr (fun t ht hW => ⟨⟨_, (), rfl, rfl, by rw [ht]; exact hP, hD⟩, hS.F ht⟩) hS.2.2 dX5_adds_54 hlocks
set_option maxHeartbeats 4000000 in
set_option maxRecDepth 100000 in
theorem c_X5_add (l : Launch) (D : va_G) (T : Nat → ClassId) (a0 : Nat → Nat) (x0 : St) (v1 : Int32) (v2 : Int32) (sz : Nat) (r : Int32 × St) (h : F_X5_add x0 v1 v2 = some r) : Met l yX5_add wsX5_add ({ frames := 3, cells := 0, slots := 0, locals := 67 } : Room) (va_Pc [.ref (a0 0), .int v1, .int v2] (PM D T (mdW T a0 (x0)) sz)) (QMi D (mdW T a0 (r.2)) r.1 (va_A (mdW T a0 (x0)) sz)) 0 0 (va_A (mdW T a0 (x0)) sz) := by
  refine met_of (cc := cX5_add) (maxL := 4) (ret := (some .int)) (lv := [(0, .ref (a0 0)), (1, .int v1), (2, .int v2)]) (by decide) rfl (Nat.le_of_ble_eq_true rfl) rfl ?_
  intro p e s m args below meth c ls C0 hl hB
  obtain ⟨hx, hb, hr, hml, hown, hts, hlocks, hname⟩ := C0
  obtain ⟨hsz, hP, hK, hD0⟩ := hB
  subst hsz
  have hD := hD0.self (sz := s.heap.size)
  generalize hAe : va_A (mdW T a0 (x0)) s.heap.size = A at hD ⊢
  have hA : ∀ q : Nat, s.heap.size ≤ q → A q := fun q h => by rw [← hAe]; exact Or.inr h
  obtain ⟨H, hH⟩ : ∃ H, H = s.heap := ⟨_, rfl⟩
  obtain ⟨locs, hlo⟩ : ∃ L : List Loc, L = [] := ⟨_, rfl⟩
  have hS : va_S A s.heap s.heap [] := va_S.rf
  rw [← hH] at hP ⊢
  rw [← hlo]
  replace hS : va_S A s.heap H locs := by rw [hH, hlo]; exact hS
  clear hH hlo
  unfold F_X5_add at h
  refine lv_aload_n hx hb dX5_add_0 rfl (lv_at hl 0 rfl) ?_
  refine lv_iload_n hx hb dX5_add_1 rfl (lv_at hl 1 rfl) ?_
  refine lv_iload_n hx hb dX5_add_2 rfl (lv_at hl 2 rfl) ?_
  replace h := bd h
  obtain ⟨t1, et1, h⟩ := h
  refine callRi (v := t1) (va_runV (As := [.int v1, .int v2]) (rest := []) ⟨hx, hb, hml, hown, hts⟩ (c_X5_whyNotAdd l D T a0 x0 v1 v2 t1 et1) (cwV 2 hts gX5_add_X5_whyNotAdd rfl rfl rfl hdV_X5_whyNotAdd ⟨Nat.le_of_ble_eq_true rfl, Nat.le_of_ble_eq_true rfl⟩) ⟨PB_blind, va_recv hK.1 hP (ci := 5) (q0 := 0) rfl rfl, PB_at hP hK⟩ rfl rfl hl.1 rfl (lv_room (Nat.le_of_ble_eq_true rfl)) dX5_add_3 ⟨Nat.zero_le _, Nat.zero_le _⟩) ?_
  refine lv_istore_n (lv' := [(3, .int t1), (0, .ref (a0 0)), (1, .int v1), (2, .int v2)]) hx hb dX5_add_6 rfl hl (by decide) rfl (fun ls hl => ?_)
  refine lv_iload_n hx hb dX5_add_7 rfl (lv_at hl 0 rfl) ?_
  refine lv_if_le (tgt := 17) hx hb dX5_add_8 (by decide) (fun c2 => ?_) (fun c2 => ?_)
  · replace h := ip c2 h
    refine lv_aload_n hx hb dX5_add_17 rfl (lv_at hl 1 rfl) ?_
    replace h := bd h
    obtain ⟨t3, et3, h⟩ := h
    refine callMv (wr := []) (ws' := mdW T a0 (t3)) (va_runV (As := []) (rest := []) ⟨hx, hb, hml, hown, hts⟩ (c_X5_begins l D T a0 x0 _ t3 et3) (cwV 0 hts gX5_add_X5_begins rfl rfl rfl hdV_X5_begins ⟨Nat.le_of_ble_eq_true rfl, Nat.le_of_ble_eq_true rfl⟩) ⟨PM_blind, va_recv hK.1 hP (ci := 5) (q0 := 0) rfl rfl, PM_at hP hD hK⟩ rfl rfl hl.1 rfl (lv_room (Nat.le_of_ble_eq_true rfl)) dX5_add_18 ⟨Nat.zero_le _, Nat.zero_le _⟩) hS hA hP hD [0, 1, 2, 3, 4] [] rfl rfl (by decide) (by decide) [0, 1, 2, 3, 4] (by decide) rfl (fun H locs hP hD hS => ?_)
    refine lv_aload_n hx hb dX5_add_21 rfl (lv_at hl 1 rfl) ?_
    refine lv_aload_n hx hb dX5_add_22 rfl (lv_at hl 1 rfl) ?_
    refine lv_iload_n hx hb dX5_add_23 rfl (lv_at hl 2 rfl) ?_
    refine lv_iload_n hx hb dX5_add_24 rfl (lv_at hl 3 rfl) ?_
    replace h := bd h
    obtain ⟨t4, et4, h⟩ := h
    refine callMi (wr := []) (ws' := mdW T a0 (t4.2)) (va_runV (As := [.int v1, .int v2]) (rest := [.ref (a0 0)]) ⟨hx, hb, hml, hown, hts⟩ (c_X5_adds l D T a0 t3 v1 v2 _ t4 et4) (cwV 2 hts gX5_add_X5_adds rfl rfl rfl hdV_X5_adds ⟨Nat.le_of_ble_eq_true rfl, Nat.le_of_ble_eq_true rfl⟩) ⟨PM_blind, va_recv hK.1 hP (ci := 5) (q0 := 0) rfl rfl, PM_at hP hD hK⟩ rfl rfl hl.1 rfl (lv_room (Nat.le_of_ble_eq_true rfl)) dX5_add_25 ⟨Nat.zero_le _, Nat.zero_le _⟩) hS hA hP hD [0, 1, 2, 3, 4] [] rfl rfl (by decide) (by decide) [0, 1, 2, 3, 4] (by decide) rfl (fun H locs hP hD hS => ?_)
    replace h := bd h
    obtain ⟨t5, et5, h⟩ := h
    refine callMi (wr := []) (ws' := mdW T a0 (t5.2)) (va_runV (As := [.int t4.1]) (rest := []) ⟨hx, hb, hml, hown, hts⟩ (c_X5_saved l D T a0 t4.2 t4.1 _ t5 et5) (cwV 1 hts gX5_add_X5_saved rfl rfl rfl hdV_X5_saved ⟨Nat.le_of_ble_eq_true rfl, Nat.le_of_ble_eq_true rfl⟩) ⟨PM_blind, va_recv hK.1 hP (ci := 5) (q0 := 0) rfl rfl, PM_at hP hD hK⟩ rfl rfl hl.1 rfl (lv_room (Nat.le_of_ble_eq_true rfl)) dX5_add_28 ⟨Nat.zero_le _, Nat.zero_le _⟩) hS hA hP hD [0, 1, 2, 3, 4] [] rfl rfl (by decide) (by decide) [0, 1, 2, 3, 4] (by decide) rfl (fun H locs hP hD hS => ?_)
    obtain rfl := Option.some.inj h
    exact W.iret hx hb hr (fun t ht hW => ⟨⟨_, (), rfl, rfl, by rw [ht]; exact hP, hD⟩, hS.F ht⟩) hS.2.2 dX5_add_31 hlocks
  replace h := im c2 h
  refine lv_aload_n hx hb dX5_add_11 rfl (lv_at hl 1 rfl) ?_
  refine lv_iload_n hx hb dX5_add_12 rfl (lv_at hl 0 rfl) ?_
  replace h := bd h
  obtain ⟨t6, et6, h⟩ := h
  refine callMi (wr := []) (ws' := mdW T a0 (t6.2)) (va_runV (As := [.int t1]) (rest := []) ⟨hx, hb, hml, hown, hts⟩ (c_X5_fails l D T a0 x0 t1 _ t6 et6) (cwV 1 hts gX5_add_X5_fails rfl rfl rfl hdV_X5_fails ⟨Nat.le_of_ble_eq_true rfl, Nat.le_of_ble_eq_true rfl⟩) ⟨PM_blind, va_recv hK.1 hP (ci := 5) (q0 := 0) rfl rfl, PM_at hP hD hK⟩ rfl rfl hl.1 rfl (lv_room (Nat.le_of_ble_eq_true rfl)) dX5_add_13 ⟨Nat.zero_le _, Nat.zero_le _⟩) hS hA hP hD [0, 1, 2, 3, 4] [] rfl rfl (by decide) (by decide) [0, 1, 2, 3, 4] (by decide) rfl (fun H locs hP hD hS => ?_)
  obtain rfl := Option.some.inj h
  exact W.iret hx hb hr (fun t ht hW => ⟨⟨_, (), rfl, rfl, by rw [ht]; exact hP, hD⟩, hS.F ht⟩) hS.2.2 dX5_add_16 hlocks
set_option maxHeartbeats 4000000 in
set_option maxRecDepth 100000 in
theorem c_X5_removeLast (l : Launch) (D : va_G) (T : Nat → ClassId) (a0 : Nat → Nat) (x0 : St) (sz : Nat) (r : Int32 × St) (h : F_X5_removeLast x0 = some r) : Met l yX5_removeLast wsX5_removeLast ({ frames := 2, cells := 0, slots := 0, locals := 43 } : Room) (va_Pc [.ref (a0 0)] (PM D T (mdW T a0 (x0)) sz)) (QMi D (mdW T a0 (r.2)) r.1 (va_A (mdW T a0 (x0)) sz)) 0 0 (va_A (mdW T a0 (x0)) sz) := by
  refine met_of (cc := cX5_removeLast) (maxL := 1) (ret := (some .int)) (lv := [(0, .ref (a0 0))]) (by decide) rfl (Nat.le_of_ble_eq_true rfl) rfl ?_
  intro p e s m args below meth c ls C0 hl hB
  obtain ⟨hx, hb, hr, hml, hown, hts, hlocks, hname⟩ := C0
  obtain ⟨hsz, hP, hK, hD0⟩ := hB
  subst hsz
  have hD := hD0.self (sz := s.heap.size)
  generalize hAe : va_A (mdW T a0 (x0)) s.heap.size = A at hD ⊢
  have hA : ∀ q : Nat, s.heap.size ≤ q → A q := fun q h => by rw [← hAe]; exact Or.inr h
  obtain ⟨H, hH⟩ : ∃ H, H = s.heap := ⟨_, rfl⟩
  obtain ⟨locs, hlo⟩ : ∃ L : List Loc, L = [] := ⟨_, rfl⟩
  have hS : va_S A s.heap s.heap [] := va_S.rf
  rw [← hH] at hP ⊢
  rw [← hlo]
  replace hS : va_S A s.heap H locs := by rw [hH, hlo]; exact hS
  clear hH hlo
  unfold F_X5_removeLast at h
  refine lv_aload_n hx hb dX5_removeLast_0 rfl (lv_at hl 0 rfl) ?_
  refine va_get (D := D) (ci := 5) (v := .ref (a0 1)) (C := RX5) (T := TX5) (N := 11) hx hb hts inX5_removeLast_5 hown hK.1 hP 0 rfl rfl 0 (by decide) (hts (.fieldLink RX5 7 "LyingScaleModel" "s" "[I") (List.mem_of_getElem? (i := 1) rfl)) (fun _ h9 => h9) rfl dX5_removeLast_1 ?_
  refine lv_iconst (v := 3) hx hb dX5_removeLast_4 (by decide) ?_
  refine va_iald hx hb hK.1 hP 1 0 rfl rfl (show ¬ ((3 : Int32) < 0 ∨ 176 ≤ Int32.toNatClampNeg 3) from by decide) dX5_removeLast_5 ?_
  refine eqi (congrArg (x0.2 0) (show Int32.toNatClampNeg 3 = 3 from by decide)) ?_
  refine lv_if_ne (tgt := 15) hx hb dX5_removeLast_6 (by decide) (fun c1 => ?_) (fun c1 => ?_)
  · replace h := im c1 h
    refine lv_aload_n hx hb dX5_removeLast_15 rfl (lv_at hl 0 rfl) ?_
    replace h := bd h
    obtain ⟨t2, et2, h⟩ := h
    refine callMv (wr := []) (ws' := mdW T a0 (t2)) (va_runV (As := []) (rest := []) ⟨hx, hb, hml, hown, hts⟩ (c_X5_begins l D T a0 x0 _ t2 et2) (cwV 0 hts gX5_removeLast_X5_begins rfl rfl rfl hdV_X5_begins ⟨Nat.le_of_ble_eq_true rfl, Nat.le_of_ble_eq_true rfl⟩) ⟨PM_blind, va_recv hK.1 hP (ci := 5) (q0 := 0) rfl rfl, PM_at hP hD hK⟩ rfl rfl hl.1 rfl (lv_room (Nat.le_of_ble_eq_true rfl)) dX5_removeLast_16 ⟨Nat.zero_le _, Nat.zero_le _⟩) hS hA hP hD [0, 1, 2, 3, 4] [] rfl rfl (by decide) (by decide) [0, 1, 2, 3, 4] (by decide) rfl (fun H locs hP hD hS => ?_)
    refine lv_aload_n hx hb dX5_removeLast_19 rfl (lv_at hl 0 rfl) ?_
    refine va_get (D := D) (ci := 5) (v := .ref (a0 1)) (C := RX5) (T := TX5) (N := 11) hx hb hts inX5_removeLast_5 hown hK.1 hP 0 rfl rfl 0 (by decide) (hts (.fieldLink RX5 7 "LyingScaleModel" "s" "[I") (List.mem_of_getElem? (i := 1) rfl)) (fun _ h9 => h9) rfl dX5_removeLast_20 ?_
    refine lv_iconst (v := 3) hx hb dX5_removeLast_23 (by decide) ?_
    refine lv_dup2_11 hx hb dX5_removeLast_24 rfl rfl ?_
    refine va_iald hx hb hK.1 hP 1 0 rfl rfl (show ¬ ((3 : Int32) < 0 ∨ 176 ≤ Int32.toNatClampNeg 3) from by decide) dX5_removeLast_25 ?_
    refine eqi (congrArg (t2.2 0) (show Int32.toNatClampNeg 3 = 3 from by decide)) ?_
    refine lv_iconst (v := 1) hx hb dX5_removeLast_26 (by decide) ?_
    refine lv_isub hx hb dX5_removeLast_27 ?_
    refine va_iast hx hb hK.1 hP hD hS 1 0 rfl rfl (show ¬ ((3 : Int32) < 0 ∨ 176 ≤ Int32.toNatClampNeg 3) from by decide) dX5_removeLast_28 (fun H locs hP hD hS => ?_)
    rw [(show Int32.toNatClampNeg 3 = 3 from by decide)] at hP hD
    replace hP : va_P D vwCl (mdW T a0 (sA t2 0 (upd (t2.2 0) 3 (((t2.2 0) 3) - 1)))) H := hP
    replace hD : va_D A (mdW T a0 (sA t2 0 (upd (t2.2 0) 3 (((t2.2 0) 3) - 1)))) := hD
    replace h := bd h
    obtain ⟨y3, ey3, h⟩ := h
    rw [Option.some.inj ey3] at hP hD
    refine lv_aload_n hx hb dX5_removeLast_29 rfl (lv_at hl 0 rfl) ?_
    refine lv_aload_n hx hb dX5_removeLast_30 rfl (lv_at hl 0 rfl) ?_
    refine va_get (D := D) (ci := 5) (v := .ref (a0 1)) (C := RX5) (T := TX5) (N := 11) hx hb hts inX5_removeLast_5 hown hK.1 hP 0 rfl rfl 0 (by decide) (hts (.fieldLink RX5 7 "LyingScaleModel" "s" "[I") (List.mem_of_getElem? (i := 1) rfl)) (fun _ h9 => h9) rfl dX5_removeLast_31 ?_
    refine lv_iconst (v := 3) hx hb dX5_removeLast_34 (by decide) ?_
    refine va_iald hx hb hK.1 hP 1 0 rfl rfl (show ¬ ((3 : Int32) < 0 ∨ 176 ≤ Int32.toNatClampNeg 3) from by decide) dX5_removeLast_35 ?_
    refine eqi (congrArg (y3.2 0) (show Int32.toNatClampNeg 3 = 3 from by decide)) ?_
    replace h := bd h
    obtain ⟨t4, et4, h⟩ := h
    refine callMi (wr := []) (ws' := mdW T a0 (t4.2)) (va_runV (As := [.int ((y3.2 0) 3)]) (rest := []) ⟨hx, hb, hml, hown, hts⟩ (c_X5_saved l D T a0 y3 ((y3.2 0) 3) _ t4 et4) (cwV 1 hts gX5_removeLast_X5_saved rfl rfl rfl hdV_X5_saved ⟨Nat.le_of_ble_eq_true rfl, Nat.le_of_ble_eq_true rfl⟩) ⟨PM_blind, va_recv hK.1 hP (ci := 5) (q0 := 0) rfl rfl, PM_at hP hD hK⟩ rfl rfl hl.1 rfl (lv_room (Nat.le_of_ble_eq_true rfl)) dX5_removeLast_36 ⟨Nat.zero_le _, Nat.zero_le _⟩) hS hA hP hD [0, 1, 2, 3, 4] [] rfl rfl (by decide) (by decide) [0, 1, 2, 3, 4] (by decide) rfl (fun H locs hP hD hS => ?_)
    obtain rfl := Option.some.inj h
    exact W.iret hx hb hr (fun t ht hW => ⟨⟨_, (), rfl, rfl, by rw [ht]; exact hP, hD⟩, hS.F ht⟩) hS.2.2 dX5_removeLast_39 hlocks
  replace h := ip c1 h
  refine lv_aload_n hx hb dX5_removeLast_9 rfl (lv_at hl 0 rfl) ?_
  refine lv_iconst (v := 1) hx hb dX5_removeLast_10 (by decide) ?_
  replace h := bd h
  obtain ⟨t5, et5, h⟩ := h
  refine callMi (wr := []) (ws' := mdW T a0 (t5.2)) (va_runV (As := [.int 1]) (rest := []) ⟨hx, hb, hml, hown, hts⟩ (c_X5_fails l D T a0 x0 1 _ t5 et5) (cwV 1 hts gX5_removeLast_X5_fails rfl rfl rfl hdV_X5_fails ⟨Nat.le_of_ble_eq_true rfl, Nat.le_of_ble_eq_true rfl⟩) ⟨PM_blind, va_recv hK.1 hP (ci := 5) (q0 := 0) rfl rfl, PM_at hP hD hK⟩ rfl rfl hl.1 rfl (lv_room (Nat.le_of_ble_eq_true rfl)) dX5_removeLast_11 ⟨Nat.zero_le _, Nat.zero_le _⟩) hS hA hP hD [0, 1, 2, 3, 4] [] rfl rfl (by decide) (by decide) [0, 1, 2, 3, 4] (by decide) rfl (fun H locs hP hD hS => ?_)
  obtain rfl := Option.some.inj h
  exact W.iret hx hb hr (fun t ht hW => ⟨⟨_, (), rfl, rfl, by rw [ht]; exact hP, hD⟩, hS.F ht⟩) hS.2.2 dX5_removeLast_14 hlocks
set_option maxHeartbeats 4000000 in
set_option maxRecDepth 100000 in
theorem c_X5_lies (l : Launch) (D : va_G) (T : Nat → ClassId) (a0 : Nat → Nat) (x0 : St) (v1 : Int32) (sz : Nat) (r : Int32 × St) (h : F_X5_lies x0 v1 = some r) : Met l yX5_lies wsX5_lies ({ frames := 2, cells := 0, slots := 0, locals := 43 } : Room) (va_Pc [.ref (a0 0), .int v1] (PM D T (mdW T a0 (x0)) sz)) (QMi D (mdW T a0 (r.2)) r.1 (va_A (mdW T a0 (x0)) sz)) 0 0 (va_A (mdW T a0 (x0)) sz) := by
  refine met_of (cc := cX5_lies) (maxL := 2) (ret := (some .int)) (lv := [(0, .ref (a0 0)), (1, .int v1)]) (by decide) rfl (Nat.le_of_ble_eq_true rfl) rfl ?_
  intro p e s m args below meth c ls C0 hl hB
  obtain ⟨hx, hb, hr, hml, hown, hts, hlocks, hname⟩ := C0
  obtain ⟨hsz, hP, hK, hD0⟩ := hB
  subst hsz
  have hD := hD0.self (sz := s.heap.size)
  generalize hAe : va_A (mdW T a0 (x0)) s.heap.size = A at hD ⊢
  have hA : ∀ q : Nat, s.heap.size ≤ q → A q := fun q h => by rw [← hAe]; exact Or.inr h
  obtain ⟨H, hH⟩ : ∃ H, H = s.heap := ⟨_, rfl⟩
  obtain ⟨locs, hlo⟩ : ∃ L : List Loc, L = [] := ⟨_, rfl⟩
  have hS : va_S A s.heap s.heap [] := va_S.rf
  rw [← hH] at hP ⊢
  rw [← hlo]
  replace hS : va_S A s.heap H locs := by rw [hH, hlo]; exact hS
  clear hH hlo
  unfold F_X5_lies at h
  refine lv_aload_n hx hb dX5_lies_0 rfl (lv_at hl 0 rfl) ?_
  refine lv_iload_n hx hb dX5_lies_1 rfl (lv_at hl 1 rfl) ?_
  replace h := bd h
  obtain ⟨t1, et1, h⟩ := h
  refine callRi (v := t1) (va_runV (As := [.int v1]) (rest := []) ⟨hx, hb, hml, hown, hts⟩ (c_X5_isCase l D T a0 x0 v1 t1 et1) (cwV 1 hts gX5_lies_X5_isCase rfl rfl rfl hdV_X5_isCase ⟨Nat.le_of_ble_eq_true rfl, Nat.le_of_ble_eq_true rfl⟩) ⟨PB_blind, va_recv hK.1 hP (ci := 5) (q0 := 0) rfl rfl, PB_at hP hK⟩ rfl rfl hl.1 rfl (lv_room (Nat.le_of_ble_eq_true rfl)) dX5_lies_2 ⟨Nat.zero_le _, Nat.zero_le _⟩) ?_
  refine lv_if_eq (tgt := 25) hx hb dX5_lies_5 (by decide) (fun c2 => ?_) (fun c2 => ?_)
  · replace h := ip c2 h
    refine lv_aload_n hx hb dX5_lies_25 rfl (lv_at hl 0 rfl) ?_
    refine lv_iconst (v := 1) hx hb dX5_lies_26 (by decide) ?_
    replace h := bd h
    obtain ⟨t3, et3, h⟩ := h
    refine callMi (wr := []) (ws' := mdW T a0 (t3.2)) (va_runV (As := [.int 1]) (rest := []) ⟨hx, hb, hml, hown, hts⟩ (c_X5_fails l D T a0 x0 1 _ t3 et3) (cwV 1 hts gX5_lies_X5_fails rfl rfl rfl hdV_X5_fails ⟨Nat.le_of_ble_eq_true rfl, Nat.le_of_ble_eq_true rfl⟩) ⟨PM_blind, va_recv hK.1 hP (ci := 5) (q0 := 0) rfl rfl, PM_at hP hD hK⟩ rfl rfl hl.1 rfl (lv_room (Nat.le_of_ble_eq_true rfl)) dX5_lies_27 ⟨Nat.zero_le _, Nat.zero_le _⟩) hS hA hP hD [0, 1, 2, 3, 4] [] rfl rfl (by decide) (by decide) [0, 1, 2, 3, 4] (by decide) rfl (fun H locs hP hD hS => ?_)
    obtain rfl := Option.some.inj h
    exact W.iret hx hb hr (fun t ht hW => ⟨⟨_, (), rfl, rfl, by rw [ht]; exact hP, hD⟩, hS.F ht⟩) hS.2.2 dX5_lies_30 hlocks
  replace h := im c2 h
  refine lv_aload_n hx hb dX5_lies_8 rfl (lv_at hl 0 rfl) ?_
  refine lv_aload_n hx hb dX5_lies_9 rfl (lv_at hl 0 rfl) ?_
  refine va_get (D := D) (ci := 5) (v := .ref (a0 1)) (C := RX5) (T := TX5) (N := 11) hx hb hts inX5_lies_5 hown hK.1 hP 0 rfl rfl 0 (by decide) (hts (.fieldLink RX5 7 "LyingScaleModel" "s" "[I") (List.mem_of_getElem? (i := 1) rfl)) (fun _ h9 => h9) rfl dX5_lies_10 ?_
  refine lv_sipush (v := 143) hx hb dX5_lies_13 (by decide) ?_
  refine lv_iload_n hx hb dX5_lies_16 rfl (lv_at hl 1 rfl) ?_
  refine lv_iadd hx hb dX5_lies_17 ?_
  replace h := gd h
  obtain ⟨g4, h⟩ := h
  refine va_iald hx hb hK.1 hP 1 0 rfl rfl g4 dX5_lies_18 ?_
  replace h := bd h
  obtain ⟨t5, et5, h⟩ := h
  refine callMi (wr := []) (ws' := mdW T a0 (t5.2)) (va_runV (As := [.int ((x0.2 0) (143 + v1).toNatClampNeg)]) (rest := []) ⟨hx, hb, hml, hown, hts⟩ (c_X5_tells l D T a0 x0 ((x0.2 0) (143 + v1).toNatClampNeg) _ t5 et5) (cwV 1 hts gX5_lies_X5_tells rfl rfl rfl hdV_X5_tells ⟨Nat.le_of_ble_eq_true rfl, Nat.le_of_ble_eq_true rfl⟩) ⟨PM_blind, va_recv hK.1 hP (ci := 5) (q0 := 0) rfl rfl, PM_at hP hD hK⟩ rfl rfl hl.1 rfl (lv_room (Nat.le_of_ble_eq_true rfl)) dX5_lies_19 ⟨Nat.zero_le _, Nat.zero_le _⟩) hS hA hP hD [0, 1, 2, 3, 4] [] rfl rfl (by decide) (by decide) [0, 1, 2, 3, 4] (by decide) rfl (fun H locs hP hD hS => ?_)
  refine lv_goto (tgt := 30) hx hb dX5_lies_22 (by decide) ?_
  obtain rfl := Option.some.inj h
  exact W.iret hx hb hr (fun t ht hW => ⟨⟨_, (), rfl, rfl, by rw [ht]; exact hP, hD⟩, hS.F ht⟩) hS.2.2 dX5_lies_30 hlocks
set_option maxHeartbeats 4000000 in
set_option maxRecDepth 100000 in
theorem c_X5_answer (l : Launch) (D : va_G) (T : Nat → ClassId) (a0 : Nat → Nat) (x0 : St) (v1 : Int32) (v2 : Int32) (v3 : Int32) (sz : Nat) (r : Int32 × St) (h : F_X5_answer x0 v1 v2 v3 = some r) : Met l yX5_answer wsX5_answer ({ frames := 2, cells := 0, slots := 0, locals := 45 } : Room) (va_Pc [.ref (a0 0), .int v1, .int v2, .int v3] (PM D T (mdW T a0 (x0)) sz)) (QMi D (mdW T a0 (r.2)) r.1 (va_A (mdW T a0 (x0)) sz)) 0 0 (va_A (mdW T a0 (x0)) sz) := by
  refine met_of (cc := cX5_answer) (maxL := 4) (ret := (some .int)) (lv := [(0, .ref (a0 0)), (1, .int v1), (2, .int v2), (3, .int v3)]) (by decide) rfl (Nat.le_of_ble_eq_true rfl) rfl ?_
  intro p e s m args below meth c ls C0 hl hB
  obtain ⟨hx, hb, hr, hml, hown, hts, hlocks, hname⟩ := C0
  obtain ⟨hsz, hP, hK, hD0⟩ := hB
  subst hsz
  have hD := hD0.self (sz := s.heap.size)
  generalize hAe : va_A (mdW T a0 (x0)) s.heap.size = A at hD ⊢
  have hA : ∀ q : Nat, s.heap.size ≤ q → A q := fun q h => by rw [← hAe]; exact Or.inr h
  obtain ⟨H, hH⟩ : ∃ H, H = s.heap := ⟨_, rfl⟩
  obtain ⟨locs, hlo⟩ : ∃ L : List Loc, L = [] := ⟨_, rfl⟩
  have hS : va_S A s.heap s.heap [] := va_S.rf
  rw [← hH] at hP ⊢
  rw [← hlo]
  replace hS : va_S A s.heap H locs := by rw [hH, hlo]; exact hS
  clear hH hlo
  unfold F_X5_answer at h
  refine lv_aload_n hx hb dX5_answer_0 rfl (lv_at hl 0 rfl) ?_
  refine lv_iload_n hx hb dX5_answer_1 rfl (lv_at hl 1 rfl) ?_
  replace h := bd h
  obtain ⟨t1, et1, h⟩ := h
  refine callRi (v := t1) (va_runV (As := [.int v1]) (rest := []) ⟨hx, hb, hml, hown, hts⟩ (c_X5_isCase l D T a0 x0 v1 t1 et1) (cwV 1 hts gX5_answer_X5_isCase rfl rfl rfl hdV_X5_isCase ⟨Nat.le_of_ble_eq_true rfl, Nat.le_of_ble_eq_true rfl⟩) ⟨PB_blind, va_recv hK.1 hP (ci := 5) (q0 := 0) rfl rfl, PB_at hP hK⟩ rfl rfl hl.1 rfl (lv_room (Nat.le_of_ble_eq_true rfl)) dX5_answer_2 ⟨Nat.zero_le _, Nat.zero_le _⟩) ?_
  refine lv_if_ne (tgt := 14) hx hb dX5_answer_5 (by decide) (fun c2 => ?_) (fun c2 => ?_)
  · replace h := im c2 h
    refine lv_aload_n hx hb dX5_answer_14 rfl (lv_at hl 0 rfl) ?_
    refine lv_iload_n hx hb dX5_answer_15 rfl (lv_at hl 2 rfl) ?_
    refine lv_iload_n hx hb dX5_answer_16 rfl (lv_at hl 3 rfl) ?_
    replace h := bd h
    obtain ⟨t3, et3, h⟩ := h
    refine callRi (v := t3) (va_runV (As := [.int v2, .int v3]) (rest := []) ⟨hx, hb, hml, hown, hts⟩ (c_X5_areSides l D T a0 x0 v2 v3 t3 et3) (cwV 2 hts gX5_answer_X5_areSides rfl rfl rfl hdV_X5_areSides ⟨Nat.le_of_ble_eq_true rfl, Nat.le_of_ble_eq_true rfl⟩) ⟨PB_blind, va_recv hK.1 hP (ci := 5) (q0 := 0) rfl rfl, PB_at hP hK⟩ rfl rfl hl.1 rfl (lv_room (Nat.le_of_ble_eq_true rfl)) dX5_answer_17 ⟨Nat.zero_le _, Nat.zero_le _⟩) ?_
    refine lv_if_eq (tgt := 36) hx hb dX5_answer_20 (by decide) (fun c4 => ?_) (fun c4 => ?_)
    · replace h := ip c4 h
      refine lv_aload_n hx hb dX5_answer_36 rfl (lv_at hl 0 rfl) ?_
      refine lv_iconst (v := 2) hx hb dX5_answer_37 (by decide) ?_
      replace h := bd h
      obtain ⟨t5, et5, h⟩ := h
      refine callMi (wr := []) (ws' := mdW T a0 (t5.2)) (va_runV (As := [.int 2]) (rest := []) ⟨hx, hb, hml, hown, hts⟩ (c_X5_fails l D T a0 x0 2 _ t5 et5) (cwV 1 hts gX5_answer_X5_fails rfl rfl rfl hdV_X5_fails ⟨Nat.le_of_ble_eq_true rfl, Nat.le_of_ble_eq_true rfl⟩) ⟨PM_blind, va_recv hK.1 hP (ci := 5) (q0 := 0) rfl rfl, PM_at hP hD hK⟩ rfl rfl hl.1 rfl (lv_room (Nat.le_of_ble_eq_true rfl)) dX5_answer_38 ⟨Nat.zero_le _, Nat.zero_le _⟩) hS hA hP hD [0, 1, 2, 3, 4] [] rfl rfl (by decide) (by decide) [0, 1, 2, 3, 4] (by decide) rfl (fun H locs hP hD hS => ?_)
      obtain rfl := Option.some.inj h
      exact W.iret hx hb hr (fun t ht hW => ⟨⟨_, (), rfl, rfl, by rw [ht]; exact hP, hD⟩, hS.F ht⟩) hS.2.2 dX5_answer_41 hlocks
    replace h := im c4 h
    refine lv_aload_n hx hb dX5_answer_23 rfl (lv_at hl 0 rfl) ?_
    refine lv_iload_n hx hb dX5_answer_24 rfl (lv_at hl 1 rfl) ?_
    refine lv_iload_n hx hb dX5_answer_25 rfl (lv_at hl 2 rfl) ?_
    refine lv_iload_n hx hb dX5_answer_26 rfl (lv_at hl 3 rfl) ?_
    replace h := bd h
    obtain ⟨t6, et6, h⟩ := h
    refine callRi (v := t6) (va_runS (As := [.int v1, .int v2, .int v3]) (rest := [.ref (a0 0)]) ⟨hx, hb, hml, hown, hts⟩ (c_X5_truth l D T v1 v2 v3 t6 et6) (va_cwS 3 hts gX5_answer_X5_truth rfl rfl rfl hdS_X5_truth ⟨Nat.le_of_ble_eq_true rfl, Nat.le_of_ble_eq_true rfl⟩) ⟨PB_blind, PB_at (hP.sub (ws' := ([] : va_W)) [] rfl) hK⟩ rfl rfl hl.1 rfl (lv_room (Nat.le_of_ble_eq_true rfl)) dX5_answer_27 ⟨Nat.zero_le _, Nat.zero_le _⟩) ?_
    replace h := bd h
    obtain ⟨t7, et7, h⟩ := h
    refine callMi (wr := []) (ws' := mdW T a0 (t7.2)) (va_runV (As := [.int t6]) (rest := []) ⟨hx, hb, hml, hown, hts⟩ (c_X5_tells l D T a0 x0 t6 _ t7 et7) (cwV 1 hts gX5_answer_X5_tells rfl rfl rfl hdV_X5_tells ⟨Nat.le_of_ble_eq_true rfl, Nat.le_of_ble_eq_true rfl⟩) ⟨PM_blind, va_recv hK.1 hP (ci := 5) (q0 := 0) rfl rfl, PM_at hP hD hK⟩ rfl rfl hl.1 rfl (lv_room (Nat.le_of_ble_eq_true rfl)) dX5_answer_30 ⟨Nat.zero_le _, Nat.zero_le _⟩) hS hA hP hD [0, 1, 2, 3, 4] [] rfl rfl (by decide) (by decide) [0, 1, 2, 3, 4] (by decide) rfl (fun H locs hP hD hS => ?_)
    refine lv_goto (tgt := 41) hx hb dX5_answer_33 (by decide) ?_
    obtain rfl := Option.some.inj h
    exact W.iret hx hb hr (fun t ht hW => ⟨⟨_, (), rfl, rfl, by rw [ht]; exact hP, hD⟩, hS.F ht⟩) hS.2.2 dX5_answer_41 hlocks
  replace h := ip c2 h
  refine lv_aload_n hx hb dX5_answer_8 rfl (lv_at hl 0 rfl) ?_
  refine lv_iconst (v := 1) hx hb dX5_answer_9 (by decide) ?_
  replace h := bd h
  obtain ⟨t8, et8, h⟩ := h
  refine callMi (wr := []) (ws' := mdW T a0 (t8.2)) (va_runV (As := [.int 1]) (rest := []) ⟨hx, hb, hml, hown, hts⟩ (c_X5_fails l D T a0 x0 1 _ t8 et8) (cwV 1 hts gX5_answer_X5_fails rfl rfl rfl hdV_X5_fails ⟨Nat.le_of_ble_eq_true rfl, Nat.le_of_ble_eq_true rfl⟩) ⟨PM_blind, va_recv hK.1 hP (ci := 5) (q0 := 0) rfl rfl, PM_at hP hD hK⟩ rfl rfl hl.1 rfl (lv_room (Nat.le_of_ble_eq_true rfl)) dX5_answer_10 ⟨Nat.zero_le _, Nat.zero_le _⟩) hS hA hP hD [0, 1, 2, 3, 4] [] rfl rfl (by decide) (by decide) [0, 1, 2, 3, 4] (by decide) rfl (fun H locs hP hD hS => ?_)
  obtain rfl := Option.some.inj h
  exact W.iret hx hb hr (fun t ht hW => ⟨⟨_, (), rfl, rfl, by rw [ht]; exact hP, hD⟩, hS.F ht⟩) hS.2.2 dX5_answer_13 hlocks
set_option maxHeartbeats 4000000 in
set_option maxRecDepth 100000 in
theorem c_X5_leftCase (l : Launch) (D : va_G) (T : Nat → ClassId) (a0 : Nat → Nat) (x0 : St) (v1 : Int32) (sz : Nat) (r : Int32 × St) (h : F_X5_leftCase x0 v1 = some r) : Met l yX5_leftCase wsX5_leftCase ({ frames := 1, cells := 0, slots := 0, locals := 21 } : Room) (va_Pc [.ref (a0 0), .int v1] (PM D T (mdW T a0 (x0)) sz)) (QMi D (mdW T a0 (r.2)) r.1 (va_A (mdW T a0 (x0)) sz)) 0 0 (va_A (mdW T a0 (x0)) sz) := by
  refine met_of (cc := cX5_leftCase) (maxL := 4) (ret := (some .int)) (lv := [(0, .ref (a0 0)), (1, .int v1)]) (by decide) rfl (Nat.le_of_ble_eq_true rfl) rfl ?_
  intro p e s m args below meth c ls C0 hl hB
  obtain ⟨hx, hb, hr, hml, hown, hts, hlocks, hname⟩ := C0
  obtain ⟨hsz, hP, hK, hD0⟩ := hB
  subst hsz
  have hD := hD0.self (sz := s.heap.size)
  generalize hAe : va_A (mdW T a0 (x0)) s.heap.size = A at hD ⊢
  have hA : ∀ q : Nat, s.heap.size ≤ q → A q := fun q h => by rw [← hAe]; exact Or.inr h
  obtain ⟨H, hH⟩ : ∃ H, H = s.heap := ⟨_, rfl⟩
  obtain ⟨locs, hlo⟩ : ∃ L : List Loc, L = [] := ⟨_, rfl⟩
  have hS : va_S A s.heap s.heap [] := va_S.rf
  rw [← hH] at hP ⊢
  rw [← hlo]
  replace hS : va_S A s.heap H locs := by rw [hH, hlo]; exact hS
  clear hH hlo
  unfold F_X5_leftCase at h
  refine lv_iload_n hx hb dX5_leftCase_0 rfl (lv_at hl 1 rfl) ?_
  refine lv_istore_n (lv' := [(2, .int v1), (0, .ref (a0 0)), (1, .int v1)]) hx hb dX5_leftCase_1 rfl hl (by decide) rfl (fun ls hl => ?_)
  refine lv_iconst (v := 0) hx hb dX5_leftCase_2 (by decide) ?_
  refine lv_istore_n (lv' := [(3, .int 0), (2, .int v1), (0, .ref (a0 0)), (1, .int v1)]) hx hb dX5_leftCase_3 rfl hl (by decide) rfl (fun ls hl => ?_)
  have K4 : ∀ (n4 : Nat) (i2_4 : Int32) (i3_4 : Int32) (H : Heap) (locs : List Loc) (ls : Array Slot), fx2 (B_X5_leftCase_4 x0 v1) n4 i2_4 i3_4 = some r → va_P D vwCl (mdW T a0 (x0)) H → va_D A (mdW T a0 (x0)) → va_S A s.heap H locs → lv_has ls 4 [(0, .ref (a0 0)), (1, .int v1), (2, .int i2_4), (3, .int i3_4)] → W p l e ({ frames := 1, cells := 0, slots := 0, locals := 21 } : Room) s m args below meth c H locs 0 0 (MQ below (QMi D (mdW T a0 (r.2)) r.1 A) args s 0 0 (A)) (F0 m 4 ls []) := by
    intro n4
    induction n4 with
    | zero =>
        intro i2_4 i3_4 H locs ls h
        cases h
    | succ n4 ih4 =>
        intro i2_4 i3_4 H locs ls h hP hD hS hl
        replace h : B_X5_leftCase_4 x0 v1 (fx2 (B_X5_leftCase_4 x0 v1) n4) i2_4 i3_4 = some r := h
        unfold B_X5_leftCase_4 at h
        refine lv_iload_n hx hb dX5_leftCase_4 rfl (lv_at hl 3 rfl) ?_
        refine lv_aload_n hx hb dX5_leftCase_5 rfl (lv_at hl 0 rfl) ?_
        replace h := bd h
        obtain ⟨t1, et1, h⟩ := h
        refine callRi (v := t1) (va_runV (As := []) (rest := [.int i3_4]) ⟨hx, hb, hml, hown, hts⟩ (c_X5_cases l D T a0 x0 t1 et1) (cwV 0 hts gX5_leftCase_X5_cases rfl rfl rfl hdV_X5_cases ⟨Nat.le_of_ble_eq_true rfl, Nat.le_of_ble_eq_true rfl⟩) ⟨PB_blind, va_recv hK.1 hP (ci := 5) (q0 := 0) rfl rfl, PB_at hP hK⟩ rfl rfl hl.1 rfl (lv_room (Nat.le_of_ble_eq_true rfl)) dX5_leftCase_6 ⟨Nat.zero_le _, Nat.zero_le _⟩) ?_
        refine lv_icmp_ge (tgt := 43) hx hb dX5_leftCase_9 (by decide) (fun c2 => ?_) (fun c2 => ?_)
        · replace h := ip c2 h
          refine lv_aload_n hx hb dX5_leftCase_43 rfl (lv_at hl 0 rfl) ?_
          refine lv_iconst (v := 1) hx hb dX5_leftCase_44 (by decide) ?_
          replace h := bd h
          obtain ⟨t3, et3, h⟩ := h
          refine callMi (wr := []) (ws' := mdW T a0 (t3.2)) (va_runV (As := [.int 1]) (rest := []) ⟨hx, hb, hml, hown, hts⟩ (c_X5_fails l D T a0 x0 1 _ t3 et3) (cwV 1 hts gX5_leftCase_X5_fails rfl rfl rfl hdV_X5_fails ⟨Nat.le_of_ble_eq_true rfl, Nat.le_of_ble_eq_true rfl⟩) ⟨PM_blind, va_recv hK.1 hP (ci := 5) (q0 := 0) rfl rfl, PM_at hP hD hK⟩ rfl rfl hl.1 rfl (lv_room (Nat.le_of_ble_eq_true rfl)) dX5_leftCase_45 ⟨Nat.zero_le _, Nat.zero_le _⟩) hS hA hP hD [0, 1, 2, 3, 4] [] rfl rfl (by decide) (by decide) [0, 1, 2, 3, 4] (by decide) rfl (fun H locs hP hD hS => ?_)
          obtain rfl := Option.some.inj h
          exact W.iret hx hb hr (fun t ht hW => ⟨⟨_, (), rfl, rfl, by rw [ht]; exact hP, hD⟩, hS.F ht⟩) hS.2.2 dX5_leftCase_48 hlocks
        replace h := im c2 h
        refine lv_iload_n hx hb dX5_leftCase_12 rfl (lv_at hl 1 rfl) ?_
        refine lv_if_lt (tgt := 43) hx hb dX5_leftCase_13 (by decide) (fun c4 => ?_) (fun c4 => ?_)
        · replace h := ip c4 h
          refine lv_aload_n hx hb dX5_leftCase_43 rfl (lv_at hl 0 rfl) ?_
          refine lv_iconst (v := 1) hx hb dX5_leftCase_44 (by decide) ?_
          replace h := bd h
          obtain ⟨t5, et5, h⟩ := h
          refine callMi (wr := []) (ws' := mdW T a0 (t5.2)) (va_runV (As := [.int 1]) (rest := []) ⟨hx, hb, hml, hown, hts⟩ (c_X5_fails l D T a0 x0 1 _ t5 et5) (cwV 1 hts gX5_leftCase_X5_fails rfl rfl rfl hdV_X5_fails ⟨Nat.le_of_ble_eq_true rfl, Nat.le_of_ble_eq_true rfl⟩) ⟨PM_blind, va_recv hK.1 hP (ci := 5) (q0 := 0) rfl rfl, PM_at hP hD hK⟩ rfl rfl hl.1 rfl (lv_room (Nat.le_of_ble_eq_true rfl)) dX5_leftCase_45 ⟨Nat.zero_le _, Nat.zero_le _⟩) hS hA hP hD [0, 1, 2, 3, 4] [] rfl rfl (by decide) (by decide) [0, 1, 2, 3, 4] (by decide) rfl (fun H locs hP hD hS => ?_)
          obtain rfl := Option.some.inj h
          exact W.iret hx hb hr (fun t ht hW => ⟨⟨_, (), rfl, rfl, by rw [ht]; exact hP, hD⟩, hS.F ht⟩) hS.2.2 dX5_leftCase_48 hlocks
        replace h := im c4 h
        refine lv_aload_n hx hb dX5_leftCase_16 rfl (lv_at hl 0 rfl) ?_
        refine lv_iload_n hx hb dX5_leftCase_17 rfl (lv_at hl 3 rfl) ?_
        replace h := bd h
        obtain ⟨t6, et6, h⟩ := h
        refine callRi (v := t6) (va_runV (As := [.int i3_4]) (rest := []) ⟨hx, hb, hml, hown, hts⟩ (c_X5_isLeft l D T a0 x0 i3_4 t6 et6) (cwV 1 hts gX5_leftCase_X5_isLeft rfl rfl rfl hdV_X5_isLeft ⟨Nat.le_of_ble_eq_true rfl, Nat.le_of_ble_eq_true rfl⟩) ⟨PB_blind, va_recv hK.1 hP (ci := 5) (q0 := 0) rfl rfl, PB_at hP hK⟩ rfl rfl hl.1 rfl (lv_room (Nat.le_of_ble_eq_true rfl)) dX5_leftCase_18 ⟨Nat.zero_le _, Nat.zero_le _⟩) ?_
        refine lv_if_eq (tgt := 37) hx hb dX5_leftCase_21 (by decide) (fun c7 => ?_) (fun c7 => ?_)
        · replace h := ip c7 h
          refine lv_iinc (v := i3_4 + 1) (lv' := [(3, .int (i3_4 + 1)), (0, .ref (a0 0)), (1, .int v1), (2, .int i2_4)]) hx hb dX5_leftCase_37 hl (k := 3) rfl rfl (by decide) rfl (fun ls hl => ?_)
          refine lv_goto (tgt := 4) hx hb dX5_leftCase_40 (by decide) ?_
          exact ih4 i2_4 (i3_4 + 1) _ _ ls h hP hD hS (lv_sub hl [1, 2, 3, 0] rfl)
        replace h := im c7 h
        refine lv_iload_n hx hb dX5_leftCase_24 rfl (lv_at hl 2 rfl) ?_
        refine lv_if_ne (tgt := 34) hx hb dX5_leftCase_25 (by decide) (fun c8 => ?_) (fun c8 => ?_)
        · replace h := im c8 h
          refine lv_iinc (v := i2_4 + (-1)) (lv' := [(2, .int (i2_4 + (-1))), (0, .ref (a0 0)), (1, .int v1), (3, .int i3_4)]) hx hb dX5_leftCase_34 hl (k := 2) rfl rfl (by decide) rfl (fun ls hl => ?_)
          refine lv_iinc (v := i3_4 + 1) (lv' := [(3, .int (i3_4 + 1)), (2, .int (i2_4 + (-1))), (0, .ref (a0 0)), (1, .int v1)]) hx hb dX5_leftCase_37 hl (k := 3) rfl rfl (by decide) rfl (fun ls hl => ?_)
          refine lv_goto (tgt := 4) hx hb dX5_leftCase_40 (by decide) ?_
          exact ih4 (i2_4 + (-1)) (i3_4 + 1) _ _ ls h hP hD hS (lv_sub hl [2, 3, 1, 0] rfl)
        replace h := ip c8 h
        refine lv_aload_n hx hb dX5_leftCase_28 rfl (lv_at hl 0 rfl) ?_
        refine lv_iload_n hx hb dX5_leftCase_29 rfl (lv_at hl 3 rfl) ?_
        replace h := bd h
        obtain ⟨t9, et9, h⟩ := h
        refine callMi (wr := []) (ws' := mdW T a0 (t9.2)) (va_runV (As := [.int i3_4]) (rest := []) ⟨hx, hb, hml, hown, hts⟩ (c_X5_tells l D T a0 x0 i3_4 _ t9 et9) (cwV 1 hts gX5_leftCase_X5_tells rfl rfl rfl hdV_X5_tells ⟨Nat.le_of_ble_eq_true rfl, Nat.le_of_ble_eq_true rfl⟩) ⟨PM_blind, va_recv hK.1 hP (ci := 5) (q0 := 0) rfl rfl, PM_at hP hD hK⟩ rfl rfl hl.1 rfl (lv_room (Nat.le_of_ble_eq_true rfl)) dX5_leftCase_30 ⟨Nat.zero_le _, Nat.zero_le _⟩) hS hA hP hD [0, 1, 2, 3, 4] [] rfl rfl (by decide) (by decide) [0, 1, 2, 3, 4] (by decide) rfl (fun H locs hP hD hS => ?_)
        obtain rfl := Option.some.inj h
        exact W.iret hx hb hr (fun t ht hW => ⟨⟨_, (), rfl, rfl, by rw [ht]; exact hP, hD⟩, hS.F ht⟩) hS.2.2 dX5_leftCase_33 hlocks
  exact K4 1000 v1 0 _ _ ls h hP hD hS (lv_sub hl [2, 3, 1, 0] rfl)
set_option maxHeartbeats 4000000 in
set_option maxRecDepth 100000 in
theorem c_X5_weighing (l : Launch) (D : va_G) (T : Nat → ClassId) (a0 : Nat → Nat) (x0 : St) (v1 : Int32) (v2 : Int32) (sz : Nat) (r : Int32 × St) (h : F_X5_weighing x0 v1 v2 = some r) : Met l yX5_weighing wsX5_weighing ({ frames := 1, cells := 0, slots := 0, locals := 22 } : Room) (va_Pc [.ref (a0 0), .int v1, .int v2] (PM D T (mdW T a0 (x0)) sz)) (QMi D (mdW T a0 (r.2)) r.1 (va_A (mdW T a0 (x0)) sz)) 0 0 (va_A (mdW T a0 (x0)) sz) := by
  refine met_of (cc := cX5_weighing) (maxL := 3) (ret := (some .int)) (lv := [(0, .ref (a0 0)), (1, .int v1), (2, .int v2)]) (by decide) rfl (Nat.le_of_ble_eq_true rfl) rfl ?_
  intro p e s m args below meth c ls C0 hl hB
  obtain ⟨hx, hb, hr, hml, hown, hts, hlocks, hname⟩ := C0
  obtain ⟨hsz, hP, hK, hD0⟩ := hB
  subst hsz
  have hD := hD0.self (sz := s.heap.size)
  generalize hAe : va_A (mdW T a0 (x0)) s.heap.size = A at hD ⊢
  have hA : ∀ q : Nat, s.heap.size ≤ q → A q := fun q h => by rw [← hAe]; exact Or.inr h
  obtain ⟨H, hH⟩ : ∃ H, H = s.heap := ⟨_, rfl⟩
  obtain ⟨locs, hlo⟩ : ∃ L : List Loc, L = [] := ⟨_, rfl⟩
  have hS : va_S A s.heap s.heap [] := va_S.rf
  rw [← hH] at hP ⊢
  rw [← hlo]
  replace hS : va_S A s.heap H locs := by rw [hH, hlo]; exact hS
  clear hH hlo
  unfold F_X5_weighing at h
  refine lv_iload_n hx hb dX5_weighing_0 rfl (lv_at hl 1 rfl) ?_
  refine lv_iconst (v := 0) hx hb dX5_weighing_1 (by decide) ?_
  refine lv_aload_n hx hb dX5_weighing_2 rfl (lv_at hl 0 rfl) ?_
  refine va_get (D := D) (ci := 5) (v := .ref (a0 1)) (C := RX5) (T := TX5) (N := 11) hx hb hts inX5_weighing_5 hown hK.1 hP 0 rfl rfl 0 (by decide) (hts (.fieldLink RX5 7 "LyingScaleModel" "s" "[I") (List.mem_of_getElem? (i := 1) rfl)) (fun _ h9 => h9) rfl dX5_weighing_3 ?_
  refine lv_iconst (v := 2) hx hb dX5_weighing_6 (by decide) ?_
  refine va_iald hx hb hK.1 hP 1 0 rfl rfl (show ¬ ((2 : Int32) < 0 ∨ 176 ≤ Int32.toNatClampNeg 2) from by decide) dX5_weighing_7 ?_
  refine eqi (congrArg (x0.2 0) (show Int32.toNatClampNeg 2 = 2 from by decide)) ?_
  refine lv_iconst (v := 1) hx hb dX5_weighing_8 (by decide) ?_
  refine lv_isub hx hb dX5_weighing_9 ?_
  replace h := bd h
  obtain ⟨t1, et1, h⟩ := h
  refine callRi (v := t1) (va_runS (As := [.int v1, .int 0, .int (((x0.2 0) 2) - 1)]) (rest := []) ⟨hx, hb, hml, hown, hts⟩ (c_X5_in l D T v1 0 (((x0.2 0) 2) - 1) t1 et1) (va_cwS 3 hts gX5_weighing_X5_in rfl rfl rfl hdS_X5_in ⟨Nat.le_of_ble_eq_true rfl, Nat.le_of_ble_eq_true rfl⟩) ⟨PB_blind, PB_at (hP.sub (ws' := ([] : va_W)) [] rfl) hK⟩ rfl rfl hl.1 rfl (lv_room (Nat.le_of_ble_eq_true rfl)) dX5_weighing_10 ⟨Nat.zero_le _, Nat.zero_le _⟩) ?_
  refine lv_if_ne (tgt := 22) hx hb dX5_weighing_13 (by decide) (fun c2 => ?_) (fun c2 => ?_)
  · replace h := im c2 h
    refine lv_iload_n hx hb dX5_weighing_22 rfl (lv_at hl 2 rfl) ?_
    refine lv_iconst (v := 0) hx hb dX5_weighing_23 (by decide) ?_
    refine lv_iconst (v := 2) hx hb dX5_weighing_24 (by decide) ?_
    replace h := bd h
    obtain ⟨t3, et3, h⟩ := h
    refine callRi (v := t3) (va_runS (As := [.int v2, .int 0, .int 2]) (rest := []) ⟨hx, hb, hml, hown, hts⟩ (c_X5_in l D T v2 0 2 t3 et3) (va_cwS 3 hts gX5_weighing_X5_in rfl rfl rfl hdS_X5_in ⟨Nat.le_of_ble_eq_true rfl, Nat.le_of_ble_eq_true rfl⟩) ⟨PB_blind, PB_at (hP.sub (ws' := ([] : va_W)) [] rfl) hK⟩ rfl rfl hl.1 rfl (lv_room (Nat.le_of_ble_eq_true rfl)) dX5_weighing_25 ⟨Nat.zero_le _, Nat.zero_le _⟩) ?_
    refine lv_if_eq (tgt := 51) hx hb dX5_weighing_28 (by decide) (fun c4 => ?_) (fun c4 => ?_)
    · replace h := ip c4 h
      refine lv_aload_n hx hb dX5_weighing_51 rfl (lv_at hl 0 rfl) ?_
      refine lv_iconst (v := 2) hx hb dX5_weighing_52 (by decide) ?_
      replace h := bd h
      obtain ⟨t5, et5, h⟩ := h
      refine callMi (wr := []) (ws' := mdW T a0 (t5.2)) (va_runV (As := [.int 2]) (rest := []) ⟨hx, hb, hml, hown, hts⟩ (c_X5_fails l D T a0 x0 2 _ t5 et5) (cwV 1 hts gX5_weighing_X5_fails rfl rfl rfl hdV_X5_fails ⟨Nat.le_of_ble_eq_true rfl, Nat.le_of_ble_eq_true rfl⟩) ⟨PM_blind, va_recv hK.1 hP (ci := 5) (q0 := 0) rfl rfl, PM_at hP hD hK⟩ rfl rfl hl.1 rfl (lv_room (Nat.le_of_ble_eq_true rfl)) dX5_weighing_53 ⟨Nat.zero_le _, Nat.zero_le _⟩) hS hA hP hD [0, 1, 2, 3, 4] [] rfl rfl (by decide) (by decide) [0, 1, 2, 3, 4] (by decide) rfl (fun H locs hP hD hS => ?_)
      obtain rfl := Option.some.inj h
      exact W.iret hx hb hr (fun t ht hW => ⟨⟨_, (), rfl, rfl, by rw [ht]; exact hP, hD⟩, hS.F ht⟩) hS.2.2 dX5_weighing_56 hlocks
    replace h := im c4 h
    refine lv_aload_n hx hb dX5_weighing_31 rfl (lv_at hl 0 rfl) ?_
    refine lv_aload_n hx hb dX5_weighing_32 rfl (lv_at hl 0 rfl) ?_
    refine va_get (D := D) (ci := 5) (v := .ref (a0 1)) (C := RX5) (T := TX5) (N := 11) hx hb hts inX5_weighing_5 hown hK.1 hP 0 rfl rfl 0 (by decide) (hts (.fieldLink RX5 7 "LyingScaleModel" "s" "[I") (List.mem_of_getElem? (i := 1) rfl)) (fun _ h9 => h9) rfl dX5_weighing_33 ?_
    refine lv_bipush (v := 7) hx hb dX5_weighing_36 (by decide) ?_
    refine lv_iconst (v := 3) hx hb dX5_weighing_38 (by decide) ?_
    refine lv_iload_n hx hb dX5_weighing_39 rfl (lv_at hl 1 rfl) ?_
    refine lv_imul hx hb dX5_weighing_40 ?_
    refine lv_iadd hx hb dX5_weighing_41 ?_
    refine lv_iload_n hx hb dX5_weighing_42 rfl (lv_at hl 2 rfl) ?_
    refine lv_iadd hx hb dX5_weighing_43 ?_
    replace h := gd h
    obtain ⟨g6, h⟩ := h
    refine va_iald hx hb hK.1 hP 1 0 rfl rfl g6 dX5_weighing_44 ?_
    replace h := bd h
    obtain ⟨t7, et7, h⟩ := h
    refine callMi (wr := []) (ws' := mdW T a0 (t7.2)) (va_runV (As := [.int ((x0.2 0) ((7 + (3 * v1)) + v2).toNatClampNeg)]) (rest := []) ⟨hx, hb, hml, hown, hts⟩ (c_X5_tells l D T a0 x0 ((x0.2 0) ((7 + (3 * v1)) + v2).toNatClampNeg) _ t7 et7) (cwV 1 hts gX5_weighing_X5_tells rfl rfl rfl hdV_X5_tells ⟨Nat.le_of_ble_eq_true rfl, Nat.le_of_ble_eq_true rfl⟩) ⟨PM_blind, va_recv hK.1 hP (ci := 5) (q0 := 0) rfl rfl, PM_at hP hD hK⟩ rfl rfl hl.1 rfl (lv_room (Nat.le_of_ble_eq_true rfl)) dX5_weighing_45 ⟨Nat.zero_le _, Nat.zero_le _⟩) hS hA hP hD [0, 1, 2, 3, 4] [] rfl rfl (by decide) (by decide) [0, 1, 2, 3, 4] (by decide) rfl (fun H locs hP hD hS => ?_)
    refine lv_goto (tgt := 56) hx hb dX5_weighing_48 (by decide) ?_
    obtain rfl := Option.some.inj h
    exact W.iret hx hb hr (fun t ht hW => ⟨⟨_, (), rfl, rfl, by rw [ht]; exact hP, hD⟩, hS.F ht⟩) hS.2.2 dX5_weighing_56 hlocks
  replace h := ip c2 h
  refine lv_aload_n hx hb dX5_weighing_16 rfl (lv_at hl 0 rfl) ?_
  refine lv_iconst (v := 1) hx hb dX5_weighing_17 (by decide) ?_
  replace h := bd h
  obtain ⟨t8, et8, h⟩ := h
  refine callMi (wr := []) (ws' := mdW T a0 (t8.2)) (va_runV (As := [.int 1]) (rest := []) ⟨hx, hb, hml, hown, hts⟩ (c_X5_fails l D T a0 x0 1 _ t8 et8) (cwV 1 hts gX5_weighing_X5_fails rfl rfl rfl hdV_X5_fails ⟨Nat.le_of_ble_eq_true rfl, Nat.le_of_ble_eq_true rfl⟩) ⟨PM_blind, va_recv hK.1 hP (ci := 5) (q0 := 0) rfl rfl, PM_at hP hD hK⟩ rfl rfl hl.1 rfl (lv_room (Nat.le_of_ble_eq_true rfl)) dX5_weighing_18 ⟨Nat.zero_le _, Nat.zero_le _⟩) hS hA hP hD [0, 1, 2, 3, 4] [] rfl rfl (by decide) (by decide) [0, 1, 2, 3, 4] (by decide) rfl (fun H locs hP hD hS => ?_)
  obtain rfl := Option.some.inj h
  exact W.iret hx hb hr (fun t ht hW => ⟨⟨_, (), rfl, rfl, by rw [ht]; exact hP, hD⟩, hS.F ht⟩) hS.2.2 dX5_weighing_21 hlocks
set_option maxHeartbeats 4000000 in
set_option maxRecDepth 100000 in
theorem c_X5_falseOnes (l : Launch) (D : va_G) (T : Nat → ClassId) (a0 : Nat → Nat) (x0 : St) (r : Int32) (h : F_X5_falseOnes x0 = some r) : Met l yX5_falseOnes wsX5_falseOnes ({ frames := 1, cells := 0, slots := 0, locals := 21 } : Room) (va_Pc [.ref (a0 0)] (PB D T (mdW T a0 (x0)))) (QRi r) 0 0 (fun _ => False) := by
  refine met_of (cc := cX5_falseOnes) (maxL := 3) (ret := (some .int)) (lv := [(0, .ref (a0 0))]) (by decide) rfl (Nat.le_of_ble_eq_true rfl) rfl ?_
  intro p e s m args below meth c ls C0 hl hB
  obtain ⟨hx, hb, hr, hml, hown, hts, hlocks, hname⟩ := C0
  obtain ⟨hP, hK⟩ := hB
  unfold F_X5_falseOnes at h
  refine lv_iconst (v := 0) hx hb dX5_falseOnes_0 (by decide) ?_
  refine lv_istore_n (lv' := [(1, .int 0), (0, .ref (a0 0))]) hx hb dX5_falseOnes_1 rfl hl (by decide) rfl (fun ls hl => ?_)
  refine lv_iconst (v := 1) hx hb dX5_falseOnes_2 (by decide) ?_
  refine lv_istore_n (lv' := [(2, .int 1), (1, .int 0), (0, .ref (a0 0))]) hx hb dX5_falseOnes_3 rfl hl (by decide) rfl (fun ls hl => ?_)
  have K4 : ∀ (n4 : Nat) (i1_4 : Int32) (i2_4 : Int32) (ls : Array Slot), fx2 (B_X5_falseOnes_4 x0) n4 i1_4 i2_4 = some r → lv_has ls 3 [(0, .ref (a0 0)), (1, .int i1_4), (2, .int i2_4)] → W p l e ({ frames := 1, cells := 0, slots := 0, locals := 21 } : Room) s m args below meth c s.heap [] 0 0 (MQ below (QRi r) args s 0 0 (fun _ => False)) (F0 m 4 ls []) := by
    intro n4
    induction n4 with
    | zero =>
        intro i1_4 i2_4 ls h
        cases h
    | succ n4 ih4 =>
        intro i1_4 i2_4 ls h hl
        replace h : B_X5_falseOnes_4 x0 (fx2 (B_X5_falseOnes_4 x0) n4) i1_4 i2_4 = some r := h
        unfold B_X5_falseOnes_4 at h
        refine lv_iload_n hx hb dX5_falseOnes_4 rfl (lv_at hl 2 rfl) ?_
        refine lv_aload_n hx hb dX5_falseOnes_5 rfl (lv_at hl 0 rfl) ?_
        replace h := bd h
        obtain ⟨t1, et1, h⟩ := h
        refine callRi (v := t1) (va_runV (As := []) (rest := [.int i2_4]) ⟨hx, hb, hml, hown, hts⟩ (c_X5_cases l D T a0 x0 t1 et1) (cwV 0 hts gX5_falseOnes_X5_cases rfl rfl rfl hdV_X5_cases ⟨Nat.le_of_ble_eq_true rfl, Nat.le_of_ble_eq_true rfl⟩) ⟨PB_blind, va_recv hK.1 hP (ci := 5) (q0 := 0) rfl rfl, PB_at hP hK⟩ rfl rfl hl.1 rfl (lv_room (Nat.le_of_ble_eq_true rfl)) dX5_falseOnes_6 ⟨Nat.zero_le _, Nat.zero_le _⟩) ?_
        refine lv_icmp_ge (tgt := 40) hx hb dX5_falseOnes_9 (by decide) (fun c2 => ?_) (fun c2 => ?_)
        · replace h := ip c2 h
          refine lv_iload_n hx hb dX5_falseOnes_40 rfl (lv_at hl 1 rfl) ?_
          exact W.iret hx hb hr (fun t ht hW => ⟨_, rfl, Option.some.inj h, ht⟩) (fun q hq => absurd hq List.not_mem_nil) dX5_falseOnes_41 hlocks
        replace h := im c2 h
        refine lv_iload_n hx hb dX5_falseOnes_12 rfl (lv_at hl 1 rfl) ?_
        refine lv_aload_n hx hb dX5_falseOnes_13 rfl (lv_at hl 0 rfl) ?_
        refine lv_iload_n hx hb dX5_falseOnes_14 rfl (lv_at hl 2 rfl) ?_
        replace h := bd h
        obtain ⟨t3, et3, h⟩ := h
        refine callRi (v := t3) (va_runV (As := [.int i2_4]) (rest := [.int i1_4]) ⟨hx, hb, hml, hown, hts⟩ (c_X5_isLeft l D T a0 x0 i2_4 t3 et3) (cwV 1 hts gX5_falseOnes_X5_isLeft rfl rfl rfl hdV_X5_isLeft ⟨Nat.le_of_ble_eq_true rfl, Nat.le_of_ble_eq_true rfl⟩) ⟨PB_blind, va_recv hK.1 hP (ci := 5) (q0 := 0) rfl rfl, PB_at hP hK⟩ rfl rfl hl.1 rfl (lv_room (Nat.le_of_ble_eq_true rfl)) dX5_falseOnes_15 ⟨Nat.zero_le _, Nat.zero_le _⟩) ?_
        refine lv_if_eq (tgt := 31) hx hb dX5_falseOnes_18 (by decide) (fun c4 => ?_) (fun c4 => ?_)
        · replace h := ip c4 h
          refine lv_iconst (v := 0) hx hb dX5_falseOnes_31 (by decide) ?_
          refine lv_ior hx hb dX5_falseOnes_32 ?_
          refine lv_istore_n (lv' := [(1, .int (i1_4 ||| 0)), (0, .ref (a0 0)), (2, .int i2_4)]) hx hb dX5_falseOnes_33 rfl hl (by decide) rfl (fun ls hl => ?_)
          refine lv_iinc (v := i2_4 + 1) (lv' := [(2, .int (i2_4 + 1)), (1, .int (i1_4 ||| 0)), (0, .ref (a0 0))]) hx hb dX5_falseOnes_34 hl (k := 2) rfl rfl (by decide) rfl (fun ls hl => ?_)
          refine lv_goto (tgt := 4) hx hb dX5_falseOnes_37 (by decide) ?_
          exact ih4 (i1_4 ||| 0) (i2_4 + 1) ls h (lv_sub hl [2, 1, 0] rfl)
        replace h := im c4 h
        refine lv_iconst (v := 1) hx hb dX5_falseOnes_21 (by decide) ?_
        refine lv_iload_n hx hb dX5_falseOnes_22 rfl (lv_at hl 2 rfl) ?_
        refine lv_iconst (v := 1) hx hb dX5_falseOnes_23 (by decide) ?_
        refine lv_isub hx hb dX5_falseOnes_24 ?_
        refine lv_iconst (v := 2) hx hb dX5_falseOnes_25 (by decide) ?_
        refine lv_idiv hx hb dX5_falseOnes_26 (by decide) ?_
        refine lv_ishl hx hb dX5_falseOnes_27 ?_
        refine lv_goto (tgt := 32) hx hb dX5_falseOnes_28 (by decide) ?_
        refine lv_ior hx hb dX5_falseOnes_32 ?_
        refine lv_istore_n (lv' := [(1, .int (i1_4 ||| (1 <<< (((i2_4 - 1) / 2) &&& 31)))), (0, .ref (a0 0)), (2, .int i2_4)]) hx hb dX5_falseOnes_33 rfl hl (by decide) rfl (fun ls hl => ?_)
        refine lv_iinc (v := i2_4 + 1) (lv' := [(2, .int (i2_4 + 1)), (1, .int (i1_4 ||| (1 <<< (((i2_4 - 1) / 2) &&& 31)))), (0, .ref (a0 0))]) hx hb dX5_falseOnes_34 hl (k := 2) rfl rfl (by decide) rfl (fun ls hl => ?_)
        refine lv_goto (tgt := 4) hx hb dX5_falseOnes_37 (by decide) ?_
        exact ih4 (i1_4 ||| (1 <<< (((i2_4 - 1) / 2) &&& 31))) (i2_4 + 1) ls h (lv_sub hl [2, 1, 0] rfl)
  exact K4 1000 0 1 ls h (lv_sub hl [2, 1, 0] rfl)
set_option maxHeartbeats 4000000 in
set_option maxRecDepth 100000 in
theorem c_X5_number (l : Launch) (D : va_G) (T : Nat → ClassId) (a0 : Nat → Nat) (x0 : St) (v1 : Int32) (r : Int32) (h : F_X5_number x0 v1 = some r) : Met l yX5_number wsX5_number ({ frames := 2, cells := 0, slots := 0, locals := 43 } : Room) (va_Pc [.ref (a0 0), .int v1] (PB D T (mdW T a0 (x0)))) (QRi r) 0 0 (fun _ => False) := by
  refine met_of (cc := cX5_number) (maxL := 2) (ret := (some .int)) (lv := [(0, .ref (a0 0)), (1, .int v1)]) (by decide) rfl (Nat.le_of_ble_eq_true rfl) rfl ?_
  intro p e s m args below meth c ls C0 hl hB
  obtain ⟨hx, hb, hr, hml, hown, hts, hlocks, hname⟩ := C0
  obtain ⟨hP, hK⟩ := hB
  unfold F_X5_number at h
  refine lv_iload_n hx hb dX5_number_0 rfl (lv_at hl 1 rfl) ?_
  by_cases c1 : v1 = 0
  · replace h := ip c1 h
    refine lv_tableIn (off := 47) (tgt := 48) hx hb dX5_number_1 (by rw [c1]; decide) (by rw [c1]; decide) (by rw [c1]; decide) (by decide) ?_
    refine lv_aload_n hx hb dX5_number_48 rfl (lv_at hl 0 rfl) ?_
    refine va_get (D := D) (ci := 5) (v := .ref (a0 1)) (C := RX5) (T := TX5) (N := 11) hx hb hts inX5_number_5 hown hK.1 hP 0 rfl rfl 0 (by decide) (hts (.fieldLink RX5 7 "LyingScaleModel" "s" "[I") (List.mem_of_getElem? (i := 1) rfl)) (fun _ h9 => h9) rfl dX5_number_49 ?_
    refine lv_iload_n hx hb dX5_number_52 rfl (lv_at hl 1 rfl) ?_
    replace h := gd h
    obtain ⟨g2, h⟩ := h
    refine va_iald hx hb hK.1 hP 1 0 rfl rfl g2 dX5_number_53 ?_
    exact W.iret hx hb hr (fun t ht hW => ⟨_, rfl, Option.some.inj h, ht⟩) (fun q hq => absurd hq List.not_mem_nil) dX5_number_54 hlocks
  replace h := im c1 h
  by_cases c3 : v1 = 1
  · replace h := ip c3 h
    refine lv_tableIn (off := 47) (tgt := 48) hx hb dX5_number_1 (by rw [c3]; decide) (by rw [c3]; decide) (by rw [c3]; decide) (by decide) ?_
    refine lv_aload_n hx hb dX5_number_48 rfl (lv_at hl 0 rfl) ?_
    refine va_get (D := D) (ci := 5) (v := .ref (a0 1)) (C := RX5) (T := TX5) (N := 11) hx hb hts inX5_number_5 hown hK.1 hP 0 rfl rfl 0 (by decide) (hts (.fieldLink RX5 7 "LyingScaleModel" "s" "[I") (List.mem_of_getElem? (i := 1) rfl)) (fun _ h9 => h9) rfl dX5_number_49 ?_
    refine lv_iload_n hx hb dX5_number_52 rfl (lv_at hl 1 rfl) ?_
    replace h := gd h
    obtain ⟨g4, h⟩ := h
    refine va_iald hx hb hK.1 hP 1 0 rfl rfl g4 dX5_number_53 ?_
    exact W.iret hx hb hr (fun t ht hW => ⟨_, rfl, Option.some.inj h, ht⟩) (fun q hq => absurd hq List.not_mem_nil) dX5_number_54 hlocks
  replace h := im c3 h
  by_cases c5 : v1 = 2
  · replace h := ip c5 h
    refine lv_tableIn (off := 47) (tgt := 48) hx hb dX5_number_1 (by rw [c5]; decide) (by rw [c5]; decide) (by rw [c5]; decide) (by decide) ?_
    refine lv_aload_n hx hb dX5_number_48 rfl (lv_at hl 0 rfl) ?_
    refine va_get (D := D) (ci := 5) (v := .ref (a0 1)) (C := RX5) (T := TX5) (N := 11) hx hb hts inX5_number_5 hown hK.1 hP 0 rfl rfl 0 (by decide) (hts (.fieldLink RX5 7 "LyingScaleModel" "s" "[I") (List.mem_of_getElem? (i := 1) rfl)) (fun _ h9 => h9) rfl dX5_number_49 ?_
    refine lv_iload_n hx hb dX5_number_52 rfl (lv_at hl 1 rfl) ?_
    replace h := gd h
    obtain ⟨g6, h⟩ := h
    refine va_iald hx hb hK.1 hP 1 0 rfl rfl g6 dX5_number_53 ?_
    exact W.iret hx hb hr (fun t ht hW => ⟨_, rfl, Option.some.inj h, ht⟩) (fun q hq => absurd hq List.not_mem_nil) dX5_number_54 hlocks
  replace h := im c5 h
  by_cases c7 : v1 = 3
  · replace h := ip c7 h
    refine lv_tableIn (off := 54) (tgt := 55) hx hb dX5_number_1 (by rw [c7]; decide) (by rw [c7]; decide) (by rw [c7]; decide) (by decide) ?_
    refine lv_aload_n hx hb dX5_number_55 rfl (lv_at hl 0 rfl) ?_
    replace h := bd h
    obtain ⟨t8, et8, h⟩ := h
    refine callRi (v := t8) (va_runV (As := []) (rest := []) ⟨hx, hb, hml, hown, hts⟩ (c_X5_lefts l D T a0 x0 t8 et8) (cwV 0 hts gX5_number_X5_lefts rfl rfl rfl hdV_X5_lefts ⟨Nat.le_of_ble_eq_true rfl, Nat.le_of_ble_eq_true rfl⟩) ⟨PB_blind, va_recv hK.1 hP (ci := 5) (q0 := 0) rfl rfl, PB_at hP hK⟩ rfl rfl hl.1 rfl (lv_room (Nat.le_of_ble_eq_true rfl)) dX5_number_56 ⟨Nat.zero_le _, Nat.zero_le _⟩) ?_
    exact W.iret hx hb hr (fun t ht hW => ⟨_, rfl, Option.some.inj h, ht⟩) (fun q hq => absurd hq List.not_mem_nil) dX5_number_59 hlocks
  replace h := im c7 h
  by_cases c9 : v1 = 4
  · replace h := ip c9 h
    refine lv_tableIn (off := 59) (tgt := 60) hx hb dX5_number_1 (by rw [c9]; decide) (by rw [c9]; decide) (by rw [c9]; decide) (by decide) ?_
    refine lv_aload_n hx hb dX5_number_60 rfl (lv_at hl 0 rfl) ?_
    refine va_get (D := D) (ci := 5) (v := .ref (a0 1)) (C := RX5) (T := TX5) (N := 11) hx hb hts inX5_number_5 hown hK.1 hP 0 rfl rfl 0 (by decide) (hts (.fieldLink RX5 7 "LyingScaleModel" "s" "[I") (List.mem_of_getElem? (i := 1) rfl)) (fun _ h9 => h9) rfl dX5_number_61 ?_
    refine lv_iconst (v := 3) hx hb dX5_number_64 (by decide) ?_
    refine va_iald hx hb hK.1 hP 1 0 rfl rfl (show ¬ ((3 : Int32) < 0 ∨ 176 ≤ Int32.toNatClampNeg 3) from by decide) dX5_number_65 ?_
    refine eqi (congrArg (x0.2 0) (show Int32.toNatClampNeg 3 = 3 from by decide)) ?_
    exact W.iret hx hb hr (fun t ht hW => ⟨_, rfl, Option.some.inj h, ht⟩) (fun q hq => absurd hq List.not_mem_nil) dX5_number_66 hlocks
  replace h := im c9 h
  by_cases c10 : v1 = 5
  · replace h := ip c10 h
    refine lv_tableIn (off := 66) (tgt := 67) hx hb dX5_number_1 (by rw [c10]; decide) (by rw [c10]; decide) (by rw [c10]; decide) (by decide) ?_
    refine lv_aload_n hx hb dX5_number_67 rfl (lv_at hl 0 rfl) ?_
    refine va_get (D := D) (ci := 5) (v := .ref (a0 1)) (C := RX5) (T := TX5) (N := 11) hx hb hts inX5_number_5 hown hK.1 hP 0 rfl rfl 0 (by decide) (hts (.fieldLink RX5 7 "LyingScaleModel" "s" "[I") (List.mem_of_getElem? (i := 1) rfl)) (fun _ h9 => h9) rfl dX5_number_68 ?_
    refine lv_iconst (v := 4) hx hb dX5_number_71 (by decide) ?_
    refine va_iald hx hb hK.1 hP 1 0 rfl rfl (show ¬ ((4 : Int32) < 0 ∨ 176 ≤ Int32.toNatClampNeg 4) from by decide) dX5_number_72 ?_
    refine eqi (congrArg (x0.2 0) (show Int32.toNatClampNeg 4 = 4 from by decide)) ?_
    exact W.iret hx hb hr (fun t ht hW => ⟨_, rfl, Option.some.inj h, ht⟩) (fun q hq => absurd hq List.not_mem_nil) dX5_number_73 hlocks
  replace h := im c10 h
  by_cases c11 : v1 = 6
  · replace h := ip c11 h
    refine lv_tableIn (off := 73) (tgt := 74) hx hb dX5_number_1 (by rw [c11]; decide) (by rw [c11]; decide) (by rw [c11]; decide) (by decide) ?_
    refine lv_aload_n hx hb dX5_number_74 rfl (lv_at hl 0 rfl) ?_
    refine va_get (D := D) (ci := 5) (v := .ref (a0 1)) (C := RX5) (T := TX5) (N := 11) hx hb hts inX5_number_5 hown hK.1 hP 0 rfl rfl 0 (by decide) (hts (.fieldLink RX5 7 "LyingScaleModel" "s" "[I") (List.mem_of_getElem? (i := 1) rfl)) (fun _ h9 => h9) rfl dX5_number_75 ?_
    refine lv_iconst (v := 5) hx hb dX5_number_78 (by decide) ?_
    refine va_iald hx hb hK.1 hP 1 0 rfl rfl (show ¬ ((5 : Int32) < 0 ∨ 176 ≤ Int32.toNatClampNeg 5) from by decide) dX5_number_79 ?_
    refine eqi (congrArg (x0.2 0) (show Int32.toNatClampNeg 5 = 5 from by decide)) ?_
    exact W.iret hx hb hr (fun t ht hW => ⟨_, rfl, Option.some.inj h, ht⟩) (fun q hq => absurd hq List.not_mem_nil) dX5_number_80 hlocks
  replace h := im c11 h
  by_cases c12 : v1 = 7
  · replace h := ip c12 h
    refine lv_tableIn (off := 80) (tgt := 81) hx hb dX5_number_1 (by rw [c12]; decide) (by rw [c12]; decide) (by rw [c12]; decide) (by decide) ?_
    refine lv_aload_n hx hb dX5_number_81 rfl (lv_at hl 0 rfl) ?_
    replace h := bd h
    obtain ⟨t13, et13, h⟩ := h
    refine callRi (v := t13) (va_runV (As := []) (rest := []) ⟨hx, hb, hml, hown, hts⟩ (c_X5_falseOnes l D T a0 x0 t13 et13) (cwV 0 hts gX5_number_X5_falseOnes rfl rfl rfl hdV_X5_falseOnes ⟨Nat.le_of_ble_eq_true rfl, Nat.le_of_ble_eq_true rfl⟩) ⟨PB_blind, va_recv hK.1 hP (ci := 5) (q0 := 0) rfl rfl, PB_at hP hK⟩ rfl rfl hl.1 rfl (lv_room (Nat.le_of_ble_eq_true rfl)) dX5_number_82 ⟨Nat.zero_le _, Nat.zero_le _⟩) ?_
    exact W.iret hx hb hr (fun t ht hW => ⟨_, rfl, Option.some.inj h, ht⟩) (fun q hq => absurd hq List.not_mem_nil) dX5_number_85 hlocks
  replace h := im c12 h
  have qc1 := lv_neT c1 (a := 0) (by decide)
  have qc3 := lv_neT c3 (a := 1) (by decide)
  have qc5 := lv_neT c5 (a := 2) (by decide)
  have qc7 := lv_neT c7 (a := 3) (by decide)
  have qc9 := lv_neT c9 (a := 4) (by decide)
  have qc10 := lv_neT c10 (a := 5) (by decide)
  have qc11 := lv_neT c11 (a := 6) (by decide)
  have qc12 := lv_neT c12 (a := 7) (by decide)
  refine lv_tableOut (tgt := 86) hx hb dX5_number_1 (by omega) (by decide) ?_
  refine lv_aload_n hx hb dX5_number_86 rfl (lv_at hl 0 rfl) ?_
  refine lv_iconst (v := 0) hx hb dX5_number_87 (by decide) ?_
  replace h := bd h
  obtain ⟨t14, et14, h⟩ := h
  refine callRi (v := t14) (va_runV (As := [.int 0]) (rest := []) ⟨hx, hb, hml, hown, hts⟩ (c_X5_isLeft l D T a0 x0 0 t14 et14) (cwV 1 hts gX5_number_X5_isLeft rfl rfl rfl hdV_X5_isLeft ⟨Nat.le_of_ble_eq_true rfl, Nat.le_of_ble_eq_true rfl⟩) ⟨PB_blind, va_recv hK.1 hP (ci := 5) (q0 := 0) rfl rfl, PB_at hP hK⟩ rfl rfl hl.1 rfl (lv_room (Nat.le_of_ble_eq_true rfl)) dX5_number_88 ⟨Nat.zero_le _, Nat.zero_le _⟩) ?_
  refine lv_if_eq (tgt := 98) hx hb dX5_number_91 (by decide) (fun c15 => ?_) (fun c15 => ?_)
  · replace h := ip c15 h
    refine lv_iconst (v := 0) hx hb dX5_number_98 (by decide) ?_
    exact W.iret hx hb hr (fun t ht hW => ⟨_, rfl, Option.some.inj h, ht⟩) (fun q hq => absurd hq List.not_mem_nil) dX5_number_99 hlocks
  replace h := im c15 h
  refine lv_iconst (v := 1) hx hb dX5_number_94 (by decide) ?_
  refine lv_goto (tgt := 99) hx hb dX5_number_95 (by decide) ?_
  exact W.iret hx hb hr (fun t ht hW => ⟨_, rfl, Option.some.inj h, ht⟩) (fun q hq => absurd hq List.not_mem_nil) dX5_number_99 hlocks
set_option maxHeartbeats 4000000 in
set_option maxRecDepth 100000 in
theorem c_X5_value (l : Launch) (D : va_G) (T : Nat → ClassId) (a0 : Nat → Nat) (x0 : St) (v1 : Int32) (sz : Nat) (r : Int32 × St) (h : F_X5_value x0 v1 = some r) : Met l yX5_value wsX5_value ({ frames := 3, cells := 0, slots := 0, locals := 64 } : Room) (va_Pc [.ref (a0 0), .int v1] (PM D T (mdW T a0 (x0)) sz)) (QMi D (mdW T a0 (r.2)) r.1 (va_A (mdW T a0 (x0)) sz)) 0 0 (va_A (mdW T a0 (x0)) sz) := by
  refine met_of (cc := cX5_value) (maxL := 2) (ret := (some .int)) (lv := [(0, .ref (a0 0)), (1, .int v1)]) (by decide) rfl (Nat.le_of_ble_eq_true rfl) rfl ?_
  intro p e s m args below meth c ls C0 hl hB
  obtain ⟨hx, hb, hr, hml, hown, hts, hlocks, hname⟩ := C0
  obtain ⟨hsz, hP, hK, hD0⟩ := hB
  subst hsz
  have hD := hD0.self (sz := s.heap.size)
  generalize hAe : va_A (mdW T a0 (x0)) s.heap.size = A at hD ⊢
  have hA : ∀ q : Nat, s.heap.size ≤ q → A q := fun q h => by rw [← hAe]; exact Or.inr h
  obtain ⟨H, hH⟩ : ∃ H, H = s.heap := ⟨_, rfl⟩
  obtain ⟨locs, hlo⟩ : ∃ L : List Loc, L = [] := ⟨_, rfl⟩
  have hS : va_S A s.heap s.heap [] := va_S.rf
  rw [← hH] at hP ⊢
  rw [← hlo]
  replace hS : va_S A s.heap H locs := by rw [hH, hlo]; exact hS
  clear hH hlo
  unfold F_X5_value at h
  refine lv_iload_n hx hb dX5_value_0 rfl (lv_at hl 1 rfl) ?_
  refine lv_iconst (v := 0) hx hb dX5_value_1 (by decide) ?_
  refine lv_bipush (v := 8) hx hb dX5_value_2 (by decide) ?_
  replace h := bd h
  obtain ⟨t1, et1, h⟩ := h
  refine callRi (v := t1) (va_runS (As := [.int v1, .int 0, .int 8]) (rest := []) ⟨hx, hb, hml, hown, hts⟩ (c_X5_in l D T v1 0 8 t1 et1) (va_cwS 3 hts gX5_value_X5_in rfl rfl rfl hdS_X5_in ⟨Nat.le_of_ble_eq_true rfl, Nat.le_of_ble_eq_true rfl⟩) ⟨PB_blind, PB_at (hP.sub (ws' := ([] : va_W)) [] rfl) hK⟩ rfl rfl hl.1 rfl (lv_room (Nat.le_of_ble_eq_true rfl)) dX5_value_4 ⟨Nat.zero_le _, Nat.zero_le _⟩) ?_
  refine lv_if_eq (tgt := 22) hx hb dX5_value_7 (by decide) (fun c2 => ?_) (fun c2 => ?_)
  · replace h := ip c2 h
    refine lv_aload_n hx hb dX5_value_22 rfl (lv_at hl 0 rfl) ?_
    refine lv_iconst (v := 1) hx hb dX5_value_23 (by decide) ?_
    replace h := bd h
    obtain ⟨t3, et3, h⟩ := h
    refine callMi (wr := []) (ws' := mdW T a0 (t3.2)) (va_runV (As := [.int 1]) (rest := []) ⟨hx, hb, hml, hown, hts⟩ (c_X5_fails l D T a0 x0 1 _ t3 et3) (cwV 1 hts gX5_value_X5_fails rfl rfl rfl hdV_X5_fails ⟨Nat.le_of_ble_eq_true rfl, Nat.le_of_ble_eq_true rfl⟩) ⟨PM_blind, va_recv hK.1 hP (ci := 5) (q0 := 0) rfl rfl, PM_at hP hD hK⟩ rfl rfl hl.1 rfl (lv_room (Nat.le_of_ble_eq_true rfl)) dX5_value_24 ⟨Nat.zero_le _, Nat.zero_le _⟩) hS hA hP hD [0, 1, 2, 3, 4] [] rfl rfl (by decide) (by decide) [0, 1, 2, 3, 4] (by decide) rfl (fun H locs hP hD hS => ?_)
    obtain rfl := Option.some.inj h
    exact W.iret hx hb hr (fun t ht hW => ⟨⟨_, (), rfl, rfl, by rw [ht]; exact hP, hD⟩, hS.F ht⟩) hS.2.2 dX5_value_27 hlocks
  replace h := im c2 h
  refine lv_aload_n hx hb dX5_value_10 rfl (lv_at hl 0 rfl) ?_
  refine lv_aload_n hx hb dX5_value_11 rfl (lv_at hl 0 rfl) ?_
  refine lv_iload_n hx hb dX5_value_12 rfl (lv_at hl 1 rfl) ?_
  replace h := bd h
  obtain ⟨t4, et4, h⟩ := h
  refine callRi (v := t4) (va_runV (As := [.int v1]) (rest := [.ref (a0 0)]) ⟨hx, hb, hml, hown, hts⟩ (c_X5_number l D T a0 x0 v1 t4 et4) (cwV 1 hts gX5_value_X5_number rfl rfl rfl hdV_X5_number ⟨Nat.le_of_ble_eq_true rfl, Nat.le_of_ble_eq_true rfl⟩) ⟨PB_blind, va_recv hK.1 hP (ci := 5) (q0 := 0) rfl rfl, PB_at hP hK⟩ rfl rfl hl.1 rfl (lv_room (Nat.le_of_ble_eq_true rfl)) dX5_value_13 ⟨Nat.zero_le _, Nat.zero_le _⟩) ?_
  replace h := bd h
  obtain ⟨t5, et5, h⟩ := h
  refine callMi (wr := []) (ws' := mdW T a0 (t5.2)) (va_runV (As := [.int t4]) (rest := []) ⟨hx, hb, hml, hown, hts⟩ (c_X5_tells l D T a0 x0 t4 _ t5 et5) (cwV 1 hts gX5_value_X5_tells rfl rfl rfl hdV_X5_tells ⟨Nat.le_of_ble_eq_true rfl, Nat.le_of_ble_eq_true rfl⟩) ⟨PM_blind, va_recv hK.1 hP (ci := 5) (q0 := 0) rfl rfl, PM_at hP hD hK⟩ rfl rfl hl.1 rfl (lv_room (Nat.le_of_ble_eq_true rfl)) dX5_value_16 ⟨Nat.zero_le _, Nat.zero_le _⟩) hS hA hP hD [0, 1, 2, 3, 4] [] rfl rfl (by decide) (by decide) [0, 1, 2, 3, 4] (by decide) rfl (fun H locs hP hD hS => ?_)
  refine lv_goto (tgt := 27) hx hb dX5_value_19 (by decide) ?_
  obtain rfl := Option.some.inj h
  exact W.iret hx hb hr (fun t ht hW => ⟨⟨_, (), rfl, rfl, by rw [ht]; exact hP, hD⟩, hS.F ht⟩) hS.2.2 dX5_value_27 hlocks
set_option maxHeartbeats 4000000 in
set_option maxRecDepth 100000 in
theorem c_X5_weighs (l : Launch) (D : va_G) (T : Nat → ClassId) (a0 : Nat → Nat) (x0 : St) (v1 : Int32) (v2 : Int32) (v3 : Int32) (v4 : Int32) (r : Int64) (h : F_X5_weighs x0 v1 v2 v3 v4 = some r) : Met l yX5_weighs wsX5_weighs ({ frames := 1, cells := 0, slots := 0, locals := 24 } : Room) (va_Pc [.ref (a0 0), .int v1, .int v2, .int v3, .int v4] (PB D T (mdW T a0 (x0)))) (QRl r) 0 0 (fun _ => False) := by
  refine met_of (cc := cX5_weighs) (maxL := 9) (ret := (some .long)) (lv := [(0, .ref (a0 0)), (1, .int v1), (2, .int v2), (3, .int v3), (4, .int v4)]) (by decide) rfl (Nat.le_of_ble_eq_true rfl) rfl ?_
  intro p e s m args below meth c ls C0 hl hB
  obtain ⟨hx, hb, hr, hml, hown, hts, hlocks, hname⟩ := C0
  obtain ⟨hP, hK⟩ := hB
  unfold F_X5_weighs at h
  refine lv_lconst (v := 0) hx hb dX5_weighs_0 (by decide) ?_
  refine lv_lstore (lv' := [(5, .long 0), (0, .ref (a0 0)), (1, .int v1), (2, .int v2), (3, .int v3), (4, .int v4)]) hx hb dX5_weighs_1 hl (by decide) rfl (fun ls hl => ?_)
  refine lv_iconst (v := 0) hx hb dX5_weighs_3 (by decide) ?_
  refine lv_istore (lv' := [(7, .int 0), (5, .long 0), (0, .ref (a0 0)), (1, .int v1), (2, .int v2), (3, .int v3), (4, .int v4)]) hx hb dX5_weighs_4 hl (by decide) rfl (fun ls hl => ?_)
  have K6 : ∀ (n6 : Nat) (i5_6 : Int64) (i7_6 : Int32) (ls : Array Slot), fx2 (B_X5_weighs_6 x0 v1 v2 v3 v4) n6 i5_6 i7_6 = some r → lv_has ls 9 [(0, .ref (a0 0)), (1, .int v1), (2, .int v2), (3, .int v3), (4, .int v4), (5, .long i5_6), (7, .int i7_6)] → W p l e ({ frames := 1, cells := 0, slots := 0, locals := 24 } : Room) s m args below meth c s.heap [] 0 0 (MQ below (QRl r) args s 0 0 (fun _ => False)) (F0 m 6 ls []) := by
    intro n6
    induction n6 with
    | zero =>
        intro i5_6 i7_6 ls h
        cases h
    | succ n6 ih6 =>
        intro i5_6 i7_6 ls h hl
        replace h : B_X5_weighs_6 x0 v1 v2 v3 v4 (fx2 (B_X5_weighs_6 x0 v1 v2 v3 v4) n6) i5_6 i7_6 = some r := h
        unfold B_X5_weighs_6 at h
        refine lv_iload hx hb dX5_weighs_6 (lv_at hl 6 rfl) ?_
        refine lv_aload_n hx hb dX5_weighs_8 rfl (lv_at hl 0 rfl) ?_
        replace h := bd h
        obtain ⟨t1, et1, h⟩ := h
        refine callRi (v := t1) (va_runV (As := []) (rest := [.int i7_6]) ⟨hx, hb, hml, hown, hts⟩ (c_X5_cases l D T a0 x0 t1 et1) (cwV 0 hts gX5_weighs_X5_cases rfl rfl rfl hdV_X5_cases ⟨Nat.le_of_ble_eq_true rfl, Nat.le_of_ble_eq_true rfl⟩) ⟨PB_blind, va_recv hK.1 hP (ci := 5) (q0 := 0) rfl rfl, PB_at hP hK⟩ rfl rfl hl.1 rfl (lv_room (Nat.le_of_ble_eq_true rfl)) dX5_weighs_9 ⟨Nat.zero_le _, Nat.zero_le _⟩) ?_
        refine lv_icmp_ge (tgt := 89) hx hb dX5_weighs_12 (by decide) (fun c2 => ?_) (fun c2 => ?_)
        · replace h := ip c2 h
          refine lv_lload hx hb dX5_weighs_89 (lv_at hl 5 rfl) ?_
          exact W.lret hx hb hr (fun t ht hW => ⟨_, rfl, Option.some.inj h, ht⟩) (fun q hq => absurd hq List.not_mem_nil) dX5_weighs_91 hlocks
        replace h := im c2 h
        refine lv_aload_n hx hb dX5_weighs_15 rfl (lv_at hl 0 rfl) ?_
        refine va_get (D := D) (ci := 5) (v := .ref (a0 1)) (C := RX5) (T := TX5) (N := 11) hx hb hts inX5_weighs_5 hown hK.1 hP 0 rfl rfl 0 (by decide) (hts (.fieldLink RX5 7 "LyingScaleModel" "s" "[I") (List.mem_of_getElem? (i := 1) rfl)) (fun _ h9 => h9) rfl dX5_weighs_16 ?_
        refine lv_sipush (v := 143) hx hb dX5_weighs_19 (by decide) ?_
        refine lv_iload hx hb dX5_weighs_22 (lv_at hl 6 rfl) ?_
        refine lv_iadd hx hb dX5_weighs_24 ?_
        replace h := gd h
        obtain ⟨g3, h⟩ := h
        refine va_iald hx hb hK.1 hP 1 0 rfl rfl g3 dX5_weighs_25 ?_
        refine lv_iload_n hx hb dX5_weighs_26 rfl (lv_at hl 1 rfl) ?_
        refine lv_if_le (tgt := 45) hx hb dX5_weighs_27 (by decide) (fun c4 => ?_) (fun c4 => ?_)
        · replace h := ip c4 h
          refine lv_iconst (v := 0) hx hb dX5_weighs_45 (by decide) ?_
          refine lv_iadd hx hb dX5_weighs_46 ?_
          refine lv_istore (lv' := [(8, .int (((x0.2 0) (143 + i7_6).toNatClampNeg) + 0)), (0, .ref (a0 0)), (1, .int v1), (2, .int v2), (3, .int v3), (4, .int v4), (5, .long i5_6), (7, .int i7_6)]) hx hb dX5_weighs_47 hl (by decide) rfl (fun ls hl => ?_)
          refine lv_lload hx hb dX5_weighs_49 (lv_at hl 6 rfl) ?_
          refine lv_iload hx hb dX5_weighs_51 (lv_at hl 0 rfl) ?_
          refine lv_aload_n hx hb dX5_weighs_53 rfl (lv_at hl 1 rfl) ?_
          refine va_get (D := D) (ci := 5) (v := .ref (a0 1)) (C := RX5) (T := TX5) (N := 11) hx hb hts inX5_weighs_5 hown hK.1 hP 0 rfl rfl 0 (by decide) (hts (.fieldLink RX5 7 "LyingScaleModel" "s" "[I") (List.mem_of_getElem? (i := 1) rfl)) (fun _ h9 => h9) rfl dX5_weighs_54 ?_
          refine lv_iconst (v := 1) hx hb dX5_weighs_57 (by decide) ?_
          refine va_iald hx hb hK.1 hP 1 0 rfl rfl (show ¬ ((1 : Int32) < 0 ∨ 176 ≤ Int32.toNatClampNeg 1) from by decide) dX5_weighs_58 ?_
          refine eqi (congrArg (x0.2 0) (show Int32.toNatClampNeg 1 = 1 from by decide)) ?_
          refine lv_icmp_gt (tgt := 79) hx hb dX5_weighs_59 (by decide) (fun c5 => ?_) (fun c5 => ?_)
          · replace h := ip c5 h
            refine lv_lconst (v := 0) hx hb dX5_weighs_79 (by decide) ?_
            refine lv_ladd hx hb dX5_weighs_80 ?_
            refine lv_lstore (lv' := [(5, .long (i5_6 + 0)), (8, .int (((x0.2 0) (143 + i7_6).toNatClampNeg) + 0)), (0, .ref (a0 0)), (1, .int v1), (2, .int v2), (3, .int v3), (4, .int v4), (7, .int i7_6)]) hx hb dX5_weighs_81 hl (by decide) rfl (fun ls hl => ?_)
            refine lv_iinc (v := i7_6 + 1) (lv' := [(7, .int (i7_6 + 1)), (5, .long (i5_6 + 0)), (8, .int (((x0.2 0) (143 + i7_6).toNatClampNeg) + 0)), (0, .ref (a0 0)), (1, .int v1), (2, .int v2), (3, .int v3), (4, .int v4)]) hx hb dX5_weighs_83 hl (k := 7) rfl rfl (by decide) rfl (fun ls hl => ?_)
            refine lv_goto (tgt := 6) hx hb dX5_weighs_86 (by decide) ?_
            exact ih6 (i5_6 + 0) (i7_6 + 1) ls h (lv_sub hl [3, 4, 5, 6, 7, 1, 0] rfl)
          replace h := im c5 h
          refine lv_iload hx hb dX5_weighs_62 (lv_at hl 5 rfl) ?_
          refine lv_aload_n hx hb dX5_weighs_64 rfl (lv_at hl 1 rfl) ?_
          refine va_get (D := D) (ci := 5) (v := .ref (a0 1)) (C := RX5) (T := TX5) (N := 11) hx hb hts inX5_weighs_5 hown hK.1 hP 0 rfl rfl 0 (by decide) (hts (.fieldLink RX5 7 "LyingScaleModel" "s" "[I") (List.mem_of_getElem? (i := 1) rfl)) (fun _ h9 => h9) rfl dX5_weighs_65 ?_
          refine lv_iconst (v := 1) hx hb dX5_weighs_68 (by decide) ?_
          refine va_iald hx hb hK.1 hP 1 0 rfl rfl (show ¬ ((1 : Int32) < 0 ∨ 176 ≤ Int32.toNatClampNeg 1) from by decide) dX5_weighs_69 ?_
          refine eqi (congrArg (x0.2 0) (show Int32.toNatClampNeg 1 = 1 from by decide)) ?_
          refine lv_iload hx hb dX5_weighs_70 (lv_at hl 0 rfl) ?_
          refine lv_isub hx hb dX5_weighs_72 ?_
          replace h := bd h
          obtain ⟨t6, et6, h⟩ := h
          refine callRl (v := t6) (va_runS (As := [.int v4, .int (((x0.2 0) 1) - (((x0.2 0) (143 + i7_6).toNatClampNeg) + 0))]) (rest := [.long i5_6]) ⟨hx, hb, hml, hown, hts⟩ (c_X5_volume l D T v4 (((x0.2 0) 1) - (((x0.2 0) (143 + i7_6).toNatClampNeg) + 0)) t6 et6) (va_cwS 2 hts gX5_weighs_X5_volume rfl rfl rfl hdS_X5_volume ⟨Nat.le_of_ble_eq_true rfl, Nat.le_of_ble_eq_true rfl⟩) ⟨PB_blind, PB_at (hP.sub (ws' := ([] : va_W)) [] rfl) hK⟩ rfl rfl hl.1 rfl (lv_room (Nat.le_of_ble_eq_true rfl)) dX5_weighs_73 ⟨Nat.zero_le _, Nat.zero_le _⟩) ?_
          refine lv_goto (tgt := 80) hx hb dX5_weighs_76 (by decide) ?_
          refine lv_ladd hx hb dX5_weighs_80 ?_
          refine lv_lstore (lv' := [(5, .long (i5_6 + t6)), (8, .int (((x0.2 0) (143 + i7_6).toNatClampNeg) + 0)), (0, .ref (a0 0)), (1, .int v1), (2, .int v2), (3, .int v3), (4, .int v4), (7, .int i7_6)]) hx hb dX5_weighs_81 hl (by decide) rfl (fun ls hl => ?_)
          refine lv_iinc (v := i7_6 + 1) (lv' := [(7, .int (i7_6 + 1)), (5, .long (i5_6 + t6)), (8, .int (((x0.2 0) (143 + i7_6).toNatClampNeg) + 0)), (0, .ref (a0 0)), (1, .int v1), (2, .int v2), (3, .int v3), (4, .int v4)]) hx hb dX5_weighs_83 hl (k := 7) rfl rfl (by decide) rfl (fun ls hl => ?_)
          refine lv_goto (tgt := 6) hx hb dX5_weighs_86 (by decide) ?_
          exact ih6 (i5_6 + t6) (i7_6 + 1) ls h (lv_sub hl [3, 4, 5, 6, 7, 1, 0] rfl)
        replace h := im c4 h
        refine lv_iload hx hb dX5_weighs_30 (lv_at hl 6 rfl) ?_
        refine lv_iload_n hx hb dX5_weighs_32 rfl (lv_at hl 1 rfl) ?_
        refine lv_iload_n hx hb dX5_weighs_33 rfl (lv_at hl 2 rfl) ?_
        replace h := bd h
        obtain ⟨t7, et7, h⟩ := h
        refine callRi (v := t7) (va_runS (As := [.int i7_6, .int v1, .int v2]) (rest := [.int ((x0.2 0) (143 + i7_6).toNatClampNeg)]) ⟨hx, hb, hml, hown, hts⟩ (c_X5_truth l D T i7_6 v1 v2 t7 et7) (va_cwS 3 hts gX5_weighs_X5_truth rfl rfl rfl hdS_X5_truth ⟨Nat.le_of_ble_eq_true rfl, Nat.le_of_ble_eq_true rfl⟩) ⟨PB_blind, PB_at (hP.sub (ws' := ([] : va_W)) [] rfl) hK⟩ rfl rfl hl.1 rfl (lv_room (Nat.le_of_ble_eq_true rfl)) dX5_weighs_34 ⟨Nat.zero_le _, Nat.zero_le _⟩) ?_
        refine lv_iload_n hx hb dX5_weighs_37 rfl (lv_at hl 3 rfl) ?_
        refine lv_icmp_eq (tgt := 45) hx hb dX5_weighs_38 (by decide) (fun c8 => ?_) (fun c8 => ?_)
        · replace h := ip c8 h
          refine lv_iconst (v := 0) hx hb dX5_weighs_45 (by decide) ?_
          refine lv_iadd hx hb dX5_weighs_46 ?_
          refine lv_istore (lv' := [(8, .int (((x0.2 0) (143 + i7_6).toNatClampNeg) + 0)), (0, .ref (a0 0)), (1, .int v1), (2, .int v2), (3, .int v3), (4, .int v4), (5, .long i5_6), (7, .int i7_6)]) hx hb dX5_weighs_47 hl (by decide) rfl (fun ls hl => ?_)
          refine lv_lload hx hb dX5_weighs_49 (lv_at hl 6 rfl) ?_
          refine lv_iload hx hb dX5_weighs_51 (lv_at hl 0 rfl) ?_
          refine lv_aload_n hx hb dX5_weighs_53 rfl (lv_at hl 1 rfl) ?_
          refine va_get (D := D) (ci := 5) (v := .ref (a0 1)) (C := RX5) (T := TX5) (N := 11) hx hb hts inX5_weighs_5 hown hK.1 hP 0 rfl rfl 0 (by decide) (hts (.fieldLink RX5 7 "LyingScaleModel" "s" "[I") (List.mem_of_getElem? (i := 1) rfl)) (fun _ h9 => h9) rfl dX5_weighs_54 ?_
          refine lv_iconst (v := 1) hx hb dX5_weighs_57 (by decide) ?_
          refine va_iald hx hb hK.1 hP 1 0 rfl rfl (show ¬ ((1 : Int32) < 0 ∨ 176 ≤ Int32.toNatClampNeg 1) from by decide) dX5_weighs_58 ?_
          refine eqi (congrArg (x0.2 0) (show Int32.toNatClampNeg 1 = 1 from by decide)) ?_
          refine lv_icmp_gt (tgt := 79) hx hb dX5_weighs_59 (by decide) (fun c9 => ?_) (fun c9 => ?_)
          · replace h := ip c9 h
            refine lv_lconst (v := 0) hx hb dX5_weighs_79 (by decide) ?_
            refine lv_ladd hx hb dX5_weighs_80 ?_
            refine lv_lstore (lv' := [(5, .long (i5_6 + 0)), (8, .int (((x0.2 0) (143 + i7_6).toNatClampNeg) + 0)), (0, .ref (a0 0)), (1, .int v1), (2, .int v2), (3, .int v3), (4, .int v4), (7, .int i7_6)]) hx hb dX5_weighs_81 hl (by decide) rfl (fun ls hl => ?_)
            refine lv_iinc (v := i7_6 + 1) (lv' := [(7, .int (i7_6 + 1)), (5, .long (i5_6 + 0)), (8, .int (((x0.2 0) (143 + i7_6).toNatClampNeg) + 0)), (0, .ref (a0 0)), (1, .int v1), (2, .int v2), (3, .int v3), (4, .int v4)]) hx hb dX5_weighs_83 hl (k := 7) rfl rfl (by decide) rfl (fun ls hl => ?_)
            refine lv_goto (tgt := 6) hx hb dX5_weighs_86 (by decide) ?_
            exact ih6 (i5_6 + 0) (i7_6 + 1) ls h (lv_sub hl [3, 4, 5, 6, 7, 1, 0] rfl)
          replace h := im c9 h
          refine lv_iload hx hb dX5_weighs_62 (lv_at hl 5 rfl) ?_
          refine lv_aload_n hx hb dX5_weighs_64 rfl (lv_at hl 1 rfl) ?_
          refine va_get (D := D) (ci := 5) (v := .ref (a0 1)) (C := RX5) (T := TX5) (N := 11) hx hb hts inX5_weighs_5 hown hK.1 hP 0 rfl rfl 0 (by decide) (hts (.fieldLink RX5 7 "LyingScaleModel" "s" "[I") (List.mem_of_getElem? (i := 1) rfl)) (fun _ h9 => h9) rfl dX5_weighs_65 ?_
          refine lv_iconst (v := 1) hx hb dX5_weighs_68 (by decide) ?_
          refine va_iald hx hb hK.1 hP 1 0 rfl rfl (show ¬ ((1 : Int32) < 0 ∨ 176 ≤ Int32.toNatClampNeg 1) from by decide) dX5_weighs_69 ?_
          refine eqi (congrArg (x0.2 0) (show Int32.toNatClampNeg 1 = 1 from by decide)) ?_
          refine lv_iload hx hb dX5_weighs_70 (lv_at hl 0 rfl) ?_
          refine lv_isub hx hb dX5_weighs_72 ?_
          replace h := bd h
          obtain ⟨t10, et10, h⟩ := h
          refine callRl (v := t10) (va_runS (As := [.int v4, .int (((x0.2 0) 1) - (((x0.2 0) (143 + i7_6).toNatClampNeg) + 0))]) (rest := [.long i5_6]) ⟨hx, hb, hml, hown, hts⟩ (c_X5_volume l D T v4 (((x0.2 0) 1) - (((x0.2 0) (143 + i7_6).toNatClampNeg) + 0)) t10 et10) (va_cwS 2 hts gX5_weighs_X5_volume rfl rfl rfl hdS_X5_volume ⟨Nat.le_of_ble_eq_true rfl, Nat.le_of_ble_eq_true rfl⟩) ⟨PB_blind, PB_at (hP.sub (ws' := ([] : va_W)) [] rfl) hK⟩ rfl rfl hl.1 rfl (lv_room (Nat.le_of_ble_eq_true rfl)) dX5_weighs_73 ⟨Nat.zero_le _, Nat.zero_le _⟩) ?_
          refine lv_goto (tgt := 80) hx hb dX5_weighs_76 (by decide) ?_
          refine lv_ladd hx hb dX5_weighs_80 ?_
          refine lv_lstore (lv' := [(5, .long (i5_6 + t10)), (8, .int (((x0.2 0) (143 + i7_6).toNatClampNeg) + 0)), (0, .ref (a0 0)), (1, .int v1), (2, .int v2), (3, .int v3), (4, .int v4), (7, .int i7_6)]) hx hb dX5_weighs_81 hl (by decide) rfl (fun ls hl => ?_)
          refine lv_iinc (v := i7_6 + 1) (lv' := [(7, .int (i7_6 + 1)), (5, .long (i5_6 + t10)), (8, .int (((x0.2 0) (143 + i7_6).toNatClampNeg) + 0)), (0, .ref (a0 0)), (1, .int v1), (2, .int v2), (3, .int v3), (4, .int v4)]) hx hb dX5_weighs_83 hl (k := 7) rfl rfl (by decide) rfl (fun ls hl => ?_)
          refine lv_goto (tgt := 6) hx hb dX5_weighs_86 (by decide) ?_
          exact ih6 (i5_6 + t10) (i7_6 + 1) ls h (lv_sub hl [3, 4, 5, 6, 7, 1, 0] rfl)
        replace h := im c8 h
        refine lv_iconst (v := 1) hx hb dX5_weighs_41 (by decide) ?_
        refine lv_goto (tgt := 46) hx hb dX5_weighs_42 (by decide) ?_
        refine lv_iadd hx hb dX5_weighs_46 ?_
        refine lv_istore (lv' := [(8, .int (((x0.2 0) (143 + i7_6).toNatClampNeg) + 1)), (0, .ref (a0 0)), (1, .int v1), (2, .int v2), (3, .int v3), (4, .int v4), (5, .long i5_6), (7, .int i7_6)]) hx hb dX5_weighs_47 hl (by decide) rfl (fun ls hl => ?_)
        refine lv_lload hx hb dX5_weighs_49 (lv_at hl 6 rfl) ?_
        refine lv_iload hx hb dX5_weighs_51 (lv_at hl 0 rfl) ?_
        refine lv_aload_n hx hb dX5_weighs_53 rfl (lv_at hl 1 rfl) ?_
        refine va_get (D := D) (ci := 5) (v := .ref (a0 1)) (C := RX5) (T := TX5) (N := 11) hx hb hts inX5_weighs_5 hown hK.1 hP 0 rfl rfl 0 (by decide) (hts (.fieldLink RX5 7 "LyingScaleModel" "s" "[I") (List.mem_of_getElem? (i := 1) rfl)) (fun _ h9 => h9) rfl dX5_weighs_54 ?_
        refine lv_iconst (v := 1) hx hb dX5_weighs_57 (by decide) ?_
        refine va_iald hx hb hK.1 hP 1 0 rfl rfl (show ¬ ((1 : Int32) < 0 ∨ 176 ≤ Int32.toNatClampNeg 1) from by decide) dX5_weighs_58 ?_
        refine eqi (congrArg (x0.2 0) (show Int32.toNatClampNeg 1 = 1 from by decide)) ?_
        refine lv_icmp_gt (tgt := 79) hx hb dX5_weighs_59 (by decide) (fun c11 => ?_) (fun c11 => ?_)
        · replace h := ip c11 h
          refine lv_lconst (v := 0) hx hb dX5_weighs_79 (by decide) ?_
          refine lv_ladd hx hb dX5_weighs_80 ?_
          refine lv_lstore (lv' := [(5, .long (i5_6 + 0)), (8, .int (((x0.2 0) (143 + i7_6).toNatClampNeg) + 1)), (0, .ref (a0 0)), (1, .int v1), (2, .int v2), (3, .int v3), (4, .int v4), (7, .int i7_6)]) hx hb dX5_weighs_81 hl (by decide) rfl (fun ls hl => ?_)
          refine lv_iinc (v := i7_6 + 1) (lv' := [(7, .int (i7_6 + 1)), (5, .long (i5_6 + 0)), (8, .int (((x0.2 0) (143 + i7_6).toNatClampNeg) + 1)), (0, .ref (a0 0)), (1, .int v1), (2, .int v2), (3, .int v3), (4, .int v4)]) hx hb dX5_weighs_83 hl (k := 7) rfl rfl (by decide) rfl (fun ls hl => ?_)
          refine lv_goto (tgt := 6) hx hb dX5_weighs_86 (by decide) ?_
          exact ih6 (i5_6 + 0) (i7_6 + 1) ls h (lv_sub hl [3, 4, 5, 6, 7, 1, 0] rfl)
        replace h := im c11 h
        refine lv_iload hx hb dX5_weighs_62 (lv_at hl 5 rfl) ?_
        refine lv_aload_n hx hb dX5_weighs_64 rfl (lv_at hl 1 rfl) ?_
        refine va_get (D := D) (ci := 5) (v := .ref (a0 1)) (C := RX5) (T := TX5) (N := 11) hx hb hts inX5_weighs_5 hown hK.1 hP 0 rfl rfl 0 (by decide) (hts (.fieldLink RX5 7 "LyingScaleModel" "s" "[I") (List.mem_of_getElem? (i := 1) rfl)) (fun _ h9 => h9) rfl dX5_weighs_65 ?_
        refine lv_iconst (v := 1) hx hb dX5_weighs_68 (by decide) ?_
        refine va_iald hx hb hK.1 hP 1 0 rfl rfl (show ¬ ((1 : Int32) < 0 ∨ 176 ≤ Int32.toNatClampNeg 1) from by decide) dX5_weighs_69 ?_
        refine eqi (congrArg (x0.2 0) (show Int32.toNatClampNeg 1 = 1 from by decide)) ?_
        refine lv_iload hx hb dX5_weighs_70 (lv_at hl 0 rfl) ?_
        refine lv_isub hx hb dX5_weighs_72 ?_
        replace h := bd h
        obtain ⟨t12, et12, h⟩ := h
        refine callRl (v := t12) (va_runS (As := [.int v4, .int (((x0.2 0) 1) - (((x0.2 0) (143 + i7_6).toNatClampNeg) + 1))]) (rest := [.long i5_6]) ⟨hx, hb, hml, hown, hts⟩ (c_X5_volume l D T v4 (((x0.2 0) 1) - (((x0.2 0) (143 + i7_6).toNatClampNeg) + 1)) t12 et12) (va_cwS 2 hts gX5_weighs_X5_volume rfl rfl rfl hdS_X5_volume ⟨Nat.le_of_ble_eq_true rfl, Nat.le_of_ble_eq_true rfl⟩) ⟨PB_blind, PB_at (hP.sub (ws' := ([] : va_W)) [] rfl) hK⟩ rfl rfl hl.1 rfl (lv_room (Nat.le_of_ble_eq_true rfl)) dX5_weighs_73 ⟨Nat.zero_le _, Nat.zero_le _⟩) ?_
        refine lv_goto (tgt := 80) hx hb dX5_weighs_76 (by decide) ?_
        refine lv_ladd hx hb dX5_weighs_80 ?_
        refine lv_lstore (lv' := [(5, .long (i5_6 + t12)), (8, .int (((x0.2 0) (143 + i7_6).toNatClampNeg) + 1)), (0, .ref (a0 0)), (1, .int v1), (2, .int v2), (3, .int v3), (4, .int v4), (7, .int i7_6)]) hx hb dX5_weighs_81 hl (by decide) rfl (fun ls hl => ?_)
        refine lv_iinc (v := i7_6 + 1) (lv' := [(7, .int (i7_6 + 1)), (5, .long (i5_6 + t12)), (8, .int (((x0.2 0) (143 + i7_6).toNatClampNeg) + 1)), (0, .ref (a0 0)), (1, .int v1), (2, .int v2), (3, .int v3), (4, .int v4)]) hx hb dX5_weighs_83 hl (k := 7) rfl rfl (by decide) rfl (fun ls hl => ?_)
        refine lv_goto (tgt := 6) hx hb dX5_weighs_86 (by decide) ?_
        exact ih6 (i5_6 + t12) (i7_6 + 1) ls h (lv_sub hl [3, 4, 5, 6, 7, 1, 0] rfl)
  exact K6 1000 0 0 ls h (lv_sub hl [2, 3, 4, 5, 6, 1, 0] rfl)
set_option maxHeartbeats 4000000 in
set_option maxRecDepth 100000 in
theorem c_X5_weight (l : Launch) (D : va_G) (T : Nat → ClassId) (a0 : Nat → Nat) (x0 : St) (v1 : Int32) (sz : Nat) (r : Int64 × St) (h : F_X5_weight x0 v1 = some r) : Met l yX5_weight wsX5_weight ({ frames := 2, cells := 0, slots := 0, locals := 52 } : Room) (va_Pc [.ref (a0 0), .int v1] (PM D T (mdW T a0 (x0)) sz)) (QMl D (mdW T a0 (r.2)) r.1 (va_A (mdW T a0 (x0)) sz)) 0 0 (va_A (mdW T a0 (x0)) sz) := by
  refine met_of (cc := cX5_weight) (maxL := 2) (ret := (some .long)) (lv := [(0, .ref (a0 0)), (1, .int v1)]) (by decide) rfl (Nat.le_of_ble_eq_true rfl) rfl ?_
  intro p e s m args below meth c ls C0 hl hB
  obtain ⟨hx, hb, hr, hml, hown, hts, hlocks, hname⟩ := C0
  obtain ⟨hsz, hP, hK, hD0⟩ := hB
  subst hsz
  have hD := hD0.self (sz := s.heap.size)
  generalize hAe : va_A (mdW T a0 (x0)) s.heap.size = A at hD ⊢
  have hA : ∀ q : Nat, s.heap.size ≤ q → A q := fun q h => by rw [← hAe]; exact Or.inr h
  obtain ⟨H, hH⟩ : ∃ H, H = s.heap := ⟨_, rfl⟩
  obtain ⟨locs, hlo⟩ : ∃ L : List Loc, L = [] := ⟨_, rfl⟩
  have hS : va_S A s.heap s.heap [] := va_S.rf
  rw [← hH] at hP ⊢
  rw [← hlo]
  replace hS : va_S A s.heap H locs := by rw [hH, hlo]; exact hS
  clear hH hlo
  unfold F_X5_weight at h
  refine lv_iload_n hx hb dX5_weight_0 rfl (lv_at hl 1 rfl) ?_
  refine lv_iconst (v := 0) hx hb dX5_weight_1 (by decide) ?_
  refine lv_bipush (v := 20) hx hb dX5_weight_2 (by decide) ?_
  replace h := bd h
  obtain ⟨t1, et1, h⟩ := h
  refine callRi (v := t1) (va_runS (As := [.int v1, .int 0, .int 20]) (rest := []) ⟨hx, hb, hml, hown, hts⟩ (c_X5_in l D T v1 0 20 t1 et1) (va_cwS 3 hts gX5_weight_X5_in rfl rfl rfl hdS_X5_in ⟨Nat.le_of_ble_eq_true rfl, Nat.le_of_ble_eq_true rfl⟩) ⟨PB_blind, PB_at (hP.sub (ws' := ([] : va_W)) [] rfl) hK⟩ rfl rfl hl.1 rfl (lv_room (Nat.le_of_ble_eq_true rfl)) dX5_weight_4 ⟨Nat.zero_le _, Nat.zero_le _⟩) ?_
  refine lv_if_ne (tgt := 17) hx hb dX5_weight_7 (by decide) (fun c2 => ?_) (fun c2 => ?_)
  · replace h := im c2 h
    refine lv_aload_n hx hb dX5_weight_17 rfl (lv_at hl 0 rfl) ?_
    refine lv_iconst (v := 0) hx hb dX5_weight_18 (by decide) ?_
    refine va_put (D := D) (ci := 5) (v := .int 0) (ty := .int) (C := RX5) (T := TX5) (N := 11) hx hb hts inX5_weight_5 tyX5 tyX5_ok nmX5 hown hK.1 hP hD hS 0 rfl rfl 4 (by decide) (hts (.fieldLink RX5 27 "LyingScaleModel" "thrown" "I") (List.mem_of_getElem? (i := 1) rfl)) (fun _ h9 => h9) rfl (by decide +kernel) rfl rfl (Nat.le_of_ble_eq_true rfl) dX5_weight_19 (fun H locs hP hD hS => ?_)
    replace hP : va_P D vwCl (mdW T a0 (sI x0 1 0)) H := hP
    replace hD : va_D A (mdW T a0 (sI x0 1 0)) := hD
    refine lv_aload_n hx hb dX5_weight_22 rfl (lv_at hl 0 rfl) ?_
    refine lv_iconst (v := 0) hx hb dX5_weight_23 (by decide) ?_
    refine lv_iconst (v := 0) hx hb dX5_weight_24 (by decide) ?_
    refine lv_iconst (v := 0) hx hb dX5_weight_25 (by decide) ?_
    refine lv_iload_n hx hb dX5_weight_26 rfl (lv_at hl 1 rfl) ?_
    replace h := bd h
    obtain ⟨t3, et3, h⟩ := h
    refine callRl (v := t3) (va_runV (As := [.int 0, .int 0, .int 0, .int v1]) (rest := []) ⟨hx, hb, hml, hown, hts⟩ (c_X5_weighs l D T a0 (sI x0 1 0) 0 0 0 v1 t3 et3) (cwV 4 hts gX5_weight_X5_weighs rfl rfl rfl hdV_X5_weighs ⟨Nat.le_of_ble_eq_true rfl, Nat.le_of_ble_eq_true rfl⟩) ⟨PB_blind, va_recv hK.1 hP (ci := 5) (q0 := 0) rfl rfl, PB_at hP hK⟩ rfl rfl hl.1 rfl (lv_room (Nat.le_of_ble_eq_true rfl)) dX5_weight_27 ⟨Nat.zero_le _, Nat.zero_le _⟩) ?_
    obtain rfl := Option.some.inj h
    exact W.lret hx hb hr (fun t ht hW => ⟨⟨_, (), rfl, rfl, by rw [ht]; exact hP, hD⟩, hS.F ht⟩) hS.2.2 dX5_weight_30 hlocks
  replace h := ip c2 h
  refine lv_aload_n hx hb dX5_weight_10 rfl (lv_at hl 0 rfl) ?_
  refine lv_iconst (v := 1) hx hb dX5_weight_11 (by decide) ?_
  replace h := bd h
  obtain ⟨t4, et4, h⟩ := h
  refine callMi (wr := []) (ws' := mdW T a0 (t4.2)) (va_runV (As := [.int 1]) (rest := []) ⟨hx, hb, hml, hown, hts⟩ (c_X5_fails l D T a0 x0 1 _ t4 et4) (cwV 1 hts gX5_weight_X5_fails rfl rfl rfl hdV_X5_fails ⟨Nat.le_of_ble_eq_true rfl, Nat.le_of_ble_eq_true rfl⟩) ⟨PM_blind, va_recv hK.1 hP (ci := 5) (q0 := 0) rfl rfl, PM_at hP hD hK⟩ rfl rfl hl.1 rfl (lv_room (Nat.le_of_ble_eq_true rfl)) dX5_weight_12 ⟨Nat.zero_le _, Nat.zero_le _⟩) hS hA hP hD [0, 1, 2, 3, 4] [] rfl rfl (by decide) (by decide) [0, 1, 2, 3, 4] (by decide) rfl (fun H locs hP hD hS => ?_)
  refine lv_i2l (v := t4.1.toInt64) hx hb dX5_weight_15 rfl ?_
  obtain rfl := Option.some.inj h
  exact W.lret hx hb hr (fun t ht hW => ⟨⟨_, (), rfl, rfl, by rw [ht]; exact hP, hD⟩, hS.F ht⟩) hS.2.2 dX5_weight_16 hlocks
set_option maxHeartbeats 4000000 in
set_option maxRecDepth 100000 in
theorem c_X5_least (l : Launch) (D : va_G) (T : Nat → ClassId) (a0 : Nat → Nat) (x0 : St) (r : Int32) (h : F_X5_least x0 = some r) : Met l yX5_least wsX5_least ({ frames := 2, cells := 0, slots := 0, locals := 52 } : Room) (va_Pc [.ref (a0 0)] (PB D T (mdW T a0 (x0)))) (QRi r) 0 0 (fun _ => False) := by
  refine met_of (cc := cX5_least) (maxL := 4) (ret := (some .int)) (lv := [(0, .ref (a0 0))]) (by decide) rfl (Nat.le_of_ble_eq_true rfl) rfl ?_
  intro p e s m args below meth c ls C0 hl hB
  obtain ⟨hx, hb, hr, hml, hown, hts, hlocks, hname⟩ := C0
  obtain ⟨hP, hK⟩ := hB
  unfold F_X5_least at h
  refine lv_lconst (v := 1) hx hb dX5_least_0 (by decide) ?_
  refine lv_lstore_n (lv' := [(1, .long 1), (0, .ref (a0 0))]) hx hb dX5_least_1 rfl hl (by decide) rfl (fun ls hl => ?_)
  refine lv_iconst (v := 0) hx hb dX5_least_2 (by decide) ?_
  refine lv_istore_n (lv' := [(3, .int 0), (1, .long 1), (0, .ref (a0 0))]) hx hb dX5_least_3 rfl hl (by decide) rfl (fun ls hl => ?_)
  have K4 : ∀ (n4 : Nat) (i1_4 : Int64) (i3_4 : Int32) (ls : Array Slot), fx2 (B_X5_least_4 x0) n4 i1_4 i3_4 = some r → lv_has ls 4 [(0, .ref (a0 0)), (1, .long i1_4), (3, .int i3_4)] → W p l e ({ frames := 2, cells := 0, slots := 0, locals := 52 } : Room) s m args below meth c s.heap [] 0 0 (MQ below (QRi r) args s 0 0 (fun _ => False)) (F0 m 4 ls []) := by
    intro n4
    induction n4 with
    | zero =>
        intro i1_4 i3_4 ls h
        cases h
    | succ n4 ih4 =>
        intro i1_4 i3_4 ls h hl
        replace h : B_X5_least_4 x0 (fx2 (B_X5_least_4 x0) n4) i1_4 i3_4 = some r := h
        unfold B_X5_least_4 at h
        refine lv_iload_n hx hb dX5_least_4 rfl (lv_at hl 2 rfl) ?_
        refine lv_bipush (v := 20) hx hb dX5_least_5 (by decide) ?_
        refine lv_icmp_gt (tgt := 37) hx hb dX5_least_7 (by decide) (fun c1 => ?_) (fun c1 => ?_)
        · replace h := ip c1 h
          refine lv_iconst (v := (-1)) hx hb dX5_least_37 (by decide) ?_
          exact W.iret hx hb hr (fun t ht hW => ⟨_, rfl, Option.some.inj h, ht⟩) (fun q hq => absurd hq List.not_mem_nil) dX5_least_38 hlocks
        replace h := im c1 h
        refine lv_aload_n hx hb dX5_least_10 rfl (lv_at hl 0 rfl) ?_
        refine lv_iconst (v := 0) hx hb dX5_least_11 (by decide) ?_
        refine lv_iconst (v := 0) hx hb dX5_least_12 (by decide) ?_
        refine lv_iconst (v := 0) hx hb dX5_least_13 (by decide) ?_
        refine lv_iload_n hx hb dX5_least_14 rfl (lv_at hl 2 rfl) ?_
        replace h := bd h
        obtain ⟨t2, et2, h⟩ := h
        refine callRl (v := t2) (va_runV (As := [.int 0, .int 0, .int 0, .int i3_4]) (rest := []) ⟨hx, hb, hml, hown, hts⟩ (c_X5_weighs l D T a0 x0 0 0 0 i3_4 t2 et2) (cwV 4 hts gX5_least_X5_weighs rfl rfl rfl hdV_X5_weighs ⟨Nat.le_of_ble_eq_true rfl, Nat.le_of_ble_eq_true rfl⟩) ⟨PB_blind, va_recv hK.1 hP (ci := 5) (q0 := 0) rfl rfl, PB_at hP hK⟩ rfl rfl hl.1 rfl (lv_room (Nat.le_of_ble_eq_true rfl)) dX5_least_15 ⟨Nat.zero_le _, Nat.zero_le _⟩) ?_
        refine lv_lload_n hx hb dX5_least_18 rfl (lv_at hl 1 rfl) ?_
        refine W.lcmp hx hb dX5_least_19 ?_
        refine lv_if_gt (tgt := 25) hx hb dX5_least_20 (by decide) (fun c3 => ?_) (fun c3 => ?_)
        · replace h := ip c3 h
          refine lv_lload_n hx hb dX5_least_25 rfl (lv_at hl 1 rfl) ?_
          refine lv_ldc2 hx hb hown (hts (.constantLong RX5 113 (3)) (List.mem_of_getElem? (i := 1) rfl)) dX5_least_26 ?_
          refine lv_lmul hx hb dX5_least_29 ?_
          refine lv_lstore_n (lv' := [(1, .long (i1_4 * 3)), (0, .ref (a0 0)), (3, .int i3_4)]) hx hb dX5_least_30 rfl hl (by decide) rfl (fun ls hl => ?_)
          refine lv_iinc (v := i3_4 + 1) (lv' := [(3, .int (i3_4 + 1)), (1, .long (i1_4 * 3)), (0, .ref (a0 0))]) hx hb dX5_least_31 hl (k := 2) rfl rfl (by decide) rfl (fun ls hl => ?_)
          refine lv_goto (tgt := 4) hx hb dX5_least_34 (by decide) ?_
          exact ih4 (i1_4 * 3) (i3_4 + 1) ls h (lv_sub hl [2, 1, 0] rfl)
        replace h := im c3 h
        refine lv_iload_n hx hb dX5_least_23 rfl (lv_at hl 2 rfl) ?_
        exact W.iret hx hb hr (fun t ht hW => ⟨_, rfl, Option.some.inj h, ht⟩) (fun q hq => absurd hq List.not_mem_nil) dX5_least_24 hlocks
  exact K4 1000 1 0 ls h (lv_sub hl [2, 1, 0] rfl)
set_option maxHeartbeats 4000000 in
set_option maxRecDepth 100000 in
theorem c_X5_bound (l : Launch) (D : va_G) (T : Nat → ClassId) (a0 : Nat → Nat) (x0 : St) (sz : Nat) (r : Int32 × St) (h : F_X5_bound x0 = some r) : Met l yX5_bound wsX5_bound ({ frames := 3, cells := 0, slots := 0, locals := 75 } : Room) (va_Pc [.ref (a0 0)] (PM D T (mdW T a0 (x0)) sz)) (QMi D (mdW T a0 (r.2)) r.1 (va_A (mdW T a0 (x0)) sz)) 0 0 (va_A (mdW T a0 (x0)) sz) := by
  refine met_of (cc := cX5_bound) (maxL := 1) (ret := (some .int)) (lv := [(0, .ref (a0 0))]) (by decide) rfl (Nat.le_of_ble_eq_true rfl) rfl ?_
  intro p e s m args below meth c ls C0 hl hB
  obtain ⟨hx, hb, hr, hml, hown, hts, hlocks, hname⟩ := C0
  obtain ⟨hsz, hP, hK, hD0⟩ := hB
  subst hsz
  have hD := hD0.self (sz := s.heap.size)
  generalize hAe : va_A (mdW T a0 (x0)) s.heap.size = A at hD ⊢
  have hA : ∀ q : Nat, s.heap.size ≤ q → A q := fun q h => by rw [← hAe]; exact Or.inr h
  obtain ⟨H, hH⟩ : ∃ H, H = s.heap := ⟨_, rfl⟩
  obtain ⟨locs, hlo⟩ : ∃ L : List Loc, L = [] := ⟨_, rfl⟩
  have hS : va_S A s.heap s.heap [] := va_S.rf
  rw [← hH] at hP ⊢
  rw [← hlo]
  replace hS : va_S A s.heap H locs := by rw [hH, hlo]; exact hS
  clear hH hlo
  unfold F_X5_bound at h
  refine lv_aload_n hx hb dX5_bound_0 rfl (lv_at hl 0 rfl) ?_
  refine lv_aload_n hx hb dX5_bound_1 rfl (lv_at hl 0 rfl) ?_
  replace h := bd h
  obtain ⟨t1, et1, h⟩ := h
  refine callRi (v := t1) (va_runV (As := []) (rest := [.ref (a0 0)]) ⟨hx, hb, hml, hown, hts⟩ (c_X5_least l D T a0 x0 t1 et1) (cwV 0 hts gX5_bound_X5_least rfl rfl rfl hdV_X5_least ⟨Nat.le_of_ble_eq_true rfl, Nat.le_of_ble_eq_true rfl⟩) ⟨PB_blind, va_recv hK.1 hP (ci := 5) (q0 := 0) rfl rfl, PB_at hP hK⟩ rfl rfl hl.1 rfl (lv_room (Nat.le_of_ble_eq_true rfl)) dX5_bound_2 ⟨Nat.zero_le _, Nat.zero_le _⟩) ?_
  replace h := bd h
  obtain ⟨t2, et2, h⟩ := h
  refine callMi (wr := []) (ws' := mdW T a0 (t2.2)) (va_runV (As := [.int t1]) (rest := []) ⟨hx, hb, hml, hown, hts⟩ (c_X5_tells l D T a0 x0 t1 _ t2 et2) (cwV 1 hts gX5_bound_X5_tells rfl rfl rfl hdV_X5_tells ⟨Nat.le_of_ble_eq_true rfl, Nat.le_of_ble_eq_true rfl⟩) ⟨PM_blind, va_recv hK.1 hP (ci := 5) (q0 := 0) rfl rfl, PM_at hP hD hK⟩ rfl rfl hl.1 rfl (lv_room (Nat.le_of_ble_eq_true rfl)) dX5_bound_5 ⟨Nat.zero_le _, Nat.zero_le _⟩) hS hA hP hD [0, 1, 2, 3, 4] [] rfl rfl (by decide) (by decide) [0, 1, 2, 3, 4] (by decide) rfl (fun H locs hP hD hS => ?_)
  obtain rfl := Option.some.inj h
  exact W.iret hx hb hr (fun t ht hW => ⟨⟨_, (), rfl, rfl, by rw [ht]; exact hP, hD⟩, hS.F ht⟩) hS.2.2 dX5_bound_8 hlocks
set_option maxHeartbeats 4000000 in
set_option maxRecDepth 100000 in
theorem c_X5_weightBehind (l : Launch) (D : va_G) (T : Nat → ClassId) (a0 : Nat → Nat) (x0 : St) (v1 : Int32) (v2 : Int32) (v3 : Int32) (v4 : Int32) (sz : Nat) (r : Int64 × St) (h : F_X5_weightBehind x0 v1 v2 v3 v4 = some r) : Met l yX5_weightBehind wsX5_weightBehind ({ frames := 2, cells := 0, slots := 0, locals := 52 } : Room) (va_Pc [.ref (a0 0), .int v1, .int v2, .int v3, .int v4] (PM D T (mdW T a0 (x0)) sz)) (QMl D (mdW T a0 (r.2)) r.1 (va_A (mdW T a0 (x0)) sz)) 0 0 (va_A (mdW T a0 (x0)) sz) := by
  refine met_of (cc := cX5_weightBehind) (maxL := 5) (ret := (some .long)) (lv := [(0, .ref (a0 0)), (1, .int v1), (2, .int v2), (3, .int v3), (4, .int v4)]) (by decide) rfl (Nat.le_of_ble_eq_true rfl) rfl ?_
  intro p e s m args below meth c ls C0 hl hB
  obtain ⟨hx, hb, hr, hml, hown, hts, hlocks, hname⟩ := C0
  obtain ⟨hsz, hP, hK, hD0⟩ := hB
  subst hsz
  have hD := hD0.self (sz := s.heap.size)
  generalize hAe : va_A (mdW T a0 (x0)) s.heap.size = A at hD ⊢
  have hA : ∀ q : Nat, s.heap.size ≤ q → A q := fun q h => by rw [← hAe]; exact Or.inr h
  obtain ⟨H, hH⟩ : ∃ H, H = s.heap := ⟨_, rfl⟩
  obtain ⟨locs, hlo⟩ : ∃ L : List Loc, L = [] := ⟨_, rfl⟩
  have hS : va_S A s.heap s.heap [] := va_S.rf
  rw [← hH] at hP ⊢
  rw [← hlo]
  replace hS : va_S A s.heap H locs := by rw [hH, hlo]; exact hS
  clear hH hlo
  unfold F_X5_weightBehind at h
  refine lv_aload_n hx hb dX5_weightBehind_0 rfl (lv_at hl 0 rfl) ?_
  refine lv_iload_n hx hb dX5_weightBehind_1 rfl (lv_at hl 1 rfl) ?_
  refine lv_iload_n hx hb dX5_weightBehind_2 rfl (lv_at hl 2 rfl) ?_
  replace h := bd h
  obtain ⟨t1, et1, h⟩ := h
  refine callRi (v := t1) (va_runV (As := [.int v1, .int v2]) (rest := []) ⟨hx, hb, hml, hown, hts⟩ (c_X5_areSides l D T a0 x0 v1 v2 t1 et1) (cwV 2 hts gX5_weightBehind_X5_areSides rfl rfl rfl hdV_X5_areSides ⟨Nat.le_of_ble_eq_true rfl, Nat.le_of_ble_eq_true rfl⟩) ⟨PB_blind, va_recv hK.1 hP (ci := 5) (q0 := 0) rfl rfl, PB_at hP hK⟩ rfl rfl hl.1 rfl (lv_room (Nat.le_of_ble_eq_true rfl)) dX5_weightBehind_3 ⟨Nat.zero_le _, Nat.zero_le _⟩) ?_
  refine lv_if_eq (tgt := 29) hx hb dX5_weightBehind_6 (by decide) (fun c2 => ?_) (fun c2 => ?_)
  · replace h := ip c2 h
    refine lv_aload_n hx hb dX5_weightBehind_29 rfl (lv_at hl 0 rfl) ?_
    refine lv_iconst (v := 1) hx hb dX5_weightBehind_30 (by decide) ?_
    replace h := bd h
    obtain ⟨t3, et3, h⟩ := h
    refine callMi (wr := []) (ws' := mdW T a0 (t3.2)) (va_runV (As := [.int 1]) (rest := []) ⟨hx, hb, hml, hown, hts⟩ (c_X5_fails l D T a0 x0 1 _ t3 et3) (cwV 1 hts gX5_weightBehind_X5_fails rfl rfl rfl hdV_X5_fails ⟨Nat.le_of_ble_eq_true rfl, Nat.le_of_ble_eq_true rfl⟩) ⟨PM_blind, va_recv hK.1 hP (ci := 5) (q0 := 0) rfl rfl, PM_at hP hD hK⟩ rfl rfl hl.1 rfl (lv_room (Nat.le_of_ble_eq_true rfl)) dX5_weightBehind_31 ⟨Nat.zero_le _, Nat.zero_le _⟩) hS hA hP hD [0, 1, 2, 3, 4] [] rfl rfl (by decide) (by decide) [0, 1, 2, 3, 4] (by decide) rfl (fun H locs hP hD hS => ?_)
    refine lv_i2l (v := t3.1.toInt64) hx hb dX5_weightBehind_34 rfl ?_
    obtain rfl := Option.some.inj h
    exact W.lret hx hb hr (fun t ht hW => ⟨⟨_, (), rfl, rfl, by rw [ht]; exact hP, hD⟩, hS.F ht⟩) hS.2.2 dX5_weightBehind_35 hlocks
  replace h := im c2 h
  refine lv_iload_n hx hb dX5_weightBehind_9 rfl (lv_at hl 3 rfl) ?_
  refine lv_iconst (v := 0) hx hb dX5_weightBehind_10 (by decide) ?_
  refine lv_iconst (v := 2) hx hb dX5_weightBehind_11 (by decide) ?_
  replace h := bd h
  obtain ⟨t4, et4, h⟩ := h
  refine callRi (v := t4) (va_runS (As := [.int v3, .int 0, .int 2]) (rest := []) ⟨hx, hb, hml, hown, hts⟩ (c_X5_in l D T v3 0 2 t4 et4) (va_cwS 3 hts gX5_weightBehind_X5_in rfl rfl rfl hdS_X5_in ⟨Nat.le_of_ble_eq_true rfl, Nat.le_of_ble_eq_true rfl⟩) ⟨PB_blind, PB_at (hP.sub (ws' := ([] : va_W)) [] rfl) hK⟩ rfl rfl hl.1 rfl (lv_room (Nat.le_of_ble_eq_true rfl)) dX5_weightBehind_12 ⟨Nat.zero_le _, Nat.zero_le _⟩) ?_
  refine lv_if_eq (tgt := 29) hx hb dX5_weightBehind_15 (by decide) (fun c5 => ?_) (fun c5 => ?_)
  · replace h := ip c5 h
    refine lv_aload_n hx hb dX5_weightBehind_29 rfl (lv_at hl 0 rfl) ?_
    refine lv_iconst (v := 1) hx hb dX5_weightBehind_30 (by decide) ?_
    replace h := bd h
    obtain ⟨t6, et6, h⟩ := h
    refine callMi (wr := []) (ws' := mdW T a0 (t6.2)) (va_runV (As := [.int 1]) (rest := []) ⟨hx, hb, hml, hown, hts⟩ (c_X5_fails l D T a0 x0 1 _ t6 et6) (cwV 1 hts gX5_weightBehind_X5_fails rfl rfl rfl hdV_X5_fails ⟨Nat.le_of_ble_eq_true rfl, Nat.le_of_ble_eq_true rfl⟩) ⟨PM_blind, va_recv hK.1 hP (ci := 5) (q0 := 0) rfl rfl, PM_at hP hD hK⟩ rfl rfl hl.1 rfl (lv_room (Nat.le_of_ble_eq_true rfl)) dX5_weightBehind_31 ⟨Nat.zero_le _, Nat.zero_le _⟩) hS hA hP hD [0, 1, 2, 3, 4] [] rfl rfl (by decide) (by decide) [0, 1, 2, 3, 4] (by decide) rfl (fun H locs hP hD hS => ?_)
    refine lv_i2l (v := t6.1.toInt64) hx hb dX5_weightBehind_34 rfl ?_
    obtain rfl := Option.some.inj h
    exact W.lret hx hb hr (fun t ht hW => ⟨⟨_, (), rfl, rfl, by rw [ht]; exact hP, hD⟩, hS.F ht⟩) hS.2.2 dX5_weightBehind_35 hlocks
  replace h := im c5 h
  refine lv_iload hx hb dX5_weightBehind_18 (lv_at hl 4 rfl) ?_
  refine lv_iconst (v := 0) hx hb dX5_weightBehind_20 (by decide) ?_
  refine lv_bipush (v := 20) hx hb dX5_weightBehind_21 (by decide) ?_
  replace h := bd h
  obtain ⟨t7, et7, h⟩ := h
  refine callRi (v := t7) (va_runS (As := [.int v4, .int 0, .int 20]) (rest := []) ⟨hx, hb, hml, hown, hts⟩ (c_X5_in l D T v4 0 20 t7 et7) (va_cwS 3 hts gX5_weightBehind_X5_in rfl rfl rfl hdS_X5_in ⟨Nat.le_of_ble_eq_true rfl, Nat.le_of_ble_eq_true rfl⟩) ⟨PB_blind, PB_at (hP.sub (ws' := ([] : va_W)) [] rfl) hK⟩ rfl rfl hl.1 rfl (lv_room (Nat.le_of_ble_eq_true rfl)) dX5_weightBehind_23 ⟨Nat.zero_le _, Nat.zero_le _⟩) ?_
  refine lv_if_ne (tgt := 36) hx hb dX5_weightBehind_26 (by decide) (fun c8 => ?_) (fun c8 => ?_)
  · replace h := im c8 h
    refine lv_aload_n hx hb dX5_weightBehind_36 rfl (lv_at hl 0 rfl) ?_
    refine lv_iconst (v := 0) hx hb dX5_weightBehind_37 (by decide) ?_
    refine va_put (D := D) (ci := 5) (v := .int 0) (ty := .int) (C := RX5) (T := TX5) (N := 11) hx hb hts inX5_weightBehind_5 tyX5 tyX5_ok nmX5 hown hK.1 hP hD hS 0 rfl rfl 4 (by decide) (hts (.fieldLink RX5 27 "LyingScaleModel" "thrown" "I") (List.mem_of_getElem? (i := 1) rfl)) (fun _ h9 => h9) rfl (by decide +kernel) rfl rfl (Nat.le_of_ble_eq_true rfl) dX5_weightBehind_38 (fun H locs hP hD hS => ?_)
    replace hP : va_P D vwCl (mdW T a0 (sI x0 1 0)) H := hP
    replace hD : va_D A (mdW T a0 (sI x0 1 0)) := hD
    refine lv_aload_n hx hb dX5_weightBehind_41 rfl (lv_at hl 0 rfl) ?_
    refine lv_iload_n hx hb dX5_weightBehind_42 rfl (lv_at hl 1 rfl) ?_
    refine lv_iload_n hx hb dX5_weightBehind_43 rfl (lv_at hl 2 rfl) ?_
    refine lv_iload_n hx hb dX5_weightBehind_44 rfl (lv_at hl 3 rfl) ?_
    refine lv_iload hx hb dX5_weightBehind_45 (lv_at hl 4 rfl) ?_
    replace h := bd h
    obtain ⟨t9, et9, h⟩ := h
    refine callRl (v := t9) (va_runV (As := [.int v1, .int v2, .int v3, .int v4]) (rest := []) ⟨hx, hb, hml, hown, hts⟩ (c_X5_weighs l D T a0 (sI x0 1 0) v1 v2 v3 v4 t9 et9) (cwV 4 hts gX5_weightBehind_X5_weighs rfl rfl rfl hdV_X5_weighs ⟨Nat.le_of_ble_eq_true rfl, Nat.le_of_ble_eq_true rfl⟩) ⟨PB_blind, va_recv hK.1 hP (ci := 5) (q0 := 0) rfl rfl, PB_at hP hK⟩ rfl rfl hl.1 rfl (lv_room (Nat.le_of_ble_eq_true rfl)) dX5_weightBehind_47 ⟨Nat.zero_le _, Nat.zero_le _⟩) ?_
    obtain rfl := Option.some.inj h
    exact W.lret hx hb hr (fun t ht hW => ⟨⟨_, (), rfl, rfl, by rw [ht]; exact hP, hD⟩, hS.F ht⟩) hS.2.2 dX5_weightBehind_50 hlocks
  replace h := ip c8 h
  refine lv_aload_n hx hb dX5_weightBehind_29 rfl (lv_at hl 0 rfl) ?_
  refine lv_iconst (v := 1) hx hb dX5_weightBehind_30 (by decide) ?_
  replace h := bd h
  obtain ⟨t10, et10, h⟩ := h
  refine callMi (wr := []) (ws' := mdW T a0 (t10.2)) (va_runV (As := [.int 1]) (rest := []) ⟨hx, hb, hml, hown, hts⟩ (c_X5_fails l D T a0 x0 1 _ t10 et10) (cwV 1 hts gX5_weightBehind_X5_fails rfl rfl rfl hdV_X5_fails ⟨Nat.le_of_ble_eq_true rfl, Nat.le_of_ble_eq_true rfl⟩) ⟨PM_blind, va_recv hK.1 hP (ci := 5) (q0 := 0) rfl rfl, PM_at hP hD hK⟩ rfl rfl hl.1 rfl (lv_room (Nat.le_of_ble_eq_true rfl)) dX5_weightBehind_31 ⟨Nat.zero_le _, Nat.zero_le _⟩) hS hA hP hD [0, 1, 2, 3, 4] [] rfl rfl (by decide) (by decide) [0, 1, 2, 3, 4] (by decide) rfl (fun H locs hP hD hS => ?_)
  refine lv_i2l (v := t10.1.toInt64) hx hb dX5_weightBehind_34 rfl ?_
  obtain rfl := Option.some.inj h
  exact W.lret hx hb hr (fun t ht hW => ⟨⟨_, (), rfl, rfl, by rw [ht]; exact hP, hD⟩, hS.F ht⟩) hS.2.2 dX5_weightBehind_35 hlocks
set_option maxHeartbeats 4000000 in
set_option maxRecDepth 100000 in
theorem c_X5_best (l : Launch) (D : va_G) (T : Nat → ClassId) (a0 : Nat → Nat) (x0 : St) (v1 : Int32) (r : Int32) (h : F_X5_best x0 v1 = some r) : Met l yX5_best wsX5_best ({ frames := 2, cells := 0, slots := 0, locals := 52 } : Room) (va_Pc [.ref (a0 0), .int v1] (PB D T (mdW T a0 (x0)))) (QRi r) 0 0 (fun _ => False) := by
  refine met_of (cc := cX5_best) (maxL := 12) (ret := (some .int)) (lv := [(0, .ref (a0 0)), (1, .int v1)]) (by decide) rfl (Nat.le_of_ble_eq_true rfl) rfl ?_
  intro p e s m args below meth c ls C0 hl hB
  obtain ⟨hx, hb, hr, hml, hown, hts, hlocks, hname⟩ := C0
  obtain ⟨hP, hK⟩ := hB
  unfold F_X5_best at h
  refine lv_iconst (v := 0) hx hb dX5_best_0 (by decide) ?_
  refine lv_istore_n (lv' := [(2, .int 0), (0, .ref (a0 0)), (1, .int v1)]) hx hb dX5_best_1 rfl hl (by decide) rfl (fun ls hl => ?_)
  refine lv_lconst (v := 0) hx hb dX5_best_2 (by decide) ?_
  refine lv_lstore_n (lv' := [(3, .long 0), (2, .int 0), (0, .ref (a0 0)), (1, .int v1)]) hx hb dX5_best_3 rfl hl (by decide) rfl (fun ls hl => ?_)
  refine lv_iconst (v := 1) hx hb dX5_best_4 (by decide) ?_
  refine lv_istore (lv' := [(5, .int 1), (3, .long 0), (2, .int 0), (0, .ref (a0 0)), (1, .int v1)]) hx hb dX5_best_5 hl (by decide) rfl (fun ls hl => ?_)
  have K7 : ∀ (n7 : Nat) (i2_7 : Int32) (i3_7 : Int64) (i5_7 : Int32) (ls : Array Slot), fx3 (B_X5_best_7 x0 v1) n7 i2_7 i3_7 i5_7 = some r → lv_has ls 12 [(0, .ref (a0 0)), (1, .int v1), (2, .int i2_7), (3, .long i3_7), (5, .int i5_7)] → W p l e ({ frames := 2, cells := 0, slots := 0, locals := 52 } : Room) s m args below meth c s.heap [] 0 0 (MQ below (QRi r) args s 0 0 (fun _ => False)) (F0 m 7 ls []) := by
    intro n7
    induction n7 with
    | zero =>
        intro i2_7 i3_7 i5_7 ls h
        cases h
    | succ n7 ih7 =>
        intro i2_7 i3_7 i5_7 ls h hl
        replace h : B_X5_best_7 x0 v1 (fx3 (B_X5_best_7 x0 v1) n7) i2_7 i3_7 i5_7 = some r := h
        unfold B_X5_best_7 at h
        refine lv_iload hx hb dX5_best_7 (lv_at hl 4 rfl) ?_
        refine lv_aload_n hx hb dX5_best_9 rfl (lv_at hl 0 rfl) ?_
        refine va_get (D := D) (ci := 5) (v := .ref (a0 1)) (C := RX5) (T := TX5) (N := 11) hx hb hts inX5_best_5 hown hK.1 hP 0 rfl rfl 0 (by decide) (hts (.fieldLink RX5 7 "LyingScaleModel" "s" "[I") (List.mem_of_getElem? (i := 1) rfl)) (fun _ h9 => h9) rfl dX5_best_10 ?_
        refine lv_iconst (v := 0) hx hb dX5_best_13 (by decide) ?_
        refine va_iald hx hb hK.1 hP 1 0 rfl rfl (show ¬ ((0 : Int32) < 0 ∨ 176 ≤ Int32.toNatClampNeg 0) from by decide) dX5_best_14 ?_
        refine eqi (congrArg (x0.2 0) (show Int32.toNatClampNeg 0 = 0 from by decide)) ?_
        refine lv_iconst (v := 2) hx hb dX5_best_15 (by decide) ?_
        refine lv_idiv hx hb dX5_best_16 (by decide) ?_
        refine lv_icmp_gt (tgt := 116) hx hb dX5_best_17 (by decide) (fun c1 => ?_) (fun c1 => ?_)
        · replace h := ip c1 h
          refine lv_iload_n hx hb dX5_best_116 rfl (lv_at hl 2 rfl) ?_
          exact W.iret hx hb hr (fun t ht hW => ⟨_, rfl, Option.some.inj h, ht⟩) (fun q hq => absurd hq List.not_mem_nil) dX5_best_117 hlocks
        replace h := im c1 h
        refine lv_iconst (v := 1) hx hb dX5_best_20 (by decide) ?_
        refine lv_iload hx hb dX5_best_21 (lv_at hl 4 rfl) ?_
        refine lv_ishl hx hb dX5_best_23 ?_
        refine lv_iconst (v := 1) hx hb dX5_best_24 (by decide) ?_
        refine lv_isub hx hb dX5_best_25 ?_
        refine lv_istore (lv' := [(6, .int ((1 <<< (i5_7 &&& 31)) - 1)), (0, .ref (a0 0)), (1, .int v1), (2, .int i2_7), (3, .long i3_7), (5, .int i5_7)]) hx hb dX5_best_26 hl (by decide) rfl (fun ls hl => ?_)
        refine lv_lconst (v := 0) hx hb dX5_best_28 (by decide) ?_
        refine lv_lstore (lv' := [(7, .long 0), (6, .int ((1 <<< (i5_7 &&& 31)) - 1)), (0, .ref (a0 0)), (1, .int v1), (2, .int i2_7), (3, .long i3_7), (5, .int i5_7)]) hx hb dX5_best_29 hl (by decide) rfl (fun ls hl => ?_)
        refine lv_iconst (v := 0) hx hb dX5_best_31 (by decide) ?_
        refine lv_istore (lv' := [(9, .int 0), (7, .long 0), (6, .int ((1 <<< (i5_7 &&& 31)) - 1)), (0, .ref (a0 0)), (1, .int v1), (2, .int i2_7), (3, .long i3_7), (5, .int i5_7)]) hx hb dX5_best_32 hl (by decide) rfl (fun ls hl => ?_)
        have K34 : ∀ (n34 : Nat) (i7_34 : Int64) (i9_34 : Int32) (ls : Array Slot), fx2 (B_X5_best_34 x0 v1 i2_7 i3_7 i5_7 (fx3 (B_X5_best_7 x0 v1) n7)) n34 i7_34 i9_34 = some r → lv_has ls 12 [(0, .ref (a0 0)), (1, .int v1), (2, .int i2_7), (3, .long i3_7), (5, .int i5_7), (6, .int ((1 <<< (i5_7 &&& 31)) - 1)), (7, .long i7_34), (9, .int i9_34)] → W p l e ({ frames := 2, cells := 0, slots := 0, locals := 52 } : Room) s m args below meth c s.heap [] 0 0 (MQ below (QRi r) args s 0 0 (fun _ => False)) (F0 m 34 ls []) := by
          intro n34
          induction n34 with
          | zero =>
              intro i7_34 i9_34 ls h
              cases h
          | succ n34 ih34 =>
              intro i7_34 i9_34 ls h hl
              replace h : B_X5_best_34 x0 v1 i2_7 i3_7 i5_7 (fx3 (B_X5_best_7 x0 v1) n7) (fx2 (B_X5_best_34 x0 v1 i2_7 i3_7 i5_7 (fx3 (B_X5_best_7 x0 v1) n7)) n34) i7_34 i9_34 = some r := h
              unfold B_X5_best_34 at h
              refine lv_iload hx hb dX5_best_34 (lv_at hl 7 rfl) ?_
              refine lv_iconst (v := 3) hx hb dX5_best_36 (by decide) ?_
              refine lv_icmp_ge (tgt := 79) hx hb dX5_best_37 (by decide) (fun c2 => ?_) (fun c2 => ?_)
              · replace h := ip c2 h
                refine lv_iload_n hx hb dX5_best_79 rfl (lv_at hl 2 rfl) ?_
                refine lv_if_eq (tgt := 90) hx hb dX5_best_80 (by decide) (fun c3 => ?_) (fun c3 => ?_)
                · replace h := ip c3 h
                  refine lv_iload hx hb dX5_best_90 (lv_at hl 4 rfl) ?_
                  refine lv_goto (tgt := 96) hx hb dX5_best_92 (by decide) ?_
                  refine lv_istore_n (lv' := [(2, .int i5_7), (0, .ref (a0 0)), (1, .int v1), (3, .long i3_7), (5, .int i5_7), (6, .int ((1 <<< (i5_7 &&& 31)) - 1)), (7, .long i7_34), (9, .int i9_34)]) hx hb dX5_best_96 rfl hl (by decide) rfl (fun ls hl => ?_)
                  refine lv_iload_n hx hb dX5_best_97 rfl (lv_at hl 0 rfl) ?_
                  refine lv_iload hx hb dX5_best_98 (lv_at hl 4 rfl) ?_
                  refine lv_icmp_ne (tgt := 108) hx hb dX5_best_100 (by decide) (fun c4 => ?_) (fun c4 => ?_)
                  · replace h := im c4 h
                    refine lv_lload_n hx hb dX5_best_108 rfl (lv_at hl 3 rfl) ?_
                    refine lv_lstore_n (lv' := [(3, .long i3_7), (2, .int i5_7), (0, .ref (a0 0)), (1, .int v1), (5, .int i5_7), (6, .int ((1 <<< (i5_7 &&& 31)) - 1)), (7, .long i7_34), (9, .int i9_34)]) hx hb dX5_best_109 rfl hl (by decide) rfl (fun ls hl => ?_)
                    refine lv_iinc (v := i5_7 + 1) (lv' := [(5, .int (i5_7 + 1)), (3, .long i3_7), (2, .int i5_7), (0, .ref (a0 0)), (1, .int v1), (6, .int ((1 <<< (i5_7 &&& 31)) - 1)), (7, .long i7_34), (9, .int i9_34)]) hx hb dX5_best_110 hl (k := 4) rfl rfl (by decide) rfl (fun ls hl => ?_)
                    refine lv_goto (tgt := 7) hx hb dX5_best_113 (by decide) ?_
                    exact ih7 i5_7 i3_7 (i5_7 + 1) ls h (lv_sub hl [3, 4, 2, 1, 0] rfl)
                  replace h := ip c4 h
                  refine lv_lload hx hb dX5_best_103 (lv_at hl 6 rfl) ?_
                  refine lv_goto (tgt := 109) hx hb dX5_best_105 (by decide) ?_
                  refine lv_lstore_n (lv' := [(3, .long i7_34), (2, .int i5_7), (0, .ref (a0 0)), (1, .int v1), (5, .int i5_7), (6, .int ((1 <<< (i5_7 &&& 31)) - 1)), (7, .long i7_34), (9, .int i9_34)]) hx hb dX5_best_109 rfl hl (by decide) rfl (fun ls hl => ?_)
                  refine lv_iinc (v := i5_7 + 1) (lv' := [(5, .int (i5_7 + 1)), (3, .long i7_34), (2, .int i5_7), (0, .ref (a0 0)), (1, .int v1), (6, .int ((1 <<< (i5_7 &&& 31)) - 1)), (7, .long i7_34), (9, .int i9_34)]) hx hb dX5_best_110 hl (k := 4) rfl rfl (by decide) rfl (fun ls hl => ?_)
                  refine lv_goto (tgt := 7) hx hb dX5_best_113 (by decide) ?_
                  exact ih7 i5_7 i7_34 (i5_7 + 1) ls h (lv_sub hl [3, 4, 2, 1, 0] rfl)
                replace h := im c3 h
                refine lv_lload hx hb dX5_best_83 (lv_at hl 6 rfl) ?_
                refine lv_lload_n hx hb dX5_best_85 rfl (lv_at hl 3 rfl) ?_
                refine W.lcmp hx hb dX5_best_86 ?_
                refine lv_if_ge (tgt := 95) hx hb dX5_best_87 (by decide) (fun c5 => ?_) (fun c5 => ?_)
                · replace h := ip c5 h
                  refine lv_iload_n hx hb dX5_best_95 rfl (lv_at hl 2 rfl) ?_
                  refine lv_istore_n (lv' := [(2, .int i2_7), (0, .ref (a0 0)), (1, .int v1), (3, .long i3_7), (5, .int i5_7), (6, .int ((1 <<< (i5_7 &&& 31)) - 1)), (7, .long i7_34), (9, .int i9_34)]) hx hb dX5_best_96 rfl hl (by decide) rfl (fun ls hl => ?_)
                  refine lv_iload_n hx hb dX5_best_97 rfl (lv_at hl 0 rfl) ?_
                  refine lv_iload hx hb dX5_best_98 (lv_at hl 4 rfl) ?_
                  refine lv_icmp_ne (tgt := 108) hx hb dX5_best_100 (by decide) (fun c6 => ?_) (fun c6 => ?_)
                  · replace h := im c6 h
                    refine lv_lload_n hx hb dX5_best_108 rfl (lv_at hl 3 rfl) ?_
                    refine lv_lstore_n (lv' := [(3, .long i3_7), (2, .int i2_7), (0, .ref (a0 0)), (1, .int v1), (5, .int i5_7), (6, .int ((1 <<< (i5_7 &&& 31)) - 1)), (7, .long i7_34), (9, .int i9_34)]) hx hb dX5_best_109 rfl hl (by decide) rfl (fun ls hl => ?_)
                    refine lv_iinc (v := i5_7 + 1) (lv' := [(5, .int (i5_7 + 1)), (3, .long i3_7), (2, .int i2_7), (0, .ref (a0 0)), (1, .int v1), (6, .int ((1 <<< (i5_7 &&& 31)) - 1)), (7, .long i7_34), (9, .int i9_34)]) hx hb dX5_best_110 hl (k := 4) rfl rfl (by decide) rfl (fun ls hl => ?_)
                    refine lv_goto (tgt := 7) hx hb dX5_best_113 (by decide) ?_
                    exact ih7 i2_7 i3_7 (i5_7 + 1) ls h (lv_sub hl [3, 4, 2, 1, 0] rfl)
                  replace h := ip c6 h
                  refine lv_lload hx hb dX5_best_103 (lv_at hl 6 rfl) ?_
                  refine lv_goto (tgt := 109) hx hb dX5_best_105 (by decide) ?_
                  refine lv_lstore_n (lv' := [(3, .long i7_34), (2, .int i2_7), (0, .ref (a0 0)), (1, .int v1), (5, .int i5_7), (6, .int ((1 <<< (i5_7 &&& 31)) - 1)), (7, .long i7_34), (9, .int i9_34)]) hx hb dX5_best_109 rfl hl (by decide) rfl (fun ls hl => ?_)
                  refine lv_iinc (v := i5_7 + 1) (lv' := [(5, .int (i5_7 + 1)), (3, .long i7_34), (2, .int i2_7), (0, .ref (a0 0)), (1, .int v1), (6, .int ((1 <<< (i5_7 &&& 31)) - 1)), (7, .long i7_34), (9, .int i9_34)]) hx hb dX5_best_110 hl (k := 4) rfl rfl (by decide) rfl (fun ls hl => ?_)
                  refine lv_goto (tgt := 7) hx hb dX5_best_113 (by decide) ?_
                  exact ih7 i2_7 i7_34 (i5_7 + 1) ls h (lv_sub hl [3, 4, 2, 1, 0] rfl)
                replace h := im c5 h
                refine lv_iload hx hb dX5_best_90 (lv_at hl 4 rfl) ?_
                refine lv_goto (tgt := 96) hx hb dX5_best_92 (by decide) ?_
                refine lv_istore_n (lv' := [(2, .int i5_7), (0, .ref (a0 0)), (1, .int v1), (3, .long i3_7), (5, .int i5_7), (6, .int ((1 <<< (i5_7 &&& 31)) - 1)), (7, .long i7_34), (9, .int i9_34)]) hx hb dX5_best_96 rfl hl (by decide) rfl (fun ls hl => ?_)
                refine lv_iload_n hx hb dX5_best_97 rfl (lv_at hl 0 rfl) ?_
                refine lv_iload hx hb dX5_best_98 (lv_at hl 4 rfl) ?_
                refine lv_icmp_ne (tgt := 108) hx hb dX5_best_100 (by decide) (fun c7 => ?_) (fun c7 => ?_)
                · replace h := im c7 h
                  refine lv_lload_n hx hb dX5_best_108 rfl (lv_at hl 3 rfl) ?_
                  refine lv_lstore_n (lv' := [(3, .long i3_7), (2, .int i5_7), (0, .ref (a0 0)), (1, .int v1), (5, .int i5_7), (6, .int ((1 <<< (i5_7 &&& 31)) - 1)), (7, .long i7_34), (9, .int i9_34)]) hx hb dX5_best_109 rfl hl (by decide) rfl (fun ls hl => ?_)
                  refine lv_iinc (v := i5_7 + 1) (lv' := [(5, .int (i5_7 + 1)), (3, .long i3_7), (2, .int i5_7), (0, .ref (a0 0)), (1, .int v1), (6, .int ((1 <<< (i5_7 &&& 31)) - 1)), (7, .long i7_34), (9, .int i9_34)]) hx hb dX5_best_110 hl (k := 4) rfl rfl (by decide) rfl (fun ls hl => ?_)
                  refine lv_goto (tgt := 7) hx hb dX5_best_113 (by decide) ?_
                  exact ih7 i5_7 i3_7 (i5_7 + 1) ls h (lv_sub hl [3, 4, 2, 1, 0] rfl)
                replace h := ip c7 h
                refine lv_lload hx hb dX5_best_103 (lv_at hl 6 rfl) ?_
                refine lv_goto (tgt := 109) hx hb dX5_best_105 (by decide) ?_
                refine lv_lstore_n (lv' := [(3, .long i7_34), (2, .int i5_7), (0, .ref (a0 0)), (1, .int v1), (5, .int i5_7), (6, .int ((1 <<< (i5_7 &&& 31)) - 1)), (7, .long i7_34), (9, .int i9_34)]) hx hb dX5_best_109 rfl hl (by decide) rfl (fun ls hl => ?_)
                refine lv_iinc (v := i5_7 + 1) (lv' := [(5, .int (i5_7 + 1)), (3, .long i7_34), (2, .int i5_7), (0, .ref (a0 0)), (1, .int v1), (6, .int ((1 <<< (i5_7 &&& 31)) - 1)), (7, .long i7_34), (9, .int i9_34)]) hx hb dX5_best_110 hl (k := 4) rfl rfl (by decide) rfl (fun ls hl => ?_)
                refine lv_goto (tgt := 7) hx hb dX5_best_113 (by decide) ?_
                exact ih7 i5_7 i7_34 (i5_7 + 1) ls h (lv_sub hl [3, 4, 2, 1, 0] rfl)
              replace h := im c2 h
              refine lv_aload_n hx hb dX5_best_40 rfl (lv_at hl 0 rfl) ?_
              refine lv_iload hx hb dX5_best_41 (lv_at hl 5 rfl) ?_
              refine lv_iload hx hb dX5_best_43 (lv_at hl 5 rfl) ?_
              refine lv_iload hx hb dX5_best_45 (lv_at hl 4 rfl) ?_
              refine lv_ishl hx hb dX5_best_47 ?_
              refine lv_iload hx hb dX5_best_48 (lv_at hl 7 rfl) ?_
              refine lv_iload_n hx hb dX5_best_50 rfl (lv_at hl 1 rfl) ?_
              replace h := bd h
              obtain ⟨t8, et8, h⟩ := h
              refine callRl (v := t8) (va_runV (As := [.int ((1 <<< (i5_7 &&& 31)) - 1), .int (((1 <<< (i5_7 &&& 31)) - 1) <<< (i5_7 &&& 31)), .int i9_34, .int v1]) (rest := []) ⟨hx, hb, hml, hown, hts⟩ (c_X5_weighs l D T a0 x0 ((1 <<< (i5_7 &&& 31)) - 1) (((1 <<< (i5_7 &&& 31)) - 1) <<< (i5_7 &&& 31)) i9_34 v1 t8 et8) (cwV 4 hts gX5_best_X5_weighs rfl rfl rfl hdV_X5_weighs ⟨Nat.le_of_ble_eq_true rfl, Nat.le_of_ble_eq_true rfl⟩) ⟨PB_blind, va_recv hK.1 hP (ci := 5) (q0 := 0) rfl rfl, PB_at hP hK⟩ rfl rfl hl.1 rfl (lv_room (Nat.le_of_ble_eq_true rfl)) dX5_best_51 ⟨Nat.zero_le _, Nat.zero_le _⟩) ?_
              refine lv_lstore (lv' := [(10, .long t8), (0, .ref (a0 0)), (1, .int v1), (2, .int i2_7), (3, .long i3_7), (5, .int i5_7), (6, .int ((1 <<< (i5_7 &&& 31)) - 1)), (7, .long i7_34), (9, .int i9_34)]) hx hb dX5_best_54 hl (by decide) rfl (fun ls hl => ?_)
              refine lv_lload hx hb dX5_best_56 (lv_at hl 0 rfl) ?_
              refine lv_lload hx hb dX5_best_58 (lv_at hl 7 rfl) ?_
              refine W.lcmp hx hb dX5_best_60 ?_
              refine lv_if_le (tgt := 69) hx hb dX5_best_61 (by decide) (fun c9 => ?_) (fun c9 => ?_)
              · replace h := ip c9 h
                refine lv_lload hx hb dX5_best_69 (lv_at hl 7 rfl) ?_
                refine lv_lstore (lv' := [(7, .long i7_34), (10, .long t8), (0, .ref (a0 0)), (1, .int v1), (2, .int i2_7), (3, .long i3_7), (5, .int i5_7), (6, .int ((1 <<< (i5_7 &&& 31)) - 1)), (9, .int i9_34)]) hx hb dX5_best_71 hl (by decide) rfl (fun ls hl => ?_)
                refine lv_iinc (v := i9_34 + 1) (lv' := [(9, .int (i9_34 + 1)), (7, .long i7_34), (10, .long t8), (0, .ref (a0 0)), (1, .int v1), (2, .int i2_7), (3, .long i3_7), (5, .int i5_7), (6, .int ((1 <<< (i5_7 &&& 31)) - 1))]) hx hb dX5_best_73 hl (k := 8) rfl rfl (by decide) rfl (fun ls hl => ?_)
                refine lv_goto (tgt := 34) hx hb dX5_best_76 (by decide) ?_
                exact ih34 i7_34 (i9_34 + 1) ls h (lv_sub hl [3, 4, 5, 6, 7, 8, 1, 0] rfl)
              replace h := im c9 h
              refine lv_lload hx hb dX5_best_64 (lv_at hl 0 rfl) ?_
              refine lv_goto (tgt := 71) hx hb dX5_best_66 (by decide) ?_
              refine lv_lstore (lv' := [(7, .long t8), (10, .long t8), (0, .ref (a0 0)), (1, .int v1), (2, .int i2_7), (3, .long i3_7), (5, .int i5_7), (6, .int ((1 <<< (i5_7 &&& 31)) - 1)), (9, .int i9_34)]) hx hb dX5_best_71 hl (by decide) rfl (fun ls hl => ?_)
              refine lv_iinc (v := i9_34 + 1) (lv' := [(9, .int (i9_34 + 1)), (7, .long t8), (10, .long t8), (0, .ref (a0 0)), (1, .int v1), (2, .int i2_7), (3, .long i3_7), (5, .int i5_7), (6, .int ((1 <<< (i5_7 &&& 31)) - 1))]) hx hb dX5_best_73 hl (k := 8) rfl rfl (by decide) rfl (fun ls hl => ?_)
              refine lv_goto (tgt := 34) hx hb dX5_best_76 (by decide) ?_
              exact ih34 t8 (i9_34 + 1) ls h (lv_sub hl [3, 4, 5, 6, 7, 8, 1, 0] rfl)
        exact K34 1000 0 0 ls h (lv_sub hl [3, 4, 5, 6, 7, 2, 1, 0] rfl)
  exact K7 1000 0 0 1 ls h (lv_sub hl [3, 4, 2, 1, 0] rfl)
