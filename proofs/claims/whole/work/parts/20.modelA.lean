def F_X5_in (v0 : Int32) (v1 : Int32) (v2 : Int32) : Option (Int32) :=
  if v0 < v1 then (some 0) else (if v2 < v0 then (some 0) else (some 1))
def B_X5_ones_4 (v0 : Int32) (k4 : Int32 → Int32 → Option (Int32)) (i1_4 : Int32) (i2_4 : Int32) : Option (Int32) :=
  if 16 ≤ i2_4 then (some i1_4) else (k4 (i1_4 + ((v0 >>> (i2_4 &&& 31)) &&& 1)) (i2_4 + 1))
def F_X5_ones (v0 : Int32) : Option (Int32) :=
  fx2 (B_X5_ones_4 v0) 1000 0 0
def F_X5_truth (v0 : Int32) (v1 : Int32) (v2 : Int32) : Option (Int32) :=
  if v0 = 0 then (some 2) else (if ((v1 >>> (((v0 - 1) / 2) &&& 31)) &&& 1) = 1 then (some ((v0 - 1) - (v0 - 1) / 2 * 2)) else (if ((v2 >>> (((v0 - 1) / 2) &&& 31)) &&& 1) = 1 then (some (1 - ((v0 - 1) - (v0 - 1) / 2 * 2))) else (some 2)))
def F_X5_volume (v0 : Int32) (v1 : Int32) : Option (Int64) :=
  if v1 ≤ 0 then (if v1 ≤ 1 then (some ((1 + 0) + 0)) else (if v0 ≤ 1 then (some ((1 + 0) + 0)) else (some ((1 + 0) + ((2 * v0.toInt64) * ((v0 - 1).toInt64)))))) else (if v0 ≤ 0 then (if v1 ≤ 1 then (some ((1 + 0) + 0)) else (if v0 ≤ 1 then (some ((1 + 0) + 0)) else (some ((1 + 0) + ((2 * v0.toInt64) * ((v0 - 1).toInt64)))))) else (if v1 ≤ 1 then (some ((1 + (2 * v0.toInt64)) + 0)) else (if v0 ≤ 1 then (some ((1 + (2 * v0.toInt64)) + 0)) else ((some ((1 + (2 * v0.toInt64)) + ((2 * v0.toInt64) * ((v0 - 1).toInt64)))).bind fun t9 => some t9))))
def F_X5_thrown (x0 : St) : Option (Int32) :=
  some (x0.1 1)
def F_X5_fails (x0 : St) (v1 : Int32) : Option (Int32 × St) :=
  some (0, sI x0 1 v1)
def F_X5_tells (x0 : St) (v1 : Int32) : Option (Int32 × St) :=
  some (v1, sI x0 1 0)
def B_X5_begins_2 (k2 : Int32 → St → Option (St)) (i1_2 : Int32) (x0_2 : St) : Option (St) :=
  if 176 ≤ i1_2 then (some x0_2) else (if i1_2 < 0 ∨ 176 ≤ i1_2.toNatClampNeg then none else if i1_2 < 0 ∨ 176 ≤ i1_2.toNatClampNeg then none else (some (sA x0_2 2 (upd (x0_2.2 2) i1_2.toNatClampNeg ((x0_2.2 0) i1_2.toNatClampNeg)))).bind fun y4 => k2 (i1_2 + 1) y4)
def F_X5_begins (x0 : St) : Option (St) :=
  fx2 (B_X5_begins_2) 1000 0 x0
def B_X5_saved_51 (v1 : Int32) (k51 : Int32 → St → Option (Int32 × St)) (i2_51 : Int32) (x0_51 : St) : Option (Int32 × St) :=
  if 176 ≤ i2_51 then ((F_X5_tells (sI x0_51 0 ((x0_51.1 0) + 1)) v1).bind fun t3 => some (t3.1, t3.2)) else (if i2_51 < 0 ∨ 176 ≤ i2_51.toNatClampNeg then none else if ((176 * (x0_51.1 0)) + i2_51) < 0 ∨ 704 ≤ ((176 * (x0_51.1 0)) + i2_51).toNatClampNeg then none else (some (sA x0_51 1 (upd (x0_51.2 1) ((176 * (x0_51.1 0)) + i2_51).toNatClampNeg ((x0_51.2 2) i2_51.toNatClampNeg)))).bind fun y6 => k51 (i2_51 + 1) y6)
def B_X5_saved_51b (v1 : Int32) (k51 : Int32 → St → Option (Int32 × St)) (i2_51 : Int32) (x0_51 : St) : Option (Int32 × St) :=
  if 176 ≤ i2_51 then ((F_X5_tells (sI x0_51 0 ((x0_51.1 0) + 1)) v1).bind fun t9 => some (t9.1, t9.2)) else (if i2_51 < 0 ∨ 176 ≤ i2_51.toNatClampNeg then none else if ((176 * (x0_51.1 0)) + i2_51) < 0 ∨ 704 ≤ ((176 * (x0_51.1 0)) + i2_51).toNatClampNeg then none else (some (sA x0_51 1 (upd (x0_51.2 1) ((176 * (x0_51.1 0)) + i2_51).toNatClampNeg ((x0_51.2 2) i2_51.toNatClampNeg)))).bind fun y12 => k51 (i2_51 + 1) y12)
def B_X5_saved_10 (v1 : Int32) (k10 : Int32 → St → Option (Int32 × St)) (i2_10 : Int32) (x0_10 : St) : Option (Int32 × St) :=
  if 528 ≤ i2_10 then (fx2 (B_X5_saved_51b v1) 1000 0 (sI x0_10 0 ((x0_10.1 0) - 1))) else (if (i2_10 + 176) < 0 ∨ 704 ≤ (i2_10 + 176).toNatClampNeg then none else if i2_10 < 0 ∨ 704 ≤ i2_10.toNatClampNeg then none else (some (sA x0_10 1 (upd (x0_10.2 1) i2_10.toNatClampNeg ((x0_10.2 1) (i2_10 + 176).toNatClampNeg)))).bind fun y15 => k10 (i2_10 + 1) y15)
def F_X5_saved (x0 : St) (v1 : Int32) : Option (Int32 × St) :=
  if (x0.1 0) = 4 then (fx2 (B_X5_saved_10 v1) 1000 0 x0) else (fx2 (B_X5_saved_51 v1) 1000 0 x0)
def B_X5_sets_2 (v1 : Int32) (k2 : Int32 → St → Option (St)) (i2_2 : Int32) (x0_2 : St) : Option (St) :=
  if 176 ≤ i2_2 then ((some (sA (sA x0_2 0 (upd (x0_2.2 0) 0 v1)) 0 (upd ((sA x0_2 0 (upd (x0_2.2 0) 0 v1)).2 0) 1 1))).bind fun y2 => some (sA y2 0 (upd (y2.2 0) 4 ((-1))))) else (if i2_2 < 0 ∨ 176 ≤ i2_2.toNatClampNeg then none else (some (sA x0_2 0 (upd (x0_2.2 0) i2_2.toNatClampNeg 0))).bind fun y4 => k2 (i2_2 + 1) y4)
def F_X5_sets (x0 : St) (v1 : Int32) : Option (St) :=
  fx2 (B_X5_sets_2 v1) 1000 0 x0
def F_X5_cases (x0 : St) : Option (Int32) :=
  some ((2 * ((x0.2 0) 0)) + 1)
def F_X5_isCase (x0 : St) (v1 : Int32) : Option (Int32) :=
  (F_X5_cases x0).bind fun t1 => (F_X5_in v1 0 (t1 - 1)).bind fun t2 => if ¬ t2 &&& 1 = t2 then none else some t2
def F_X5_areSides (x0 : St) (v1 : Int32) (v2 : Int32) : Option (Int32) :=
  (F_X5_in v1 1 ((1 <<< (((x0.2 0) 0) &&& 31)) - 1)).bind fun t1 => if t1 = 0 then (some 0) else ((F_X5_in v2 1 ((1 <<< (((x0.2 0) 0) &&& 31)) - 1)).bind fun t3 => if t3 = 0 then (some 0) else (if (v1 &&& v2) = 0 then ((F_X5_ones v1).bind fun t6 => (F_X5_ones v2).bind fun t7 => if t6 = t7 then (some 1) else (some 0)) else (some 0)))
def F_X5_isLeft (x0 : St) (v1 : Int32) : Option (Int32) :=
  if (143 + v1) < 0 ∨ 176 ≤ (143 + v1).toNatClampNeg then none else if ((x0.2 0) 1) < ((x0.2 0) (143 + v1).toNatClampNeg) then (some 0) else (some 1)
def B_X5_lefts_4 (x0 : St) (k4 : Int32 → Int32 → Option (Int32)) (i1_4 : Int32) (i2_4 : Int32) : Option (Int32) :=
  (F_X5_cases x0).bind fun t1 => if t1 ≤ i2_4 then (some i1_4) else ((F_X5_isLeft x0 i2_4).bind fun t3 => if t3 = 0 then (k4 (i1_4 + 0) (i2_4 + 1)) else (k4 (i1_4 + 1) (i2_4 + 1)))
def F_X5_lefts (x0 : St) : Option (Int32) :=
  fx2 (B_X5_lefts_4 x0) 1000 0 0
def F_X5_begin (x0 : St) (v1 : Int32) : Option (Int32 × St) :=
  (F_X5_in v1 2 16).bind fun t1 => if t1 = 0 then ((F_X5_fails x0 1).bind fun t6 => some (t6.1, t6.2)) else ((F_X5_begins x0).bind fun t3 => (F_X5_sets t3 v1).bind fun t4 => (F_X5_saved t4 ((t3.2 0) 2)).bind fun t5 => some (t5.1, t5.2))
def F_X5_setLimit (x0 : St) (v1 : Int32) : Option (Int32 × St) :=
  (F_X5_in v1 0 2).bind fun t1 => if t1 = 0 then ((F_X5_fails x0 1).bind fun t6 => some (t6.1, t6.2)) else ((F_X5_begins x0).bind fun t3 => (F_X5_lefts (sA t3 0 (upd (t3.2 0) 1 v1))).bind fun t4 => (F_X5_saved (sA t3 0 (upd (t3.2 0) 1 v1)) t4).bind fun t5 => some (t5.1, t5.2))
def B_X5_lays_54 (v1 : Int32) (v2 : Int32) (v3 : Int32) (k54 : Int32 → St → Option (St)) (i5_54 : Int32) (x0_54 : St) : Option (St) :=
  (F_X5_cases x0_54).bind fun t8 => if t8 ≤ i5_54 then (some x0_54) else (if (143 + i5_54) < 0 ∨ 176 ≤ (143 + i5_54).toNatClampNeg then none else (F_X5_truth i5_54 v1 v2).bind fun t11 => if t11 = v3 then (if (143 + i5_54) < 0 ∨ 176 ≤ (143 + i5_54).toNatClampNeg then none else (some (sA x0_54 0 (upd (x0_54.2 0) (143 + i5_54).toNatClampNeg (((x0_54.2 0) (143 + i5_54).toNatClampNeg) + 0)))).bind fun y16 => k54 (i5_54 + 1) y16) else (if (143 + i5_54) < 0 ∨ 176 ≤ (143 + i5_54).toNatClampNeg then none else (some (sA x0_54 0 (upd (x0_54.2 0) (143 + i5_54).toNatClampNeg (((x0_54.2 0) (143 + i5_54).toNatClampNeg) + 1)))).bind fun y14 => k54 (i5_54 + 1) y14))
def F_X5_lays (x0 : St) (v1 : Int32) (v2 : Int32) (v3 : Int32) : Option (St) :=
  if (7 + (3 * ((x0.2 0) 2))) < 0 ∨ 176 ≤ (7 + (3 * ((x0.2 0) 2))).toNatClampNeg then none else (some (sA x0 0 (upd (x0.2 0) (7 + (3 * ((x0.2 0) 2))).toNatClampNeg v1))).bind fun y2 => if ((7 + (3 * ((x0.2 0) 2))) + 1) < 0 ∨ 176 ≤ ((7 + (3 * ((x0.2 0) 2))) + 1).toNatClampNeg then none else (some (sA y2 0 (upd (y2.2 0) ((7 + (3 * ((x0.2 0) 2))) + 1).toNatClampNeg v2))).bind fun y4 => if ((7 + (3 * ((x0.2 0) 2))) + 2) < 0 ∨ 176 ≤ ((7 + (3 * ((x0.2 0) 2))) + 2).toNatClampNeg then none else (some (sA y4 0 (upd (y4.2 0) ((7 + (3 * ((x0.2 0) 2))) + 2).toNatClampNeg v3))).bind fun y6 => (some (sA y6 0 (upd (y6.2 0) 2 (((y6.2 0) 2) + 1)))).bind fun y7 => fx2 (B_X5_lays_54 v1 v2 v3) 1000 0 y7
def F_X5_whyNotTell (x0 : St) (v1 : Int32) (v2 : Int32) (v3 : Int32) : Option (Int32) :=
  (F_X5_areSides x0 v1 v2).bind fun t1 => if t1 = 0 then (some 1) else ((F_X5_in v3 0 2).bind fun t3 => if t3 = 0 then (some 1) else (if ((x0.2 0) 2) = 40 then (some 2) else (some 0)))
def F_X5_tell (x0 : St) (v1 : Int32) (v2 : Int32) (v3 : Int32) : Option (Int32 × St) :=
  (F_X5_whyNotTell x0 v1 v2 v3).bind fun t1 => if t1 ≤ 0 then ((F_X5_begins x0).bind fun t3 => (F_X5_lays t3 v1 v2 v3).bind fun t4 => (F_X5_lefts t4).bind fun t5 => (F_X5_saved t4 t5).bind fun t6 => some (t6.1, t6.2)) else ((F_X5_fails x0 t1).bind fun t7 => some (t7.1, t7.2))
def B_X5_forget_20 (t1 : St) (k20 : Int32 → St → Option (Int32 × St)) (i2_20 : Int32) (x0_20 : St) : Option (Int32 × St) :=
  if 33 ≤ i2_20 then ((F_X5_saved x0_20 ((t1.2 0) 2)).bind fun t3 => some (t3.1, t3.2)) else (if (143 + i2_20) < 0 ∨ 176 ≤ (143 + i2_20).toNatClampNeg then none else (some (sA x0_20 0 (upd (x0_20.2 0) (143 + i2_20).toNatClampNeg 0))).bind fun y5 => k20 (i2_20 + 1) y5)
def F_X5_forget (x0 : St) : Option (Int32 × St) :=
  (F_X5_begins x0).bind fun t1 => fx2 (B_X5_forget_20 t1) 1000 0 (sA t1 0 (upd (t1.2 0) 2 0))
def F_X5_hide (x0 : St) (v1 : Int32) (v2 : Int32) : Option (Int32 × St) :=
  (F_X5_isCase x0 v1).bind fun t1 => if t1 = 0 then ((F_X5_fails x0 1).bind fun t9 => some (t9.1, t9.2)) else ((F_X5_in v2 0 1073741823).bind fun t3 => if t3 = 0 then ((F_X5_fails x0 2).bind fun t8 => some (t8.1, t8.2)) else ((F_X5_begins x0).bind fun t5 => (some (sA (sA t5 0 (upd (t5.2 0) 4 v1)) 0 (upd ((sA t5 0 (upd (t5.2 0) 4 v1)).2 0) 6 v2))).bind fun y6 => (F_X5_saved (sA y6 0 (upd (y6.2 0) 5 0)) ((t5.2 0) 4)).bind fun t7 => some (t7.1, t7.2)))
theorem hdS_X5_in : yX5_in.cls ≠ "java/lang/invoke/MethodHandle" ∧ yX5_in.cls ≠ "java/lang/invoke/VarHandle" ∧ (parseMethodDescriptor yX5_in.desc).map (fun d => d.parameters.length) = some 3 := by decide +kernel
theorem hdV_X5_in : yX5_in.cls = RX5 ∧ yX5_in.cls ≠ "java/lang/invoke/MethodHandle" ∧ yX5_in.cls ≠ "java/lang/invoke/VarHandle" ∧ (parseMethodDescriptor yX5_in.desc).map (fun d => d.parameters.length) = some 3 := by decide +kernel
theorem hdS_X5_ones : yX5_ones.cls ≠ "java/lang/invoke/MethodHandle" ∧ yX5_ones.cls ≠ "java/lang/invoke/VarHandle" ∧ (parseMethodDescriptor yX5_ones.desc).map (fun d => d.parameters.length) = some 1 := by decide +kernel
theorem hdV_X5_ones : yX5_ones.cls = RX5 ∧ yX5_ones.cls ≠ "java/lang/invoke/MethodHandle" ∧ yX5_ones.cls ≠ "java/lang/invoke/VarHandle" ∧ (parseMethodDescriptor yX5_ones.desc).map (fun d => d.parameters.length) = some 1 := by decide +kernel
theorem hdS_X5_truth : yX5_truth.cls ≠ "java/lang/invoke/MethodHandle" ∧ yX5_truth.cls ≠ "java/lang/invoke/VarHandle" ∧ (parseMethodDescriptor yX5_truth.desc).map (fun d => d.parameters.length) = some 3 := by decide +kernel
theorem hdV_X5_truth : yX5_truth.cls = RX5 ∧ yX5_truth.cls ≠ "java/lang/invoke/MethodHandle" ∧ yX5_truth.cls ≠ "java/lang/invoke/VarHandle" ∧ (parseMethodDescriptor yX5_truth.desc).map (fun d => d.parameters.length) = some 3 := by decide +kernel
theorem hdS_X5_volume : yX5_volume.cls ≠ "java/lang/invoke/MethodHandle" ∧ yX5_volume.cls ≠ "java/lang/invoke/VarHandle" ∧ (parseMethodDescriptor yX5_volume.desc).map (fun d => d.parameters.length) = some 2 := by decide +kernel
theorem hdV_X5_volume : yX5_volume.cls = RX5 ∧ yX5_volume.cls ≠ "java/lang/invoke/MethodHandle" ∧ yX5_volume.cls ≠ "java/lang/invoke/VarHandle" ∧ (parseMethodDescriptor yX5_volume.desc).map (fun d => d.parameters.length) = some 2 := by decide +kernel
theorem inX5_thrown_5 : ∀ w ∈ u_ws RX5 TX5 11, w ∈ wsX5_thrown := by decide +kernel
theorem hdS_X5_thrown : yX5_thrown.cls ≠ "java/lang/invoke/MethodHandle" ∧ yX5_thrown.cls ≠ "java/lang/invoke/VarHandle" ∧ (parseMethodDescriptor yX5_thrown.desc).map (fun d => d.parameters.length) = some 0 := by decide +kernel
theorem hdV_X5_thrown : yX5_thrown.cls = RX5 ∧ yX5_thrown.cls ≠ "java/lang/invoke/MethodHandle" ∧ yX5_thrown.cls ≠ "java/lang/invoke/VarHandle" ∧ (parseMethodDescriptor yX5_thrown.desc).map (fun d => d.parameters.length) = some 0 := by decide +kernel
theorem inX5_fails_5 : ∀ w ∈ u_ws RX5 TX5 11, w ∈ wsX5_fails := by decide +kernel
theorem hdS_X5_fails : yX5_fails.cls ≠ "java/lang/invoke/MethodHandle" ∧ yX5_fails.cls ≠ "java/lang/invoke/VarHandle" ∧ (parseMethodDescriptor yX5_fails.desc).map (fun d => d.parameters.length) = some 1 := by decide +kernel
theorem hdV_X5_fails : yX5_fails.cls = RX5 ∧ yX5_fails.cls ≠ "java/lang/invoke/MethodHandle" ∧ yX5_fails.cls ≠ "java/lang/invoke/VarHandle" ∧ (parseMethodDescriptor yX5_fails.desc).map (fun d => d.parameters.length) = some 1 := by decide +kernel
theorem inX5_tells_5 : ∀ w ∈ u_ws RX5 TX5 11, w ∈ wsX5_tells := by decide +kernel
theorem hdS_X5_tells : yX5_tells.cls ≠ "java/lang/invoke/MethodHandle" ∧ yX5_tells.cls ≠ "java/lang/invoke/VarHandle" ∧ (parseMethodDescriptor yX5_tells.desc).map (fun d => d.parameters.length) = some 1 := by decide +kernel
theorem hdV_X5_tells : yX5_tells.cls = RX5 ∧ yX5_tells.cls ≠ "java/lang/invoke/MethodHandle" ∧ yX5_tells.cls ≠ "java/lang/invoke/VarHandle" ∧ (parseMethodDescriptor yX5_tells.desc).map (fun d => d.parameters.length) = some 1 := by decide +kernel
theorem inX5_begins_5 : ∀ w ∈ u_ws RX5 TX5 11, w ∈ wsX5_begins := by decide +kernel
theorem hdS_X5_begins : yX5_begins.cls ≠ "java/lang/invoke/MethodHandle" ∧ yX5_begins.cls ≠ "java/lang/invoke/VarHandle" ∧ (parseMethodDescriptor yX5_begins.desc).map (fun d => d.parameters.length) = some 0 := by decide +kernel
theorem hdV_X5_begins : yX5_begins.cls = RX5 ∧ yX5_begins.cls ≠ "java/lang/invoke/MethodHandle" ∧ yX5_begins.cls ≠ "java/lang/invoke/VarHandle" ∧ (parseMethodDescriptor yX5_begins.desc).map (fun d => d.parameters.length) = some 0 := by decide +kernel
theorem inX5_saved_5 : ∀ w ∈ u_ws RX5 TX5 11, w ∈ wsX5_saved := by decide +kernel
theorem hdS_X5_saved : yX5_saved.cls ≠ "java/lang/invoke/MethodHandle" ∧ yX5_saved.cls ≠ "java/lang/invoke/VarHandle" ∧ (parseMethodDescriptor yX5_saved.desc).map (fun d => d.parameters.length) = some 1 := by decide +kernel
theorem hdV_X5_saved : yX5_saved.cls = RX5 ∧ yX5_saved.cls ≠ "java/lang/invoke/MethodHandle" ∧ yX5_saved.cls ≠ "java/lang/invoke/VarHandle" ∧ (parseMethodDescriptor yX5_saved.desc).map (fun d => d.parameters.length) = some 1 := by decide +kernel
theorem inX5_sets_5 : ∀ w ∈ u_ws RX5 TX5 11, w ∈ wsX5_sets := by decide +kernel
theorem hdS_X5_sets : yX5_sets.cls ≠ "java/lang/invoke/MethodHandle" ∧ yX5_sets.cls ≠ "java/lang/invoke/VarHandle" ∧ (parseMethodDescriptor yX5_sets.desc).map (fun d => d.parameters.length) = some 1 := by decide +kernel
theorem hdV_X5_sets : yX5_sets.cls = RX5 ∧ yX5_sets.cls ≠ "java/lang/invoke/MethodHandle" ∧ yX5_sets.cls ≠ "java/lang/invoke/VarHandle" ∧ (parseMethodDescriptor yX5_sets.desc).map (fun d => d.parameters.length) = some 1 := by decide +kernel
theorem inX5_cases_5 : ∀ w ∈ u_ws RX5 TX5 11, w ∈ wsX5_cases := by decide +kernel
theorem hdS_X5_cases : yX5_cases.cls ≠ "java/lang/invoke/MethodHandle" ∧ yX5_cases.cls ≠ "java/lang/invoke/VarHandle" ∧ (parseMethodDescriptor yX5_cases.desc).map (fun d => d.parameters.length) = some 0 := by decide +kernel
theorem hdV_X5_cases : yX5_cases.cls = RX5 ∧ yX5_cases.cls ≠ "java/lang/invoke/MethodHandle" ∧ yX5_cases.cls ≠ "java/lang/invoke/VarHandle" ∧ (parseMethodDescriptor yX5_cases.desc).map (fun d => d.parameters.length) = some 0 := by decide +kernel
theorem hdS_X5_isCase : yX5_isCase.cls ≠ "java/lang/invoke/MethodHandle" ∧ yX5_isCase.cls ≠ "java/lang/invoke/VarHandle" ∧ (parseMethodDescriptor yX5_isCase.desc).map (fun d => d.parameters.length) = some 1 := by decide +kernel
theorem hdV_X5_isCase : yX5_isCase.cls = RX5 ∧ yX5_isCase.cls ≠ "java/lang/invoke/MethodHandle" ∧ yX5_isCase.cls ≠ "java/lang/invoke/VarHandle" ∧ (parseMethodDescriptor yX5_isCase.desc).map (fun d => d.parameters.length) = some 1 := by decide +kernel
theorem inX5_areSides_5 : ∀ w ∈ u_ws RX5 TX5 11, w ∈ wsX5_areSides := by decide +kernel
theorem hdS_X5_areSides : yX5_areSides.cls ≠ "java/lang/invoke/MethodHandle" ∧ yX5_areSides.cls ≠ "java/lang/invoke/VarHandle" ∧ (parseMethodDescriptor yX5_areSides.desc).map (fun d => d.parameters.length) = some 2 := by decide +kernel
theorem hdV_X5_areSides : yX5_areSides.cls = RX5 ∧ yX5_areSides.cls ≠ "java/lang/invoke/MethodHandle" ∧ yX5_areSides.cls ≠ "java/lang/invoke/VarHandle" ∧ (parseMethodDescriptor yX5_areSides.desc).map (fun d => d.parameters.length) = some 2 := by decide +kernel
theorem inX5_isLeft_5 : ∀ w ∈ u_ws RX5 TX5 11, w ∈ wsX5_isLeft := by decide +kernel
theorem hdS_X5_isLeft : yX5_isLeft.cls ≠ "java/lang/invoke/MethodHandle" ∧ yX5_isLeft.cls ≠ "java/lang/invoke/VarHandle" ∧ (parseMethodDescriptor yX5_isLeft.desc).map (fun d => d.parameters.length) = some 1 := by decide +kernel
theorem hdV_X5_isLeft : yX5_isLeft.cls = RX5 ∧ yX5_isLeft.cls ≠ "java/lang/invoke/MethodHandle" ∧ yX5_isLeft.cls ≠ "java/lang/invoke/VarHandle" ∧ (parseMethodDescriptor yX5_isLeft.desc).map (fun d => d.parameters.length) = some 1 := by decide +kernel
theorem hdS_X5_lefts : yX5_lefts.cls ≠ "java/lang/invoke/MethodHandle" ∧ yX5_lefts.cls ≠ "java/lang/invoke/VarHandle" ∧ (parseMethodDescriptor yX5_lefts.desc).map (fun d => d.parameters.length) = some 0 := by decide +kernel
theorem hdV_X5_lefts : yX5_lefts.cls = RX5 ∧ yX5_lefts.cls ≠ "java/lang/invoke/MethodHandle" ∧ yX5_lefts.cls ≠ "java/lang/invoke/VarHandle" ∧ (parseMethodDescriptor yX5_lefts.desc).map (fun d => d.parameters.length) = some 0 := by decide +kernel
theorem inX5_begin_5 : ∀ w ∈ u_ws RX5 TX5 11, w ∈ wsX5_begin := by decide +kernel
theorem hdS_X5_begin : yX5_begin.cls ≠ "java/lang/invoke/MethodHandle" ∧ yX5_begin.cls ≠ "java/lang/invoke/VarHandle" ∧ (parseMethodDescriptor yX5_begin.desc).map (fun d => d.parameters.length) = some 1 := by decide +kernel
theorem hdV_X5_begin : yX5_begin.cls = RX5 ∧ yX5_begin.cls ≠ "java/lang/invoke/MethodHandle" ∧ yX5_begin.cls ≠ "java/lang/invoke/VarHandle" ∧ (parseMethodDescriptor yX5_begin.desc).map (fun d => d.parameters.length) = some 1 := by decide +kernel
theorem inX5_setLimit_5 : ∀ w ∈ u_ws RX5 TX5 11, w ∈ wsX5_setLimit := by decide +kernel
theorem hdS_X5_setLimit : yX5_setLimit.cls ≠ "java/lang/invoke/MethodHandle" ∧ yX5_setLimit.cls ≠ "java/lang/invoke/VarHandle" ∧ (parseMethodDescriptor yX5_setLimit.desc).map (fun d => d.parameters.length) = some 1 := by decide +kernel
theorem hdV_X5_setLimit : yX5_setLimit.cls = RX5 ∧ yX5_setLimit.cls ≠ "java/lang/invoke/MethodHandle" ∧ yX5_setLimit.cls ≠ "java/lang/invoke/VarHandle" ∧ (parseMethodDescriptor yX5_setLimit.desc).map (fun d => d.parameters.length) = some 1 := by decide +kernel
theorem inX5_lays_5 : ∀ w ∈ u_ws RX5 TX5 11, w ∈ wsX5_lays := by decide +kernel
theorem hdS_X5_lays : yX5_lays.cls ≠ "java/lang/invoke/MethodHandle" ∧ yX5_lays.cls ≠ "java/lang/invoke/VarHandle" ∧ (parseMethodDescriptor yX5_lays.desc).map (fun d => d.parameters.length) = some 3 := by decide +kernel
theorem hdV_X5_lays : yX5_lays.cls = RX5 ∧ yX5_lays.cls ≠ "java/lang/invoke/MethodHandle" ∧ yX5_lays.cls ≠ "java/lang/invoke/VarHandle" ∧ (parseMethodDescriptor yX5_lays.desc).map (fun d => d.parameters.length) = some 3 := by decide +kernel
theorem inX5_whyNotTell_5 : ∀ w ∈ u_ws RX5 TX5 11, w ∈ wsX5_whyNotTell := by decide +kernel
theorem hdS_X5_whyNotTell : yX5_whyNotTell.cls ≠ "java/lang/invoke/MethodHandle" ∧ yX5_whyNotTell.cls ≠ "java/lang/invoke/VarHandle" ∧ (parseMethodDescriptor yX5_whyNotTell.desc).map (fun d => d.parameters.length) = some 3 := by decide +kernel
theorem hdV_X5_whyNotTell : yX5_whyNotTell.cls = RX5 ∧ yX5_whyNotTell.cls ≠ "java/lang/invoke/MethodHandle" ∧ yX5_whyNotTell.cls ≠ "java/lang/invoke/VarHandle" ∧ (parseMethodDescriptor yX5_whyNotTell.desc).map (fun d => d.parameters.length) = some 3 := by decide +kernel
theorem hdS_X5_tell : yX5_tell.cls ≠ "java/lang/invoke/MethodHandle" ∧ yX5_tell.cls ≠ "java/lang/invoke/VarHandle" ∧ (parseMethodDescriptor yX5_tell.desc).map (fun d => d.parameters.length) = some 3 := by decide +kernel
theorem hdV_X5_tell : yX5_tell.cls = RX5 ∧ yX5_tell.cls ≠ "java/lang/invoke/MethodHandle" ∧ yX5_tell.cls ≠ "java/lang/invoke/VarHandle" ∧ (parseMethodDescriptor yX5_tell.desc).map (fun d => d.parameters.length) = some 3 := by decide +kernel
theorem inX5_forget_5 : ∀ w ∈ u_ws RX5 TX5 11, w ∈ wsX5_forget := by decide +kernel
theorem hdS_X5_forget : yX5_forget.cls ≠ "java/lang/invoke/MethodHandle" ∧ yX5_forget.cls ≠ "java/lang/invoke/VarHandle" ∧ (parseMethodDescriptor yX5_forget.desc).map (fun d => d.parameters.length) = some 0 := by decide +kernel
theorem hdV_X5_forget : yX5_forget.cls = RX5 ∧ yX5_forget.cls ≠ "java/lang/invoke/MethodHandle" ∧ yX5_forget.cls ≠ "java/lang/invoke/VarHandle" ∧ (parseMethodDescriptor yX5_forget.desc).map (fun d => d.parameters.length) = some 0 := by decide +kernel
theorem inX5_hide_5 : ∀ w ∈ u_ws RX5 TX5 11, w ∈ wsX5_hide := by decide +kernel
theorem hdS_X5_hide : yX5_hide.cls ≠ "java/lang/invoke/MethodHandle" ∧ yX5_hide.cls ≠ "java/lang/invoke/VarHandle" ∧ (parseMethodDescriptor yX5_hide.desc).map (fun d => d.parameters.length) = some 2 := by decide +kernel
theorem hdV_X5_hide : yX5_hide.cls = RX5 ∧ yX5_hide.cls ≠ "java/lang/invoke/MethodHandle" ∧ yX5_hide.cls ≠ "java/lang/invoke/VarHandle" ∧ (parseMethodDescriptor yX5_hide.desc).map (fun d => d.parameters.length) = some 2 := by decide +kernel
set_option maxHeartbeats 4000000 in
set_option maxRecDepth 100000 in
theorem c_X5_in (l : Launch) (D : va_G) (T : Nat → ClassId) (v0 : Int32) (v1 : Int32) (v2 : Int32) (r : Int32) (h : F_X5_in v0 v1 v2 = some r) : Met l yX5_in wsX5_in ({ frames := 0, cells := 0, slots := 0, locals := 0 } : Room) (va_Pc [.int v0, .int v1, .int v2] (PB D T (([] : va_W)))) (QRi r) 0 0 (fun _ => False) := by
  refine met_of (cc := cX5_in) (maxL := 3) (ret := (some .boolean)) (lv := [(0, .int v0), (1, .int v1), (2, .int v2)]) (by decide) rfl (Nat.le_of_ble_eq_true rfl) rfl ?_
  intro p e s m args below meth c ls C0 hl hB
  obtain ⟨hx, hb, hr, hml, hown, hts, hlocks, hname⟩ := C0
  obtain ⟨hP, hK⟩ := hB
  unfold F_X5_in at h
  refine lv_iload_n hx hb dX5_in_0 rfl (lv_at hl 0 rfl) ?_
  refine lv_iload_n hx hb dX5_in_1 rfl (lv_at hl 1 rfl) ?_
  refine lv_icmp_lt (tgt := 14) hx hb dX5_in_2 (by decide) (fun c1 => ?_) (fun c1 => ?_)
  · replace h := ip c1 h
    refine lv_iconst (v := 0) hx hb dX5_in_14 (by decide) ?_
    exact W.zret hx hb hr rfl (fun t ht hW => ⟨_, rfl, Option.some.inj h, ht⟩) (fun q hq => absurd hq List.not_mem_nil) dX5_in_15 hlocks
  replace h := im c1 h
  refine lv_iload_n hx hb dX5_in_5 rfl (lv_at hl 0 rfl) ?_
  refine lv_iload_n hx hb dX5_in_6 rfl (lv_at hl 2 rfl) ?_
  refine lv_icmp_gt (tgt := 14) hx hb dX5_in_7 (by decide) (fun c2 => ?_) (fun c2 => ?_)
  · replace h := ip c2 h
    refine lv_iconst (v := 0) hx hb dX5_in_14 (by decide) ?_
    exact W.zret hx hb hr rfl (fun t ht hW => ⟨_, rfl, Option.some.inj h, ht⟩) (fun q hq => absurd hq List.not_mem_nil) dX5_in_15 hlocks
  replace h := im c2 h
  refine lv_iconst (v := 1) hx hb dX5_in_10 (by decide) ?_
  refine lv_goto (tgt := 15) hx hb dX5_in_11 (by decide) ?_
  exact W.zret hx hb hr rfl (fun t ht hW => ⟨_, rfl, Option.some.inj h, ht⟩) (fun q hq => absurd hq List.not_mem_nil) dX5_in_15 hlocks
set_option maxHeartbeats 4000000 in
set_option maxRecDepth 100000 in
theorem c_X5_ones (l : Launch) (D : va_G) (T : Nat → ClassId) (v0 : Int32) (r : Int32) (h : F_X5_ones v0 = some r) : Met l yX5_ones wsX5_ones ({ frames := 0, cells := 0, slots := 0, locals := 0 } : Room) (va_Pc [.int v0] (PB D T (([] : va_W)))) (QRi r) 0 0 (fun _ => False) := by
  refine met_of (cc := cX5_ones) (maxL := 3) (ret := (some .int)) (lv := [(0, .int v0)]) (by decide) rfl (Nat.le_of_ble_eq_true rfl) rfl ?_
  intro p e s m args below meth c ls C0 hl hB
  obtain ⟨hx, hb, hr, hml, hown, hts, hlocks, hname⟩ := C0
  obtain ⟨hP, hK⟩ := hB
  unfold F_X5_ones at h
  refine lv_iconst (v := 0) hx hb dX5_ones_0 (by decide) ?_
  refine lv_istore_n (lv' := [(1, .int 0), (0, .int v0)]) hx hb dX5_ones_1 rfl hl (by decide) rfl (fun ls hl => ?_)
  refine lv_iconst (v := 0) hx hb dX5_ones_2 (by decide) ?_
  refine lv_istore_n (lv' := [(2, .int 0), (1, .int 0), (0, .int v0)]) hx hb dX5_ones_3 rfl hl (by decide) rfl (fun ls hl => ?_)
  have K4 : ∀ (n4 : Nat) (i1_4 : Int32) (i2_4 : Int32) (ls : Array Slot), fx2 (B_X5_ones_4 v0) n4 i1_4 i2_4 = some r → lv_has ls 3 [(0, .int v0), (1, .int i1_4), (2, .int i2_4)] → W p l e ({ frames := 0, cells := 0, slots := 0, locals := 0 } : Room) s m args below meth c s.heap [] 0 0 (MQ below (QRi r) args s 0 0 (fun _ => False)) (F0 m 4 ls []) := by
    intro n4
    induction n4 with
    | zero =>
        intro i1_4 i2_4 ls h
        cases h
    | succ n4 ih4 =>
        intro i1_4 i2_4 ls h hl
        replace h : B_X5_ones_4 v0 (fx2 (B_X5_ones_4 v0) n4) i1_4 i2_4 = some r := h
        unfold B_X5_ones_4 at h
        refine lv_iload_n hx hb dX5_ones_4 rfl (lv_at hl 2 rfl) ?_
        refine lv_bipush (v := 16) hx hb dX5_ones_5 (by decide) ?_
        refine lv_icmp_ge (tgt := 24) hx hb dX5_ones_7 (by decide) (fun c1 => ?_) (fun c1 => ?_)
        · replace h := ip c1 h
          refine lv_iload_n hx hb dX5_ones_24 rfl (lv_at hl 1 rfl) ?_
          exact W.iret hx hb hr (fun t ht hW => ⟨_, rfl, Option.some.inj h, ht⟩) (fun q hq => absurd hq List.not_mem_nil) dX5_ones_25 hlocks
        replace h := im c1 h
        refine lv_iload_n hx hb dX5_ones_10 rfl (lv_at hl 1 rfl) ?_
        refine lv_iload_n hx hb dX5_ones_11 rfl (lv_at hl 0 rfl) ?_
        refine lv_iload_n hx hb dX5_ones_12 rfl (lv_at hl 2 rfl) ?_
        refine lv_ishr hx hb dX5_ones_13 ?_
        refine lv_iconst (v := 1) hx hb dX5_ones_14 (by decide) ?_
        refine lv_iand hx hb dX5_ones_15 ?_
        refine lv_iadd hx hb dX5_ones_16 ?_
        refine lv_istore_n (lv' := [(1, .int (i1_4 + ((v0 >>> (i2_4 &&& 31)) &&& 1))), (0, .int v0), (2, .int i2_4)]) hx hb dX5_ones_17 rfl hl (by decide) rfl (fun ls hl => ?_)
        refine lv_iinc (v := i2_4 + 1) (lv' := [(2, .int (i2_4 + 1)), (1, .int (i1_4 + ((v0 >>> (i2_4 &&& 31)) &&& 1))), (0, .int v0)]) hx hb dX5_ones_18 hl (k := 2) rfl rfl (by decide) rfl (fun ls hl => ?_)
        refine lv_goto (tgt := 4) hx hb dX5_ones_21 (by decide) ?_
        exact ih4 (i1_4 + ((v0 >>> (i2_4 &&& 31)) &&& 1)) (i2_4 + 1) ls h (lv_sub hl [2, 1, 0] rfl)
  exact K4 1000 0 0 ls h (lv_sub hl [2, 1, 0] rfl)
set_option maxHeartbeats 4000000 in
set_option maxRecDepth 100000 in
theorem c_X5_truth (l : Launch) (D : va_G) (T : Nat → ClassId) (v0 : Int32) (v1 : Int32) (v2 : Int32) (r : Int32) (h : F_X5_truth v0 v1 v2 = some r) : Met l yX5_truth wsX5_truth ({ frames := 0, cells := 0, slots := 0, locals := 0 } : Room) (va_Pc [.int v0, .int v1, .int v2] (PB D T (([] : va_W)))) (QRi r) 0 0 (fun _ => False) := by
  refine met_of (cc := cX5_truth) (maxL := 5) (ret := (some .int)) (lv := [(0, .int v0), (1, .int v1), (2, .int v2)]) (by decide) rfl (Nat.le_of_ble_eq_true rfl) rfl ?_
  intro p e s m args below meth c ls C0 hl hB
  obtain ⟨hx, hb, hr, hml, hown, hts, hlocks, hname⟩ := C0
  obtain ⟨hP, hK⟩ := hB
  unfold F_X5_truth at h
  refine lv_iload_n hx hb dX5_truth_0 rfl (lv_at hl 0 rfl) ?_
  refine lv_if_ne (tgt := 6) hx hb dX5_truth_1 (by decide) (fun c1 => ?_) (fun c1 => ?_)
  · replace h := im c1 h
    refine lv_iload_n hx hb dX5_truth_6 rfl (lv_at hl 0 rfl) ?_
    refine lv_iconst (v := 1) hx hb dX5_truth_7 (by decide) ?_
    refine lv_isub hx hb dX5_truth_8 ?_
    refine lv_iconst (v := 2) hx hb dX5_truth_9 (by decide) ?_
    refine lv_idiv hx hb dX5_truth_10 (by decide) ?_
    refine lv_istore_n (lv' := [(3, .int ((v0 - 1) / 2)), (0, .int v0), (1, .int v1), (2, .int v2)]) hx hb dX5_truth_11 rfl hl (by decide) rfl (fun ls hl => ?_)
    refine lv_iload_n hx hb dX5_truth_12 rfl (lv_at hl 1 rfl) ?_
    refine lv_iconst (v := 1) hx hb dX5_truth_13 (by decide) ?_
    refine lv_isub hx hb dX5_truth_14 ?_
    refine lv_iconst (v := 2) hx hb dX5_truth_15 (by decide) ?_
    refine lv_irem hx hb dX5_truth_16 (by decide) ?_
    refine lv_istore (lv' := [(4, .int ((v0 - 1) - (v0 - 1) / 2 * 2)), (3, .int ((v0 - 1) / 2)), (0, .int v0), (1, .int v1), (2, .int v2)]) hx hb dX5_truth_17 hl (by decide) rfl (fun ls hl => ?_)
    refine lv_iload_n hx hb dX5_truth_19 rfl (lv_at hl 3 rfl) ?_
    refine lv_iload_n hx hb dX5_truth_20 rfl (lv_at hl 1 rfl) ?_
    refine lv_ishr hx hb dX5_truth_21 ?_
    refine lv_iconst (v := 1) hx hb dX5_truth_22 (by decide) ?_
    refine lv_iand hx hb dX5_truth_23 ?_
    refine lv_iconst (v := 1) hx hb dX5_truth_24 (by decide) ?_
    refine lv_icmp_ne (tgt := 33) hx hb dX5_truth_25 (by decide) (fun c2 => ?_) (fun c2 => ?_)
    · replace h := im c2 h
      refine lv_iload_n hx hb dX5_truth_33 rfl (lv_at hl 4 rfl) ?_
      refine lv_iload_n hx hb dX5_truth_34 rfl (lv_at hl 1 rfl) ?_
      refine lv_ishr hx hb dX5_truth_35 ?_
      refine lv_iconst (v := 1) hx hb dX5_truth_36 (by decide) ?_
      refine lv_iand hx hb dX5_truth_37 ?_
      refine lv_iconst (v := 1) hx hb dX5_truth_38 (by decide) ?_
      refine lv_icmp_ne (tgt := 49) hx hb dX5_truth_39 (by decide) (fun c3 => ?_) (fun c3 => ?_)
      · replace h := im c3 h
        refine lv_iconst (v := 2) hx hb dX5_truth_49 (by decide) ?_
        exact W.iret hx hb hr (fun t ht hW => ⟨_, rfl, Option.some.inj h, ht⟩) (fun q hq => absurd hq List.not_mem_nil) dX5_truth_50 hlocks
      replace h := ip c3 h
      refine lv_iconst (v := 1) hx hb dX5_truth_42 (by decide) ?_
      refine lv_iload hx hb dX5_truth_43 (lv_at hl 0 rfl) ?_
      refine lv_isub hx hb dX5_truth_45 ?_
      refine lv_goto (tgt := 50) hx hb dX5_truth_46 (by decide) ?_
      exact W.iret hx hb hr (fun t ht hW => ⟨_, rfl, Option.some.inj h, ht⟩) (fun q hq => absurd hq List.not_mem_nil) dX5_truth_50 hlocks
    replace h := ip c2 h
    refine lv_iload hx hb dX5_truth_28 (lv_at hl 0 rfl) ?_
    refine lv_goto (tgt := 50) hx hb dX5_truth_30 (by decide) ?_
    exact W.iret hx hb hr (fun t ht hW => ⟨_, rfl, Option.some.inj h, ht⟩) (fun q hq => absurd hq List.not_mem_nil) dX5_truth_50 hlocks
  replace h := ip c1 h
  refine lv_iconst (v := 2) hx hb dX5_truth_4 (by decide) ?_
  exact W.iret hx hb hr (fun t ht hW => ⟨_, rfl, Option.some.inj h, ht⟩) (fun q hq => absurd hq List.not_mem_nil) dX5_truth_5 hlocks
set_option maxHeartbeats 4000000 in
set_option maxRecDepth 100000 in
theorem c_X5_volume (l : Launch) (D : va_G) (T : Nat → ClassId) (v0 : Int32) (v1 : Int32) (r : Int64) (h : F_X5_volume v0 v1 = some r) : Met l yX5_volume wsX5_volume ({ frames := 0, cells := 0, slots := 0, locals := 0 } : Room) (va_Pc [.int v0, .int v1] (PB D T (([] : va_W)))) (QRl r) 0 0 (fun _ => False) := by
  refine met_of (cc := cX5_volume) (maxL := 4) (ret := (some .long)) (lv := [(0, .int v0), (1, .int v1)]) (by decide) rfl (Nat.le_of_ble_eq_true rfl) rfl ?_
  intro p e s m args below meth c ls C0 hl hB
  obtain ⟨hx, hb, hr, hml, hown, hts, hlocks, hname⟩ := C0
  obtain ⟨hP, hK⟩ := hB
  unfold F_X5_volume at h
  refine lv_lconst (v := 1) hx hb dX5_volume_0 (by decide) ?_
  refine lv_lstore_n (lv' := [(2, .long 1), (0, .int v0), (1, .int v1)]) hx hb dX5_volume_1 rfl hl (by decide) rfl (fun ls hl => ?_)
  refine lv_lload_n hx hb dX5_volume_2 rfl (lv_at hl 0 rfl) ?_
  refine lv_iload_n hx hb dX5_volume_3 rfl (lv_at hl 2 rfl) ?_
  refine lv_if_le (tgt := 20) hx hb dX5_volume_4 (by decide) (fun c1 => ?_) (fun c1 => ?_)
  · replace h := ip c1 h
    refine lv_lconst (v := 0) hx hb dX5_volume_20 (by decide) ?_
    refine lv_ladd hx hb dX5_volume_21 ?_
    refine lv_lstore_n (lv' := [(2, .long (1 + 0)), (0, .int v0), (1, .int v1)]) hx hb dX5_volume_22 rfl hl (by decide) rfl (fun ls hl => ?_)
    refine lv_lload_n hx hb dX5_volume_23 rfl (lv_at hl 0 rfl) ?_
    refine lv_iload_n hx hb dX5_volume_24 rfl (lv_at hl 2 rfl) ?_
    refine lv_iconst (v := 1) hx hb dX5_volume_25 (by decide) ?_
    refine lv_icmp_le (tgt := 48) hx hb dX5_volume_26 (by decide) (fun c2 => ?_) (fun c2 => ?_)
    · replace h := ip c2 h
      refine lv_lconst (v := 0) hx hb dX5_volume_48 (by decide) ?_
      refine lv_ladd hx hb dX5_volume_49 ?_
      refine lv_lstore_n (lv' := [(2, .long ((1 + 0) + 0)), (0, .int v0), (1, .int v1)]) hx hb dX5_volume_50 rfl hl (by decide) rfl (fun ls hl => ?_)
      refine lv_lload_n hx hb dX5_volume_51 rfl (lv_at hl 0 rfl) ?_
      exact W.lret hx hb hr (fun t ht hW => ⟨_, rfl, Option.some.inj h, ht⟩) (fun q hq => absurd hq List.not_mem_nil) dX5_volume_52 hlocks
    replace h := im c2 h
    refine lv_iload_n hx hb dX5_volume_29 rfl (lv_at hl 1 rfl) ?_
    refine lv_iconst (v := 1) hx hb dX5_volume_30 (by decide) ?_
    refine lv_icmp_le (tgt := 48) hx hb dX5_volume_31 (by decide) (fun c3 => ?_) (fun c3 => ?_)
    · replace h := ip c3 h
      refine lv_lconst (v := 0) hx hb dX5_volume_48 (by decide) ?_
      refine lv_ladd hx hb dX5_volume_49 ?_
      refine lv_lstore_n (lv' := [(2, .long ((1 + 0) + 0)), (0, .int v0), (1, .int v1)]) hx hb dX5_volume_50 rfl hl (by decide) rfl (fun ls hl => ?_)
      refine lv_lload_n hx hb dX5_volume_51 rfl (lv_at hl 0 rfl) ?_
      exact W.lret hx hb hr (fun t ht hW => ⟨_, rfl, Option.some.inj h, ht⟩) (fun q hq => absurd hq List.not_mem_nil) dX5_volume_52 hlocks
    replace h := im c3 h
    refine lv_ldc2 hx hb hown (hts (.constantLong RX5 103 (2)) (List.mem_of_getElem? (i := 1) rfl)) dX5_volume_34 ?_
    refine lv_iload_n hx hb dX5_volume_37 rfl (lv_at hl 1 rfl) ?_
    refine lv_i2l (v := v0.toInt64) hx hb dX5_volume_38 rfl ?_
    refine lv_lmul hx hb dX5_volume_39 ?_
    refine lv_iload_n hx hb dX5_volume_40 rfl (lv_at hl 1 rfl) ?_
    refine lv_iconst (v := 1) hx hb dX5_volume_41 (by decide) ?_
    refine lv_isub hx hb dX5_volume_42 ?_
    refine lv_i2l (v := (v0 - 1).toInt64) hx hb dX5_volume_43 rfl ?_
    refine lv_lmul hx hb dX5_volume_44 ?_
    refine lv_goto (tgt := 49) hx hb dX5_volume_45 (by decide) ?_
    refine lv_ladd hx hb dX5_volume_49 ?_
    refine lv_lstore_n (lv' := [(2, .long ((1 + 0) + ((2 * v0.toInt64) * ((v0 - 1).toInt64)))), (0, .int v0), (1, .int v1)]) hx hb dX5_volume_50 rfl hl (by decide) rfl (fun ls hl => ?_)
    refine lv_lload_n hx hb dX5_volume_51 rfl (lv_at hl 0 rfl) ?_
    exact W.lret hx hb hr (fun t ht hW => ⟨_, rfl, Option.some.inj h, ht⟩) (fun q hq => absurd hq List.not_mem_nil) dX5_volume_52 hlocks
  replace h := im c1 h
  refine lv_iload_n hx hb dX5_volume_7 rfl (lv_at hl 1 rfl) ?_
  refine lv_if_le (tgt := 20) hx hb dX5_volume_8 (by decide) (fun c4 => ?_) (fun c4 => ?_)
  · replace h := ip c4 h
    refine lv_lconst (v := 0) hx hb dX5_volume_20 (by decide) ?_
    refine lv_ladd hx hb dX5_volume_21 ?_
    refine lv_lstore_n (lv' := [(2, .long (1 + 0)), (0, .int v0), (1, .int v1)]) hx hb dX5_volume_22 rfl hl (by decide) rfl (fun ls hl => ?_)
    refine lv_lload_n hx hb dX5_volume_23 rfl (lv_at hl 0 rfl) ?_
    refine lv_iload_n hx hb dX5_volume_24 rfl (lv_at hl 2 rfl) ?_
    refine lv_iconst (v := 1) hx hb dX5_volume_25 (by decide) ?_
    refine lv_icmp_le (tgt := 48) hx hb dX5_volume_26 (by decide) (fun c5 => ?_) (fun c5 => ?_)
    · replace h := ip c5 h
      refine lv_lconst (v := 0) hx hb dX5_volume_48 (by decide) ?_
      refine lv_ladd hx hb dX5_volume_49 ?_
      refine lv_lstore_n (lv' := [(2, .long ((1 + 0) + 0)), (0, .int v0), (1, .int v1)]) hx hb dX5_volume_50 rfl hl (by decide) rfl (fun ls hl => ?_)
      refine lv_lload_n hx hb dX5_volume_51 rfl (lv_at hl 0 rfl) ?_
      exact W.lret hx hb hr (fun t ht hW => ⟨_, rfl, Option.some.inj h, ht⟩) (fun q hq => absurd hq List.not_mem_nil) dX5_volume_52 hlocks
    replace h := im c5 h
    refine lv_iload_n hx hb dX5_volume_29 rfl (lv_at hl 1 rfl) ?_
    refine lv_iconst (v := 1) hx hb dX5_volume_30 (by decide) ?_
    refine lv_icmp_le (tgt := 48) hx hb dX5_volume_31 (by decide) (fun c6 => ?_) (fun c6 => ?_)
    · replace h := ip c6 h
      refine lv_lconst (v := 0) hx hb dX5_volume_48 (by decide) ?_
      refine lv_ladd hx hb dX5_volume_49 ?_
      refine lv_lstore_n (lv' := [(2, .long ((1 + 0) + 0)), (0, .int v0), (1, .int v1)]) hx hb dX5_volume_50 rfl hl (by decide) rfl (fun ls hl => ?_)
      refine lv_lload_n hx hb dX5_volume_51 rfl (lv_at hl 0 rfl) ?_
      exact W.lret hx hb hr (fun t ht hW => ⟨_, rfl, Option.some.inj h, ht⟩) (fun q hq => absurd hq List.not_mem_nil) dX5_volume_52 hlocks
    replace h := im c6 h
    refine lv_ldc2 hx hb hown (hts (.constantLong RX5 103 (2)) (List.mem_of_getElem? (i := 1) rfl)) dX5_volume_34 ?_
    refine lv_iload_n hx hb dX5_volume_37 rfl (lv_at hl 1 rfl) ?_
    refine lv_i2l (v := v0.toInt64) hx hb dX5_volume_38 rfl ?_
    refine lv_lmul hx hb dX5_volume_39 ?_
    refine lv_iload_n hx hb dX5_volume_40 rfl (lv_at hl 1 rfl) ?_
    refine lv_iconst (v := 1) hx hb dX5_volume_41 (by decide) ?_
    refine lv_isub hx hb dX5_volume_42 ?_
    refine lv_i2l (v := (v0 - 1).toInt64) hx hb dX5_volume_43 rfl ?_
    refine lv_lmul hx hb dX5_volume_44 ?_
    refine lv_goto (tgt := 49) hx hb dX5_volume_45 (by decide) ?_
    refine lv_ladd hx hb dX5_volume_49 ?_
    refine lv_lstore_n (lv' := [(2, .long ((1 + 0) + ((2 * v0.toInt64) * ((v0 - 1).toInt64)))), (0, .int v0), (1, .int v1)]) hx hb dX5_volume_50 rfl hl (by decide) rfl (fun ls hl => ?_)
    refine lv_lload_n hx hb dX5_volume_51 rfl (lv_at hl 0 rfl) ?_
    exact W.lret hx hb hr (fun t ht hW => ⟨_, rfl, Option.some.inj h, ht⟩) (fun q hq => absurd hq List.not_mem_nil) dX5_volume_52 hlocks
  replace h := im c4 h
  refine lv_ldc2 hx hb hown (hts (.constantLong RX5 103 (2)) (List.mem_of_getElem? (i := 1) rfl)) dX5_volume_11 ?_
  refine lv_iload_n hx hb dX5_volume_14 rfl (lv_at hl 1 rfl) ?_
  refine lv_i2l (v := v0.toInt64) hx hb dX5_volume_15 rfl ?_
  refine lv_lmul hx hb dX5_volume_16 ?_
  refine lv_goto (tgt := 21) hx hb dX5_volume_17 (by decide) ?_
  refine lv_ladd hx hb dX5_volume_21 ?_
  refine lv_lstore_n (lv' := [(2, .long (1 + (2 * v0.toInt64))), (0, .int v0), (1, .int v1)]) hx hb dX5_volume_22 rfl hl (by decide) rfl (fun ls hl => ?_)
  refine lv_lload_n hx hb dX5_volume_23 rfl (lv_at hl 0 rfl) ?_
  refine lv_iload_n hx hb dX5_volume_24 rfl (lv_at hl 2 rfl) ?_
  refine lv_iconst (v := 1) hx hb dX5_volume_25 (by decide) ?_
  refine lv_icmp_le (tgt := 48) hx hb dX5_volume_26 (by decide) (fun c7 => ?_) (fun c7 => ?_)
  · replace h := ip c7 h
    refine lv_lconst (v := 0) hx hb dX5_volume_48 (by decide) ?_
    refine lv_ladd hx hb dX5_volume_49 ?_
    refine lv_lstore_n (lv' := [(2, .long ((1 + (2 * v0.toInt64)) + 0)), (0, .int v0), (1, .int v1)]) hx hb dX5_volume_50 rfl hl (by decide) rfl (fun ls hl => ?_)
    refine lv_lload_n hx hb dX5_volume_51 rfl (lv_at hl 0 rfl) ?_
    exact W.lret hx hb hr (fun t ht hW => ⟨_, rfl, Option.some.inj h, ht⟩) (fun q hq => absurd hq List.not_mem_nil) dX5_volume_52 hlocks
  replace h := im c7 h
  refine lv_iload_n hx hb dX5_volume_29 rfl (lv_at hl 1 rfl) ?_
  refine lv_iconst (v := 1) hx hb dX5_volume_30 (by decide) ?_
  refine lv_icmp_le (tgt := 48) hx hb dX5_volume_31 (by decide) (fun c8 => ?_) (fun c8 => ?_)
  · replace h := ip c8 h
    refine lv_lconst (v := 0) hx hb dX5_volume_48 (by decide) ?_
    refine lv_ladd hx hb dX5_volume_49 ?_
    refine lv_lstore_n (lv' := [(2, .long ((1 + (2 * v0.toInt64)) + 0)), (0, .int v0), (1, .int v1)]) hx hb dX5_volume_50 rfl hl (by decide) rfl (fun ls hl => ?_)
    refine lv_lload_n hx hb dX5_volume_51 rfl (lv_at hl 0 rfl) ?_
    exact W.lret hx hb hr (fun t ht hW => ⟨_, rfl, Option.some.inj h, ht⟩) (fun q hq => absurd hq List.not_mem_nil) dX5_volume_52 hlocks
  replace h := im c8 h
  refine lv_ldc2 hx hb hown (hts (.constantLong RX5 103 (2)) (List.mem_of_getElem? (i := 1) rfl)) dX5_volume_34 ?_
  refine lv_iload_n hx hb dX5_volume_37 rfl (lv_at hl 1 rfl) ?_
  refine lv_i2l (v := v0.toInt64) hx hb dX5_volume_38 rfl ?_
  refine lv_lmul hx hb dX5_volume_39 ?_
  refine lv_iload_n hx hb dX5_volume_40 rfl (lv_at hl 1 rfl) ?_
  refine lv_iconst (v := 1) hx hb dX5_volume_41 (by decide) ?_
  refine lv_isub hx hb dX5_volume_42 ?_
  refine lv_i2l (v := (v0 - 1).toInt64) hx hb dX5_volume_43 rfl ?_
  refine lv_lmul hx hb dX5_volume_44 ?_
  refine lv_goto (tgt := 49) hx hb dX5_volume_45 (by decide) ?_
  refine lv_ladd hx hb dX5_volume_49 ?_
  replace h := bd h
  obtain ⟨t9, et9, h⟩ := h
  refine eql (Option.some.inj et9) ?_
  refine lv_lstore_n (lv' := [(2, .long t9), (0, .int v0), (1, .int v1)]) hx hb dX5_volume_50 rfl hl (by decide) rfl (fun ls hl => ?_)
  refine lv_lload_n hx hb dX5_volume_51 rfl (lv_at hl 0 rfl) ?_
  exact W.lret hx hb hr (fun t ht hW => ⟨_, rfl, Option.some.inj h, ht⟩) (fun q hq => absurd hq List.not_mem_nil) dX5_volume_52 hlocks
set_option maxHeartbeats 4000000 in
set_option maxRecDepth 100000 in
theorem c_X5_thrown (l : Launch) (D : va_G) (T : Nat → ClassId) (a0 : Nat → Nat) (x0 : St) (r : Int32) (h : F_X5_thrown x0 = some r) : Met l yX5_thrown wsX5_thrown ({ frames := 0, cells := 0, slots := 0, locals := 0 } : Room) (va_Pc [.ref (a0 0)] (PB D T (mdW T a0 (x0)))) (QRi r) 0 0 (fun _ => False) := by
  refine met_of (cc := cX5_thrown) (maxL := 1) (ret := (some .int)) (lv := [(0, .ref (a0 0))]) (by decide) rfl (Nat.le_of_ble_eq_true rfl) rfl ?_
  intro p e s m args below meth c ls C0 hl hB
  obtain ⟨hx, hb, hr, hml, hown, hts, hlocks, hname⟩ := C0
  obtain ⟨hP, hK⟩ := hB
  unfold F_X5_thrown at h
  refine lv_aload_n hx hb dX5_thrown_0 rfl (lv_at hl 0 rfl) ?_
  refine va_get (D := D) (ci := 5) (v := .int (x0.1 1)) (C := RX5) (T := TX5) (N := 11) hx hb hts inX5_thrown_5 hown hK.1 hP 0 rfl rfl 4 (by decide) (hts (.fieldLink RX5 27 "LyingScaleModel" "thrown" "I") (List.mem_of_getElem? (i := 1) rfl)) (fun _ h9 => h9) rfl dX5_thrown_1 ?_
  exact W.iret hx hb hr (fun t ht hW => ⟨_, rfl, Option.some.inj h, ht⟩) (fun q hq => absurd hq List.not_mem_nil) dX5_thrown_4 hlocks
set_option maxHeartbeats 4000000 in
set_option maxRecDepth 100000 in
theorem c_X5_fails (l : Launch) (D : va_G) (T : Nat → ClassId) (a0 : Nat → Nat) (x0 : St) (v1 : Int32) (sz : Nat) (r : Int32 × St) (h : F_X5_fails x0 v1 = some r) : Met l yX5_fails wsX5_fails ({ frames := 0, cells := 0, slots := 0, locals := 0 } : Room) (va_Pc [.ref (a0 0), .int v1] (PM D T (mdW T a0 (x0)) sz)) (QMi D (mdW T a0 (r.2)) r.1 (va_A (mdW T a0 (x0)) sz)) 0 0 (va_A (mdW T a0 (x0)) sz) := by
  refine met_of (cc := cX5_fails) (maxL := 2) (ret := (some .int)) (lv := [(0, .ref (a0 0)), (1, .int v1)]) (by decide) rfl (Nat.le_of_ble_eq_true rfl) rfl ?_
  intro p e s m args below meth c ls C0 hl hB
  obtain ⟨hx, hb, hr, hml, hown, hts, hlocks, hname⟩ := C0
  obtain ⟨hsz, hP, hK, hD0⟩ := hB
  subst hsz
  have hD := hD0.self (sz := s.heap.size)
  generalize hAe : va_A (mdW T a0 (x0)) s.heap.size = A at hD ⊢
  have hA : ∀ q : Nat, s.heap.size ≤ q → A q := fun q h => by rw [← hAe]; exact Or.inr h
  obtain ⟨H, hH⟩ : ∃ H, H = s.heap := ⟨_, rfl⟩
  obtain ⟨locs, hlo⟩ : ∃ L : List Loc, L = [] := ⟨_, rfl⟩
  have hS : va_S A s.heap s.heap [] := va_S.rf
  rw [← hH] at hP ⊢
  rw [← hlo]
  replace hS : va_S A s.heap H locs := by rw [hH, hlo]; exact hS
  clear hH hlo
  unfold F_X5_fails at h
  refine lv_aload_n hx hb dX5_fails_0 rfl (lv_at hl 0 rfl) ?_
  refine lv_iload_n hx hb dX5_fails_1 rfl (lv_at hl 1 rfl) ?_
  refine va_put (D := D) (ci := 5) (v := .int v1) (ty := .int) (C := RX5) (T := TX5) (N := 11) hx hb hts inX5_fails_5 tyX5 tyX5_ok nmX5 hown hK.1 hP hD hS 0 rfl rfl 4 (by decide) (hts (.fieldLink RX5 27 "LyingScaleModel" "thrown" "I") (List.mem_of_getElem? (i := 1) rfl)) (fun _ h9 => h9) rfl (by decide +kernel) rfl rfl (Nat.le_of_ble_eq_true rfl) dX5_fails_2 (fun H locs hP hD hS => ?_)
  replace hP : va_P D vwCl (mdW T a0 (sI x0 1 v1)) H := hP
  replace hD : va_D A (mdW T a0 (sI x0 1 v1)) := hD
  refine lv_iconst (v := 0) hx hb dX5_fails_5 (by decide) ?_
  obtain rfl := Option.some.inj h
  exact W.iret hx hb hr (fun t ht hW => ⟨⟨_, (), rfl, rfl, by rw [ht]; exact hP, hD⟩, hS.F ht⟩) hS.2.2 dX5_fails_6 hlocks
set_option maxHeartbeats 4000000 in
set_option maxRecDepth 100000 in
theorem c_X5_tells (l : Launch) (D : va_G) (T : Nat → ClassId) (a0 : Nat → Nat) (x0 : St) (v1 : Int32) (sz : Nat) (r : Int32 × St) (h : F_X5_tells x0 v1 = some r) : Met l yX5_tells wsX5_tells ({ frames := 0, cells := 0, slots := 0, locals := 0 } : Room) (va_Pc [.ref (a0 0), .int v1] (PM D T (mdW T a0 (x0)) sz)) (QMi D (mdW T a0 (r.2)) r.1 (va_A (mdW T a0 (x0)) sz)) 0 0 (va_A (mdW T a0 (x0)) sz) := by
  refine met_of (cc := cX5_tells) (maxL := 2) (ret := (some .int)) (lv := [(0, .ref (a0 0)), (1, .int v1)]) (by decide) rfl (Nat.le_of_ble_eq_true rfl) rfl ?_
  intro p e s m args below meth c ls C0 hl hB
  obtain ⟨hx, hb, hr, hml, hown, hts, hlocks, hname⟩ := C0
  obtain ⟨hsz, hP, hK, hD0⟩ := hB
  subst hsz
  have hD := hD0.self (sz := s.heap.size)
  generalize hAe : va_A (mdW T a0 (x0)) s.heap.size = A at hD ⊢
  have hA : ∀ q : Nat, s.heap.size ≤ q → A q := fun q h => by rw [← hAe]; exact Or.inr h
  obtain ⟨H, hH⟩ : ∃ H, H = s.heap := ⟨_, rfl⟩
  obtain ⟨locs, hlo⟩ : ∃ L : List Loc, L = [] := ⟨_, rfl⟩
  have hS : va_S A s.heap s.heap [] := va_S.rf
  rw [← hH] at hP ⊢
  rw [← hlo]
  replace hS : va_S A s.heap H locs := by rw [hH, hlo]; exact hS
  clear hH hlo
  unfold F_X5_tells at h
  refine lv_aload_n hx hb dX5_tells_0 rfl (lv_at hl 0 rfl) ?_
  refine lv_iconst (v := 0) hx hb dX5_tells_1 (by decide) ?_
  refine va_put (D := D) (ci := 5) (v := .int 0) (ty := .int) (C := RX5) (T := TX5) (N := 11) hx hb hts inX5_tells_5 tyX5 tyX5_ok nmX5 hown hK.1 hP hD hS 0 rfl rfl 4 (by decide) (hts (.fieldLink RX5 27 "LyingScaleModel" "thrown" "I") (List.mem_of_getElem? (i := 1) rfl)) (fun _ h9 => h9) rfl (by decide +kernel) rfl rfl (Nat.le_of_ble_eq_true rfl) dX5_tells_2 (fun H locs hP hD hS => ?_)
  replace hP : va_P D vwCl (mdW T a0 (sI x0 1 0)) H := hP
  replace hD : va_D A (mdW T a0 (sI x0 1 0)) := hD
  refine lv_iload_n hx hb dX5_tells_5 rfl (lv_at hl 1 rfl) ?_
  obtain rfl := Option.some.inj h
  exact W.iret hx hb hr (fun t ht hW => ⟨⟨_, (), rfl, rfl, by rw [ht]; exact hP, hD⟩, hS.F ht⟩) hS.2.2 dX5_tells_6 hlocks
set_option maxHeartbeats 4000000 in
set_option maxRecDepth 100000 in
theorem c_X5_begins (l : Launch) (D : va_G) (T : Nat → ClassId) (a0 : Nat → Nat) (x0 : St) (sz : Nat) (r : St) (h : F_X5_begins x0 = some r) : Met l yX5_begins wsX5_begins ({ frames := 0, cells := 0, slots := 0, locals := 0 } : Room) (va_Pc [.ref (a0 0)] (PM D T (mdW T a0 (x0)) sz)) (QMv D (mdW T a0 (r)) (va_A (mdW T a0 (x0)) sz)) 0 0 (va_A (mdW T a0 (x0)) sz) := by
  refine met_of (cc := cX5_begins) (maxL := 2) (ret := none) (lv := [(0, .ref (a0 0))]) (by decide) rfl (Nat.le_of_ble_eq_true rfl) rfl ?_
  intro p e s m args below meth c ls C0 hl hB
  obtain ⟨hx, hb, hr, hml, hown, hts, hlocks, hname⟩ := C0
  obtain ⟨hsz, hP, hK, hD0⟩ := hB
  subst hsz
  have hD := hD0.self (sz := s.heap.size)
  generalize hAe : va_A (mdW T a0 (x0)) s.heap.size = A at hD ⊢
  have hA : ∀ q : Nat, s.heap.size ≤ q → A q := fun q h => by rw [← hAe]; exact Or.inr h
  obtain ⟨H, hH⟩ : ∃ H, H = s.heap := ⟨_, rfl⟩
  obtain ⟨locs, hlo⟩ : ∃ L : List Loc, L = [] := ⟨_, rfl⟩
  have hS : va_S A s.heap s.heap [] := va_S.rf
  rw [← hH] at hP ⊢
  rw [← hlo]
  replace hS : va_S A s.heap H locs := by rw [hH, hlo]; exact hS
  clear hH hlo
  unfold F_X5_begins at h
  refine lv_iconst (v := 0) hx hb dX5_begins_0 (by decide) ?_
  refine lv_istore_n (lv' := [(1, .int 0), (0, .ref (a0 0))]) hx hb dX5_begins_1 rfl hl (by decide) rfl (fun ls hl => ?_)
  have K2 : ∀ (n2 : Nat) (i1_2 : Int32) (x0_2 : St) (H : Heap) (locs : List Loc) (ls : Array Slot), fx2 (B_X5_begins_2) n2 i1_2 x0_2 = some r → va_P D vwCl (mdW T a0 (x0_2)) H → va_D A (mdW T a0 (x0_2)) → va_S A s.heap H locs → lv_has ls 2 [(0, .ref (a0 0)), (1, .int i1_2)] → W p l e ({ frames := 0, cells := 0, slots := 0, locals := 0 } : Room) s m args below meth c H locs 0 0 (MQ below (QMv D (mdW T a0 (r)) A) args s 0 0 (A)) (F0 m 2 ls []) := by
    intro n2
    induction n2 with
    | zero =>
        intro i1_2 x0_2 H locs ls h
        cases h
    | succ n2 ih2 =>
        intro i1_2 x0_2 H locs ls h hP hD hS hl
        replace h : B_X5_begins_2 (fx2 (B_X5_begins_2) n2) i1_2 x0_2 = some r := h
        unfold B_X5_begins_2 at h
        refine lv_iload_n hx hb dX5_begins_2 rfl (lv_at hl 1 rfl) ?_
        refine lv_sipush (v := 176) hx hb dX5_begins_3 (by decide) ?_
        refine lv_icmp_ge (tgt := 27) hx hb dX5_begins_6 (by decide) (fun c1 => ?_) (fun c1 => ?_)
        · replace h := ip c1 h
          obtain rfl := Option.some.inj h
          exact W.vret hx hb hr (fun t ht hW => ⟨⟨(), rfl, trivial, by rw [ht]; exact hP, hD⟩, hS.F ht⟩) hS.2.2 dX5_begins_27 hlocks
        replace h := im c1 h
        refine lv_aload_n hx hb dX5_begins_9 rfl (lv_at hl 0 rfl) ?_
        refine va_get (D := D) (ci := 5) (v := .ref (a0 3)) (C := RX5) (T := TX5) (N := 11) hx hb hts inX5_begins_5 hown hK.1 hP 0 rfl rfl 2 (by decide) (hts (.fieldLink RX5 16 "LyingScaleModel" "begun" "[I") (List.mem_of_getElem? (i := 1) rfl)) (fun _ h9 => h9) rfl dX5_begins_10 ?_
        refine lv_iload_n hx hb dX5_begins_13 rfl (lv_at hl 1 rfl) ?_
        refine lv_aload_n hx hb dX5_begins_14 rfl (lv_at hl 0 rfl) ?_
        refine va_get (D := D) (ci := 5) (v := .ref (a0 1)) (C := RX5) (T := TX5) (N := 11) hx hb hts inX5_begins_5 hown hK.1 hP 0 rfl rfl 0 (by decide) (hts (.fieldLink RX5 7 "LyingScaleModel" "s" "[I") (List.mem_of_getElem? (i := 2) rfl)) (fun _ h9 => h9) rfl dX5_begins_15 ?_
        refine lv_iload_n hx hb dX5_begins_18 rfl (lv_at hl 1 rfl) ?_
        replace h := gd h
        obtain ⟨g2, h⟩ := h
        refine va_iald hx hb hK.1 hP 1 0 rfl rfl g2 dX5_begins_19 ?_
        replace h := gd h
        obtain ⟨g3, h⟩ := h
        refine va_iast hx hb hK.1 hP hD hS 3 0 rfl rfl g3 dX5_begins_20 (fun H locs hP hD hS => ?_)
        replace hP : va_P D vwCl (mdW T a0 (sA x0_2 2 (upd (x0_2.2 2) i1_2.toNatClampNeg ((x0_2.2 0) i1_2.toNatClampNeg)))) H := hP
        replace hD : va_D A (mdW T a0 (sA x0_2 2 (upd (x0_2.2 2) i1_2.toNatClampNeg ((x0_2.2 0) i1_2.toNatClampNeg)))) := hD
        replace h := bd h
        obtain ⟨y4, ey4, h⟩ := h
        rw [Option.some.inj ey4] at hP hD
        refine lv_iinc (v := i1_2 + 1) (lv' := [(1, .int (i1_2 + 1)), (0, .ref (a0 0))]) hx hb dX5_begins_21 hl (k := 1) rfl rfl (by decide) rfl (fun ls hl => ?_)
        refine lv_goto (tgt := 2) hx hb dX5_begins_24 (by decide) ?_
        exact ih2 (i1_2 + 1) y4 _ _ ls h hP hD hS (lv_sub hl [1, 0] rfl)
  exact K2 1000 0 x0 _ _ ls h hP hD hS (lv_sub hl [1, 0] rfl)
set_option maxHeartbeats 4000000 in
set_option maxRecDepth 100000 in
theorem c_X5_saved (l : Launch) (D : va_G) (T : Nat → ClassId) (a0 : Nat → Nat) (x0 : St) (v1 : Int32) (sz : Nat) (r : Int32 × St) (h : F_X5_saved x0 v1 = some r) : Met l yX5_saved wsX5_saved ({ frames := 1, cells := 0, slots := 0, locals := 21 } : Room) (va_Pc [.ref (a0 0), .int v1] (PM D T (mdW T a0 (x0)) sz)) (QMi D (mdW T a0 (r.2)) r.1 (va_A (mdW T a0 (x0)) sz)) 0 0 (va_A (mdW T a0 (x0)) sz) := by
  refine met_of (cc := cX5_saved) (maxL := 3) (ret := (some .int)) (lv := [(0, .ref (a0 0)), (1, .int v1)]) (by decide) rfl (Nat.le_of_ble_eq_true rfl) rfl ?_
  intro p e s m args below meth c ls C0 hl hB
  obtain ⟨hx, hb, hr, hml, hown, hts, hlocks, hname⟩ := C0
  obtain ⟨hsz, hP, hK, hD0⟩ := hB
  subst hsz
  have hD := hD0.self (sz := s.heap.size)
  generalize hAe : va_A (mdW T a0 (x0)) s.heap.size = A at hD ⊢
  have hA : ∀ q : Nat, s.heap.size ≤ q → A q := fun q h => by rw [← hAe]; exact Or.inr h
  obtain ⟨H, hH⟩ : ∃ H, H = s.heap := ⟨_, rfl⟩
  obtain ⟨locs, hlo⟩ : ∃ L : List Loc, L = [] := ⟨_, rfl⟩
  have hS : va_S A s.heap s.heap [] := va_S.rf
  rw [← hH] at hP ⊢
  rw [← hlo]
  replace hS : va_S A s.heap H locs := by rw [hH, hlo]; exact hS
  clear hH hlo
  unfold F_X5_saved at h
  refine lv_aload_n hx hb dX5_saved_0 rfl (lv_at hl 0 rfl) ?_
  refine va_get (D := D) (ci := 5) (v := .int (x0.1 0)) (C := RX5) (T := TX5) (N := 11) hx hb hts inX5_saved_5 hown hK.1 hP 0 rfl rfl 3 (by decide) (hts (.fieldLink RX5 31 "LyingScaleModel" "pasts" "I") (List.mem_of_getElem? (i := 1) rfl)) (fun _ h9 => h9) rfl dX5_saved_1 ?_
  refine lv_iconst (v := 4) hx hb dX5_saved_4 (by decide) ?_
  refine lv_icmp_ne (tgt := 49) hx hb dX5_saved_5 (by decide) (fun c1 => ?_) (fun c1 => ?_)
  · replace h := im c1 h
    refine lv_iconst (v := 0) hx hb dX5_saved_49 (by decide) ?_
    refine lv_istore_n (lv' := [(2, .int 0), (0, .ref (a0 0)), (1, .int v1)]) hx hb dX5_saved_50 rfl hl (by decide) rfl (fun ls hl => ?_)
    have K51 : ∀ (n51 : Nat) (i2_51 : Int32) (x0_51 : St) (H : Heap) (locs : List Loc) (ls : Array Slot), fx2 (B_X5_saved_51 v1) n51 i2_51 x0_51 = some r → va_P D vwCl (mdW T a0 (x0_51)) H → va_D A (mdW T a0 (x0_51)) → va_S A s.heap H locs → lv_has ls 3 [(0, .ref (a0 0)), (1, .int v1), (2, .int i2_51)] → W p l e ({ frames := 1, cells := 0, slots := 0, locals := 21 } : Room) s m args below meth c H locs 0 0 (MQ below (QMi D (mdW T a0 (r.2)) r.1 A) args s 0 0 (A)) (F0 m 51 ls []) := by
      intro n51
      induction n51 with
      | zero =>
          intro i2_51 x0_51 H locs ls h
          cases h
      | succ n51 ih51 =>
          intro i2_51 x0_51 H locs ls h hP hD hS hl
          replace h : B_X5_saved_51 v1 (fx2 (B_X5_saved_51 v1) n51) i2_51 x0_51 = some r := h
          unfold B_X5_saved_51 at h
          refine lv_iload_n hx hb dX5_saved_51 rfl (lv_at hl 2 rfl) ?_
          refine lv_sipush (v := 176) hx hb dX5_saved_52 (by decide) ?_
          refine lv_icmp_ge (tgt := 85) hx hb dX5_saved_55 (by decide) (fun c2 => ?_) (fun c2 => ?_)
          · replace h := ip c2 h
            refine lv_aload_n hx hb dX5_saved_85 rfl (lv_at hl 0 rfl) ?_
            refine lv_dup hx hb dX5_saved_86 rfl ?_
            refine va_get (D := D) (ci := 5) (v := .int (x0_51.1 0)) (C := RX5) (T := TX5) (N := 11) hx hb hts inX5_saved_5 hown hK.1 hP 0 rfl rfl 3 (by decide) (hts (.fieldLink RX5 31 "LyingScaleModel" "pasts" "I") (List.mem_of_getElem? (i := 1) rfl)) (fun _ h9 => h9) rfl dX5_saved_87 ?_
            refine lv_iconst (v := 1) hx hb dX5_saved_90 (by decide) ?_
            refine lv_iadd hx hb dX5_saved_91 ?_
            refine va_put (D := D) (ci := 5) (v := .int ((x0_51.1 0) + 1)) (ty := .int) (C := RX5) (T := TX5) (N := 11) hx hb hts inX5_saved_5 tyX5 tyX5_ok nmX5 hown hK.1 hP hD hS 0 rfl rfl 3 (by decide) (hts (.fieldLink RX5 31 "LyingScaleModel" "pasts" "I") (List.mem_of_getElem? (i := 1) rfl)) (fun _ h9 => h9) rfl (by decide +kernel) rfl rfl (Nat.le_of_ble_eq_true rfl) dX5_saved_92 (fun H locs hP hD hS => ?_)
            replace hP : va_P D vwCl (mdW T a0 (sI x0_51 0 ((x0_51.1 0) + 1))) H := hP
            replace hD : va_D A (mdW T a0 (sI x0_51 0 ((x0_51.1 0) + 1))) := hD
            refine lv_aload_n hx hb dX5_saved_95 rfl (lv_at hl 0 rfl) ?_
            refine lv_iload_n hx hb dX5_saved_96 rfl (lv_at hl 1 rfl) ?_
            replace h := bd h
            obtain ⟨t3, et3, h⟩ := h
            refine callMi (wr := []) (ws' := mdW T a0 (t3.2)) (va_runV (As := [.int v1]) (rest := []) ⟨hx, hb, hml, hown, hts⟩ (c_X5_tells l D T a0 (sI x0_51 0 ((x0_51.1 0) + 1)) v1 _ t3 et3) (cwV 1 hts gX5_saved_X5_tells rfl rfl rfl hdV_X5_tells ⟨Nat.le_of_ble_eq_true rfl, Nat.le_of_ble_eq_true rfl⟩) ⟨PM_blind, va_recv hK.1 hP (ci := 5) (q0 := 0) rfl rfl, PM_at hP hD hK⟩ rfl rfl hl.1 rfl (lv_room (Nat.le_of_ble_eq_true rfl)) dX5_saved_97 ⟨Nat.zero_le _, Nat.zero_le _⟩) hS hA hP hD [0, 1, 2, 3, 4] [] rfl rfl (by decide) (by decide) [0, 1, 2, 3, 4] (by decide) rfl (fun H locs hP hD hS => ?_)
            obtain rfl := Option.some.inj h
            exact W.iret hx hb hr (fun t ht hW => ⟨⟨_, (), rfl, rfl, by rw [ht]; exact hP, hD⟩, hS.F ht⟩) hS.2.2 dX5_saved_100 hlocks
          replace h := im c2 h
          refine lv_aload_n hx hb dX5_saved_58 rfl (lv_at hl 0 rfl) ?_
          refine va_get (D := D) (ci := 5) (v := .ref (a0 2)) (C := RX5) (T := TX5) (N := 11) hx hb hts inX5_saved_5 hown hK.1 hP 0 rfl rfl 1 (by decide) (hts (.fieldLink RX5 13 "LyingScaleModel" "past" "[I") (List.mem_of_getElem? (i := 2) rfl)) (fun _ h9 => h9) rfl dX5_saved_59 ?_
          refine lv_sipush (v := 176) hx hb dX5_saved_62 (by decide) ?_
          refine lv_aload_n hx hb dX5_saved_65 rfl (lv_at hl 0 rfl) ?_
          refine va_get (D := D) (ci := 5) (v := .int (x0_51.1 0)) (C := RX5) (T := TX5) (N := 11) hx hb hts inX5_saved_5 hown hK.1 hP 0 rfl rfl 3 (by decide) (hts (.fieldLink RX5 31 "LyingScaleModel" "pasts" "I") (List.mem_of_getElem? (i := 1) rfl)) (fun _ h9 => h9) rfl dX5_saved_66 ?_
          refine lv_imul hx hb dX5_saved_69 ?_
          refine lv_iload_n hx hb dX5_saved_70 rfl (lv_at hl 2 rfl) ?_
          refine lv_iadd hx hb dX5_saved_71 ?_
          refine lv_aload_n hx hb dX5_saved_72 rfl (lv_at hl 0 rfl) ?_
          refine va_get (D := D) (ci := 5) (v := .ref (a0 3)) (C := RX5) (T := TX5) (N := 11) hx hb hts inX5_saved_5 hown hK.1 hP 0 rfl rfl 2 (by decide) (hts (.fieldLink RX5 16 "LyingScaleModel" "begun" "[I") (List.mem_of_getElem? (i := 3) rfl)) (fun _ h9 => h9) rfl dX5_saved_73 ?_
          refine lv_iload_n hx hb dX5_saved_76 rfl (lv_at hl 2 rfl) ?_
          replace h := gd h
          obtain ⟨g4, h⟩ := h
          refine va_iald hx hb hK.1 hP 3 0 rfl rfl g4 dX5_saved_77 ?_
          replace h := gd h
          obtain ⟨g5, h⟩ := h
          refine va_iast hx hb hK.1 hP hD hS 2 0 rfl rfl g5 dX5_saved_78 (fun H locs hP hD hS => ?_)
          replace hP : va_P D vwCl (mdW T a0 (sA x0_51 1 (upd (x0_51.2 1) ((176 * (x0_51.1 0)) + i2_51).toNatClampNeg ((x0_51.2 2) i2_51.toNatClampNeg)))) H := hP
          replace hD : va_D A (mdW T a0 (sA x0_51 1 (upd (x0_51.2 1) ((176 * (x0_51.1 0)) + i2_51).toNatClampNeg ((x0_51.2 2) i2_51.toNatClampNeg)))) := hD
          replace h := bd h
          obtain ⟨y6, ey6, h⟩ := h
          rw [Option.some.inj ey6] at hP hD
          refine lv_iinc (v := i2_51 + 1) (lv' := [(2, .int (i2_51 + 1)), (0, .ref (a0 0)), (1, .int v1)]) hx hb dX5_saved_79 hl (k := 2) rfl rfl (by decide) rfl (fun ls hl => ?_)
          refine lv_goto (tgt := 51) hx hb dX5_saved_82 (by decide) ?_
          exact ih51 (i2_51 + 1) y6 _ _ ls h hP hD hS (lv_sub hl [1, 2, 0] rfl)
    exact K51 1000 0 x0 _ _ ls h hP hD hS (lv_sub hl [1, 2, 0] rfl)
  replace h := ip c1 h
  refine lv_iconst (v := 0) hx hb dX5_saved_8 (by decide) ?_
  refine lv_istore_n (lv' := [(2, .int 0), (0, .ref (a0 0)), (1, .int v1)]) hx hb dX5_saved_9 rfl hl (by decide) rfl (fun ls hl => ?_)
  have K10 : ∀ (n10 : Nat) (i2_10 : Int32) (x0_10 : St) (H : Heap) (locs : List Loc) (ls : Array Slot), fx2 (B_X5_saved_10 v1) n10 i2_10 x0_10 = some r → va_P D vwCl (mdW T a0 (x0_10)) H → va_D A (mdW T a0 (x0_10)) → va_S A s.heap H locs → lv_has ls 3 [(0, .ref (a0 0)), (1, .int v1), (2, .int i2_10)] → W p l e ({ frames := 1, cells := 0, slots := 0, locals := 21 } : Room) s m args below meth c H locs 0 0 (MQ below (QMi D (mdW T a0 (r.2)) r.1 A) args s 0 0 (A)) (F0 m 10 ls []) := by
    intro n10
    induction n10 with
    | zero =>
        intro i2_10 x0_10 H locs ls h
        cases h
    | succ n10 ih10 =>
        intro i2_10 x0_10 H locs ls h hP hD hS hl
        replace h : B_X5_saved_10 v1 (fx2 (B_X5_saved_10 v1) n10) i2_10 x0_10 = some r := h
        unfold B_X5_saved_10 at h
        refine lv_iload_n hx hb dX5_saved_10 rfl (lv_at hl 2 rfl) ?_
        refine lv_sipush (v := 528) hx hb dX5_saved_11 (by decide) ?_
        refine lv_icmp_ge (tgt := 39) hx hb dX5_saved_14 (by decide) (fun c7 => ?_) (fun c7 => ?_)
        · replace h := ip c7 h
          refine lv_aload_n hx hb dX5_saved_39 rfl (lv_at hl 0 rfl) ?_
          refine lv_dup hx hb dX5_saved_40 rfl ?_
          refine va_get (D := D) (ci := 5) (v := .int (x0_10.1 0)) (C := RX5) (T := TX5) (N := 11) hx hb hts inX5_saved_5 hown hK.1 hP 0 rfl rfl 3 (by decide) (hts (.fieldLink RX5 31 "LyingScaleModel" "pasts" "I") (List.mem_of_getElem? (i := 1) rfl)) (fun _ h9 => h9) rfl dX5_saved_41 ?_
          refine lv_iconst (v := 1) hx hb dX5_saved_44 (by decide) ?_
          refine lv_isub hx hb dX5_saved_45 ?_
          refine va_put (D := D) (ci := 5) (v := .int ((x0_10.1 0) - 1)) (ty := .int) (C := RX5) (T := TX5) (N := 11) hx hb hts inX5_saved_5 tyX5 tyX5_ok nmX5 hown hK.1 hP hD hS 0 rfl rfl 3 (by decide) (hts (.fieldLink RX5 31 "LyingScaleModel" "pasts" "I") (List.mem_of_getElem? (i := 1) rfl)) (fun _ h9 => h9) rfl (by decide +kernel) rfl rfl (Nat.le_of_ble_eq_true rfl) dX5_saved_46 (fun H locs hP hD hS => ?_)
          replace hP : va_P D vwCl (mdW T a0 (sI x0_10 0 ((x0_10.1 0) - 1))) H := hP
          replace hD : va_D A (mdW T a0 (sI x0_10 0 ((x0_10.1 0) - 1))) := hD
          refine lv_iconst (v := 0) hx hb dX5_saved_49 (by decide) ?_
          refine lv_istore_n (lv' := [(2, .int 0), (0, .ref (a0 0)), (1, .int v1)]) hx hb dX5_saved_50 rfl hl (by decide) rfl (fun ls hl => ?_)
          have K51 : ∀ (n51 : Nat) (i2_51 : Int32) (x0_51 : St) (H : Heap) (locs : List Loc) (ls : Array Slot), fx2 (B_X5_saved_51b v1) n51 i2_51 x0_51 = some r → va_P D vwCl (mdW T a0 (x0_51)) H → va_D A (mdW T a0 (x0_51)) → va_S A s.heap H locs → lv_has ls 3 [(0, .ref (a0 0)), (1, .int v1), (2, .int i2_51)] → W p l e ({ frames := 1, cells := 0, slots := 0, locals := 21 } : Room) s m args below meth c H locs 0 0 (MQ below (QMi D (mdW T a0 (r.2)) r.1 A) args s 0 0 (A)) (F0 m 51 ls []) := by
            intro n51
            induction n51 with
            | zero =>
                intro i2_51 x0_51 H locs ls h
                cases h
            | succ n51 ih51 =>
                intro i2_51 x0_51 H locs ls h hP hD hS hl
                replace h : B_X5_saved_51b v1 (fx2 (B_X5_saved_51b v1) n51) i2_51 x0_51 = some r := h
                unfold B_X5_saved_51b at h
                refine lv_iload_n hx hb dX5_saved_51 rfl (lv_at hl 2 rfl) ?_
                refine lv_sipush (v := 176) hx hb dX5_saved_52 (by decide) ?_
                refine lv_icmp_ge (tgt := 85) hx hb dX5_saved_55 (by decide) (fun c8 => ?_) (fun c8 => ?_)
                · replace h := ip c8 h
                  refine lv_aload_n hx hb dX5_saved_85 rfl (lv_at hl 0 rfl) ?_
                  refine lv_dup hx hb dX5_saved_86 rfl ?_
                  refine va_get (D := D) (ci := 5) (v := .int (x0_51.1 0)) (C := RX5) (T := TX5) (N := 11) hx hb hts inX5_saved_5 hown hK.1 hP 0 rfl rfl 3 (by decide) (hts (.fieldLink RX5 31 "LyingScaleModel" "pasts" "I") (List.mem_of_getElem? (i := 1) rfl)) (fun _ h9 => h9) rfl dX5_saved_87 ?_
                  refine lv_iconst (v := 1) hx hb dX5_saved_90 (by decide) ?_
                  refine lv_iadd hx hb dX5_saved_91 ?_
                  refine va_put (D := D) (ci := 5) (v := .int ((x0_51.1 0) + 1)) (ty := .int) (C := RX5) (T := TX5) (N := 11) hx hb hts inX5_saved_5 tyX5 tyX5_ok nmX5 hown hK.1 hP hD hS 0 rfl rfl 3 (by decide) (hts (.fieldLink RX5 31 "LyingScaleModel" "pasts" "I") (List.mem_of_getElem? (i := 1) rfl)) (fun _ h9 => h9) rfl (by decide +kernel) rfl rfl (Nat.le_of_ble_eq_true rfl) dX5_saved_92 (fun H locs hP hD hS => ?_)
                  replace hP : va_P D vwCl (mdW T a0 (sI x0_51 0 ((x0_51.1 0) + 1))) H := hP
                  replace hD : va_D A (mdW T a0 (sI x0_51 0 ((x0_51.1 0) + 1))) := hD
                  refine lv_aload_n hx hb dX5_saved_95 rfl (lv_at hl 0 rfl) ?_
                  refine lv_iload_n hx hb dX5_saved_96 rfl (lv_at hl 1 rfl) ?_
                  replace h := bd h
                  obtain ⟨t9, et9, h⟩ := h
                  refine callMi (wr := []) (ws' := mdW T a0 (t9.2)) (va_runV (As := [.int v1]) (rest := []) ⟨hx, hb, hml, hown, hts⟩ (c_X5_tells l D T a0 (sI x0_51 0 ((x0_51.1 0) + 1)) v1 _ t9 et9) (cwV 1 hts gX5_saved_X5_tells rfl rfl rfl hdV_X5_tells ⟨Nat.le_of_ble_eq_true rfl, Nat.le_of_ble_eq_true rfl⟩) ⟨PM_blind, va_recv hK.1 hP (ci := 5) (q0 := 0) rfl rfl, PM_at hP hD hK⟩ rfl rfl hl.1 rfl (lv_room (Nat.le_of_ble_eq_true rfl)) dX5_saved_97 ⟨Nat.zero_le _, Nat.zero_le _⟩) hS hA hP hD [0, 1, 2, 3, 4] [] rfl rfl (by decide) (by decide) [0, 1, 2, 3, 4] (by decide) rfl (fun H locs hP hD hS => ?_)
                  obtain rfl := Option.some.inj h
                  exact W.iret hx hb hr (fun t ht hW => ⟨⟨_, (), rfl, rfl, by rw [ht]; exact hP, hD⟩, hS.F ht⟩) hS.2.2 dX5_saved_100 hlocks
                replace h := im c8 h
                refine lv_aload_n hx hb dX5_saved_58 rfl (lv_at hl 0 rfl) ?_
                refine va_get (D := D) (ci := 5) (v := .ref (a0 2)) (C := RX5) (T := TX5) (N := 11) hx hb hts inX5_saved_5 hown hK.1 hP 0 rfl rfl 1 (by decide) (hts (.fieldLink RX5 13 "LyingScaleModel" "past" "[I") (List.mem_of_getElem? (i := 2) rfl)) (fun _ h9 => h9) rfl dX5_saved_59 ?_
                refine lv_sipush (v := 176) hx hb dX5_saved_62 (by decide) ?_
                refine lv_aload_n hx hb dX5_saved_65 rfl (lv_at hl 0 rfl) ?_
                refine va_get (D := D) (ci := 5) (v := .int (x0_51.1 0)) (C := RX5) (T := TX5) (N := 11) hx hb hts inX5_saved_5 hown hK.1 hP 0 rfl rfl 3 (by decide) (hts (.fieldLink RX5 31 "LyingScaleModel" "pasts" "I") (List.mem_of_getElem? (i := 1) rfl)) (fun _ h9 => h9) rfl dX5_saved_66 ?_
                refine lv_imul hx hb dX5_saved_69 ?_
                refine lv_iload_n hx hb dX5_saved_70 rfl (lv_at hl 2 rfl) ?_
                refine lv_iadd hx hb dX5_saved_71 ?_
                refine lv_aload_n hx hb dX5_saved_72 rfl (lv_at hl 0 rfl) ?_
                refine va_get (D := D) (ci := 5) (v := .ref (a0 3)) (C := RX5) (T := TX5) (N := 11) hx hb hts inX5_saved_5 hown hK.1 hP 0 rfl rfl 2 (by decide) (hts (.fieldLink RX5 16 "LyingScaleModel" "begun" "[I") (List.mem_of_getElem? (i := 3) rfl)) (fun _ h9 => h9) rfl dX5_saved_73 ?_
                refine lv_iload_n hx hb dX5_saved_76 rfl (lv_at hl 2 rfl) ?_
                replace h := gd h
                obtain ⟨g10, h⟩ := h
                refine va_iald hx hb hK.1 hP 3 0 rfl rfl g10 dX5_saved_77 ?_
                replace h := gd h
                obtain ⟨g11, h⟩ := h
                refine va_iast hx hb hK.1 hP hD hS 2 0 rfl rfl g11 dX5_saved_78 (fun H locs hP hD hS => ?_)
                replace hP : va_P D vwCl (mdW T a0 (sA x0_51 1 (upd (x0_51.2 1) ((176 * (x0_51.1 0)) + i2_51).toNatClampNeg ((x0_51.2 2) i2_51.toNatClampNeg)))) H := hP
                replace hD : va_D A (mdW T a0 (sA x0_51 1 (upd (x0_51.2 1) ((176 * (x0_51.1 0)) + i2_51).toNatClampNeg ((x0_51.2 2) i2_51.toNatClampNeg)))) := hD
                replace h := bd h
                obtain ⟨y12, ey12, h⟩ := h
                rw [Option.some.inj ey12] at hP hD
                refine lv_iinc (v := i2_51 + 1) (lv' := [(2, .int (i2_51 + 1)), (0, .ref (a0 0)), (1, .int v1)]) hx hb dX5_saved_79 hl (k := 2) rfl rfl (by decide) rfl (fun ls hl => ?_)
                refine lv_goto (tgt := 51) hx hb dX5_saved_82 (by decide) ?_
                exact ih51 (i2_51 + 1) y12 _ _ ls h hP hD hS (lv_sub hl [1, 2, 0] rfl)
          exact K51 1000 0 (sI x0_10 0 ((x0_10.1 0) - 1)) _ _ ls h hP hD hS (lv_sub hl [1, 2, 0] rfl)
        replace h := im c7 h
        refine lv_aload_n hx hb dX5_saved_17 rfl (lv_at hl 0 rfl) ?_
        refine va_get (D := D) (ci := 5) (v := .ref (a0 2)) (C := RX5) (T := TX5) (N := 11) hx hb hts inX5_saved_5 hown hK.1 hP 0 rfl rfl 1 (by decide) (hts (.fieldLink RX5 13 "LyingScaleModel" "past" "[I") (List.mem_of_getElem? (i := 2) rfl)) (fun _ h9 => h9) rfl dX5_saved_18 ?_
        refine lv_iload_n hx hb dX5_saved_21 rfl (lv_at hl 2 rfl) ?_
        refine lv_aload_n hx hb dX5_saved_22 rfl (lv_at hl 0 rfl) ?_
        refine va_get (D := D) (ci := 5) (v := .ref (a0 2)) (C := RX5) (T := TX5) (N := 11) hx hb hts inX5_saved_5 hown hK.1 hP 0 rfl rfl 1 (by decide) (hts (.fieldLink RX5 13 "LyingScaleModel" "past" "[I") (List.mem_of_getElem? (i := 2) rfl)) (fun _ h9 => h9) rfl dX5_saved_23 ?_
        refine lv_iload_n hx hb dX5_saved_26 rfl (lv_at hl 2 rfl) ?_
        refine lv_sipush (v := 176) hx hb dX5_saved_27 (by decide) ?_
        refine lv_iadd hx hb dX5_saved_30 ?_
        replace h := gd h
        obtain ⟨g13, h⟩ := h
        refine va_iald hx hb hK.1 hP 2 0 rfl rfl g13 dX5_saved_31 ?_
        replace h := gd h
        obtain ⟨g14, h⟩ := h
        refine va_iast hx hb hK.1 hP hD hS 2 0 rfl rfl g14 dX5_saved_32 (fun H locs hP hD hS => ?_)
        replace hP : va_P D vwCl (mdW T a0 (sA x0_10 1 (upd (x0_10.2 1) i2_10.toNatClampNeg ((x0_10.2 1) (i2_10 + 176).toNatClampNeg)))) H := hP
        replace hD : va_D A (mdW T a0 (sA x0_10 1 (upd (x0_10.2 1) i2_10.toNatClampNeg ((x0_10.2 1) (i2_10 + 176).toNatClampNeg)))) := hD
        replace h := bd h
        obtain ⟨y15, ey15, h⟩ := h
        rw [Option.some.inj ey15] at hP hD
        refine lv_iinc (v := i2_10 + 1) (lv' := [(2, .int (i2_10 + 1)), (0, .ref (a0 0)), (1, .int v1)]) hx hb dX5_saved_33 hl (k := 2) rfl rfl (by decide) rfl (fun ls hl => ?_)
        refine lv_goto (tgt := 10) hx hb dX5_saved_36 (by decide) ?_
        exact ih10 (i2_10 + 1) y15 _ _ ls h hP hD hS (lv_sub hl [1, 2, 0] rfl)
  exact K10 1000 0 x0 _ _ ls h hP hD hS (lv_sub hl [1, 2, 0] rfl)
set_option maxHeartbeats 4000000 in
set_option maxRecDepth 100000 in
theorem c_X5_sets (l : Launch) (D : va_G) (T : Nat → ClassId) (a0 : Nat → Nat) (x0 : St) (v1 : Int32) (sz : Nat) (r : St) (h : F_X5_sets x0 v1 = some r) : Met l yX5_sets wsX5_sets ({ frames := 0, cells := 0, slots := 0, locals := 0 } : Room) (va_Pc [.ref (a0 0), .int v1] (PM D T (mdW T a0 (x0)) sz)) (QMv D (mdW T a0 (r)) (va_A (mdW T a0 (x0)) sz)) 0 0 (va_A (mdW T a0 (x0)) sz) := by
  refine met_of (cc := cX5_sets) (maxL := 3) (ret := none) (lv := [(0, .ref (a0 0)), (1, .int v1)]) (by decide) rfl (Nat.le_of_ble_eq_true rfl) rfl ?_
  intro p e s m args below meth c ls C0 hl hB
  obtain ⟨hx, hb, hr, hml, hown, hts, hlocks, hname⟩ := C0
  obtain ⟨hsz, hP, hK, hD0⟩ := hB
  subst hsz
  have hD := hD0.self (sz := s.heap.size)
  generalize hAe : va_A (mdW T a0 (x0)) s.heap.size = A at hD ⊢
  have hA : ∀ q : Nat, s.heap.size ≤ q → A q := fun q h => by rw [← hAe]; exact Or.inr h
  obtain ⟨H, hH⟩ : ∃ H, H = s.heap := ⟨_, rfl⟩
  obtain ⟨locs, hlo⟩ : ∃ L : List Loc, L = [] := ⟨_, rfl⟩
  have hS : va_S A s.heap s.heap [] := va_S.rf
  rw [← hH] at hP ⊢
  rw [← hlo]
  replace hS : va_S A s.heap H locs := by rw [hH, hlo]; exact hS
  clear hH hlo
  unfold F_X5_sets at h
  refine lv_iconst (v := 0) hx hb dX5_sets_0 (by decide) ?_
  refine lv_istore_n (lv' := [(2, .int 0), (0, .ref (a0 0)), (1, .int v1)]) hx hb dX5_sets_1 rfl hl (by decide) rfl (fun ls hl => ?_)
  have K2 : ∀ (n2 : Nat) (i2_2 : Int32) (x0_2 : St) (H : Heap) (locs : List Loc) (ls : Array Slot), fx2 (B_X5_sets_2 v1) n2 i2_2 x0_2 = some r → va_P D vwCl (mdW T a0 (x0_2)) H → va_D A (mdW T a0 (x0_2)) → va_S A s.heap H locs → lv_has ls 3 [(0, .ref (a0 0)), (1, .int v1), (2, .int i2_2)] → W p l e ({ frames := 0, cells := 0, slots := 0, locals := 0 } : Room) s m args below meth c H locs 0 0 (MQ below (QMv D (mdW T a0 (r)) A) args s 0 0 (A)) (F0 m 2 ls []) := by
    intro n2
    induction n2 with
    | zero =>
        intro i2_2 x0_2 H locs ls h
        cases h
    | succ n2 ih2 =>
        intro i2_2 x0_2 H locs ls h hP hD hS hl
        replace h : B_X5_sets_2 v1 (fx2 (B_X5_sets_2 v1) n2) i2_2 x0_2 = some r := h
        unfold B_X5_sets_2 at h
        refine lv_iload_n hx hb dX5_sets_2 rfl (lv_at hl 2 rfl) ?_
        refine lv_sipush (v := 176) hx hb dX5_sets_3 (by decide) ?_
        refine lv_icmp_ge (tgt := 22) hx hb dX5_sets_6 (by decide) (fun c1 => ?_) (fun c1 => ?_)
        · replace h := ip c1 h
          refine lv_aload_n hx hb dX5_sets_22 rfl (lv_at hl 0 rfl) ?_
          refine va_get (D := D) (ci := 5) (v := .ref (a0 1)) (C := RX5) (T := TX5) (N := 11) hx hb hts inX5_sets_5 hown hK.1 hP 0 rfl rfl 0 (by decide) (hts (.fieldLink RX5 7 "LyingScaleModel" "s" "[I") (List.mem_of_getElem? (i := 1) rfl)) (fun _ h9 => h9) rfl dX5_sets_23 ?_
          refine lv_iconst (v := 0) hx hb dX5_sets_26 (by decide) ?_
          refine lv_iload_n hx hb dX5_sets_27 rfl (lv_at hl 1 rfl) ?_
          refine va_iast hx hb hK.1 hP hD hS 1 0 rfl rfl (show ¬ ((0 : Int32) < 0 ∨ 176 ≤ Int32.toNatClampNeg 0) from by decide) dX5_sets_28 (fun H locs hP hD hS => ?_)
          rw [(show Int32.toNatClampNeg 0 = 0 from by decide)] at hP hD
          replace hP : va_P D vwCl (mdW T a0 (sA x0_2 0 (upd (x0_2.2 0) 0 v1))) H := hP
          replace hD : va_D A (mdW T a0 (sA x0_2 0 (upd (x0_2.2 0) 0 v1))) := hD
          refine lv_aload_n hx hb dX5_sets_29 rfl (lv_at hl 0 rfl) ?_
          refine va_get (D := D) (ci := 5) (v := .ref (a0 1)) (C := RX5) (T := TX5) (N := 11) hx hb hts inX5_sets_5 hown hK.1 hP 0 rfl rfl 0 (by decide) (hts (.fieldLink RX5 7 "LyingScaleModel" "s" "[I") (List.mem_of_getElem? (i := 1) rfl)) (fun _ h9 => h9) rfl dX5_sets_30 ?_
          refine lv_iconst (v := 1) hx hb dX5_sets_33 (by decide) ?_
          refine lv_iconst (v := 1) hx hb dX5_sets_34 (by decide) ?_
          refine va_iast hx hb hK.1 hP hD hS 1 0 rfl rfl (show ¬ ((1 : Int32) < 0 ∨ 176 ≤ Int32.toNatClampNeg 1) from by decide) dX5_sets_35 (fun H locs hP hD hS => ?_)
          rw [(show Int32.toNatClampNeg 1 = 1 from by decide)] at hP hD
          replace hP : va_P D vwCl (mdW T a0 (sA (sA x0_2 0 (upd (x0_2.2 0) 0 v1)) 0 (upd ((sA x0_2 0 (upd (x0_2.2 0) 0 v1)).2 0) 1 1))) H := hP
          replace hD : va_D A (mdW T a0 (sA (sA x0_2 0 (upd (x0_2.2 0) 0 v1)) 0 (upd ((sA x0_2 0 (upd (x0_2.2 0) 0 v1)).2 0) 1 1))) := hD
          replace h := bd h
          obtain ⟨y2, ey2, h⟩ := h
          rw [Option.some.inj ey2] at hP hD
          refine lv_aload_n hx hb dX5_sets_36 rfl (lv_at hl 0 rfl) ?_
          refine va_get (D := D) (ci := 5) (v := .ref (a0 1)) (C := RX5) (T := TX5) (N := 11) hx hb hts inX5_sets_5 hown hK.1 hP 0 rfl rfl 0 (by decide) (hts (.fieldLink RX5 7 "LyingScaleModel" "s" "[I") (List.mem_of_getElem? (i := 1) rfl)) (fun _ h9 => h9) rfl dX5_sets_37 ?_
          refine lv_iconst (v := 4) hx hb dX5_sets_40 (by decide) ?_
          refine lv_iconst (v := (-1)) hx hb dX5_sets_41 (by decide) ?_
          refine va_iast hx hb hK.1 hP hD hS 1 0 rfl rfl (show ¬ ((4 : Int32) < 0 ∨ 176 ≤ Int32.toNatClampNeg 4) from by decide) dX5_sets_42 (fun H locs hP hD hS => ?_)
          rw [(show Int32.toNatClampNeg 4 = 4 from by decide)] at hP hD
          replace hP : va_P D vwCl (mdW T a0 (sA y2 0 (upd (y2.2 0) 4 ((-1))))) H := hP
          replace hD : va_D A (mdW T a0 (sA y2 0 (upd (y2.2 0) 4 ((-1))))) := hD
          obtain rfl := Option.some.inj h
          exact W.vret hx hb hr (fun t ht hW => ⟨⟨(), rfl, trivial, by rw [ht]; exact hP, hD⟩, hS.F ht⟩) hS.2.2 dX5_sets_43 hlocks
        replace h := im c1 h
        refine lv_aload_n hx hb dX5_sets_9 rfl (lv_at hl 0 rfl) ?_
        refine va_get (D := D) (ci := 5) (v := .ref (a0 1)) (C := RX5) (T := TX5) (N := 11) hx hb hts inX5_sets_5 hown hK.1 hP 0 rfl rfl 0 (by decide) (hts (.fieldLink RX5 7 "LyingScaleModel" "s" "[I") (List.mem_of_getElem? (i := 1) rfl)) (fun _ h9 => h9) rfl dX5_sets_10 ?_
        refine lv_iload_n hx hb dX5_sets_13 rfl (lv_at hl 2 rfl) ?_
        refine lv_iconst (v := 0) hx hb dX5_sets_14 (by decide) ?_
        replace h := gd h
        obtain ⟨g3, h⟩ := h
        refine va_iast hx hb hK.1 hP hD hS 1 0 rfl rfl g3 dX5_sets_15 (fun H locs hP hD hS => ?_)
        replace hP : va_P D vwCl (mdW T a0 (sA x0_2 0 (upd (x0_2.2 0) i2_2.toNatClampNeg 0))) H := hP
        replace hD : va_D A (mdW T a0 (sA x0_2 0 (upd (x0_2.2 0) i2_2.toNatClampNeg 0))) := hD
        replace h := bd h
        obtain ⟨y4, ey4, h⟩ := h
        rw [Option.some.inj ey4] at hP hD
        refine lv_iinc (v := i2_2 + 1) (lv' := [(2, .int (i2_2 + 1)), (0, .ref (a0 0)), (1, .int v1)]) hx hb dX5_sets_16 hl (k := 2) rfl rfl (by decide) rfl (fun ls hl => ?_)
        refine lv_goto (tgt := 2) hx hb dX5_sets_19 (by decide) ?_
        exact ih2 (i2_2 + 1) y4 _ _ ls h hP hD hS (lv_sub hl [1, 2, 0] rfl)
  exact K2 1000 0 x0 _ _ ls h hP hD hS (lv_sub hl [1, 2, 0] rfl)
set_option maxHeartbeats 4000000 in
set_option maxRecDepth 100000 in
theorem c_X5_cases (l : Launch) (D : va_G) (T : Nat → ClassId) (a0 : Nat → Nat) (x0 : St) (r : Int32) (h : F_X5_cases x0 = some r) : Met l yX5_cases wsX5_cases ({ frames := 0, cells := 0, slots := 0, locals := 0 } : Room) (va_Pc [.ref (a0 0)] (PB D T (mdW T a0 (x0)))) (QRi r) 0 0 (fun _ => False) := by
  refine met_of (cc := cX5_cases) (maxL := 1) (ret := (some .int)) (lv := [(0, .ref (a0 0))]) (by decide) rfl (Nat.le_of_ble_eq_true rfl) rfl ?_
  intro p e s m args below meth c ls C0 hl hB
  obtain ⟨hx, hb, hr, hml, hown, hts, hlocks, hname⟩ := C0
  obtain ⟨hP, hK⟩ := hB
  unfold F_X5_cases at h
  refine lv_iconst (v := 2) hx hb dX5_cases_0 (by decide) ?_
  refine lv_aload_n hx hb dX5_cases_1 rfl (lv_at hl 0 rfl) ?_
  refine va_get (D := D) (ci := 5) (v := .ref (a0 1)) (C := RX5) (T := TX5) (N := 11) hx hb hts inX5_cases_5 hown hK.1 hP 0 rfl rfl 0 (by decide) (hts (.fieldLink RX5 7 "LyingScaleModel" "s" "[I") (List.mem_of_getElem? (i := 1) rfl)) (fun _ h9 => h9) rfl dX5_cases_2 ?_
  refine lv_iconst (v := 0) hx hb dX5_cases_5 (by decide) ?_
  refine va_iald hx hb hK.1 hP 1 0 rfl rfl (show ¬ ((0 : Int32) < 0 ∨ 176 ≤ Int32.toNatClampNeg 0) from by decide) dX5_cases_6 ?_
  refine eqi (congrArg (x0.2 0) (show Int32.toNatClampNeg 0 = 0 from by decide)) ?_
  refine lv_imul hx hb dX5_cases_7 ?_
  refine lv_iconst (v := 1) hx hb dX5_cases_8 (by decide) ?_
  refine lv_iadd hx hb dX5_cases_9 ?_
  exact W.iret hx hb hr (fun t ht hW => ⟨_, rfl, Option.some.inj h, ht⟩) (fun q hq => absurd hq List.not_mem_nil) dX5_cases_10 hlocks
set_option maxHeartbeats 4000000 in
set_option maxRecDepth 100000 in
theorem c_X5_isCase (l : Launch) (D : va_G) (T : Nat → ClassId) (a0 : Nat → Nat) (x0 : St) (v1 : Int32) (r : Int32) (h : F_X5_isCase x0 v1 = some r) : Met l yX5_isCase wsX5_isCase ({ frames := 1, cells := 0, slots := 0, locals := 22 } : Room) (va_Pc [.ref (a0 0), .int v1] (PB D T (mdW T a0 (x0)))) (QRi r) 0 0 (fun _ => False) := by
  refine met_of (cc := cX5_isCase) (maxL := 2) (ret := (some .boolean)) (lv := [(0, .ref (a0 0)), (1, .int v1)]) (by decide) rfl (Nat.le_of_ble_eq_true rfl) rfl ?_
  intro p e s m args below meth c ls C0 hl hB
  obtain ⟨hx, hb, hr, hml, hown, hts, hlocks, hname⟩ := C0
  obtain ⟨hP, hK⟩ := hB
  unfold F_X5_isCase at h
  refine lv_iload_n hx hb dX5_isCase_0 rfl (lv_at hl 1 rfl) ?_
  refine lv_iconst (v := 0) hx hb dX5_isCase_1 (by decide) ?_
  refine lv_aload_n hx hb dX5_isCase_2 rfl (lv_at hl 0 rfl) ?_
  replace h := bd h
  obtain ⟨t1, et1, h⟩ := h
  refine callRi (v := t1) (va_runV (As := []) (rest := [.int 0, .int v1]) ⟨hx, hb, hml, hown, hts⟩ (c_X5_cases l D T a0 x0 t1 et1) (cwV 0 hts gX5_isCase_X5_cases rfl rfl rfl hdV_X5_cases ⟨Nat.le_of_ble_eq_true rfl, Nat.le_of_ble_eq_true rfl⟩) ⟨PB_blind, va_recv hK.1 hP (ci := 5) (q0 := 0) rfl rfl, PB_at hP hK⟩ rfl rfl hl.1 rfl (lv_room (Nat.le_of_ble_eq_true rfl)) dX5_isCase_3 ⟨Nat.zero_le _, Nat.zero_le _⟩) ?_
  refine lv_iconst (v := 1) hx hb dX5_isCase_6 (by decide) ?_
  refine lv_isub hx hb dX5_isCase_7 ?_
  replace h := bd h
  obtain ⟨t2, et2, h⟩ := h
  refine callRi (v := t2) (va_runS (As := [.int v1, .int 0, .int (t1 - 1)]) (rest := []) ⟨hx, hb, hml, hown, hts⟩ (c_X5_in l D T v1 0 (t1 - 1) t2 et2) (va_cwS 3 hts gX5_isCase_X5_in rfl rfl rfl hdS_X5_in ⟨Nat.le_of_ble_eq_true rfl, Nat.le_of_ble_eq_true rfl⟩) ⟨PB_blind, PB_at (hP.sub (ws' := ([] : va_W)) [] rfl) hK⟩ rfl rfl hl.1 rfl (lv_room (Nat.le_of_ble_eq_true rfl)) dX5_isCase_8 ⟨Nat.zero_le _, Nat.zero_le _⟩) ?_
  replace h := gd h
  obtain ⟨g3, h⟩ := h
  exact W.zret hx hb hr (nrZ g3) (fun t ht hW => ⟨_, rfl, Option.some.inj h, ht⟩) (fun q hq => absurd hq List.not_mem_nil) dX5_isCase_11 hlocks
set_option maxHeartbeats 4000000 in
set_option maxRecDepth 100000 in
theorem c_X5_areSides (l : Launch) (D : va_G) (T : Nat → ClassId) (a0 : Nat → Nat) (x0 : St) (v1 : Int32) (v2 : Int32) (r : Int32) (h : F_X5_areSides x0 v1 v2 = some r) : Met l yX5_areSides wsX5_areSides ({ frames := 1, cells := 0, slots := 0, locals := 22 } : Room) (va_Pc [.ref (a0 0), .int v1, .int v2] (PB D T (mdW T a0 (x0)))) (QRi r) 0 0 (fun _ => False) := by
  refine met_of (cc := cX5_areSides) (maxL := 4) (ret := (some .boolean)) (lv := [(0, .ref (a0 0)), (1, .int v1), (2, .int v2)]) (by decide) rfl (Nat.le_of_ble_eq_true rfl) rfl ?_
  intro p e s m args below meth c ls C0 hl hB
  obtain ⟨hx, hb, hr, hml, hown, hts, hlocks, hname⟩ := C0
  obtain ⟨hP, hK⟩ := hB
  unfold F_X5_areSides at h
  refine lv_iconst (v := 1) hx hb dX5_areSides_0 (by decide) ?_
  refine lv_aload_n hx hb dX5_areSides_1 rfl (lv_at hl 0 rfl) ?_
  refine va_get (D := D) (ci := 5) (v := .ref (a0 1)) (C := RX5) (T := TX5) (N := 11) hx hb hts inX5_areSides_5 hown hK.1 hP 0 rfl rfl 0 (by decide) (hts (.fieldLink RX5 7 "LyingScaleModel" "s" "[I") (List.mem_of_getElem? (i := 1) rfl)) (fun _ h9 => h9) rfl dX5_areSides_2 ?_
  refine lv_iconst (v := 0) hx hb dX5_areSides_5 (by decide) ?_
  refine va_iald hx hb hK.1 hP 1 0 rfl rfl (show ¬ ((0 : Int32) < 0 ∨ 176 ≤ Int32.toNatClampNeg 0) from by decide) dX5_areSides_6 ?_
  refine eqi (congrArg (x0.2 0) (show Int32.toNatClampNeg 0 = 0 from by decide)) ?_
  refine lv_ishl hx hb dX5_areSides_7 ?_
  refine lv_iconst (v := 1) hx hb dX5_areSides_8 (by decide) ?_
  refine lv_isub hx hb dX5_areSides_9 ?_
  refine lv_istore_n (lv' := [(3, .int ((1 <<< (((x0.2 0) 0) &&& 31)) - 1)), (0, .ref (a0 0)), (1, .int v1), (2, .int v2)]) hx hb dX5_areSides_10 rfl hl (by decide) rfl (fun ls hl => ?_)
  refine lv_iload_n hx hb dX5_areSides_11 rfl (lv_at hl 2 rfl) ?_
  refine lv_iconst (v := 1) hx hb dX5_areSides_12 (by decide) ?_
  refine lv_iload_n hx hb dX5_areSides_13 rfl (lv_at hl 0 rfl) ?_
  replace h := bd h
  obtain ⟨t1, et1, h⟩ := h
  refine callRi (v := t1) (va_runS (As := [.int v1, .int 1, .int ((1 <<< (((x0.2 0) 0) &&& 31)) - 1)]) (rest := []) ⟨hx, hb, hml, hown, hts⟩ (c_X5_in l D T v1 1 ((1 <<< (((x0.2 0) 0) &&& 31)) - 1) t1 et1) (va_cwS 3 hts gX5_areSides_X5_in rfl rfl rfl hdS_X5_in ⟨Nat.le_of_ble_eq_true rfl, Nat.le_of_ble_eq_true rfl⟩) ⟨PB_blind, PB_at (hP.sub (ws' := ([] : va_W)) [] rfl) hK⟩ rfl rfl hl.1 rfl (lv_room (Nat.le_of_ble_eq_true rfl)) dX5_areSides_14 ⟨Nat.zero_le _, Nat.zero_le _⟩) ?_
  refine lv_if_eq (tgt := 50) hx hb dX5_areSides_17 (by decide) (fun c2 => ?_) (fun c2 => ?_)
  · replace h := ip c2 h
    refine lv_iconst (v := 0) hx hb dX5_areSides_50 (by decide) ?_
    exact W.zret hx hb hr rfl (fun t ht hW => ⟨_, rfl, Option.some.inj h, ht⟩) (fun q hq => absurd hq List.not_mem_nil) dX5_areSides_51 hlocks
  replace h := im c2 h
  refine lv_iload_n hx hb dX5_areSides_20 rfl (lv_at hl 3 rfl) ?_
  refine lv_iconst (v := 1) hx hb dX5_areSides_21 (by decide) ?_
  refine lv_iload_n hx hb dX5_areSides_22 rfl (lv_at hl 0 rfl) ?_
  replace h := bd h
  obtain ⟨t3, et3, h⟩ := h
  refine callRi (v := t3) (va_runS (As := [.int v2, .int 1, .int ((1 <<< (((x0.2 0) 0) &&& 31)) - 1)]) (rest := []) ⟨hx, hb, hml, hown, hts⟩ (c_X5_in l D T v2 1 ((1 <<< (((x0.2 0) 0) &&& 31)) - 1) t3 et3) (va_cwS 3 hts gX5_areSides_X5_in rfl rfl rfl hdS_X5_in ⟨Nat.le_of_ble_eq_true rfl, Nat.le_of_ble_eq_true rfl⟩) ⟨PB_blind, PB_at (hP.sub (ws' := ([] : va_W)) [] rfl) hK⟩ rfl rfl hl.1 rfl (lv_room (Nat.le_of_ble_eq_true rfl)) dX5_areSides_23 ⟨Nat.zero_le _, Nat.zero_le _⟩) ?_
  refine lv_if_eq (tgt := 50) hx hb dX5_areSides_26 (by decide) (fun c4 => ?_) (fun c4 => ?_)
  · replace h := ip c4 h
    refine lv_iconst (v := 0) hx hb dX5_areSides_50 (by decide) ?_
    exact W.zret hx hb hr rfl (fun t ht hW => ⟨_, rfl, Option.some.inj h, ht⟩) (fun q hq => absurd hq List.not_mem_nil) dX5_areSides_51 hlocks
  replace h := im c4 h
  refine lv_iload_n hx hb dX5_areSides_29 rfl (lv_at hl 2 rfl) ?_
  refine lv_iload_n hx hb dX5_areSides_30 rfl (lv_at hl 3 rfl) ?_
  refine lv_iand hx hb dX5_areSides_31 ?_
  refine lv_if_ne (tgt := 50) hx hb dX5_areSides_32 (by decide) (fun c5 => ?_) (fun c5 => ?_)
  · replace h := im c5 h
    refine lv_iconst (v := 0) hx hb dX5_areSides_50 (by decide) ?_
    exact W.zret hx hb hr rfl (fun t ht hW => ⟨_, rfl, Option.some.inj h, ht⟩) (fun q hq => absurd hq List.not_mem_nil) dX5_areSides_51 hlocks
  replace h := ip c5 h
  refine lv_iload_n hx hb dX5_areSides_35 rfl (lv_at hl 2 rfl) ?_
  replace h := bd h
  obtain ⟨t6, et6, h⟩ := h
  refine callRi (v := t6) (va_runS (As := [.int v1]) (rest := []) ⟨hx, hb, hml, hown, hts⟩ (c_X5_ones l D T v1 t6 et6) (va_cwS 1 hts gX5_areSides_X5_ones rfl rfl rfl hdS_X5_ones ⟨Nat.le_of_ble_eq_true rfl, Nat.le_of_ble_eq_true rfl⟩) ⟨PB_blind, PB_at (hP.sub (ws' := ([] : va_W)) [] rfl) hK⟩ rfl rfl hl.1 rfl (lv_room (Nat.le_of_ble_eq_true rfl)) dX5_areSides_36 ⟨Nat.zero_le _, Nat.zero_le _⟩) ?_
  refine lv_iload_n hx hb dX5_areSides_39 rfl (lv_at hl 3 rfl) ?_
  replace h := bd h
  obtain ⟨t7, et7, h⟩ := h
  refine callRi (v := t7) (va_runS (As := [.int v2]) (rest := [.int t6]) ⟨hx, hb, hml, hown, hts⟩ (c_X5_ones l D T v2 t7 et7) (va_cwS 1 hts gX5_areSides_X5_ones rfl rfl rfl hdS_X5_ones ⟨Nat.le_of_ble_eq_true rfl, Nat.le_of_ble_eq_true rfl⟩) ⟨PB_blind, PB_at (hP.sub (ws' := ([] : va_W)) [] rfl) hK⟩ rfl rfl hl.1 rfl (lv_room (Nat.le_of_ble_eq_true rfl)) dX5_areSides_40 ⟨Nat.zero_le _, Nat.zero_le _⟩) ?_
  refine lv_icmp_ne (tgt := 50) hx hb dX5_areSides_43 (by decide) (fun c8 => ?_) (fun c8 => ?_)
  · replace h := im c8 h
    refine lv_iconst (v := 0) hx hb dX5_areSides_50 (by decide) ?_
    exact W.zret hx hb hr rfl (fun t ht hW => ⟨_, rfl, Option.some.inj h, ht⟩) (fun q hq => absurd hq List.not_mem_nil) dX5_areSides_51 hlocks
  replace h := ip c8 h
  refine lv_iconst (v := 1) hx hb dX5_areSides_46 (by decide) ?_
  refine lv_goto (tgt := 51) hx hb dX5_areSides_47 (by decide) ?_
  exact W.zret hx hb hr rfl (fun t ht hW => ⟨_, rfl, Option.some.inj h, ht⟩) (fun q hq => absurd hq List.not_mem_nil) dX5_areSides_51 hlocks
set_option maxHeartbeats 4000000 in
set_option maxRecDepth 100000 in
theorem c_X5_isLeft (l : Launch) (D : va_G) (T : Nat → ClassId) (a0 : Nat → Nat) (x0 : St) (v1 : Int32) (r : Int32) (h : F_X5_isLeft x0 v1 = some r) : Met l yX5_isLeft wsX5_isLeft ({ frames := 0, cells := 0, slots := 0, locals := 0 } : Room) (va_Pc [.ref (a0 0), .int v1] (PB D T (mdW T a0 (x0)))) (QRi r) 0 0 (fun _ => False) := by
  refine met_of (cc := cX5_isLeft) (maxL := 2) (ret := (some .boolean)) (lv := [(0, .ref (a0 0)), (1, .int v1)]) (by decide) rfl (Nat.le_of_ble_eq_true rfl) rfl ?_
  intro p e s m args below meth c ls C0 hl hB
  obtain ⟨hx, hb, hr, hml, hown, hts, hlocks, hname⟩ := C0
  obtain ⟨hP, hK⟩ := hB
  unfold F_X5_isLeft at h
  refine lv_aload_n hx hb dX5_isLeft_0 rfl (lv_at hl 0 rfl) ?_
  refine va_get (D := D) (ci := 5) (v := .ref (a0 1)) (C := RX5) (T := TX5) (N := 11) hx hb hts inX5_isLeft_5 hown hK.1 hP 0 rfl rfl 0 (by decide) (hts (.fieldLink RX5 7 "LyingScaleModel" "s" "[I") (List.mem_of_getElem? (i := 1) rfl)) (fun _ h9 => h9) rfl dX5_isLeft_1 ?_
  refine lv_sipush (v := 143) hx hb dX5_isLeft_4 (by decide) ?_
  refine lv_iload_n hx hb dX5_isLeft_7 rfl (lv_at hl 1 rfl) ?_
  refine lv_iadd hx hb dX5_isLeft_8 ?_
  replace h := gd h
  obtain ⟨g1, h⟩ := h
  refine va_iald hx hb hK.1 hP 1 0 rfl rfl g1 dX5_isLeft_9 ?_
  refine lv_aload_n hx hb dX5_isLeft_10 rfl (lv_at hl 0 rfl) ?_
  refine va_get (D := D) (ci := 5) (v := .ref (a0 1)) (C := RX5) (T := TX5) (N := 11) hx hb hts inX5_isLeft_5 hown hK.1 hP 0 rfl rfl 0 (by decide) (hts (.fieldLink RX5 7 "LyingScaleModel" "s" "[I") (List.mem_of_getElem? (i := 1) rfl)) (fun _ h9 => h9) rfl dX5_isLeft_11 ?_
  refine lv_iconst (v := 1) hx hb dX5_isLeft_14 (by decide) ?_
  refine va_iald hx hb hK.1 hP 1 0 rfl rfl (show ¬ ((1 : Int32) < 0 ∨ 176 ≤ Int32.toNatClampNeg 1) from by decide) dX5_isLeft_15 ?_
  refine eqi (congrArg (x0.2 0) (show Int32.toNatClampNeg 1 = 1 from by decide)) ?_
  refine lv_icmp_gt (tgt := 23) hx hb dX5_isLeft_16 (by decide) (fun c2 => ?_) (fun c2 => ?_)
  · replace h := ip c2 h
    refine lv_iconst (v := 0) hx hb dX5_isLeft_23 (by decide) ?_
    exact W.zret hx hb hr rfl (fun t ht hW => ⟨_, rfl, Option.some.inj h, ht⟩) (fun q hq => absurd hq List.not_mem_nil) dX5_isLeft_24 hlocks
  replace h := im c2 h
  refine lv_iconst (v := 1) hx hb dX5_isLeft_19 (by decide) ?_
  refine lv_goto (tgt := 24) hx hb dX5_isLeft_20 (by decide) ?_
  exact W.zret hx hb hr rfl (fun t ht hW => ⟨_, rfl, Option.some.inj h, ht⟩) (fun q hq => absurd hq List.not_mem_nil) dX5_isLeft_24 hlocks
set_option maxHeartbeats 4000000 in
set_option maxRecDepth 100000 in
theorem c_X5_lefts (l : Launch) (D : va_G) (T : Nat → ClassId) (a0 : Nat → Nat) (x0 : St) (r : Int32) (h : F_X5_lefts x0 = some r) : Met l yX5_lefts wsX5_lefts ({ frames := 1, cells := 0, slots := 0, locals := 21 } : Room) (va_Pc [.ref (a0 0)] (PB D T (mdW T a0 (x0)))) (QRi r) 0 0 (fun _ => False) := by
  refine met_of (cc := cX5_lefts) (maxL := 3) (ret := (some .int)) (lv := [(0, .ref (a0 0))]) (by decide) rfl (Nat.le_of_ble_eq_true rfl) rfl ?_
  intro p e s m args below meth c ls C0 hl hB
  obtain ⟨hx, hb, hr, hml, hown, hts, hlocks, hname⟩ := C0
  obtain ⟨hP, hK⟩ := hB
  unfold F_X5_lefts at h
  refine lv_iconst (v := 0) hx hb dX5_lefts_0 (by decide) ?_
  refine lv_istore_n (lv' := [(1, .int 0), (0, .ref (a0 0))]) hx hb dX5_lefts_1 rfl hl (by decide) rfl (fun ls hl => ?_)
  refine lv_iconst (v := 0) hx hb dX5_lefts_2 (by decide) ?_
  refine lv_istore_n (lv' := [(2, .int 0), (1, .int 0), (0, .ref (a0 0))]) hx hb dX5_lefts_3 rfl hl (by decide) rfl (fun ls hl => ?_)
  have K4 : ∀ (n4 : Nat) (i1_4 : Int32) (i2_4 : Int32) (ls : Array Slot), fx2 (B_X5_lefts_4 x0) n4 i1_4 i2_4 = some r → lv_has ls 3 [(0, .ref (a0 0)), (1, .int i1_4), (2, .int i2_4)] → W p l e ({ frames := 1, cells := 0, slots := 0, locals := 21 } : Room) s m args below meth c s.heap [] 0 0 (MQ below (QRi r) args s 0 0 (fun _ => False)) (F0 m 4 ls []) := by
    intro n4
    induction n4 with
    | zero =>
        intro i1_4 i2_4 ls h
        cases h
    | succ n4 ih4 =>
        intro i1_4 i2_4 ls h hl
        replace h : B_X5_lefts_4 x0 (fx2 (B_X5_lefts_4 x0) n4) i1_4 i2_4 = some r := h
        unfold B_X5_lefts_4 at h
        refine lv_iload_n hx hb dX5_lefts_4 rfl (lv_at hl 2 rfl) ?_
        refine lv_aload_n hx hb dX5_lefts_5 rfl (lv_at hl 0 rfl) ?_
        replace h := bd h
        obtain ⟨t1, et1, h⟩ := h
        refine callRi (v := t1) (va_runV (As := []) (rest := [.int i2_4]) ⟨hx, hb, hml, hown, hts⟩ (c_X5_cases l D T a0 x0 t1 et1) (cwV 0 hts gX5_lefts_X5_cases rfl rfl rfl hdV_X5_cases ⟨Nat.le_of_ble_eq_true rfl, Nat.le_of_ble_eq_true rfl⟩) ⟨PB_blind, va_recv hK.1 hP (ci := 5) (q0 := 0) rfl rfl, PB_at hP hK⟩ rfl rfl hl.1 rfl (lv_room (Nat.le_of_ble_eq_true rfl)) dX5_lefts_6 ⟨Nat.zero_le _, Nat.zero_le _⟩) ?_
        refine lv_icmp_ge (tgt := 34) hx hb dX5_lefts_9 (by decide) (fun c2 => ?_) (fun c2 => ?_)
        · replace h := ip c2 h
          refine lv_iload_n hx hb dX5_lefts_34 rfl (lv_at hl 1 rfl) ?_
          exact W.iret hx hb hr (fun t ht hW => ⟨_, rfl, Option.some.inj h, ht⟩) (fun q hq => absurd hq List.not_mem_nil) dX5_lefts_35 hlocks
        replace h := im c2 h
        refine lv_iload_n hx hb dX5_lefts_12 rfl (lv_at hl 1 rfl) ?_
        refine lv_aload_n hx hb dX5_lefts_13 rfl (lv_at hl 0 rfl) ?_
        refine lv_iload_n hx hb dX5_lefts_14 rfl (lv_at hl 2 rfl) ?_
        replace h := bd h
        obtain ⟨t3, et3, h⟩ := h
        refine callRi (v := t3) (va_runV (As := [.int i2_4]) (rest := [.int i1_4]) ⟨hx, hb, hml, hown, hts⟩ (c_X5_isLeft l D T a0 x0 i2_4 t3 et3) (cwV 1 hts gX5_lefts_X5_isLeft rfl rfl rfl hdV_X5_isLeft ⟨Nat.le_of_ble_eq_true rfl, Nat.le_of_ble_eq_true rfl⟩) ⟨PB_blind, va_recv hK.1 hP (ci := 5) (q0 := 0) rfl rfl, PB_at hP hK⟩ rfl rfl hl.1 rfl (lv_room (Nat.le_of_ble_eq_true rfl)) dX5_lefts_15 ⟨Nat.zero_le _, Nat.zero_le _⟩) ?_
        refine lv_if_eq (tgt := 25) hx hb dX5_lefts_18 (by decide) (fun c4 => ?_) (fun c4 => ?_)
        · replace h := ip c4 h
          refine lv_iconst (v := 0) hx hb dX5_lefts_25 (by decide) ?_
          refine lv_iadd hx hb dX5_lefts_26 ?_
          refine lv_istore_n (lv' := [(1, .int (i1_4 + 0)), (0, .ref (a0 0)), (2, .int i2_4)]) hx hb dX5_lefts_27 rfl hl (by decide) rfl (fun ls hl => ?_)
          refine lv_iinc (v := i2_4 + 1) (lv' := [(2, .int (i2_4 + 1)), (1, .int (i1_4 + 0)), (0, .ref (a0 0))]) hx hb dX5_lefts_28 hl (k := 2) rfl rfl (by decide) rfl (fun ls hl => ?_)
          refine lv_goto (tgt := 4) hx hb dX5_lefts_31 (by decide) ?_
          exact ih4 (i1_4 + 0) (i2_4 + 1) ls h (lv_sub hl [2, 1, 0] rfl)
        replace h := im c4 h
        refine lv_iconst (v := 1) hx hb dX5_lefts_21 (by decide) ?_
        refine lv_goto (tgt := 26) hx hb dX5_lefts_22 (by decide) ?_
        refine lv_iadd hx hb dX5_lefts_26 ?_
        refine lv_istore_n (lv' := [(1, .int (i1_4 + 1)), (0, .ref (a0 0)), (2, .int i2_4)]) hx hb dX5_lefts_27 rfl hl (by decide) rfl (fun ls hl => ?_)
        refine lv_iinc (v := i2_4 + 1) (lv' := [(2, .int (i2_4 + 1)), (1, .int (i1_4 + 1)), (0, .ref (a0 0))]) hx hb dX5_lefts_28 hl (k := 2) rfl rfl (by decide) rfl (fun ls hl => ?_)
        refine lv_goto (tgt := 4) hx hb dX5_lefts_31 (by decide) ?_
        exact ih4 (i1_4 + 1) (i2_4 + 1) ls h (lv_sub hl [2, 1, 0] rfl)
  exact K4 1000 0 0 ls h (lv_sub hl [2, 1, 0] rfl)
set_option maxHeartbeats 4000000 in
set_option maxRecDepth 100000 in
theorem c_X5_begin (l : Launch) (D : va_G) (T : Nat → ClassId) (a0 : Nat → Nat) (x0 : St) (v1 : Int32) (sz : Nat) (r : Int32 × St) (h : F_X5_begin x0 v1 = some r) : Met l yX5_begin wsX5_begin ({ frames := 2, cells := 0, slots := 0, locals := 43 } : Room) (va_Pc [.ref (a0 0), .int v1] (PM D T (mdW T a0 (x0)) sz)) (QMi D (mdW T a0 (r.2)) r.1 (va_A (mdW T a0 (x0)) sz)) 0 0 (va_A (mdW T a0 (x0)) sz) := by
  refine met_of (cc := cX5_begin) (maxL := 3) (ret := (some .int)) (lv := [(0, .ref (a0 0)), (1, .int v1)]) (by decide) rfl (Nat.le_of_ble_eq_true rfl) rfl ?_
  intro p e s m args below meth c ls C0 hl hB
  obtain ⟨hx, hb, hr, hml, hown, hts, hlocks, hname⟩ := C0
  obtain ⟨hsz, hP, hK, hD0⟩ := hB
  subst hsz
  have hD := hD0.self (sz := s.heap.size)
  generalize hAe : va_A (mdW T a0 (x0)) s.heap.size = A at hD ⊢
  have hA : ∀ q : Nat, s.heap.size ≤ q → A q := fun q h => by rw [← hAe]; exact Or.inr h
  obtain ⟨H, hH⟩ : ∃ H, H = s.heap := ⟨_, rfl⟩
  obtain ⟨locs, hlo⟩ : ∃ L : List Loc, L = [] := ⟨_, rfl⟩
  have hS : va_S A s.heap s.heap [] := va_S.rf
  rw [← hH] at hP ⊢
  rw [← hlo]
  replace hS : va_S A s.heap H locs := by rw [hH, hlo]; exact hS
  clear hH hlo
  unfold F_X5_begin at h
  refine lv_iload_n hx hb dX5_begin_0 rfl (lv_at hl 1 rfl) ?_
  refine lv_iconst (v := 2) hx hb dX5_begin_1 (by decide) ?_
  refine lv_bipush (v := 16) hx hb dX5_begin_2 (by decide) ?_
  replace h := bd h
  obtain ⟨t1, et1, h⟩ := h
  refine callRi (v := t1) (va_runS (As := [.int v1, .int 2, .int 16]) (rest := []) ⟨hx, hb, hml, hown, hts⟩ (c_X5_in l D T v1 2 16 t1 et1) (va_cwS 3 hts gX5_begin_X5_in rfl rfl rfl hdS_X5_in ⟨Nat.le_of_ble_eq_true rfl, Nat.le_of_ble_eq_true rfl⟩) ⟨PB_blind, PB_at (hP.sub (ws' := ([] : va_W)) [] rfl) hK⟩ rfl rfl hl.1 rfl (lv_room (Nat.le_of_ble_eq_true rfl)) dX5_begin_4 ⟨Nat.zero_le _, Nat.zero_le _⟩) ?_
  refine lv_if_ne (tgt := 16) hx hb dX5_begin_7 (by decide) (fun c2 => ?_) (fun c2 => ?_)
  · replace h := im c2 h
    refine lv_aload_n hx hb dX5_begin_16 rfl (lv_at hl 0 rfl) ?_
    replace h := bd h
    obtain ⟨t3, et3, h⟩ := h
    refine callMv (wr := []) (ws' := mdW T a0 (t3)) (va_runV (As := []) (rest := []) ⟨hx, hb, hml, hown, hts⟩ (c_X5_begins l D T a0 x0 _ t3 et3) (cwV 0 hts gX5_begin_X5_begins rfl rfl rfl hdV_X5_begins ⟨Nat.le_of_ble_eq_true rfl, Nat.le_of_ble_eq_true rfl⟩) ⟨PM_blind, va_recv hK.1 hP (ci := 5) (q0 := 0) rfl rfl, PM_at hP hD hK⟩ rfl rfl hl.1 rfl (lv_room (Nat.le_of_ble_eq_true rfl)) dX5_begin_17 ⟨Nat.zero_le _, Nat.zero_le _⟩) hS hA hP hD [0, 1, 2, 3, 4] [] rfl rfl (by decide) (by decide) [0, 1, 2, 3, 4] (by decide) rfl (fun H locs hP hD hS => ?_)
    refine lv_aload_n hx hb dX5_begin_20 rfl (lv_at hl 0 rfl) ?_
    refine va_get (D := D) (ci := 5) (v := .ref (a0 1)) (C := RX5) (T := TX5) (N := 11) hx hb hts inX5_begin_5 hown hK.1 hP 0 rfl rfl 0 (by decide) (hts (.fieldLink RX5 7 "LyingScaleModel" "s" "[I") (List.mem_of_getElem? (i := 1) rfl)) (fun _ h9 => h9) rfl dX5_begin_21 ?_
    refine lv_iconst (v := 2) hx hb dX5_begin_24 (by decide) ?_
    refine va_iald hx hb hK.1 hP 1 0 rfl rfl (show ¬ ((2 : Int32) < 0 ∨ 176 ≤ Int32.toNatClampNeg 2) from by decide) dX5_begin_25 ?_
    refine eqi (congrArg (t3.2 0) (show Int32.toNatClampNeg 2 = 2 from by decide)) ?_
    refine lv_istore_n (lv' := [(2, .int ((t3.2 0) 2)), (0, .ref (a0 0)), (1, .int v1)]) hx hb dX5_begin_26 rfl hl (by decide) rfl (fun ls hl => ?_)
    refine lv_aload_n hx hb dX5_begin_27 rfl (lv_at hl 1 rfl) ?_
    refine lv_iload_n hx hb dX5_begin_28 rfl (lv_at hl 2 rfl) ?_
    replace h := bd h
    obtain ⟨t4, et4, h⟩ := h
    refine callMv (wr := []) (ws' := mdW T a0 (t4)) (va_runV (As := [.int v1]) (rest := []) ⟨hx, hb, hml, hown, hts⟩ (c_X5_sets l D T a0 t3 v1 _ t4 et4) (cwV 1 hts gX5_begin_X5_sets rfl rfl rfl hdV_X5_sets ⟨Nat.le_of_ble_eq_true rfl, Nat.le_of_ble_eq_true rfl⟩) ⟨PM_blind, va_recv hK.1 hP (ci := 5) (q0 := 0) rfl rfl, PM_at hP hD hK⟩ rfl rfl hl.1 rfl (lv_room (Nat.le_of_ble_eq_true rfl)) dX5_begin_29 ⟨Nat.zero_le _, Nat.zero_le _⟩) hS hA hP hD [0, 1, 2, 3, 4] [] rfl rfl (by decide) (by decide) [0, 1, 2, 3, 4] (by decide) rfl (fun H locs hP hD hS => ?_)
    refine lv_aload_n hx hb dX5_begin_32 rfl (lv_at hl 1 rfl) ?_
    refine lv_iload_n hx hb dX5_begin_33 rfl (lv_at hl 0 rfl) ?_
    replace h := bd h
    obtain ⟨t5, et5, h⟩ := h
    refine callMi (wr := []) (ws' := mdW T a0 (t5.2)) (va_runV (As := [.int ((t3.2 0) 2)]) (rest := []) ⟨hx, hb, hml, hown, hts⟩ (c_X5_saved l D T a0 t4 ((t3.2 0) 2) _ t5 et5) (cwV 1 hts gX5_begin_X5_saved rfl rfl rfl hdV_X5_saved ⟨Nat.le_of_ble_eq_true rfl, Nat.le_of_ble_eq_true rfl⟩) ⟨PM_blind, va_recv hK.1 hP (ci := 5) (q0 := 0) rfl rfl, PM_at hP hD hK⟩ rfl rfl hl.1 rfl (lv_room (Nat.le_of_ble_eq_true rfl)) dX5_begin_34 ⟨Nat.zero_le _, Nat.zero_le _⟩) hS hA hP hD [0, 1, 2, 3, 4] [] rfl rfl (by decide) (by decide) [0, 1, 2, 3, 4] (by decide) rfl (fun H locs hP hD hS => ?_)
    obtain rfl := Option.some.inj h
    exact W.iret hx hb hr (fun t ht hW => ⟨⟨_, (), rfl, rfl, by rw [ht]; exact hP, hD⟩, hS.F ht⟩) hS.2.2 dX5_begin_37 hlocks
  replace h := ip c2 h
  refine lv_aload_n hx hb dX5_begin_10 rfl (lv_at hl 0 rfl) ?_
  refine lv_iconst (v := 1) hx hb dX5_begin_11 (by decide) ?_
  replace h := bd h
  obtain ⟨t6, et6, h⟩ := h
  refine callMi (wr := []) (ws' := mdW T a0 (t6.2)) (va_runV (As := [.int 1]) (rest := []) ⟨hx, hb, hml, hown, hts⟩ (c_X5_fails l D T a0 x0 1 _ t6 et6) (cwV 1 hts gX5_begin_X5_fails rfl rfl rfl hdV_X5_fails ⟨Nat.le_of_ble_eq_true rfl, Nat.le_of_ble_eq_true rfl⟩) ⟨PM_blind, va_recv hK.1 hP (ci := 5) (q0 := 0) rfl rfl, PM_at hP hD hK⟩ rfl rfl hl.1 rfl (lv_room (Nat.le_of_ble_eq_true rfl)) dX5_begin_12 ⟨Nat.zero_le _, Nat.zero_le _⟩) hS hA hP hD [0, 1, 2, 3, 4] [] rfl rfl (by decide) (by decide) [0, 1, 2, 3, 4] (by decide) rfl (fun H locs hP hD hS => ?_)
  obtain rfl := Option.some.inj h
  exact W.iret hx hb hr (fun t ht hW => ⟨⟨_, (), rfl, rfl, by rw [ht]; exact hP, hD⟩, hS.F ht⟩) hS.2.2 dX5_begin_15 hlocks
set_option maxHeartbeats 4000000 in
set_option maxRecDepth 100000 in
theorem c_X5_setLimit (l : Launch) (D : va_G) (T : Nat → ClassId) (a0 : Nat → Nat) (x0 : St) (v1 : Int32) (sz : Nat) (r : Int32 × St) (h : F_X5_setLimit x0 v1 = some r) : Met l yX5_setLimit wsX5_setLimit ({ frames := 2, cells := 0, slots := 0, locals := 43 } : Room) (va_Pc [.ref (a0 0), .int v1] (PM D T (mdW T a0 (x0)) sz)) (QMi D (mdW T a0 (r.2)) r.1 (va_A (mdW T a0 (x0)) sz)) 0 0 (va_A (mdW T a0 (x0)) sz) := by
  refine met_of (cc := cX5_setLimit) (maxL := 2) (ret := (some .int)) (lv := [(0, .ref (a0 0)), (1, .int v1)]) (by decide) rfl (Nat.le_of_ble_eq_true rfl) rfl ?_
  intro p e s m args below meth c ls C0 hl hB
  obtain ⟨hx, hb, hr, hml, hown, hts, hlocks, hname⟩ := C0
  obtain ⟨hsz, hP, hK, hD0⟩ := hB
  subst hsz
  have hD := hD0.self (sz := s.heap.size)
  generalize hAe : va_A (mdW T a0 (x0)) s.heap.size = A at hD ⊢
  have hA : ∀ q : Nat, s.heap.size ≤ q → A q := fun q h => by rw [← hAe]; exact Or.inr h
  obtain ⟨H, hH⟩ : ∃ H, H = s.heap := ⟨_, rfl⟩
  obtain ⟨locs, hlo⟩ : ∃ L : List Loc, L = [] := ⟨_, rfl⟩
  have hS : va_S A s.heap s.heap [] := va_S.rf
  rw [← hH] at hP ⊢
  rw [← hlo]
  replace hS : va_S A s.heap H locs := by rw [hH, hlo]; exact hS
  clear hH hlo
  unfold F_X5_setLimit at h
  refine lv_iload_n hx hb dX5_setLimit_0 rfl (lv_at hl 1 rfl) ?_
  refine lv_iconst (v := 0) hx hb dX5_setLimit_1 (by decide) ?_
  refine lv_iconst (v := 2) hx hb dX5_setLimit_2 (by decide) ?_
  replace h := bd h
  obtain ⟨t1, et1, h⟩ := h
  refine callRi (v := t1) (va_runS (As := [.int v1, .int 0, .int 2]) (rest := []) ⟨hx, hb, hml, hown, hts⟩ (c_X5_in l D T v1 0 2 t1 et1) (va_cwS 3 hts gX5_setLimit_X5_in rfl rfl rfl hdS_X5_in ⟨Nat.le_of_ble_eq_true rfl, Nat.le_of_ble_eq_true rfl⟩) ⟨PB_blind, PB_at (hP.sub (ws' := ([] : va_W)) [] rfl) hK⟩ rfl rfl hl.1 rfl (lv_room (Nat.le_of_ble_eq_true rfl)) dX5_setLimit_3 ⟨Nat.zero_le _, Nat.zero_le _⟩) ?_
  refine lv_if_ne (tgt := 15) hx hb dX5_setLimit_6 (by decide) (fun c2 => ?_) (fun c2 => ?_)
  · replace h := im c2 h
    refine lv_aload_n hx hb dX5_setLimit_15 rfl (lv_at hl 0 rfl) ?_
    replace h := bd h
    obtain ⟨t3, et3, h⟩ := h
    refine callMv (wr := []) (ws' := mdW T a0 (t3)) (va_runV (As := []) (rest := []) ⟨hx, hb, hml, hown, hts⟩ (c_X5_begins l D T a0 x0 _ t3 et3) (cwV 0 hts gX5_setLimit_X5_begins rfl rfl rfl hdV_X5_begins ⟨Nat.le_of_ble_eq_true rfl, Nat.le_of_ble_eq_true rfl⟩) ⟨PM_blind, va_recv hK.1 hP (ci := 5) (q0 := 0) rfl rfl, PM_at hP hD hK⟩ rfl rfl hl.1 rfl (lv_room (Nat.le_of_ble_eq_true rfl)) dX5_setLimit_16 ⟨Nat.zero_le _, Nat.zero_le _⟩) hS hA hP hD [0, 1, 2, 3, 4] [] rfl rfl (by decide) (by decide) [0, 1, 2, 3, 4] (by decide) rfl (fun H locs hP hD hS => ?_)
    refine lv_aload_n hx hb dX5_setLimit_19 rfl (lv_at hl 0 rfl) ?_
    refine va_get (D := D) (ci := 5) (v := .ref (a0 1)) (C := RX5) (T := TX5) (N := 11) hx hb hts inX5_setLimit_5 hown hK.1 hP 0 rfl rfl 0 (by decide) (hts (.fieldLink RX5 7 "LyingScaleModel" "s" "[I") (List.mem_of_getElem? (i := 1) rfl)) (fun _ h9 => h9) rfl dX5_setLimit_20 ?_
    refine lv_iconst (v := 1) hx hb dX5_setLimit_23 (by decide) ?_
    refine lv_iload_n hx hb dX5_setLimit_24 rfl (lv_at hl 1 rfl) ?_
    refine va_iast hx hb hK.1 hP hD hS 1 0 rfl rfl (show ¬ ((1 : Int32) < 0 ∨ 176 ≤ Int32.toNatClampNeg 1) from by decide) dX5_setLimit_25 (fun H locs hP hD hS => ?_)
    rw [(show Int32.toNatClampNeg 1 = 1 from by decide)] at hP hD
    replace hP : va_P D vwCl (mdW T a0 (sA t3 0 (upd (t3.2 0) 1 v1))) H := hP
    replace hD : va_D A (mdW T a0 (sA t3 0 (upd (t3.2 0) 1 v1))) := hD
    refine lv_aload_n hx hb dX5_setLimit_26 rfl (lv_at hl 0 rfl) ?_
    refine lv_aload_n hx hb dX5_setLimit_27 rfl (lv_at hl 0 rfl) ?_
    replace h := bd h
    obtain ⟨t4, et4, h⟩ := h
    refine callRi (v := t4) (va_runV (As := []) (rest := [.ref (a0 0)]) ⟨hx, hb, hml, hown, hts⟩ (c_X5_lefts l D T a0 (sA t3 0 (upd (t3.2 0) 1 v1)) t4 et4) (cwV 0 hts gX5_setLimit_X5_lefts rfl rfl rfl hdV_X5_lefts ⟨Nat.le_of_ble_eq_true rfl, Nat.le_of_ble_eq_true rfl⟩) ⟨PB_blind, va_recv hK.1 hP (ci := 5) (q0 := 0) rfl rfl, PB_at hP hK⟩ rfl rfl hl.1 rfl (lv_room (Nat.le_of_ble_eq_true rfl)) dX5_setLimit_28 ⟨Nat.zero_le _, Nat.zero_le _⟩) ?_
    replace h := bd h
    obtain ⟨t5, et5, h⟩ := h
    refine callMi (wr := []) (ws' := mdW T a0 (t5.2)) (va_runV (As := [.int t4]) (rest := []) ⟨hx, hb, hml, hown, hts⟩ (c_X5_saved l D T a0 (sA t3 0 (upd (t3.2 0) 1 v1)) t4 _ t5 et5) (cwV 1 hts gX5_setLimit_X5_saved rfl rfl rfl hdV_X5_saved ⟨Nat.le_of_ble_eq_true rfl, Nat.le_of_ble_eq_true rfl⟩) ⟨PM_blind, va_recv hK.1 hP (ci := 5) (q0 := 0) rfl rfl, PM_at hP hD hK⟩ rfl rfl hl.1 rfl (lv_room (Nat.le_of_ble_eq_true rfl)) dX5_setLimit_31 ⟨Nat.zero_le _, Nat.zero_le _⟩) hS hA hP hD [0, 1, 2, 3, 4] [] rfl rfl (by decide) (by decide) [0, 1, 2, 3, 4] (by decide) rfl (fun H locs hP hD hS => ?_)
    obtain rfl := Option.some.inj h
    exact W.iret hx hb hr (fun t ht hW => ⟨⟨_, (), rfl, rfl, by rw [ht]; exact hP, hD⟩, hS.F ht⟩) hS.2.2 dX5_setLimit_34 hlocks
  replace h := ip c2 h
  refine lv_aload_n hx hb dX5_setLimit_9 rfl (lv_at hl 0 rfl) ?_
  refine lv_iconst (v := 1) hx hb dX5_setLimit_10 (by decide) ?_
  replace h := bd h
  obtain ⟨t6, et6, h⟩ := h
  refine callMi (wr := []) (ws' := mdW T a0 (t6.2)) (va_runV (As := [.int 1]) (rest := []) ⟨hx, hb, hml, hown, hts⟩ (c_X5_fails l D T a0 x0 1 _ t6 et6) (cwV 1 hts gX5_setLimit_X5_fails rfl rfl rfl hdV_X5_fails ⟨Nat.le_of_ble_eq_true rfl, Nat.le_of_ble_eq_true rfl⟩) ⟨PM_blind, va_recv hK.1 hP (ci := 5) (q0 := 0) rfl rfl, PM_at hP hD hK⟩ rfl rfl hl.1 rfl (lv_room (Nat.le_of_ble_eq_true rfl)) dX5_setLimit_11 ⟨Nat.zero_le _, Nat.zero_le _⟩) hS hA hP hD [0, 1, 2, 3, 4] [] rfl rfl (by decide) (by decide) [0, 1, 2, 3, 4] (by decide) rfl (fun H locs hP hD hS => ?_)
  obtain rfl := Option.some.inj h
  exact W.iret hx hb hr (fun t ht hW => ⟨⟨_, (), rfl, rfl, by rw [ht]; exact hP, hD⟩, hS.F ht⟩) hS.2.2 dX5_setLimit_14 hlocks
set_option maxHeartbeats 4000000 in
set_option maxRecDepth 100000 in
theorem c_X5_lays (l : Launch) (D : va_G) (T : Nat → ClassId) (a0 : Nat → Nat) (x0 : St) (v1 : Int32) (v2 : Int32) (v3 : Int32) (sz : Nat) (r : St) (h : F_X5_lays x0 v1 v2 v3 = some r) : Met l yX5_lays wsX5_lays ({ frames := 1, cells := 0, slots := 0, locals := 24 } : Room) (va_Pc [.ref (a0 0), .int v1, .int v2, .int v3] (PM D T (mdW T a0 (x0)) sz)) (QMv D (mdW T a0 (r)) (va_A (mdW T a0 (x0)) sz)) 0 0 (va_A (mdW T a0 (x0)) sz) := by
  refine met_of (cc := cX5_lays) (maxL := 6) (ret := none) (lv := [(0, .ref (a0 0)), (1, .int v1), (2, .int v2), (3, .int v3)]) (by decide) rfl (Nat.le_of_ble_eq_true rfl) rfl ?_
  intro p e s m args below meth c ls C0 hl hB
  obtain ⟨hx, hb, hr, hml, hown, hts, hlocks, hname⟩ := C0
  obtain ⟨hsz, hP, hK, hD0⟩ := hB
  subst hsz
  have hD := hD0.self (sz := s.heap.size)
  generalize hAe : va_A (mdW T a0 (x0)) s.heap.size = A at hD ⊢
  have hA : ∀ q : Nat, s.heap.size ≤ q → A q := fun q h => by rw [← hAe]; exact Or.inr h
  obtain ⟨H, hH⟩ : ∃ H, H = s.heap := ⟨_, rfl⟩
  obtain ⟨locs, hlo⟩ : ∃ L : List Loc, L = [] := ⟨_, rfl⟩
  have hS : va_S A s.heap s.heap [] := va_S.rf
  rw [← hH] at hP ⊢
  rw [← hlo]
  replace hS : va_S A s.heap H locs := by rw [hH, hlo]; exact hS
  clear hH hlo
  unfold F_X5_lays at h
  refine lv_bipush (v := 7) hx hb dX5_lays_0 (by decide) ?_
  refine lv_iconst (v := 3) hx hb dX5_lays_2 (by decide) ?_
  refine lv_aload_n hx hb dX5_lays_3 rfl (lv_at hl 0 rfl) ?_
  refine va_get (D := D) (ci := 5) (v := .ref (a0 1)) (C := RX5) (T := TX5) (N := 11) hx hb hts inX5_lays_5 hown hK.1 hP 0 rfl rfl 0 (by decide) (hts (.fieldLink RX5 7 "LyingScaleModel" "s" "[I") (List.mem_of_getElem? (i := 1) rfl)) (fun _ h9 => h9) rfl dX5_lays_4 ?_
  refine lv_iconst (v := 2) hx hb dX5_lays_7 (by decide) ?_
  refine va_iald hx hb hK.1 hP 1 0 rfl rfl (show ¬ ((2 : Int32) < 0 ∨ 176 ≤ Int32.toNatClampNeg 2) from by decide) dX5_lays_8 ?_
  refine eqi (congrArg (x0.2 0) (show Int32.toNatClampNeg 2 = 2 from by decide)) ?_
  refine lv_imul hx hb dX5_lays_9 ?_
  refine lv_iadd hx hb dX5_lays_10 ?_
  refine lv_istore (lv' := [(4, .int (7 + (3 * ((x0.2 0) 2)))), (0, .ref (a0 0)), (1, .int v1), (2, .int v2), (3, .int v3)]) hx hb dX5_lays_11 hl (by decide) rfl (fun ls hl => ?_)
  refine lv_aload_n hx hb dX5_lays_13 rfl (lv_at hl 1 rfl) ?_
  refine va_get (D := D) (ci := 5) (v := .ref (a0 1)) (C := RX5) (T := TX5) (N := 11) hx hb hts inX5_lays_5 hown hK.1 hP 0 rfl rfl 0 (by decide) (hts (.fieldLink RX5 7 "LyingScaleModel" "s" "[I") (List.mem_of_getElem? (i := 1) rfl)) (fun _ h9 => h9) rfl dX5_lays_14 ?_
  refine lv_iload hx hb dX5_lays_17 (lv_at hl 0 rfl) ?_
  refine lv_iload_n hx hb dX5_lays_19 rfl (lv_at hl 2 rfl) ?_
  replace h := gd h
  obtain ⟨g1, h⟩ := h
  refine va_iast hx hb hK.1 hP hD hS 1 0 rfl rfl g1 dX5_lays_20 (fun H locs hP hD hS => ?_)
  replace hP : va_P D vwCl (mdW T a0 (sA x0 0 (upd (x0.2 0) (7 + (3 * ((x0.2 0) 2))).toNatClampNeg v1))) H := hP
  replace hD : va_D A (mdW T a0 (sA x0 0 (upd (x0.2 0) (7 + (3 * ((x0.2 0) 2))).toNatClampNeg v1))) := hD
  replace h := bd h
  obtain ⟨y2, ey2, h⟩ := h
  rw [Option.some.inj ey2] at hP hD
  refine lv_aload_n hx hb dX5_lays_21 rfl (lv_at hl 1 rfl) ?_
  refine va_get (D := D) (ci := 5) (v := .ref (a0 1)) (C := RX5) (T := TX5) (N := 11) hx hb hts inX5_lays_5 hown hK.1 hP 0 rfl rfl 0 (by decide) (hts (.fieldLink RX5 7 "LyingScaleModel" "s" "[I") (List.mem_of_getElem? (i := 1) rfl)) (fun _ h9 => h9) rfl dX5_lays_22 ?_
  refine lv_iload hx hb dX5_lays_25 (lv_at hl 0 rfl) ?_
  refine lv_iconst (v := 1) hx hb dX5_lays_27 (by decide) ?_
  refine lv_iadd hx hb dX5_lays_28 ?_
  refine lv_iload_n hx hb dX5_lays_29 rfl (lv_at hl 3 rfl) ?_
  replace h := gd h
  obtain ⟨g3, h⟩ := h
  refine va_iast hx hb hK.1 hP hD hS 1 0 rfl rfl g3 dX5_lays_30 (fun H locs hP hD hS => ?_)
  replace hP : va_P D vwCl (mdW T a0 (sA y2 0 (upd (y2.2 0) ((7 + (3 * ((x0.2 0) 2))) + 1).toNatClampNeg v2))) H := hP
  replace hD : va_D A (mdW T a0 (sA y2 0 (upd (y2.2 0) ((7 + (3 * ((x0.2 0) 2))) + 1).toNatClampNeg v2))) := hD
  replace h := bd h
  obtain ⟨y4, ey4, h⟩ := h
  rw [Option.some.inj ey4] at hP hD
  refine lv_aload_n hx hb dX5_lays_31 rfl (lv_at hl 1 rfl) ?_
  refine va_get (D := D) (ci := 5) (v := .ref (a0 1)) (C := RX5) (T := TX5) (N := 11) hx hb hts inX5_lays_5 hown hK.1 hP 0 rfl rfl 0 (by decide) (hts (.fieldLink RX5 7 "LyingScaleModel" "s" "[I") (List.mem_of_getElem? (i := 1) rfl)) (fun _ h9 => h9) rfl dX5_lays_32 ?_
  refine lv_iload hx hb dX5_lays_35 (lv_at hl 0 rfl) ?_
  refine lv_iconst (v := 2) hx hb dX5_lays_37 (by decide) ?_
  refine lv_iadd hx hb dX5_lays_38 ?_
  refine lv_iload_n hx hb dX5_lays_39 rfl (lv_at hl 4 rfl) ?_
  replace h := gd h
  obtain ⟨g5, h⟩ := h
  refine va_iast hx hb hK.1 hP hD hS 1 0 rfl rfl g5 dX5_lays_40 (fun H locs hP hD hS => ?_)
  replace hP : va_P D vwCl (mdW T a0 (sA y4 0 (upd (y4.2 0) ((7 + (3 * ((x0.2 0) 2))) + 2).toNatClampNeg v3))) H := hP
  replace hD : va_D A (mdW T a0 (sA y4 0 (upd (y4.2 0) ((7 + (3 * ((x0.2 0) 2))) + 2).toNatClampNeg v3))) := hD
  replace h := bd h
  obtain ⟨y6, ey6, h⟩ := h
  rw [Option.some.inj ey6] at hP hD
  refine lv_aload_n hx hb dX5_lays_41 rfl (lv_at hl 1 rfl) ?_
  refine va_get (D := D) (ci := 5) (v := .ref (a0 1)) (C := RX5) (T := TX5) (N := 11) hx hb hts inX5_lays_5 hown hK.1 hP 0 rfl rfl 0 (by decide) (hts (.fieldLink RX5 7 "LyingScaleModel" "s" "[I") (List.mem_of_getElem? (i := 1) rfl)) (fun _ h9 => h9) rfl dX5_lays_42 ?_
  refine lv_iconst (v := 2) hx hb dX5_lays_45 (by decide) ?_
  refine lv_dup2_11 hx hb dX5_lays_46 rfl rfl ?_
  refine va_iald hx hb hK.1 hP 1 0 rfl rfl (show ¬ ((2 : Int32) < 0 ∨ 176 ≤ Int32.toNatClampNeg 2) from by decide) dX5_lays_47 ?_
  refine eqi (congrArg (y6.2 0) (show Int32.toNatClampNeg 2 = 2 from by decide)) ?_
  refine lv_iconst (v := 1) hx hb dX5_lays_48 (by decide) ?_
  refine lv_iadd hx hb dX5_lays_49 ?_
  refine va_iast hx hb hK.1 hP hD hS 1 0 rfl rfl (show ¬ ((2 : Int32) < 0 ∨ 176 ≤ Int32.toNatClampNeg 2) from by decide) dX5_lays_50 (fun H locs hP hD hS => ?_)
  rw [(show Int32.toNatClampNeg 2 = 2 from by decide)] at hP hD
  replace hP : va_P D vwCl (mdW T a0 (sA y6 0 (upd (y6.2 0) 2 (((y6.2 0) 2) + 1)))) H := hP
  replace hD : va_D A (mdW T a0 (sA y6 0 (upd (y6.2 0) 2 (((y6.2 0) 2) + 1)))) := hD
  replace h := bd h
  obtain ⟨y7, ey7, h⟩ := h
  rw [Option.some.inj ey7] at hP hD
  refine lv_iconst (v := 0) hx hb dX5_lays_51 (by decide) ?_
  refine lv_istore (lv' := [(5, .int 0), (4, .int (7 + (3 * ((x0.2 0) 2)))), (0, .ref (a0 0)), (1, .int v1), (2, .int v2), (3, .int v3)]) hx hb dX5_lays_52 hl (by decide) rfl (fun ls hl => ?_)
  have K54 : ∀ (n54 : Nat) (i5_54 : Int32) (x0_54 : St) (H : Heap) (locs : List Loc) (ls : Array Slot), fx2 (B_X5_lays_54 v1 v2 v3) n54 i5_54 x0_54 = some r → va_P D vwCl (mdW T a0 (x0_54)) H → va_D A (mdW T a0 (x0_54)) → va_S A s.heap H locs → lv_has ls 6 [(0, .ref (a0 0)), (1, .int v1), (2, .int v2), (3, .int v3), (4, .int (7 + (3 * ((x0.2 0) 2)))), (5, .int i5_54)] → W p l e ({ frames := 1, cells := 0, slots := 0, locals := 24 } : Room) s m args below meth c H locs 0 0 (MQ below (QMv D (mdW T a0 (r)) A) args s 0 0 (A)) (F0 m 54 ls []) := by
    intro n54
    induction n54 with
    | zero =>
        intro i5_54 x0_54 H locs ls h
        cases h
    | succ n54 ih54 =>
        intro i5_54 x0_54 H locs ls h hP hD hS hl
        replace h : B_X5_lays_54 v1 v2 v3 (fx2 (B_X5_lays_54 v1 v2 v3) n54) i5_54 x0_54 = some r := h
        unfold B_X5_lays_54 at h
        refine lv_iload hx hb dX5_lays_54 (lv_at hl 5 rfl) ?_
        refine lv_aload_n hx hb dX5_lays_56 rfl (lv_at hl 0 rfl) ?_
        replace h := bd h
        obtain ⟨t8, et8, h⟩ := h
        refine callRi (v := t8) (va_runV (As := []) (rest := [.int i5_54]) ⟨hx, hb, hml, hown, hts⟩ (c_X5_cases l D T a0 x0_54 t8 et8) (cwV 0 hts gX5_lays_X5_cases rfl rfl rfl hdV_X5_cases ⟨Nat.le_of_ble_eq_true rfl, Nat.le_of_ble_eq_true rfl⟩) ⟨PB_blind, va_recv hK.1 hP (ci := 5) (q0 := 0) rfl rfl, PB_at hP hK⟩ rfl rfl hl.1 rfl (lv_room (Nat.le_of_ble_eq_true rfl)) dX5_lays_57 ⟨Nat.zero_le _, Nat.zero_le _⟩) ?_
        refine lv_icmp_ge (tgt := 99) hx hb dX5_lays_60 (by decide) (fun c9 => ?_) (fun c9 => ?_)
        · replace h := ip c9 h
          obtain rfl := Option.some.inj h
          exact W.vret hx hb hr (fun t ht hW => ⟨⟨(), rfl, trivial, by rw [ht]; exact hP, hD⟩, hS.F ht⟩) hS.2.2 dX5_lays_99 hlocks
        replace h := im c9 h
        refine lv_aload_n hx hb dX5_lays_63 rfl (lv_at hl 0 rfl) ?_
        refine va_get (D := D) (ci := 5) (v := .ref (a0 1)) (C := RX5) (T := TX5) (N := 11) hx hb hts inX5_lays_5 hown hK.1 hP 0 rfl rfl 0 (by decide) (hts (.fieldLink RX5 7 "LyingScaleModel" "s" "[I") (List.mem_of_getElem? (i := 1) rfl)) (fun _ h9 => h9) rfl dX5_lays_64 ?_
        refine lv_sipush (v := 143) hx hb dX5_lays_67 (by decide) ?_
        refine lv_iload hx hb dX5_lays_70 (lv_at hl 5 rfl) ?_
        refine lv_iadd hx hb dX5_lays_72 ?_
        refine lv_dup2_11 hx hb dX5_lays_73 rfl rfl ?_
        replace h := gd h
        obtain ⟨g10, h⟩ := h
        refine va_iald hx hb hK.1 hP 1 0 rfl rfl g10 dX5_lays_74 ?_
        refine lv_iload hx hb dX5_lays_75 (lv_at hl 5 rfl) ?_
        refine lv_iload_n hx hb dX5_lays_77 rfl (lv_at hl 1 rfl) ?_
        refine lv_iload_n hx hb dX5_lays_78 rfl (lv_at hl 2 rfl) ?_
        replace h := bd h
        obtain ⟨t11, et11, h⟩ := h
        refine callRi (v := t11) (va_runS (As := [.int i5_54, .int v1, .int v2]) (rest := [.int ((x0_54.2 0) (143 + i5_54).toNatClampNeg), .int (143 + i5_54), .ref (a0 1)]) ⟨hx, hb, hml, hown, hts⟩ (c_X5_truth l D T i5_54 v1 v2 t11 et11) (va_cwS 3 hts gX5_lays_X5_truth rfl rfl rfl hdS_X5_truth ⟨Nat.le_of_ble_eq_true rfl, Nat.le_of_ble_eq_true rfl⟩) ⟨PB_blind, PB_at (hP.sub (ws' := ([] : va_W)) [] rfl) hK⟩ rfl rfl hl.1 rfl (lv_room (Nat.le_of_ble_eq_true rfl)) dX5_lays_79 ⟨Nat.zero_le _, Nat.zero_le _⟩) ?_
        refine lv_iload_n hx hb dX5_lays_82 rfl (lv_at hl 3 rfl) ?_
        refine lv_icmp_ne (tgt := 90) hx hb dX5_lays_83 (by decide) (fun c12 => ?_) (fun c12 => ?_)
        · replace h := im c12 h
          refine lv_iconst (v := 1) hx hb dX5_lays_90 (by decide) ?_
          refine lv_iadd hx hb dX5_lays_91 ?_
          replace h := gd h
          obtain ⟨g13, h⟩ := h
          refine va_iast hx hb hK.1 hP hD hS 1 0 rfl rfl g13 dX5_lays_92 (fun H locs hP hD hS => ?_)
          replace hP : va_P D vwCl (mdW T a0 (sA x0_54 0 (upd (x0_54.2 0) (143 + i5_54).toNatClampNeg (((x0_54.2 0) (143 + i5_54).toNatClampNeg) + 1)))) H := hP
          replace hD : va_D A (mdW T a0 (sA x0_54 0 (upd (x0_54.2 0) (143 + i5_54).toNatClampNeg (((x0_54.2 0) (143 + i5_54).toNatClampNeg) + 1)))) := hD
          replace h := bd h
          obtain ⟨y14, ey14, h⟩ := h
          rw [Option.some.inj ey14] at hP hD
          refine lv_iinc (v := i5_54 + 1) (lv' := [(5, .int (i5_54 + 1)), (0, .ref (a0 0)), (1, .int v1), (2, .int v2), (3, .int v3), (4, .int (7 + (3 * ((x0.2 0) 2))))]) hx hb dX5_lays_93 hl (k := 5) rfl rfl (by decide) rfl (fun ls hl => ?_)
          refine lv_goto (tgt := 54) hx hb dX5_lays_96 (by decide) ?_
          exact ih54 (i5_54 + 1) y14 _ _ ls h hP hD hS (lv_sub hl [1, 2, 3, 4, 5, 0] rfl)
        replace h := ip c12 h
        refine lv_iconst (v := 0) hx hb dX5_lays_86 (by decide) ?_
        refine lv_goto (tgt := 91) hx hb dX5_lays_87 (by decide) ?_
        refine lv_iadd hx hb dX5_lays_91 ?_
        replace h := gd h
        obtain ⟨g15, h⟩ := h
        refine va_iast hx hb hK.1 hP hD hS 1 0 rfl rfl g15 dX5_lays_92 (fun H locs hP hD hS => ?_)
        replace hP : va_P D vwCl (mdW T a0 (sA x0_54 0 (upd (x0_54.2 0) (143 + i5_54).toNatClampNeg (((x0_54.2 0) (143 + i5_54).toNatClampNeg) + 0)))) H := hP
        replace hD : va_D A (mdW T a0 (sA x0_54 0 (upd (x0_54.2 0) (143 + i5_54).toNatClampNeg (((x0_54.2 0) (143 + i5_54).toNatClampNeg) + 0)))) := hD
        replace h := bd h
        obtain ⟨y16, ey16, h⟩ := h
        rw [Option.some.inj ey16] at hP hD
        refine lv_iinc (v := i5_54 + 1) (lv' := [(5, .int (i5_54 + 1)), (0, .ref (a0 0)), (1, .int v1), (2, .int v2), (3, .int v3), (4, .int (7 + (3 * ((x0.2 0) 2))))]) hx hb dX5_lays_93 hl (k := 5) rfl rfl (by decide) rfl (fun ls hl => ?_)
        refine lv_goto (tgt := 54) hx hb dX5_lays_96 (by decide) ?_
        exact ih54 (i5_54 + 1) y16 _ _ ls h hP hD hS (lv_sub hl [1, 2, 3, 4, 5, 0] rfl)
  exact K54 1000 0 y7 _ _ ls h hP hD hS (lv_sub hl [2, 3, 4, 5, 1, 0] rfl)
set_option maxHeartbeats 4000000 in
set_option maxRecDepth 100000 in
theorem c_X5_whyNotTell (l : Launch) (D : va_G) (T : Nat → ClassId) (a0 : Nat → Nat) (x0 : St) (v1 : Int32) (v2 : Int32) (v3 : Int32) (r : Int32) (h : F_X5_whyNotTell x0 v1 v2 v3 = some r) : Met l yX5_whyNotTell wsX5_whyNotTell ({ frames := 2, cells := 0, slots := 0, locals := 45 } : Room) (va_Pc [.ref (a0 0), .int v1, .int v2, .int v3] (PB D T (mdW T a0 (x0)))) (QRi r) 0 0 (fun _ => False) := by
  refine met_of (cc := cX5_whyNotTell) (maxL := 4) (ret := (some .int)) (lv := [(0, .ref (a0 0)), (1, .int v1), (2, .int v2), (3, .int v3)]) (by decide) rfl (Nat.le_of_ble_eq_true rfl) rfl ?_
  intro p e s m args below meth c ls C0 hl hB
  obtain ⟨hx, hb, hr, hml, hown, hts, hlocks, hname⟩ := C0
  obtain ⟨hP, hK⟩ := hB
  unfold F_X5_whyNotTell at h
  refine lv_aload_n hx hb dX5_whyNotTell_0 rfl (lv_at hl 0 rfl) ?_
  refine lv_iload_n hx hb dX5_whyNotTell_1 rfl (lv_at hl 1 rfl) ?_
  refine lv_iload_n hx hb dX5_whyNotTell_2 rfl (lv_at hl 2 rfl) ?_
  replace h := bd h
  obtain ⟨t1, et1, h⟩ := h
  refine callRi (v := t1) (va_runV (As := [.int v1, .int v2]) (rest := []) ⟨hx, hb, hml, hown, hts⟩ (c_X5_areSides l D T a0 x0 v1 v2 t1 et1) (cwV 2 hts gX5_whyNotTell_X5_areSides rfl rfl rfl hdV_X5_areSides ⟨Nat.le_of_ble_eq_true rfl, Nat.le_of_ble_eq_true rfl⟩) ⟨PB_blind, va_recv hK.1 hP (ci := 5) (q0 := 0) rfl rfl, PB_at hP hK⟩ rfl rfl hl.1 rfl (lv_room (Nat.le_of_ble_eq_true rfl)) dX5_whyNotTell_3 ⟨Nat.zero_le _, Nat.zero_le _⟩) ?_
  refine lv_if_eq (tgt := 18) hx hb dX5_whyNotTell_6 (by decide) (fun c2 => ?_) (fun c2 => ?_)
  · replace h := ip c2 h
    refine lv_iconst (v := 1) hx hb dX5_whyNotTell_18 (by decide) ?_
    refine lv_goto (tgt := 38) hx hb dX5_whyNotTell_19 (by decide) ?_
    exact W.iret hx hb hr (fun t ht hW => ⟨_, rfl, Option.some.inj h, ht⟩) (fun q hq => absurd hq List.not_mem_nil) dX5_whyNotTell_38 hlocks
  replace h := im c2 h
  refine lv_iload_n hx hb dX5_whyNotTell_9 rfl (lv_at hl 3 rfl) ?_
  refine lv_iconst (v := 0) hx hb dX5_whyNotTell_10 (by decide) ?_
  refine lv_iconst (v := 2) hx hb dX5_whyNotTell_11 (by decide) ?_
  replace h := bd h
  obtain ⟨t3, et3, h⟩ := h
  refine callRi (v := t3) (va_runS (As := [.int v3, .int 0, .int 2]) (rest := []) ⟨hx, hb, hml, hown, hts⟩ (c_X5_in l D T v3 0 2 t3 et3) (va_cwS 3 hts gX5_whyNotTell_X5_in rfl rfl rfl hdS_X5_in ⟨Nat.le_of_ble_eq_true rfl, Nat.le_of_ble_eq_true rfl⟩) ⟨PB_blind, PB_at (hP.sub (ws' := ([] : va_W)) [] rfl) hK⟩ rfl rfl hl.1 rfl (lv_room (Nat.le_of_ble_eq_true rfl)) dX5_whyNotTell_12 ⟨Nat.zero_le _, Nat.zero_le _⟩) ?_
  refine lv_if_ne (tgt := 22) hx hb dX5_whyNotTell_15 (by decide) (fun c4 => ?_) (fun c4 => ?_)
  · replace h := im c4 h
    refine lv_aload_n hx hb dX5_whyNotTell_22 rfl (lv_at hl 0 rfl) ?_
    refine va_get (D := D) (ci := 5) (v := .ref (a0 1)) (C := RX5) (T := TX5) (N := 11) hx hb hts inX5_whyNotTell_5 hown hK.1 hP 0 rfl rfl 0 (by decide) (hts (.fieldLink RX5 7 "LyingScaleModel" "s" "[I") (List.mem_of_getElem? (i := 1) rfl)) (fun _ h9 => h9) rfl dX5_whyNotTell_23 ?_
    refine lv_iconst (v := 2) hx hb dX5_whyNotTell_26 (by decide) ?_
    refine va_iald hx hb hK.1 hP 1 0 rfl rfl (show ¬ ((2 : Int32) < 0 ∨ 176 ≤ Int32.toNatClampNeg 2) from by decide) dX5_whyNotTell_27 ?_
    refine eqi (congrArg (x0.2 0) (show Int32.toNatClampNeg 2 = 2 from by decide)) ?_
    refine lv_bipush (v := 40) hx hb dX5_whyNotTell_28 (by decide) ?_
    refine lv_icmp_ne (tgt := 37) hx hb dX5_whyNotTell_30 (by decide) (fun c5 => ?_) (fun c5 => ?_)
    · replace h := im c5 h
      refine lv_iconst (v := 0) hx hb dX5_whyNotTell_37 (by decide) ?_
      exact W.iret hx hb hr (fun t ht hW => ⟨_, rfl, Option.some.inj h, ht⟩) (fun q hq => absurd hq List.not_mem_nil) dX5_whyNotTell_38 hlocks
    replace h := ip c5 h
    refine lv_iconst (v := 2) hx hb dX5_whyNotTell_33 (by decide) ?_
    refine lv_goto (tgt := 38) hx hb dX5_whyNotTell_34 (by decide) ?_
    exact W.iret hx hb hr (fun t ht hW => ⟨_, rfl, Option.some.inj h, ht⟩) (fun q hq => absurd hq List.not_mem_nil) dX5_whyNotTell_38 hlocks
  replace h := ip c4 h
  refine lv_iconst (v := 1) hx hb dX5_whyNotTell_18 (by decide) ?_
  refine lv_goto (tgt := 38) hx hb dX5_whyNotTell_19 (by decide) ?_
  exact W.iret hx hb hr (fun t ht hW => ⟨_, rfl, Option.some.inj h, ht⟩) (fun q hq => absurd hq List.not_mem_nil) dX5_whyNotTell_38 hlocks
set_option maxHeartbeats 4000000 in
set_option maxRecDepth 100000 in
theorem c_X5_tell (l : Launch) (D : va_G) (T : Nat → ClassId) (a0 : Nat → Nat) (x0 : St) (v1 : Int32) (v2 : Int32) (v3 : Int32) (sz : Nat) (r : Int32 × St) (h : F_X5_tell x0 v1 v2 v3 = some r) : Met l yX5_tell wsX5_tell ({ frames := 3, cells := 0, slots := 0, locals := 68 } : Room) (va_Pc [.ref (a0 0), .int v1, .int v2, .int v3] (PM D T (mdW T a0 (x0)) sz)) (QMi D (mdW T a0 (r.2)) r.1 (va_A (mdW T a0 (x0)) sz)) 0 0 (va_A (mdW T a0 (x0)) sz) := by
  refine met_of (cc := cX5_tell) (maxL := 5) (ret := (some .int)) (lv := [(0, .ref (a0 0)), (1, .int v1), (2, .int v2), (3, .int v3)]) (by decide) rfl (Nat.le_of_ble_eq_true rfl) rfl ?_
  intro p e s m args below meth c ls C0 hl hB
  obtain ⟨hx, hb, hr, hml, hown, hts, hlocks, hname⟩ := C0
  obtain ⟨hsz, hP, hK, hD0⟩ := hB
  subst hsz
  have hD := hD0.self (sz := s.heap.size)
  generalize hAe : va_A (mdW T a0 (x0)) s.heap.size = A at hD ⊢
  have hA : ∀ q : Nat, s.heap.size ≤ q → A q := fun q h => by rw [← hAe]; exact Or.inr h
  obtain ⟨H, hH⟩ : ∃ H, H = s.heap := ⟨_, rfl⟩
  obtain ⟨locs, hlo⟩ : ∃ L : List Loc, L = [] := ⟨_, rfl⟩
  have hS : va_S A s.heap s.heap [] := va_S.rf
  rw [← hH] at hP ⊢
  rw [← hlo]
  replace hS : va_S A s.heap H locs := by rw [hH, hlo]; exact hS
  clear hH hlo
  unfold F_X5_tell at h
  refine lv_aload_n hx hb dX5_tell_0 rfl (lv_at hl 0 rfl) ?_
  refine lv_iload_n hx hb dX5_tell_1 rfl (lv_at hl 1 rfl) ?_
  refine lv_iload_n hx hb dX5_tell_2 rfl (lv_at hl 2 rfl) ?_
  refine lv_iload_n hx hb dX5_tell_3 rfl (lv_at hl 3 rfl) ?_
  replace h := bd h
  obtain ⟨t1, et1, h⟩ := h
  refine callRi (v := t1) (va_runV (As := [.int v1, .int v2, .int v3]) (rest := []) ⟨hx, hb, hml, hown, hts⟩ (c_X5_whyNotTell l D T a0 x0 v1 v2 v3 t1 et1) (cwV 3 hts gX5_tell_X5_whyNotTell rfl rfl rfl hdV_X5_whyNotTell ⟨Nat.le_of_ble_eq_true rfl, Nat.le_of_ble_eq_true rfl⟩) ⟨PB_blind, va_recv hK.1 hP (ci := 5) (q0 := 0) rfl rfl, PB_at hP hK⟩ rfl rfl hl.1 rfl (lv_room (Nat.le_of_ble_eq_true rfl)) dX5_tell_4 ⟨Nat.zero_le _, Nat.zero_le _⟩) ?_
  refine lv_istore (lv' := [(4, .int t1), (0, .ref (a0 0)), (1, .int v1), (2, .int v2), (3, .int v3)]) hx hb dX5_tell_7 hl (by decide) rfl (fun ls hl => ?_)
  refine lv_iload hx hb dX5_tell_9 (lv_at hl 0 rfl) ?_
  refine lv_if_le (tgt := 21) hx hb dX5_tell_11 (by decide) (fun c2 => ?_) (fun c2 => ?_)
  · replace h := ip c2 h
    refine lv_aload_n hx hb dX5_tell_21 rfl (lv_at hl 1 rfl) ?_
    replace h := bd h
    obtain ⟨t3, et3, h⟩ := h
    refine callMv (wr := []) (ws' := mdW T a0 (t3)) (va_runV (As := []) (rest := []) ⟨hx, hb, hml, hown, hts⟩ (c_X5_begins l D T a0 x0 _ t3 et3) (cwV 0 hts gX5_tell_X5_begins rfl rfl rfl hdV_X5_begins ⟨Nat.le_of_ble_eq_true rfl, Nat.le_of_ble_eq_true rfl⟩) ⟨PM_blind, va_recv hK.1 hP (ci := 5) (q0 := 0) rfl rfl, PM_at hP hD hK⟩ rfl rfl hl.1 rfl (lv_room (Nat.le_of_ble_eq_true rfl)) dX5_tell_22 ⟨Nat.zero_le _, Nat.zero_le _⟩) hS hA hP hD [0, 1, 2, 3, 4] [] rfl rfl (by decide) (by decide) [0, 1, 2, 3, 4] (by decide) rfl (fun H locs hP hD hS => ?_)
    refine lv_aload_n hx hb dX5_tell_25 rfl (lv_at hl 1 rfl) ?_
    refine lv_iload_n hx hb dX5_tell_26 rfl (lv_at hl 2 rfl) ?_
    refine lv_iload_n hx hb dX5_tell_27 rfl (lv_at hl 3 rfl) ?_
    refine lv_iload_n hx hb dX5_tell_28 rfl (lv_at hl 4 rfl) ?_
    replace h := bd h
    obtain ⟨t4, et4, h⟩ := h
    refine callMv (wr := []) (ws' := mdW T a0 (t4)) (va_runV (As := [.int v1, .int v2, .int v3]) (rest := []) ⟨hx, hb, hml, hown, hts⟩ (c_X5_lays l D T a0 t3 v1 v2 v3 _ t4 et4) (cwV 3 hts gX5_tell_X5_lays rfl rfl rfl hdV_X5_lays ⟨Nat.le_of_ble_eq_true rfl, Nat.le_of_ble_eq_true rfl⟩) ⟨PM_blind, va_recv hK.1 hP (ci := 5) (q0 := 0) rfl rfl, PM_at hP hD hK⟩ rfl rfl hl.1 rfl (lv_room (Nat.le_of_ble_eq_true rfl)) dX5_tell_29 ⟨Nat.zero_le _, Nat.zero_le _⟩) hS hA hP hD [0, 1, 2, 3, 4] [] rfl rfl (by decide) (by decide) [0, 1, 2, 3, 4] (by decide) rfl (fun H locs hP hD hS => ?_)
    refine lv_aload_n hx hb dX5_tell_32 rfl (lv_at hl 1 rfl) ?_
    refine lv_aload_n hx hb dX5_tell_33 rfl (lv_at hl 1 rfl) ?_
    replace h := bd h
    obtain ⟨t5, et5, h⟩ := h
    refine callRi (v := t5) (va_runV (As := []) (rest := [.ref (a0 0)]) ⟨hx, hb, hml, hown, hts⟩ (c_X5_lefts l D T a0 t4 t5 et5) (cwV 0 hts gX5_tell_X5_lefts rfl rfl rfl hdV_X5_lefts ⟨Nat.le_of_ble_eq_true rfl, Nat.le_of_ble_eq_true rfl⟩) ⟨PB_blind, va_recv hK.1 hP (ci := 5) (q0 := 0) rfl rfl, PB_at hP hK⟩ rfl rfl hl.1 rfl (lv_room (Nat.le_of_ble_eq_true rfl)) dX5_tell_34 ⟨Nat.zero_le _, Nat.zero_le _⟩) ?_
    replace h := bd h
    obtain ⟨t6, et6, h⟩ := h
    refine callMi (wr := []) (ws' := mdW T a0 (t6.2)) (va_runV (As := [.int t5]) (rest := []) ⟨hx, hb, hml, hown, hts⟩ (c_X5_saved l D T a0 t4 t5 _ t6 et6) (cwV 1 hts gX5_tell_X5_saved rfl rfl rfl hdV_X5_saved ⟨Nat.le_of_ble_eq_true rfl, Nat.le_of_ble_eq_true rfl⟩) ⟨PM_blind, va_recv hK.1 hP (ci := 5) (q0 := 0) rfl rfl, PM_at hP hD hK⟩ rfl rfl hl.1 rfl (lv_room (Nat.le_of_ble_eq_true rfl)) dX5_tell_37 ⟨Nat.zero_le _, Nat.zero_le _⟩) hS hA hP hD [0, 1, 2, 3, 4] [] rfl rfl (by decide) (by decide) [0, 1, 2, 3, 4] (by decide) rfl (fun H locs hP hD hS => ?_)
    obtain rfl := Option.some.inj h
    exact W.iret hx hb hr (fun t ht hW => ⟨⟨_, (), rfl, rfl, by rw [ht]; exact hP, hD⟩, hS.F ht⟩) hS.2.2 dX5_tell_40 hlocks
  replace h := im c2 h
  refine lv_aload_n hx hb dX5_tell_14 rfl (lv_at hl 1 rfl) ?_
  refine lv_iload hx hb dX5_tell_15 (lv_at hl 0 rfl) ?_
  replace h := bd h
  obtain ⟨t7, et7, h⟩ := h
  refine callMi (wr := []) (ws' := mdW T a0 (t7.2)) (va_runV (As := [.int t1]) (rest := []) ⟨hx, hb, hml, hown, hts⟩ (c_X5_fails l D T a0 x0 t1 _ t7 et7) (cwV 1 hts gX5_tell_X5_fails rfl rfl rfl hdV_X5_fails ⟨Nat.le_of_ble_eq_true rfl, Nat.le_of_ble_eq_true rfl⟩) ⟨PM_blind, va_recv hK.1 hP (ci := 5) (q0 := 0) rfl rfl, PM_at hP hD hK⟩ rfl rfl hl.1 rfl (lv_room (Nat.le_of_ble_eq_true rfl)) dX5_tell_17 ⟨Nat.zero_le _, Nat.zero_le _⟩) hS hA hP hD [0, 1, 2, 3, 4] [] rfl rfl (by decide) (by decide) [0, 1, 2, 3, 4] (by decide) rfl (fun H locs hP hD hS => ?_)
  obtain rfl := Option.some.inj h
  exact W.iret hx hb hr (fun t ht hW => ⟨⟨_, (), rfl, rfl, by rw [ht]; exact hP, hD⟩, hS.F ht⟩) hS.2.2 dX5_tell_20 hlocks
set_option maxHeartbeats 4000000 in
set_option maxRecDepth 100000 in
theorem c_X5_forget (l : Launch) (D : va_G) (T : Nat → ClassId) (a0 : Nat → Nat) (x0 : St) (sz : Nat) (r : Int32 × St) (h : F_X5_forget x0 = some r) : Met l yX5_forget wsX5_forget ({ frames := 2, cells := 0, slots := 0, locals := 43 } : Room) (va_Pc [.ref (a0 0)] (PM D T (mdW T a0 (x0)) sz)) (QMi D (mdW T a0 (r.2)) r.1 (va_A (mdW T a0 (x0)) sz)) 0 0 (va_A (mdW T a0 (x0)) sz) := by
  refine met_of (cc := cX5_forget) (maxL := 3) (ret := (some .int)) (lv := [(0, .ref (a0 0))]) (by decide) rfl (Nat.le_of_ble_eq_true rfl) rfl ?_
  intro p e s m args below meth c ls C0 hl hB
  obtain ⟨hx, hb, hr, hml, hown, hts, hlocks, hname⟩ := C0
  obtain ⟨hsz, hP, hK, hD0⟩ := hB
  subst hsz
  have hD := hD0.self (sz := s.heap.size)
  generalize hAe : va_A (mdW T a0 (x0)) s.heap.size = A at hD ⊢
  have hA : ∀ q : Nat, s.heap.size ≤ q → A q := fun q h => by rw [← hAe]; exact Or.inr h
  obtain ⟨H, hH⟩ : ∃ H, H = s.heap := ⟨_, rfl⟩
  obtain ⟨locs, hlo⟩ : ∃ L : List Loc, L = [] := ⟨_, rfl⟩
  have hS : va_S A s.heap s.heap [] := va_S.rf
  rw [← hH] at hP ⊢
  rw [← hlo]
  replace hS : va_S A s.heap H locs := by rw [hH, hlo]; exact hS
  clear hH hlo
  unfold F_X5_forget at h
  refine lv_aload_n hx hb dX5_forget_0 rfl (lv_at hl 0 rfl) ?_
  replace h := bd h
  obtain ⟨t1, et1, h⟩ := h
  refine callMv (wr := []) (ws' := mdW T a0 (t1)) (va_runV (As := []) (rest := []) ⟨hx, hb, hml, hown, hts⟩ (c_X5_begins l D T a0 x0 _ t1 et1) (cwV 0 hts gX5_forget_X5_begins rfl rfl rfl hdV_X5_begins ⟨Nat.le_of_ble_eq_true rfl, Nat.le_of_ble_eq_true rfl⟩) ⟨PM_blind, va_recv hK.1 hP (ci := 5) (q0 := 0) rfl rfl, PM_at hP hD hK⟩ rfl rfl hl.1 rfl (lv_room (Nat.le_of_ble_eq_true rfl)) dX5_forget_1 ⟨Nat.zero_le _, Nat.zero_le _⟩) hS hA hP hD [0, 1, 2, 3, 4] [] rfl rfl (by decide) (by decide) [0, 1, 2, 3, 4] (by decide) rfl (fun H locs hP hD hS => ?_)
  refine lv_aload_n hx hb dX5_forget_4 rfl (lv_at hl 0 rfl) ?_
  refine va_get (D := D) (ci := 5) (v := .ref (a0 1)) (C := RX5) (T := TX5) (N := 11) hx hb hts inX5_forget_5 hown hK.1 hP 0 rfl rfl 0 (by decide) (hts (.fieldLink RX5 7 "LyingScaleModel" "s" "[I") (List.mem_of_getElem? (i := 1) rfl)) (fun _ h9 => h9) rfl dX5_forget_5 ?_
  refine lv_iconst (v := 2) hx hb dX5_forget_8 (by decide) ?_
  refine va_iald hx hb hK.1 hP 1 0 rfl rfl (show ¬ ((2 : Int32) < 0 ∨ 176 ≤ Int32.toNatClampNeg 2) from by decide) dX5_forget_9 ?_
  refine eqi (congrArg (t1.2 0) (show Int32.toNatClampNeg 2 = 2 from by decide)) ?_
  refine lv_istore_n (lv' := [(1, .int ((t1.2 0) 2)), (0, .ref (a0 0))]) hx hb dX5_forget_10 rfl hl (by decide) rfl (fun ls hl => ?_)
  refine lv_aload_n hx hb dX5_forget_11 rfl (lv_at hl 1 rfl) ?_
  refine va_get (D := D) (ci := 5) (v := .ref (a0 1)) (C := RX5) (T := TX5) (N := 11) hx hb hts inX5_forget_5 hown hK.1 hP 0 rfl rfl 0 (by decide) (hts (.fieldLink RX5 7 "LyingScaleModel" "s" "[I") (List.mem_of_getElem? (i := 1) rfl)) (fun _ h9 => h9) rfl dX5_forget_12 ?_
  refine lv_iconst (v := 2) hx hb dX5_forget_15 (by decide) ?_
  refine lv_iconst (v := 0) hx hb dX5_forget_16 (by decide) ?_
  refine va_iast hx hb hK.1 hP hD hS 1 0 rfl rfl (show ¬ ((2 : Int32) < 0 ∨ 176 ≤ Int32.toNatClampNeg 2) from by decide) dX5_forget_17 (fun H locs hP hD hS => ?_)
  rw [(show Int32.toNatClampNeg 2 = 2 from by decide)] at hP hD
  replace hP : va_P D vwCl (mdW T a0 (sA t1 0 (upd (t1.2 0) 2 0))) H := hP
  replace hD : va_D A (mdW T a0 (sA t1 0 (upd (t1.2 0) 2 0))) := hD
  refine lv_iconst (v := 0) hx hb dX5_forget_18 (by decide) ?_
  refine lv_istore_n (lv' := [(2, .int 0), (1, .int ((t1.2 0) 2)), (0, .ref (a0 0))]) hx hb dX5_forget_19 rfl hl (by decide) rfl (fun ls hl => ?_)
  have K20 : ∀ (n20 : Nat) (i2_20 : Int32) (x0_20 : St) (H : Heap) (locs : List Loc) (ls : Array Slot), fx2 (B_X5_forget_20 t1) n20 i2_20 x0_20 = some r → va_P D vwCl (mdW T a0 (x0_20)) H → va_D A (mdW T a0 (x0_20)) → va_S A s.heap H locs → lv_has ls 3 [(0, .ref (a0 0)), (1, .int ((t1.2 0) 2)), (2, .int i2_20)] → W p l e ({ frames := 2, cells := 0, slots := 0, locals := 43 } : Room) s m args below meth c H locs 0 0 (MQ below (QMi D (mdW T a0 (r.2)) r.1 A) args s 0 0 (A)) (F0 m 20 ls []) := by
    intro n20
    induction n20 with
    | zero =>
        intro i2_20 x0_20 H locs ls h
        cases h
    | succ n20 ih20 =>
        intro i2_20 x0_20 H locs ls h hP hD hS hl
        replace h : B_X5_forget_20 t1 (fx2 (B_X5_forget_20 t1) n20) i2_20 x0_20 = some r := h
        unfold B_X5_forget_20 at h
        refine lv_iload_n hx hb dX5_forget_20 rfl (lv_at hl 2 rfl) ?_
        refine lv_bipush (v := 33) hx hb dX5_forget_21 (by decide) ?_
        refine lv_icmp_ge (tgt := 43) hx hb dX5_forget_23 (by decide) (fun c2 => ?_) (fun c2 => ?_)
        · replace h := ip c2 h
          refine lv_aload_n hx hb dX5_forget_43 rfl (lv_at hl 0 rfl) ?_
          refine lv_iload_n hx hb dX5_forget_44 rfl (lv_at hl 1 rfl) ?_
          replace h := bd h
          obtain ⟨t3, et3, h⟩ := h
          refine callMi (wr := []) (ws' := mdW T a0 (t3.2)) (va_runV (As := [.int ((t1.2 0) 2)]) (rest := []) ⟨hx, hb, hml, hown, hts⟩ (c_X5_saved l D T a0 x0_20 ((t1.2 0) 2) _ t3 et3) (cwV 1 hts gX5_forget_X5_saved rfl rfl rfl hdV_X5_saved ⟨Nat.le_of_ble_eq_true rfl, Nat.le_of_ble_eq_true rfl⟩) ⟨PM_blind, va_recv hK.1 hP (ci := 5) (q0 := 0) rfl rfl, PM_at hP hD hK⟩ rfl rfl hl.1 rfl (lv_room (Nat.le_of_ble_eq_true rfl)) dX5_forget_45 ⟨Nat.zero_le _, Nat.zero_le _⟩) hS hA hP hD [0, 1, 2, 3, 4] [] rfl rfl (by decide) (by decide) [0, 1, 2, 3, 4] (by decide) rfl (fun H locs hP hD hS => ?_)
          obtain rfl := Option.some.inj h
          exact W.iret hx hb hr (fun t ht hW => ⟨⟨_, (), rfl, rfl, by rw [ht]; exact hP, hD⟩, hS.F ht⟩) hS.2.2 dX5_forget_48 hlocks
        replace h := im c2 h
        refine lv_aload_n hx hb dX5_forget_26 rfl (lv_at hl 0 rfl) ?_
        refine va_get (D := D) (ci := 5) (v := .ref (a0 1)) (C := RX5) (T := TX5) (N := 11) hx hb hts inX5_forget_5 hown hK.1 hP 0 rfl rfl 0 (by decide) (hts (.fieldLink RX5 7 "LyingScaleModel" "s" "[I") (List.mem_of_getElem? (i := 1) rfl)) (fun _ h9 => h9) rfl dX5_forget_27 ?_
        refine lv_sipush (v := 143) hx hb dX5_forget_30 (by decide) ?_
        refine lv_iload_n hx hb dX5_forget_33 rfl (lv_at hl 2 rfl) ?_
        refine lv_iadd hx hb dX5_forget_34 ?_
        refine lv_iconst (v := 0) hx hb dX5_forget_35 (by decide) ?_
        replace h := gd h
        obtain ⟨g4, h⟩ := h
        refine va_iast hx hb hK.1 hP hD hS 1 0 rfl rfl g4 dX5_forget_36 (fun H locs hP hD hS => ?_)
        replace hP : va_P D vwCl (mdW T a0 (sA x0_20 0 (upd (x0_20.2 0) (143 + i2_20).toNatClampNeg 0))) H := hP
        replace hD : va_D A (mdW T a0 (sA x0_20 0 (upd (x0_20.2 0) (143 + i2_20).toNatClampNeg 0))) := hD
        replace h := bd h
        obtain ⟨y5, ey5, h⟩ := h
        rw [Option.some.inj ey5] at hP hD
        refine lv_iinc (v := i2_20 + 1) (lv' := [(2, .int (i2_20 + 1)), (0, .ref (a0 0)), (1, .int ((t1.2 0) 2))]) hx hb dX5_forget_37 hl (k := 2) rfl rfl (by decide) rfl (fun ls hl => ?_)
        refine lv_goto (tgt := 20) hx hb dX5_forget_40 (by decide) ?_
        exact ih20 (i2_20 + 1) y5 _ _ ls h hP hD hS (lv_sub hl [1, 2, 0] rfl)
  exact K20 1000 0 (sA t1 0 (upd (t1.2 0) 2 0)) _ _ ls h hP hD hS (lv_sub hl [2, 1, 0] rfl)
set_option maxHeartbeats 4000000 in
set_option maxRecDepth 100000 in
theorem c_X5_hide (l : Launch) (D : va_G) (T : Nat → ClassId) (a0 : Nat → Nat) (x0 : St) (v1 : Int32) (v2 : Int32) (sz : Nat) (r : Int32 × St) (h : F_X5_hide x0 v1 v2 = some r) : Met l yX5_hide wsX5_hide ({ frames := 2, cells := 0, slots := 0, locals := 43 } : Room) (va_Pc [.ref (a0 0), .int v1, .int v2] (PM D T (mdW T a0 (x0)) sz)) (QMi D (mdW T a0 (r.2)) r.1 (va_A (mdW T a0 (x0)) sz)) 0 0 (va_A (mdW T a0 (x0)) sz) := by
  refine met_of (cc := cX5_hide) (maxL := 4) (ret := (some .int)) (lv := [(0, .ref (a0 0)), (1, .int v1), (2, .int v2)]) (by decide) rfl (Nat.le_of_ble_eq_true rfl) rfl ?_
  intro p e s m args below meth c ls C0 hl hB
  obtain ⟨hx, hb, hr, hml, hown, hts, hlocks, hname⟩ := C0
  obtain ⟨hsz, hP, hK, hD0⟩ := hB
  subst hsz
  have hD := hD0.self (sz := s.heap.size)
  generalize hAe : va_A (mdW T a0 (x0)) s.heap.size = A at hD ⊢
  have hA : ∀ q : Nat, s.heap.size ≤ q → A q := fun q h => by rw [← hAe]; exact Or.inr h
  obtain ⟨H, hH⟩ : ∃ H, H = s.heap := ⟨_, rfl⟩
  obtain ⟨locs, hlo⟩ : ∃ L : List Loc, L = [] := ⟨_, rfl⟩
  have hS : va_S A s.heap s.heap [] := va_S.rf
  rw [← hH] at hP ⊢
  rw [← hlo]
  replace hS : va_S A s.heap H locs := by rw [hH, hlo]; exact hS
  clear hH hlo
  unfold F_X5_hide at h
  refine lv_aload_n hx hb dX5_hide_0 rfl (lv_at hl 0 rfl) ?_
  refine lv_iload_n hx hb dX5_hide_1 rfl (lv_at hl 1 rfl) ?_
  replace h := bd h
  obtain ⟨t1, et1, h⟩ := h
  refine callRi (v := t1) (va_runV (As := [.int v1]) (rest := []) ⟨hx, hb, hml, hown, hts⟩ (c_X5_isCase l D T a0 x0 v1 t1 et1) (cwV 1 hts gX5_hide_X5_isCase rfl rfl rfl hdV_X5_isCase ⟨Nat.le_of_ble_eq_true rfl, Nat.le_of_ble_eq_true rfl⟩) ⟨PB_blind, va_recv hK.1 hP (ci := 5) (q0 := 0) rfl rfl, PB_at hP hK⟩ rfl rfl hl.1 rfl (lv_room (Nat.le_of_ble_eq_true rfl)) dX5_hide_2 ⟨Nat.zero_le _, Nat.zero_le _⟩) ?_
  refine lv_if_ne (tgt := 14) hx hb dX5_hide_5 (by decide) (fun c2 => ?_) (fun c2 => ?_)
  · replace h := im c2 h
    refine lv_iload_n hx hb dX5_hide_14 rfl (lv_at hl 2 rfl) ?_
    refine lv_iconst (v := 0) hx hb dX5_hide_15 (by decide) ?_
    refine lv_ldc hx hb hown (hts (.constant RX5 83 (1073741823)) (List.mem_of_getElem? (i := 1) rfl)) dX5_hide_16 ?_
    replace h := bd h
    obtain ⟨t3, et3, h⟩ := h
    refine callRi (v := t3) (va_runS (As := [.int v2, .int 0, .int 1073741823]) (rest := []) ⟨hx, hb, hml, hown, hts⟩ (c_X5_in l D T v2 0 1073741823 t3 et3) (va_cwS 3 hts gX5_hide_X5_in rfl rfl rfl hdS_X5_in ⟨Nat.le_of_ble_eq_true rfl, Nat.le_of_ble_eq_true rfl⟩) ⟨PB_blind, PB_at (hP.sub (ws' := ([] : va_W)) [] rfl) hK⟩ rfl rfl hl.1 rfl (lv_room (Nat.le_of_ble_eq_true rfl)) dX5_hide_18 ⟨Nat.zero_le _, Nat.zero_le _⟩) ?_
    refine lv_if_ne (tgt := 30) hx hb dX5_hide_21 (by decide) (fun c4 => ?_) (fun c4 => ?_)
    · replace h := im c4 h
      refine lv_aload_n hx hb dX5_hide_30 rfl (lv_at hl 0 rfl) ?_
      replace h := bd h
      obtain ⟨t5, et5, h⟩ := h
      refine callMv (wr := []) (ws' := mdW T a0 (t5)) (va_runV (As := []) (rest := []) ⟨hx, hb, hml, hown, hts⟩ (c_X5_begins l D T a0 x0 _ t5 et5) (cwV 0 hts gX5_hide_X5_begins rfl rfl rfl hdV_X5_begins ⟨Nat.le_of_ble_eq_true rfl, Nat.le_of_ble_eq_true rfl⟩) ⟨PM_blind, va_recv hK.1 hP (ci := 5) (q0 := 0) rfl rfl, PM_at hP hD hK⟩ rfl rfl hl.1 rfl (lv_room (Nat.le_of_ble_eq_true rfl)) dX5_hide_31 ⟨Nat.zero_le _, Nat.zero_le _⟩) hS hA hP hD [0, 1, 2, 3, 4] [] rfl rfl (by decide) (by decide) [0, 1, 2, 3, 4] (by decide) rfl (fun H locs hP hD hS => ?_)
      refine lv_aload_n hx hb dX5_hide_34 rfl (lv_at hl 0 rfl) ?_
      refine va_get (D := D) (ci := 5) (v := .ref (a0 1)) (C := RX5) (T := TX5) (N := 11) hx hb hts inX5_hide_5 hown hK.1 hP 0 rfl rfl 0 (by decide) (hts (.fieldLink RX5 7 "LyingScaleModel" "s" "[I") (List.mem_of_getElem? (i := 2) rfl)) (fun _ h9 => h9) rfl dX5_hide_35 ?_
      refine lv_iconst (v := 4) hx hb dX5_hide_38 (by decide) ?_
      refine va_iald hx hb hK.1 hP 1 0 rfl rfl (show ¬ ((4 : Int32) < 0 ∨ 176 ≤ Int32.toNatClampNeg 4) from by decide) dX5_hide_39 ?_
      refine eqi (congrArg (t5.2 0) (show Int32.toNatClampNeg 4 = 4 from by decide)) ?_
      refine lv_istore_n (lv' := [(3, .int ((t5.2 0) 4)), (0, .ref (a0 0)), (1, .int v1), (2, .int v2)]) hx hb dX5_hide_40 rfl hl (by decide) rfl (fun ls hl => ?_)
      refine lv_aload_n hx hb dX5_hide_41 rfl (lv_at hl 1 rfl) ?_
      refine va_get (D := D) (ci := 5) (v := .ref (a0 1)) (C := RX5) (T := TX5) (N := 11) hx hb hts inX5_hide_5 hown hK.1 hP 0 rfl rfl 0 (by decide) (hts (.fieldLink RX5 7 "LyingScaleModel" "s" "[I") (List.mem_of_getElem? (i := 2) rfl)) (fun _ h9 => h9) rfl dX5_hide_42 ?_
      refine lv_iconst (v := 4) hx hb dX5_hide_45 (by decide) ?_
      refine lv_iload_n hx hb dX5_hide_46 rfl (lv_at hl 2 rfl) ?_
      refine va_iast hx hb hK.1 hP hD hS 1 0 rfl rfl (show ¬ ((4 : Int32) < 0 ∨ 176 ≤ Int32.toNatClampNeg 4) from by decide) dX5_hide_47 (fun H locs hP hD hS => ?_)
      rw [(show Int32.toNatClampNeg 4 = 4 from by decide)] at hP hD
      replace hP : va_P D vwCl (mdW T a0 (sA t5 0 (upd (t5.2 0) 4 v1))) H := hP
      replace hD : va_D A (mdW T a0 (sA t5 0 (upd (t5.2 0) 4 v1))) := hD
      refine lv_aload_n hx hb dX5_hide_48 rfl (lv_at hl 1 rfl) ?_
      refine va_get (D := D) (ci := 5) (v := .ref (a0 1)) (C := RX5) (T := TX5) (N := 11) hx hb hts inX5_hide_5 hown hK.1 hP 0 rfl rfl 0 (by decide) (hts (.fieldLink RX5 7 "LyingScaleModel" "s" "[I") (List.mem_of_getElem? (i := 2) rfl)) (fun _ h9 => h9) rfl dX5_hide_49 ?_
      refine lv_bipush (v := 6) hx hb dX5_hide_52 (by decide) ?_
      refine lv_iload_n hx hb dX5_hide_54 rfl (lv_at hl 3 rfl) ?_
      refine va_iast hx hb hK.1 hP hD hS 1 0 rfl rfl (show ¬ ((6 : Int32) < 0 ∨ 176 ≤ Int32.toNatClampNeg 6) from by decide) dX5_hide_55 (fun H locs hP hD hS => ?_)
      rw [(show Int32.toNatClampNeg 6 = 6 from by decide)] at hP hD
      replace hP : va_P D vwCl (mdW T a0 (sA (sA t5 0 (upd (t5.2 0) 4 v1)) 0 (upd ((sA t5 0 (upd (t5.2 0) 4 v1)).2 0) 6 v2))) H := hP
      replace hD : va_D A (mdW T a0 (sA (sA t5 0 (upd (t5.2 0) 4 v1)) 0 (upd ((sA t5 0 (upd (t5.2 0) 4 v1)).2 0) 6 v2))) := hD
      replace h := bd h
      obtain ⟨y6, ey6, h⟩ := h
      rw [Option.some.inj ey6] at hP hD
      refine lv_aload_n hx hb dX5_hide_56 rfl (lv_at hl 1 rfl) ?_
      refine va_get (D := D) (ci := 5) (v := .ref (a0 1)) (C := RX5) (T := TX5) (N := 11) hx hb hts inX5_hide_5 hown hK.1 hP 0 rfl rfl 0 (by decide) (hts (.fieldLink RX5 7 "LyingScaleModel" "s" "[I") (List.mem_of_getElem? (i := 2) rfl)) (fun _ h9 => h9) rfl dX5_hide_57 ?_
      refine lv_iconst (v := 5) hx hb dX5_hide_60 (by decide) ?_
      refine lv_iconst (v := 0) hx hb dX5_hide_61 (by decide) ?_
      refine va_iast hx hb hK.1 hP hD hS 1 0 rfl rfl (show ¬ ((5 : Int32) < 0 ∨ 176 ≤ Int32.toNatClampNeg 5) from by decide) dX5_hide_62 (fun H locs hP hD hS => ?_)
      rw [(show Int32.toNatClampNeg 5 = 5 from by decide)] at hP hD
      replace hP : va_P D vwCl (mdW T a0 (sA y6 0 (upd (y6.2 0) 5 0))) H := hP
      replace hD : va_D A (mdW T a0 (sA y6 0 (upd (y6.2 0) 5 0))) := hD
      refine lv_aload_n hx hb dX5_hide_63 rfl (lv_at hl 1 rfl) ?_
      refine lv_iload_n hx hb dX5_hide_64 rfl (lv_at hl 0 rfl) ?_
      replace h := bd h
      obtain ⟨t7, et7, h⟩ := h
      refine callMi (wr := []) (ws' := mdW T a0 (t7.2)) (va_runV (As := [.int ((t5.2 0) 4)]) (rest := []) ⟨hx, hb, hml, hown, hts⟩ (c_X5_saved l D T a0 (sA y6 0 (upd (y6.2 0) 5 0)) ((t5.2 0) 4) _ t7 et7) (cwV 1 hts gX5_hide_X5_saved rfl rfl rfl hdV_X5_saved ⟨Nat.le_of_ble_eq_true rfl, Nat.le_of_ble_eq_true rfl⟩) ⟨PM_blind, va_recv hK.1 hP (ci := 5) (q0 := 0) rfl rfl, PM_at hP hD hK⟩ rfl rfl hl.1 rfl (lv_room (Nat.le_of_ble_eq_true rfl)) dX5_hide_65 ⟨Nat.zero_le _, Nat.zero_le _⟩) hS hA hP hD [0, 1, 2, 3, 4] [] rfl rfl (by decide) (by decide) [0, 1, 2, 3, 4] (by decide) rfl (fun H locs hP hD hS => ?_)
      obtain rfl := Option.some.inj h
      exact W.iret hx hb hr (fun t ht hW => ⟨⟨_, (), rfl, rfl, by rw [ht]; exact hP, hD⟩, hS.F ht⟩) hS.2.2 dX5_hide_68 hlocks
    replace h := ip c4 h
    refine lv_aload_n hx hb dX5_hide_24 rfl (lv_at hl 0 rfl) ?_
    refine lv_iconst (v := 2) hx hb dX5_hide_25 (by decide) ?_
    replace h := bd h
    obtain ⟨t8, et8, h⟩ := h
    refine callMi (wr := []) (ws' := mdW T a0 (t8.2)) (va_runV (As := [.int 2]) (rest := []) ⟨hx, hb, hml, hown, hts⟩ (c_X5_fails l D T a0 x0 2 _ t8 et8) (cwV 1 hts gX5_hide_X5_fails rfl rfl rfl hdV_X5_fails ⟨Nat.le_of_ble_eq_true rfl, Nat.le_of_ble_eq_true rfl⟩) ⟨PM_blind, va_recv hK.1 hP (ci := 5) (q0 := 0) rfl rfl, PM_at hP hD hK⟩ rfl rfl hl.1 rfl (lv_room (Nat.le_of_ble_eq_true rfl)) dX5_hide_26 ⟨Nat.zero_le _, Nat.zero_le _⟩) hS hA hP hD [0, 1, 2, 3, 4] [] rfl rfl (by decide) (by decide) [0, 1, 2, 3, 4] (by decide) rfl (fun H locs hP hD hS => ?_)
    obtain rfl := Option.some.inj h
    exact W.iret hx hb hr (fun t ht hW => ⟨⟨_, (), rfl, rfl, by rw [ht]; exact hP, hD⟩, hS.F ht⟩) hS.2.2 dX5_hide_29 hlocks
  replace h := ip c2 h
  refine lv_aload_n hx hb dX5_hide_8 rfl (lv_at hl 0 rfl) ?_
  refine lv_iconst (v := 1) hx hb dX5_hide_9 (by decide) ?_
  replace h := bd h
  obtain ⟨t9, et9, h⟩ := h
  refine callMi (wr := []) (ws' := mdW T a0 (t9.2)) (va_runV (As := [.int 1]) (rest := []) ⟨hx, hb, hml, hown, hts⟩ (c_X5_fails l D T a0 x0 1 _ t9 et9) (cwV 1 hts gX5_hide_X5_fails rfl rfl rfl hdV_X5_fails ⟨Nat.le_of_ble_eq_true rfl, Nat.le_of_ble_eq_true rfl⟩) ⟨PM_blind, va_recv hK.1 hP (ci := 5) (q0 := 0) rfl rfl, PM_at hP hD hK⟩ rfl rfl hl.1 rfl (lv_room (Nat.le_of_ble_eq_true rfl)) dX5_hide_10 ⟨Nat.zero_le _, Nat.zero_le _⟩) hS hA hP hD [0, 1, 2, 3, 4] [] rfl rfl (by decide) (by decide) [0, 1, 2, 3, 4] (by decide) rfl (fun H locs hP hD hS => ?_)
  obtain rfl := Option.some.inj h
  exact W.iret hx hb hr (fun t ht hW => ⟨⟨_, (), rfl, rfl, by rw [ht]; exact hP, hD⟩, hS.F ht⟩) hS.2.2 dX5_hide_13 hlocks
