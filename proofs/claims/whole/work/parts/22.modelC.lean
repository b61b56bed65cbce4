def F_X5_bestGroup (x0 : St) (v1 : Int32) : Option (Int32 × St) :=
  (F_X5_in v1 0 20).bind fun t1 => if t1 = 0 then ((F_X5_fails x0 1).bind fun t3 => some (t3.1, t3.2)) else ((F_X5_best x0 v1).bind fun t4 => (F_X5_tells x0 t4).bind fun t5 => some (t5.1, t5.2))
def B_X5_teaches_23 (x0 : St) (v1 : Int32) (v2 : Int32) (k23 : Int32 → Int32 → Option (Int32 × St)) (i3_23 : Int32) (i4_23 : Int32) : Option (Int32 × St) :=
  (F_X5_cases (sI x0 1 1)).bind fun t3 => if t3 ≤ i4_23 then (if ((sI x0 1 1).1 1) = 0 then (if (i3_23 &&& (i3_23 - 1)) = 0 then (some (0, sI x0 1 1)) else (some (1, sI x0 1 1))) else (some (0, sI x0 1 1))) else ((F_X5_isLeft (sI x0 1 1) i4_23).bind fun t7 => if t7 = 0 then (k23 (i3_23 ||| 0) (i4_23 + 1)) else ((F_X5_truth i4_23 v1 v2).bind fun t9 => k23 (i3_23 ||| (1 <<< (t9 &&& 31))) (i4_23 + 1)))
def B_X5_teaches_23b (x0 : St) (v1 : Int32) (v2 : Int32) (k23 : Int32 → Int32 → Option (Int32 × St)) (i3_23 : Int32) (i4_23 : Int32) : Option (Int32 × St) :=
  (F_X5_cases (sI x0 1 0)).bind fun t10 => if t10 ≤ i4_23 then (if ((sI x0 1 0).1 1) = 0 then (if (i3_23 &&& (i3_23 - 1)) = 0 then (some (0, sI x0 1 0)) else (some (1, sI x0 1 0))) else (some (0, sI x0 1 0))) else ((F_X5_isLeft (sI x0 1 0) i4_23).bind fun t14 => if t14 = 0 then (k23 (i3_23 ||| 0) (i4_23 + 1)) else ((F_X5_truth i4_23 v1 v2).bind fun t16 => k23 (i3_23 ||| (1 <<< (t16 &&& 31))) (i4_23 + 1)))
def F_X5_teaches (x0 : St) (v1 : Int32) (v2 : Int32) : Option (Int32 × St) :=
  (F_X5_areSides x0 v1 v2).bind fun t1 => if t1 = 0 then (fx2 (B_X5_teaches_23 x0 v1 v2) 1000 0 0) else (fx2 (B_X5_teaches_23b x0 v1 v2) 1000 0 0)
def B_X5_apart_5 (x0 : St) (v1 : Int32) (v2 : Int32) (k5 : Int32 → Int32 → Option (Int32)) (i3_5 : Int32) (i4_5 : Int32) : Option (Int32) :=
  if ((x0.2 0) 3) ≤ i4_5 then (some i3_5) else (if (127 + (2 * i4_5)) < 0 ∨ 176 ≤ (127 + (2 * i4_5)).toNatClampNeg then none else if ((127 + (2 * i4_5)) + 1) < 0 ∨ 176 ≤ ((127 + (2 * i4_5)) + 1).toNatClampNeg then none else (F_X5_truth v1 ((x0.2 0) (127 + (2 * i4_5)).toNatClampNeg) ((x0.2 0) ((127 + (2 * i4_5)) + 1).toNatClampNeg)).bind fun t4 => (F_X5_truth v2 ((x0.2 0) (127 + (2 * i4_5)).toNatClampNeg) ((x0.2 0) ((127 + (2 * i4_5)) + 1).toNatClampNeg)).bind fun t5 => if t4 = t5 then (k5 (i3_5 + 0) (i4_5 + 1)) else (k5 (i3_5 + 1) (i4_5 + 1)))
def F_X5_apart (x0 : St) (v1 : Int32) (v2 : Int32) : Option (Int32) :=
  fx2 (B_X5_apart_5 x0 v1 v2) 1000 0 0
def F_X5_distance (x0 : St) (v1 : Int32) (v2 : Int32) : Option (Int32 × St) :=
  (F_X5_isCase x0 v1).bind fun t1 => if t1 = 0 then ((F_X5_fails x0 1).bind fun t3 => some (t3.1, t3.2)) else ((F_X5_isCase x0 v2).bind fun t4 => if t4 = 0 then ((F_X5_fails x0 1).bind fun t6 => some (t6.1, t6.2)) else ((F_X5_apart x0 v1 v2).bind fun t7 => (F_X5_tells x0 t7).bind fun t8 => some (t8.1, t8.2)))
def B_X5_nearest_15 (x0 : St) (i2_5 : Int32) (k5 : Int32 → Int32 → Option (Int32)) (k15 : Int32 → Int32 → Option (Int32)) (i1_15 : Int32) (i3_15 : Int32) : Option (Int32) :=
  if i2_5 ≤ i3_15 then (k5 i1_15 (i2_5 + 1)) else ((F_X5_apart x0 i2_5 i3_15).bind fun t4 => if i1_15 ≤ t4 then (k15 i1_15 (i3_15 + 1)) else (k15 t4 (i3_15 + 1)))
def B_X5_nearest_5 (x0 : St) (k5 : Int32 → Int32 → Option (Int32)) (i1_5 : Int32) (i2_5 : Int32) : Option (Int32) :=
  (F_X5_cases x0).bind fun t1 => if t1 ≤ i2_5 then (some i1_5) else (fx2 (B_X5_nearest_15 x0 i2_5 k5) 1000 i1_5 0)
def F_X5_nearest (x0 : St) : Option (Int32) :=
  fx2 (B_X5_nearest_5 x0) 1000 8 0
def F_X5_leastDistance (x0 : St) : Option (Int32 × St) :=
  (F_X5_nearest x0).bind fun t1 => (F_X5_tells x0 t1).bind fun t2 => some (t2.1, t2.2)
def F_X5_bears (x0 : St) : Option (Int32 × St) :=
  (F_X5_nearest x0).bind fun t1 => if t1 = 0 then ((F_X5_tells x0 ((-1))).bind fun t4 => some (t4.1, t4.2)) else ((F_X5_tells x0 ((t1 - 1) / 2)).bind fun t3 => some (t3.1, t3.2))
def B_X5_differs_8 (x0 : St) (v1 : Int32) (k8 : Int32 → Int32 → Int32 → Option (Int32)) (i3_8 : Int32) (i4_8 : Int32) (i5_8 : Int32) : Option (Int32) :=
  if ((x0.2 0) 3) ≤ i5_8 then (some i3_8) else (if (127 + (2 * i5_8)) < 0 ∨ 176 ≤ (127 + (2 * i5_8)).toNatClampNeg then none else if ((127 + (2 * i5_8)) + 1) < 0 ∨ 176 ≤ ((127 + (2 * i5_8)) + 1).toNatClampNeg then none else (F_X5_truth v1 ((x0.2 0) (127 + (2 * i5_8)).toNatClampNeg) ((x0.2 0) ((127 + (2 * i5_8)) + 1).toNatClampNeg)).bind fun t4 => if t4 = (i4_8 - i4_8 / 3 * 3) then (k8 (i3_8 + 0) (i4_8 / 3) (i5_8 + 1)) else (k8 (i3_8 + 1) (i4_8 / 3) (i5_8 + 1)))
def F_X5_differs (x0 : St) (v1 : Int32) (v2 : Int32) : Option (Int32) :=
  fx3 (B_X5_differs_8 x0 v1) 1000 0 v2 0
def B_X5_decode_50 (x0 : St) (v1 : Int32) (k50 : Int32 → Int32 → Int32 → Option (Int32 × St)) (i3_50 : Int32) (i4_50 : Int32) (i5_50 : Int32) : Option (Int32 × St) :=
  (F_X5_cases x0).bind fun t4 => if t4 ≤ i5_50 then ((F_X5_tells x0 i3_50).bind fun t6 => some (t6.1, t6.2)) else ((F_X5_differs x0 i5_50 v1).bind fun t7 => if i4_50 ≤ t7 then (if t7 = i4_50 then (if i4_50 ≤ t7 then (k50 ((-1)) i4_50 (i5_50 + 1)) else (k50 ((-1)) t7 (i5_50 + 1))) else (if i4_50 ≤ t7 then (k50 i3_50 i4_50 (i5_50 + 1)) else (k50 i3_50 t7 (i5_50 + 1)))) else (if i4_50 ≤ t7 then (k50 i5_50 i4_50 (i5_50 + 1)) else (k50 i5_50 t7 (i5_50 + 1))))
def B_X5_decode_4 (x0 : St) (v1 : Int32) (k4 : Int32 → Int32 → Option (Int32 × St)) (i2_4 : Int32) (i3_4 : Int32) : Option (Int32 × St) :=
  if ((x0.2 0) 3) ≤ i3_4 then ((F_X5_in v1 0 (i2_4 - 1)).bind fun t2 => if t2 = 0 then ((F_X5_fails x0 1).bind fun t13 => some (t13.1, t13.2)) else (fx3 (B_X5_decode_50 x0 v1) 1000 ((-1)) 9 0)) else (k4 (i2_4 * 3) (i3_4 + 1))
def F_X5_decode (x0 : St) (v1 : Int32) : Option (Int32 × St) :=
  fx2 (B_X5_decode_4 x0 v1) 1000 1 0
def F_X5_append (x0 : St) (v1 : Int32) : Option (Int32 × St) :=
  (F_X5_in v1 0 127).bind fun t1 => if t1 = 0 then ((F_X5_fails x0 1).bind fun t8 => some (t8.1, t8.2)) else (if (x0.1 2) = 100 then ((F_X5_fails x0 2).bind fun t7 => some (t7.1, t7.2)) else (if (x0.1 2) < 0 ∨ 100 ≤ (x0.1 2).toNatClampNeg then none else (some (sA x0 3 (upd (x0.2 3) (x0.1 2).toNatClampNeg (vp_nar .byte v1.toInt8.toInt32)))).bind fun y5 => (F_X5_tells (sI y5 2 ((y5.1 2) + 1)) ((sI y5 2 ((y5.1 2) + 1)).1 2)).bind fun t6 => some (t6.1, t6.2)))
def F_X5_clearText (x0 : St) : Option (Int32 × St) :=
  (F_X5_tells (sI x0 2 0) (x0.1 2)).bind fun t1 => some (t1.1, t1.2)
def F_X5_sign (x0 : St) : Option (Int32) :=
  if (x0.1 2) ≤ (x0.1 3) then (some ((-1))) else (if (x0.1 3) < 0 ∨ 100 ≤ (x0.1 3).toNatClampNeg then none else some ((x0.2 3) (x0.1 3).toNatClampNeg))
def B_X5_side_2 (v1 : Int32) (k2 : Int32 → St → Option (Int32 × St)) (i2_2 : Int32) (x0_2 : St) : Option (Int32 × St) :=
  (F_X5_sign x0_2).bind fun t1 => (F_X5_in t1 97 112).bind fun t2 => if t2 = 0 then (some (i2_2, x0_2)) else ((F_X5_sign x0_2).bind fun t4 => if ((1 <<< ((t4 - 97) &&& 31)) &&& (v1 ||| i2_2)) = 0 then ((F_X5_sign x0_2).bind fun t6 => k2 (i2_2 ||| (1 <<< ((t6 - 97) &&& 31))) (sI x0_2 3 ((x0_2.1 3) + 1))) else (some (i2_2, x0_2)))
def F_X5_side (x0 : St) (v1 : Int32) : Option (Int32 × St) :=
  fx2 (B_X5_side_2 v1) 1000 0 x0
def F_X5_takes (x0 : St) (v1 : Int32) : Option (Int32 × St) :=
  (F_X5_sign x0).bind fun t1 => if t1 = v1 then (some (1, sI x0 3 ((x0.1 3) + 1))) else (some (0, sI x0 3 ((x0.1 3) + 0)))
def F_X5_kind (x0 : St) : Option (Int32 × St) :=
  (F_X5_takes x0 63).bind fun t1 => if t1.1 = 0 then ((F_X5_takes t1.2 43).bind fun t3 => if t3.1 = 0 then ((F_X5_takes t3.2 61).bind fun t5 => if t5.1 = 0 then (some ((-1), t5.2)) else ((F_X5_takes t5.2 108).bind fun t7 => if t7.1 = 0 then ((F_X5_takes t7.2 114).bind fun t9 => if t9.1 = 0 then ((F_X5_takes t9.2 101).bind fun t11 => if t11.1 = 0 then (some ((-1), t11.2)) else (some (2, t11.2))) else (some (1, t9.2))) else (some (0, t7.2)))) else (some (4, t3.2))) else (some (3, t1.2))
def F_X5_reads (x0 : St) : Option (Int32 × St) :=
  (F_X5_side x0 0).bind fun t1 => if ((sI t1.2 4 t1.1).1 4) = 0 then (some (0, sI t1.2 4 t1.1)) else ((F_X5_takes (sI t1.2 4 t1.1) 47).bind fun t3 => if t3.1 = 0 then (some (0, t3.2)) else ((F_X5_side t3.2 (t3.2.1 4)).bind fun t5 => if ((sI t5.2 5 t5.1).1 5) = 0 then (some (0, sI t5.2 5 t5.1)) else ((F_X5_kind (sI t5.2 5 t5.1)).bind fun t7 => if ((sI t7.2 6 t7.1).1 6) < 0 then (some (0, sI t7.2 6 t7.1)) else ((F_X5_takes (sI t7.2 6 t7.1) 59).bind fun t9 => if t9.1 = 0 then (some (0, t9.2)) else (some (1, t9.2))))))
def B_X5_wrong_5 (k5 : St → Option (Int32 × St)) (x0_5 : St) : Option (Int32 × St) :=
  if (x0_5.1 2) ≤ (x0_5.1 3) then (some ((-1), x0_5)) else ((F_X5_reads x0_5).bind fun t2 => if t2.1 = 0 then (some (t2.2.1 3, t2.2)) else (k5 t2.2))
def F_X5_wrong (x0 : St) : Option (Int32 × St) :=
  fx1 (B_X5_wrong_5) 1000 (sI x0 3 0)
def F_X5_does (x0 : St) : Option (Int32 × St) :=
  if 3 ≤ (x0.1 6) then (if (x0.1 6) = 3 then ((F_X5_whyNotAsk x0 (x0.1 4) (x0.1 5)).bind fun t10 => if t10 ≤ 0 then (if 3 ≤ (x0.1 6) then (if (x0.1 6) = 3 then ((F_X5_asks x0 (x0.1 4) (x0.1 5)).bind fun t15 => some (1, t15.2)) else ((F_X5_adds x0 (x0.1 4) (x0.1 5)).bind fun t14 => some (1, t14.2))) else ((F_X5_lays x0 (x0.1 4) (x0.1 5) (x0.1 6)).bind fun t16 => some (1, t16))) else (some (0, x0))) else ((F_X5_whyNotAdd x0 (x0.1 4) (x0.1 5)).bind fun t3 => if t3 ≤ 0 then (if 3 ≤ (x0.1 6) then (if (x0.1 6) = 3 then ((F_X5_asks x0 (x0.1 4) (x0.1 5)).bind fun t8 => some (1, t8.2)) else ((F_X5_adds x0 (x0.1 4) (x0.1 5)).bind fun t7 => some (1, t7.2))) else ((F_X5_lays x0 (x0.1 4) (x0.1 5) (x0.1 6)).bind fun t9 => some (1, t9))) else (some (0, x0)))) else ((F_X5_whyNotTell x0 (x0.1 4) (x0.1 5) (x0.1 6)).bind fun t17 => if t17 ≤ 0 then (if 3 ≤ (x0.1 6) then (if (x0.1 6) = 3 then ((F_X5_asks x0 (x0.1 4) (x0.1 5)).bind fun t22 => some (1, t22.2)) else ((F_X5_adds x0 (x0.1 4) (x0.1 5)).bind fun t21 => some (1, t21.2))) else ((F_X5_lays x0 (x0.1 4) (x0.1 5) (x0.1 6)).bind fun t23 => some (1, t23))) else (some (0, x0)))
def B_X5_carryOut_31 (k31 : Int32 → Int32 → St → Option (Int32 × St)) (i2_31 : Int32) (i3_31 : Int32) (x0_31 : St) : Option (Int32 × St) :=
  if (x0_31.1 2) ≤ (x0_31.1 3) then ((F_X5_saved x0_31 i2_31).bind fun t5 => some (t5.1, t5.2)) else (if i3_31 = 0 then ((F_X5_saved x0_31 i2_31).bind fun t7 => some (t7.1, t7.2)) else ((F_X5_reads x0_31).bind fun t8 => (F_X5_does t8.2).bind fun t9 => if t9.1 = 0 then (k31 (i2_31 + 0) t9.1 t9.2) else (k31 (i2_31 + 1) t9.1 t9.2)))
def F_X5_carryOut (x0 : St) : Option (Int32 × St) :=
  (F_X5_wrong x0).bind fun t1 => if t1.1 < 0 then ((F_X5_begins t1.2).bind fun t3 => fx3 (B_X5_carryOut_31) 1000 0 1 (sI t3 3 0)) else ((F_X5_tells t1.2 (((-10)) - t1.1)).bind fun t11 => some (t11.1, t11.2))
def B_X5_undo_25 (k25 : Int32 → St → Option (Int32 × St)) (i1_25 : Int32) (x0_25 : St) : Option (Int32 × St) :=
  if 176 ≤ i1_25 then ((F_X5_tells x0_25 (x0_25.1 0)).bind fun t3 => some (t3.1, t3.2)) else (if ((176 * (x0_25.1 0)) + i1_25) < 0 ∨ 704 ≤ ((176 * (x0_25.1 0)) + i1_25).toNatClampNeg then none else if i1_25 < 0 ∨ 176 ≤ i1_25.toNatClampNeg then none else (some (sA x0_25 0 (upd (x0_25.2 0) i1_25.toNatClampNeg ((x0_25.2 1) ((176 * (x0_25.1 0)) + i1_25).toNatClampNeg)))).bind fun y6 => k25 (i1_25 + 1) y6)
def F_X5_undo (x0 : St) : Option (Int32 × St) :=
  if (x0.1 0) = 0 then ((F_X5_fails x0 1).bind fun t7 => some (t7.1, t7.2)) else (fx2 (B_X5_undo_25) 1000 0 (sI x0 0 ((x0.1 0) - 1)))
def B_X5_digest_115 (x0 : St) (k115 : Int64 → Int32 → Option (Int64 × St)) (i1_115 : Int64) (i3_115 : Int32) : Option (Int64 × St) :=
  if (2 * (((sI x0 1 0).2 0) 3)) ≤ i3_115 then ((F_X5_nearest (sI x0 1 0)).bind fun t6 => (F_X5_least (sI x0 1 0)).bind fun t7 => (F_X5_weighs (sI x0 1 0) 0 0 0 5).bind fun t8 => (some ((31 * ((31 * ((31 * i1_115) + t6.toInt64)) + t7.toInt64)) + t8)).bind fun t9 => (F_X5_best (sI x0 1 0) 3).bind fun t10 => some ((31 * ((31 * t9) + t10.toInt64)) + (((sI x0 1 0).1 0).toInt64), sI x0 1 0)) else (if (127 + i3_115) < 0 ∨ 176 ≤ (127 + i3_115).toNatClampNeg then none else (some ((31 * i1_115) + ((((sI x0 1 0).2 0) (127 + i3_115).toNatClampNeg).toInt64))).bind fun t12 => k115 t12 (i3_115 + 1))
def B_X5_digest_81 (x0 : St) (k81 : Int64 → Int32 → Option (Int64 × St)) (i1_81 : Int64) (i3_81 : Int32) : Option (Int64 × St) :=
  (F_X5_cases (sI x0 1 0)).bind fun t3 => if t3 ≤ i3_81 then (fx2 (B_X5_digest_115 x0) 1000 i1_81 0) else (if (143 + i3_81) < 0 ∨ 176 ≤ (143 + i3_81).toNatClampNeg then none else (some ((31 * i1_81) + ((((sI x0 1 0).2 0) (143 + i3_81).toNatClampNeg).toInt64))).bind fun t14 => k81 t14 (i3_81 + 1))
def B_X5_digest_44 (x0 : St) (k44 : Int64 → Int32 → Option (Int64 × St)) (i1_44 : Int64) (i3_44 : Int32) : Option (Int64 × St) :=
  if (3 * (((sI x0 1 0).2 0) 2)) ≤ i3_44 then (fx2 (B_X5_digest_81 x0) 1000 i1_44 0) else (if (7 + i3_44) < 0 ∨ 176 ≤ (7 + i3_44).toNatClampNeg then none else (some ((31 * i1_44) + ((((sI x0 1 0).2 0) (7 + i3_44).toNatClampNeg).toInt64))).bind fun t16 => k44 t16 (i3_44 + 1))
def B_X5_digest_17 (x0 : St) (k17 : Int64 → Int32 → Option (Int64 × St)) (i1_17 : Int64) (i3_17 : Int32) : Option (Int64 × St) :=
  if 9 ≤ i3_17 then (fx2 (B_X5_digest_44 x0) 1000 i1_17 0) else ((F_X5_number (sI x0 1 0) i3_17).bind fun t17 => k17 ((31 * i1_17) + t17.toInt64) (i3_17 + 1))
def F_X5_digest (x0 : St) : Option (Int64 × St) :=
  fx2 (B_X5_digest_17 x0) 1000 (118451 + (((sI x0 1 0).1 2).toInt64)) 0
theorem hdS_X5_bestGroup : yX5_bestGroup.cls ≠ "java/lang/invoke/MethodHandle" ∧ yX5_bestGroup.cls ≠ "java/lang/invoke/VarHandle" ∧ (parseMethodDescriptor yX5_bestGroup.desc).map (fun d => d.parameters.length) = some 1 := by decide +kernel
theorem hdV_X5_bestGroup : yX5_bestGroup.cls = RX5 ∧ yX5_bestGroup.cls ≠ "java/lang/invoke/MethodHandle" ∧ yX5_bestGroup.cls ≠ "java/lang/invoke/VarHandle" ∧ (parseMethodDescriptor yX5_bestGroup.desc).map (fun d => d.parameters.length) = some 1 := by decide +kernel
theorem inX5_teaches_5 : ∀ w ∈ u_ws RX5 TX5 11, w ∈ wsX5_teaches := by decide +kernel
theorem hdS_X5_teaches : yX5_teaches.cls ≠ "java/lang/invoke/MethodHandle" ∧ yX5_teaches.cls ≠ "java/lang/invoke/VarHandle" ∧ (parseMethodDescriptor yX5_teaches.desc).map (fun d => d.parameters.length) = some 2 := by decide +kernel
theorem hdV_X5_teaches : yX5_teaches.cls = RX5 ∧ yX5_teaches.cls ≠ "java/lang/invoke/MethodHandle" ∧ yX5_teaches.cls ≠ "java/lang/invoke/VarHandle" ∧ (parseMethodDescriptor yX5_teaches.desc).map (fun d => d.parameters.length) = some 2 := by decide +kernel
theorem inX5_apart_5 : ∀ w ∈ u_ws RX5 TX5 11, w ∈ wsX5_apart := by decide +kernel
theorem hdS_X5_apart : yX5_apart.cls ≠ "java/lang/invoke/MethodHandle" ∧ yX5_apart.cls ≠ "java/lang/invoke/VarHandle" ∧ (parseMethodDescriptor yX5_apart.desc).map (fun d => d.parameters.length) = some 2 := by decide +kernel
theorem hdV_X5_apart : yX5_apart.cls = RX5 ∧ yX5_apart.cls ≠ "java/lang/invoke/MethodHandle" ∧ yX5_apart.cls ≠ "java/lang/invoke/VarHandle" ∧ (parseMethodDescriptor yX5_apart.desc).map (fun d => d.parameters.length) = some 2 := by decide +kernel
theorem hdS_X5_distance : yX5_distance.cls ≠ "java/lang/invoke/MethodHandle" ∧ yX5_distance.cls ≠ "java/lang/invoke/VarHandle" ∧ (parseMethodDescriptor yX5_distance.desc).map (fun d => d.parameters.length) = some 2 := by decide +kernel
theorem hdV_X5_distance : yX5_distance.cls = RX5 ∧ yX5_distance.cls ≠ "java/lang/invoke/MethodHandle" ∧ yX5_distance.cls ≠ "java/lang/invoke/VarHandle" ∧ (parseMethodDescriptor yX5_distance.desc).map (fun d => d.parameters.length) = some 2 := by decide +kernel
theorem hdS_X5_nearest : yX5_nearest.cls ≠ "java/lang/invoke/MethodHandle" ∧ yX5_nearest.cls ≠ "java/lang/invoke/VarHandle" ∧ (parseMethodDescriptor yX5_nearest.desc).map (fun d => d.parameters.length) = some 0 := by decide +kernel
theorem hdV_X5_nearest : yX5_nearest.cls = RX5 ∧ yX5_nearest.cls ≠ "java/lang/invoke/MethodHandle" ∧ yX5_nearest.cls ≠ "java/lang/invoke/VarHandle" ∧ (parseMethodDescriptor yX5_nearest.desc).map (fun d => d.parameters.length) = some 0 := by decide +kernel
theorem hdS_X5_leastDistance : yX5_leastDistance.cls ≠ "java/lang/invoke/MethodHandle" ∧ yX5_leastDistance.cls ≠ "java/lang/invoke/VarHandle" ∧ (parseMethodDescriptor yX5_leastDistance.desc).map (fun d => d.parameters.length) = some 0 := by decide +kernel
theorem hdV_X5_leastDistance : yX5_leastDistance.cls = RX5 ∧ yX5_leastDistance.cls ≠ "java/lang/invoke/MethodHandle" ∧ yX5_leastDistance.cls ≠ "java/lang/invoke/VarHandle" ∧ (parseMethodDescriptor yX5_leastDistance.desc).map (fun d => d.parameters.length) = some 0 := by decide +kernel
theorem hdS_X5_bears : yX5_bears.cls ≠ "java/lang/invoke/MethodHandle" ∧ yX5_bears.cls ≠ "java/lang/invoke/VarHandle" ∧ (parseMethodDescriptor yX5_bears.desc).map (fun d => d.parameters.length) = some 0 := by decide +kernel
theorem hdV_X5_bears : yX5_bears.cls = RX5 ∧ yX5_bears.cls ≠ "java/lang/invoke/MethodHandle" ∧ yX5_bears.cls ≠ "java/lang/invoke/VarHandle" ∧ (parseMethodDescriptor yX5_bears.desc).map (fun d => d.parameters.length) = some 0 := by decide +kernel
theorem inX5_differs_5 : ∀ w ∈ u_ws RX5 TX5 11, w ∈ wsX5_differs := by decide +kernel
theorem hdS_X5_differs : yX5_differs.cls ≠ "java/lang/invoke/MethodHandle" ∧ yX5_differs.cls ≠ "java/lang/invoke/VarHandle" ∧ (parseMethodDescriptor yX5_differs.desc).map (fun d => d.parameters.length) = some 2 := by decide +kernel
theorem hdV_X5_differs : yX5_differs.cls = RX5 ∧ yX5_differs.cls ≠ "java/lang/invoke/MethodHandle" ∧ yX5_differs.cls ≠ "java/lang/invoke/VarHandle" ∧ (parseMethodDescriptor yX5_differs.desc).map (fun d => d.parameters.length) = some 2 := by decide +kernel
theorem inX5_decode_5 : ∀ w ∈ u_ws RX5 TX5 11, w ∈ wsX5_decode := by decide +kernel
theorem hdS_X5_decode : yX5_decode.cls ≠ "java/lang/invoke/MethodHandle" ∧ yX5_decode.cls ≠ "java/lang/invoke/VarHandle" ∧ (parseMethodDescriptor yX5_decode.desc).map (fun d => d.parameters.length) = some 1 := by decide +kernel
theorem hdV_X5_decode : yX5_decode.cls = RX5 ∧ yX5_decode.cls ≠ "java/lang/invoke/MethodHandle" ∧ yX5_decode.cls ≠ "java/lang/invoke/VarHandle" ∧ (parseMethodDescriptor yX5_decode.desc).map (fun d => d.parameters.length) = some 1 := by decide +kernel
theorem inX5_append_5 : ∀ w ∈ u_ws RX5 TX5 11, w ∈ wsX5_append := by decide +kernel
theorem hdS_X5_append : yX5_append.cls ≠ "java/lang/invoke/MethodHandle" ∧ yX5_append.cls ≠ "java/lang/invoke/VarHandle" ∧ (parseMethodDescriptor yX5_append.desc).map (fun d => d.parameters.length) = some 1 := by decide +kernel
theorem hdV_X5_append : yX5_append.cls = RX5 ∧ yX5_append.cls ≠ "java/lang/invoke/MethodHandle" ∧ yX5_append.cls ≠ "java/lang/invoke/VarHandle" ∧ (parseMethodDescriptor yX5_append.desc).map (fun d => d.parameters.length) = some 1 := by decide +kernel
theorem inX5_clearText_5 : ∀ w ∈ u_ws RX5 TX5 11, w ∈ wsX5_clearText := by decide +kernel
theorem hdS_X5_clearText : yX5_clearText.cls ≠ "java/lang/invoke/MethodHandle" ∧ yX5_clearText.cls ≠ "java/lang/invoke/VarHandle" ∧ (parseMethodDescriptor yX5_clearText.desc).map (fun d => d.parameters.length) = some 0 := by decide +kernel
theorem hdV_X5_clearText : yX5_clearText.cls = RX5 ∧ yX5_clearText.cls ≠ "java/lang/invoke/MethodHandle" ∧ yX5_clearText.cls ≠ "java/lang/invoke/VarHandle" ∧ (parseMethodDescriptor yX5_clearText.desc).map (fun d => d.parameters.length) = some 0 := by decide +kernel
theorem inX5_sign_5 : ∀ w ∈ u_ws RX5 TX5 11, w ∈ wsX5_sign := by decide +kernel
theorem hdS_X5_sign : yX5_sign.cls ≠ "java/lang/invoke/MethodHandle" ∧ yX5_sign.cls ≠ "java/lang/invoke/VarHandle" ∧ (parseMethodDescriptor yX5_sign.desc).map (fun d => d.parameters.length) = some 0 := by decide +kernel
theorem hdV_X5_sign : yX5_sign.cls = RX5 ∧ yX5_sign.cls ≠ "java/lang/invoke/MethodHandle" ∧ yX5_sign.cls ≠ "java/lang/invoke/VarHandle" ∧ (parseMethodDescriptor yX5_sign.desc).map (fun d => d.parameters.length) = some 0 := by decide +kernel
theorem inX5_side_5 : ∀ w ∈ u_ws RX5 TX5 11, w ∈ wsX5_side := by decide +kernel
theorem hdS_X5_side : yX5_side.cls ≠ "java/lang/invoke/MethodHandle" ∧ yX5_side.cls ≠ "java/lang/invoke/VarHandle" ∧ (parseMethodDescriptor yX5_side.desc).map (fun d => d.parameters.length) = some 1 := by decide +kernel
theorem hdV_X5_side : yX5_side.cls = RX5 ∧ yX5_side.cls ≠ "java/lang/invoke/MethodHandle" ∧ yX5_side.cls ≠ "java/lang/invoke/VarHandle" ∧ (parseMethodDescriptor yX5_side.desc).map (fun d => d.parameters.length) = some 1 := by decide +kernel
theorem inX5_takes_5 : ∀ w ∈ u_ws RX5 TX5 11, w ∈ wsX5_takes := by decide +kernel
theorem hdS_X5_takes : yX5_takes.cls ≠ "java/lang/invoke/MethodHandle" ∧ yX5_takes.cls ≠ "java/lang/invoke/VarHandle" ∧ (parseMethodDescriptor yX5_takes.desc).map (fun d => d.parameters.length) = some 1 := by decide +kernel
theorem hdV_X5_takes : yX5_takes.cls = RX5 ∧ yX5_takes.cls ≠ "java/lang/invoke/MethodHandle" ∧ yX5_takes.cls ≠ "java/lang/invoke/VarHandle" ∧ (parseMethodDescriptor yX5_takes.desc).map (fun d => d.parameters.length) = some 1 := by decide +kernel
theorem hdS_X5_kind : yX5_kind.cls ≠ "java/lang/invoke/MethodHandle" ∧ yX5_kind.cls ≠ "java/lang/invoke/VarHandle" ∧ (parseMethodDescriptor yX5_kind.desc).map (fun d => d.parameters.length) = some 0 := by decide +kernel
theorem hdV_X5_kind : yX5_kind.cls = RX5 ∧ yX5_kind.cls ≠ "java/lang/invoke/MethodHandle" ∧ yX5_kind.cls ≠ "java/lang/invoke/VarHandle" ∧ (parseMethodDescriptor yX5_kind.desc).map (fun d => d.parameters.length) = some 0 := by decide +kernel
theorem inX5_reads_5 : ∀ w ∈ u_ws RX5 TX5 11, w ∈ wsX5_reads := by decide +kernel
theorem hdS_X5_reads : yX5_reads.cls ≠ "java/lang/invoke/MethodHandle" ∧ yX5_reads.cls ≠ "java/lang/invoke/VarHandle" ∧ (parseMethodDescriptor yX5_reads.desc).map (fun d => d.parameters.length) = some 0 := by decide +kernel
theorem hdV_X5_reads : yX5_reads.cls = RX5 ∧ yX5_reads.cls ≠ "java/lang/invoke/MethodHandle" ∧ yX5_reads.cls ≠ "java/lang/invoke/VarHandle" ∧ (parseMethodDescriptor yX5_reads.desc).map (fun d => d.parameters.length) = some 0 := by decide +kernel
theorem inX5_wrong_5 : ∀ w ∈ u_ws RX5 TX5 11, w ∈ wsX5_wrong := by decide +kernel
theorem hdS_X5_wrong : yX5_wrong.cls ≠ "java/lang/invoke/MethodHandle" ∧ yX5_wrong.cls ≠ "java/lang/invoke/VarHandle" ∧ (parseMethodDescriptor yX5_wrong.desc).map (fun d => d.parameters.length) = some 0 := by decide +kernel
theorem hdV_X5_wrong : yX5_wrong.cls = RX5 ∧ yX5_wrong.cls ≠ "java/lang/invoke/MethodHandle" ∧ yX5_wrong.cls ≠ "java/lang/invoke/VarHandle" ∧ (parseMethodDescriptor yX5_wrong.desc).map (fun d => d.parameters.length) = some 0 := by decide +kernel
theorem inX5_does_5 : ∀ w ∈ u_ws RX5 TX5 11, w ∈ wsX5_does := by decide +kernel
theorem hdS_X5_does : yX5_does.cls ≠ "java/lang/invoke/MethodHandle" ∧ yX5_does.cls ≠ "java/lang/invoke/VarHandle" ∧ (parseMethodDescriptor yX5_does.desc).map (fun d => d.parameters.length) = some 0 := by decide +kernel
theorem hdV_X5_does : yX5_does.cls = RX5 ∧ yX5_does.cls ≠ "java/lang/invoke/MethodHandle" ∧ yX5_does.cls ≠ "java/lang/invoke/VarHandle" ∧ (parseMethodDescriptor yX5_does.desc).map (fun d => d.parameters.length) = some 0 := by decide +kernel
theorem inX5_carryOut_5 : ∀ w ∈ u_ws RX5 TX5 11, w ∈ wsX5_carryOut := by decide +kernel
theorem hdS_X5_carryOut : yX5_carryOut.cls ≠ "java/lang/invoke/MethodHandle" ∧ yX5_carryOut.cls ≠ "java/lang/invoke/VarHandle" ∧ (parseMethodDescriptor yX5_carryOut.desc).map (fun d => d.parameters.length) = some 0 := by decide +kernel
theorem hdV_X5_carryOut : yX5_carryOut.cls = RX5 ∧ yX5_carryOut.cls ≠ "java/lang/invoke/MethodHandle" ∧ yX5_carryOut.cls ≠ "java/lang/invoke/VarHandle" ∧ (parseMethodDescriptor yX5_carryOut.desc).map (fun d => d.parameters.length) = some 0 := by decide +kernel
theorem inX5_undo_5 : ∀ w ∈ u_ws RX5 TX5 11, w ∈ wsX5_undo := by decide +kernel
theorem hdS_X5_undo : yX5_undo.cls ≠ "java/lang/invoke/MethodHandle" ∧ yX5_undo.cls ≠ "java/lang/invoke/VarHandle" ∧ (parseMethodDescriptor yX5_undo.desc).map (fun d => d.parameters.length) = some 0 := by decide +kernel
theorem hdV_X5_undo : yX5_undo.cls = RX5 ∧ yX5_undo.cls ≠ "java/lang/invoke/MethodHandle" ∧ yX5_undo.cls ≠ "java/lang/invoke/VarHandle" ∧ (parseMethodDescriptor yX5_undo.desc).map (fun d => d.parameters.length) = some 0 := by decide +kernel
theorem inX5_digest_5 : ∀ w ∈ u_ws RX5 TX5 11, w ∈ wsX5_digest := by decide +kernel
theorem hdS_X5_digest : yX5_digest.cls ≠ "java/lang/invoke/MethodHandle" ∧ yX5_digest.cls ≠ "java/lang/invoke/VarHandle" ∧ (parseMethodDescriptor yX5_digest.desc).map (fun d => d.parameters.length) = some 0 := by decide +kernel
theorem hdV_X5_digest : yX5_digest.cls = RX5 ∧ yX5_digest.cls ≠ "java/lang/invoke/MethodHandle" ∧ yX5_digest.cls ≠ "java/lang/invoke/VarHandle" ∧ (parseMethodDescriptor yX5_digest.desc).map (fun d => d.parameters.length) = some 0 := by decide +kernel
set_option maxHeartbeats 4000000 in
set_option maxRecDepth 100000 in
theorem c_X5_bestGroup (l : Launch) (D : va_G) (T : Nat → ClassId) (a0 : Nat → Nat) (x0 : St) (v1 : Int32) (sz : Nat) (r : Int32 × St) (h : F_X5_bestGroup x0 v1 = some r) : Met l yX5_bestGroup wsX5_bestGroup ({ frames := 3, cells := 0, slots := 0, locals := 83 } : Room) (va_Pc [.ref (a0 0), .int v1] (PM D T (mdW T a0 (x0)) sz)) (QMi D (mdW T a0 (r.2)) r.1 (va_A (mdW T a0 (x0)) sz)) 0 0 (va_A (mdW T a0 (x0)) sz) := by
  refine met_of (cc := cX5_bestGroup) (maxL := 2) (ret := (some .int)) (lv := [(0, .ref (a0 0)), (1, .int v1)]) (by decide) rfl (Nat.le_of_ble_eq_true rfl) rfl ?_
  intro p e s m args below meth c ls C0 hl hB
  obtain ⟨hx, hb, hr, hml, hown, hts, hlocks, hname⟩ := C0
  obtain ⟨hsz, hP, hK, hD0⟩ := hB
  subst hsz
  have hD := hD0.self (sz := s.heap.size)
  generalize hAe : va_A (mdW T a0 (x0)) s.heap.size = A at hD ⊢
  have hA : ∀ q : Nat, s.heap.size ≤ q → A q := fun q h => by rw [← hAe]; exact Or.inr h
  obtain ⟨H, hH⟩ : ∃ H, H = s.heap := ⟨_, rfl⟩
  obtain ⟨locs, hlo⟩ : ∃ L : List Loc, L = [] := ⟨_, rfl⟩
  have hS : va_S A s.heap s.heap [] := va_S.rf
  rw [← hH] at hP ⊢
  rw [← hlo]
  replace hS : va_S A s.heap H locs := by rw [hH, hlo]; exact hS
  clear hH hlo
  unfold F_X5_bestGroup at h
  refine lv_iload_n hx hb dX5_bestGroup_0 rfl (lv_at hl 1 rfl) ?_
  refine lv_iconst (v := 0) hx hb dX5_bestGroup_1 (by decide) ?_
  refine lv_bipush (v := 20) hx hb dX5_bestGroup_2 (by decide) ?_
  replace h := bd h
  obtain ⟨t1, et1, h⟩ := h
  refine callRi (v := t1) (va_runS (As := [.int v1, .int 0, .int 20]) (rest := []) ⟨hx, hb, hml, hown, hts⟩ (c_X5_in l D T v1 0 20 t1 et1) (va_cwS 3 hts gX5_bestGroup_X5_in rfl rfl rfl hdS_X5_in ⟨Nat.le_of_ble_eq_true rfl, Nat.le_of_ble_eq_true rfl⟩) ⟨PB_blind, PB_at (hP.sub (ws' := ([] : va_W)) [] rfl) hK⟩ rfl rfl hl.1 rfl (lv_room (Nat.le_of_ble_eq_true rfl)) dX5_bestGroup_4 ⟨Nat.zero_le _, Nat.zero_le _⟩) ?_
  refine lv_if_eq (tgt := 22) hx hb dX5_bestGroup_7 (by decide) (fun c2 => ?_) (fun c2 => ?_)
  · replace h := ip c2 h
    refine lv_aload_n hx hb dX5_bestGroup_22 rfl (lv_at hl 0 rfl) ?_
    refine lv_iconst (v := 1) hx hb dX5_bestGroup_23 (by decide) ?_
    replace h := bd h
    obtain ⟨t3, et3, h⟩ := h
    refine callMi (wr := []) (ws' := mdW T a0 (t3.2)) (va_runV (As := [.int 1]) (rest := []) ⟨hx, hb, hml, hown, hts⟩ (c_X5_fails l D T a0 x0 1 _ t3 et3) (cwV 1 hts gX5_bestGroup_X5_fails rfl rfl rfl hdV_X5_fails ⟨Nat.le_of_ble_eq_true rfl, Nat.le_of_ble_eq_true rfl⟩) ⟨PM_blind, va_recv hK.1 hP (ci := 5) (q0 := 0) rfl rfl, PM_at hP hD hK⟩ rfl rfl hl.1 rfl (lv_room (Nat.le_of_ble_eq_true rfl)) dX5_bestGroup_24 ⟨Nat.zero_le _, Nat.zero_le _⟩) hS hA hP hD [0, 1, 2, 3, 4] [] rfl rfl (by decide) (by decide) [0, 1, 2, 3, 4] (by decide) rfl (fun H locs hP hD hS => ?_)
    obtain rfl := Option.some.inj h
    exact W.iret hx hb hr (fun t ht hW => ⟨⟨_, (), rfl, rfl, by rw [ht]; exact hP, hD⟩, hS.F ht⟩) hS.2.2 dX5_bestGroup_27 hlocks
  replace h := im c2 h
  refine lv_aload_n hx hb dX5_bestGroup_10 rfl (lv_at hl 0 rfl) ?_
  refine lv_aload_n hx hb dX5_bestGroup_11 rfl (lv_at hl 0 rfl) ?_
  refine lv_iload_n hx hb dX5_bestGroup_12 rfl (lv_at hl 1 rfl) ?_
  replace h := bd h
  obtain ⟨t4, et4, h⟩ := h
  refine callRi (v := t4) (va_runV (As := [.int v1]) (rest := [.ref (a0 0)]) ⟨hx, hb, hml, hown, hts⟩ (c_X5_best l D T a0 x0 v1 t4 et4) (cwV 1 hts gX5_bestGroup_X5_best rfl rfl rfl hdV_X5_best ⟨Nat.le_of_ble_eq_true rfl, Nat.le_of_ble_eq_true rfl⟩) ⟨PB_blind, va_recv hK.1 hP (ci := 5) (q0 := 0) rfl rfl, PB_at hP hK⟩ rfl rfl hl.1 rfl (lv_room (Nat.le_of_ble_eq_true rfl)) dX5_bestGroup_13 ⟨Nat.zero_le _, Nat.zero_le _⟩) ?_
  replace h := bd h
  obtain ⟨t5, et5, h⟩ := h
  refine callMi (wr := []) (ws' := mdW T a0 (t5.2)) (va_runV (As := [.int t4]) (rest := []) ⟨hx, hb, hml, hown, hts⟩ (c_X5_tells l D T a0 x0 t4 _ t5 et5) (cwV 1 hts gX5_bestGroup_X5_tells rfl rfl rfl hdV_X5_tells ⟨Nat.le_of_ble_eq_true rfl, Nat.le_of_ble_eq_true rfl⟩) ⟨PM_blind, va_recv hK.1 hP (ci := 5) (q0 := 0) rfl rfl, PM_at hP hD hK⟩ rfl rfl hl.1 rfl (lv_room (Nat.le_of_ble_eq_true rfl)) dX5_bestGroup_16 ⟨Nat.zero_le _, Nat.zero_le _⟩) hS hA hP hD [0, 1, 2, 3, 4] [] rfl rfl (by decide) (by decide) [0, 1, 2, 3, 4] (by decide) rfl (fun H locs hP hD hS => ?_)
  refine lv_goto (tgt := 27) hx hb dX5_bestGroup_19 (by decide) ?_
  obtain rfl := Option.some.inj h
  exact W.iret hx hb hr (fun t ht hW => ⟨⟨_, (), rfl, rfl, by rw [ht]; exact hP, hD⟩, hS.F ht⟩) hS.2.2 dX5_bestGroup_27 hlocks
set_option maxHeartbeats 4000000 in
set_option maxRecDepth 100000 in
theorem c_X5_teaches (l : Launch) (D : va_G) (T : Nat → ClassId) (a0 : Nat → Nat) (x0 : St) (v1 : Int32) (v2 : Int32) (sz : Nat) (r : Int32 × St) (h : F_X5_teaches x0 v1 v2 = some r) : Met l yX5_teaches wsX5_teaches ({ frames := 2, cells := 0, slots := 0, locals := 45 } : Room) (va_Pc [.ref (a0 0), .int v1, .int v2] (PM D T (mdW T a0 (x0)) sz)) (QMi D (mdW T a0 (r.2)) r.1 (va_A (mdW T a0 (x0)) sz)) 0 0 (va_A (mdW T a0 (x0)) sz) := by
  refine met_of (cc := cX5_teaches) (maxL := 5) (ret := (some .boolean)) (lv := [(0, .ref (a0 0)), (1, .int v1), (2, .int v2)]) (by decide) rfl (Nat.le_of_ble_eq_true rfl) rfl ?_
  intro p e s m args below meth c ls C0 hl hB
  obtain ⟨hx, hb, hr, hml, hown, hts, hlocks, hname⟩ := C0
  obtain ⟨hsz, hP, hK, hD0⟩ := hB
  subst hsz
  have hD := hD0.self (sz := s.heap.size)
  generalize hAe : va_A (mdW T a0 (x0)) s.heap.size = A at hD ⊢
  have hA : ∀ q : Nat, s.heap.size ≤ q → A q := fun q h => by rw [← hAe]; exact Or.inr h
  obtain ⟨H, hH⟩ : ∃ H, H = s.heap := ⟨_, rfl⟩
  obtain ⟨locs, hlo⟩ : ∃ L : List Loc, L = [] := ⟨_, rfl⟩
  have hS : va_S A s.heap s.heap [] := va_S.rf
  rw [← hH] at hP ⊢
  rw [← hlo]
  replace hS : va_S A s.heap H locs := by rw [hH, hlo]; exact hS
  clear hH hlo
  unfold F_X5_teaches at h
  refine lv_aload_n hx hb dX5_teaches_0 rfl (lv_at hl 0 rfl) ?_
  refine lv_aload_n hx hb dX5_teaches_1 rfl (lv_at hl 0 rfl) ?_
  refine lv_iload_n hx hb dX5_teaches_2 rfl (lv_at hl 1 rfl) ?_
  refine lv_iload_n hx hb dX5_teaches_3 rfl (lv_at hl 2 rfl) ?_
  replace h := bd h
  obtain ⟨t1, et1, h⟩ := h
  refine callRi (v := t1) (va_runV (As := [.int v1, .int v2]) (rest := [.ref (a0 0)]) ⟨hx, hb, hml, hown, hts⟩ (c_X5_areSides l D T a0 x0 v1 v2 t1 et1) (cwV 2 hts gX5_teaches_X5_areSides rfl rfl rfl hdV_X5_areSides ⟨Nat.le_of_ble_eq_true rfl, Nat.le_of_ble_eq_true rfl⟩) ⟨PB_blind, va_recv hK.1 hP (ci := 5) (q0 := 0) rfl rfl, PB_at hP hK⟩ rfl rfl hl.1 rfl (lv_room (Nat.le_of_ble_eq_true rfl)) dX5_teaches_4 ⟨Nat.zero_le _, Nat.zero_le _⟩) ?_
  refine lv_if_eq (tgt := 14) hx hb dX5_teaches_7 (by decide) (fun c2 => ?_) (fun c2 => ?_)
  · replace h := ip c2 h
    refine lv_iconst (v := 1) hx hb dX5_teaches_14 (by decide) ?_
    refine va_put (D := D) (ci := 5) (v := .int 1) (ty := .int) (C := RX5) (T := TX5) (N := 11) hx hb hts inX5_teaches_5 tyX5 tyX5_ok nmX5 hown hK.1 hP hD hS 0 rfl rfl 4 (by decide) (hts (.fieldLink RX5 27 "LyingScaleModel" "thrown" "I") (List.mem_of_getElem? (i := 1) rfl)) (fun _ h9 => h9) rfl (by decide +kernel) rfl rfl (Nat.le_of_ble_eq_true rfl) dX5_teaches_15 (fun H locs hP hD hS => ?_)
    replace hP : va_P D vwCl (mdW T a0 (sI x0 1 1)) H := hP
    replace hD : va_D A (mdW T a0 (sI x0 1 1)) := hD
    refine lv_iconst (v := 0) hx hb dX5_teaches_18 (by decide) ?_
    refine lv_istore_n (lv' := [(3, .int 0), (0, .ref (a0 0)), (1, .int v1), (2, .int v2)]) hx hb dX5_teaches_19 rfl hl (by decide) rfl (fun ls hl => ?_)
    refine lv_iconst (v := 0) hx hb dX5_teaches_20 (by decide) ?_
    refine lv_istore (lv' := [(4, .int 0), (3, .int 0), (0, .ref (a0 0)), (1, .int v1), (2, .int v2)]) hx hb dX5_teaches_21 hl (by decide) rfl (fun ls hl => ?_)
    have K23 : ∀ (n23 : Nat) (i3_23 : Int32) (i4_23 : Int32) (H : Heap) (locs : List Loc) (ls : Array Slot), fx2 (B_X5_teaches_23 x0 v1 v2) n23 i3_23 i4_23 = some r → va_P D vwCl (mdW T a0 (sI x0 1 1)) H → va_D A (mdW T a0 (sI x0 1 1)) → va_S A s.heap H locs → lv_has ls 5 [(0, .ref (a0 0)), (1, .int v1), (2, .int v2), (3, .int i3_23), (4, .int i4_23)] → W p l e ({ frames := 2, cells := 0, slots := 0, locals := 45 } : Room) s m args below meth c H locs 0 0 (MQ below (QMi D (mdW T a0 (r.2)) r.1 A) args s 0 0 (A)) (F0 m 23 ls []) := by
      intro n23
      induction n23 with
      | zero =>
          intro i3_23 i4_23 H locs ls h
          cases h
      | succ n23 ih23 =>
          intro i3_23 i4_23 H locs ls h hP hD hS hl
          replace h : B_X5_teaches_23 x0 v1 v2 (fx2 (B_X5_teaches_23 x0 v1 v2) n23) i3_23 i4_23 = some r := h
          unfold B_X5_teaches_23 at h
          refine lv_iload hx hb dX5_teaches_23 (lv_at hl 4 rfl) ?_
          refine lv_aload_n hx hb dX5_teaches_25 rfl (lv_at hl 0 rfl) ?_
          replace h := bd h
          obtain ⟨t3, et3, h⟩ := h
          refine callRi (v := t3) (va_runV (As := []) (rest := [.int i4_23]) ⟨hx, hb, hml, hown, hts⟩ (c_X5_cases l D T a0 (sI x0 1 1) t3 et3) (cwV 0 hts gX5_teaches_X5_cases rfl rfl rfl hdV_X5_cases ⟨Nat.le_of_ble_eq_true rfl, Nat.le_of_ble_eq_true rfl⟩) ⟨PB_blind, va_recv hK.1 hP (ci := 5) (q0 := 0) rfl rfl, PB_at hP hK⟩ rfl rfl hl.1 rfl (lv_room (Nat.le_of_ble_eq_true rfl)) dX5_teaches_26 ⟨Nat.zero_le _, Nat.zero_le _⟩) ?_
          refine lv_icmp_ge (tgt := 63) hx hb dX5_teaches_29 (by decide) (fun c4 => ?_) (fun c4 => ?_)
          · replace h := ip c4 h
            refine lv_aload_n hx hb dX5_teaches_63 rfl (lv_at hl 0 rfl) ?_
            refine va_get (D := D) (ci := 5) (v := .int ((sI x0 1 1).1 1)) (C := RX5) (T := TX5) (N := 11) hx hb hts inX5_teaches_5 hown hK.1 hP 0 rfl rfl 4 (by decide) (hts (.fieldLink RX5 27 "LyingScaleModel" "thrown" "I") (List.mem_of_getElem? (i := 1) rfl)) (fun _ h9 => h9) rfl dX5_teaches_64 ?_
            refine lv_if_ne (tgt := 82) hx hb dX5_teaches_67 (by decide) (fun c5 => ?_) (fun c5 => ?_)
            · replace h := im c5 h
              refine lv_iconst (v := 0) hx hb dX5_teaches_82 (by decide) ?_
              obtain rfl := Option.some.inj h
              exact W.zret hx hb hr rfl (fun t ht hW => ⟨⟨_, (), rfl, rfl, by rw [ht]; exact hP, hD⟩, hS.F ht⟩) hS.2.2 dX5_teaches_83 hlocks
            replace h := ip c5 h
            refine lv_iload_n hx hb dX5_teaches_70 rfl (lv_at hl 3 rfl) ?_
            refine lv_iload_n hx hb dX5_teaches_71 rfl (lv_at hl 3 rfl) ?_
            refine lv_iconst (v := 1) hx hb dX5_teaches_72 (by decide) ?_
            refine lv_isub hx hb dX5_teaches_73 ?_
            refine lv_iand hx hb dX5_teaches_74 ?_
            refine lv_if_eq (tgt := 82) hx hb dX5_teaches_75 (by decide) (fun c6 => ?_) (fun c6 => ?_)
            · replace h := ip c6 h
              refine lv_iconst (v := 0) hx hb dX5_teaches_82 (by decide) ?_
              obtain rfl := Option.some.inj h
              exact W.zret hx hb hr rfl (fun t ht hW => ⟨⟨_, (), rfl, rfl, by rw [ht]; exact hP, hD⟩, hS.F ht⟩) hS.2.2 dX5_teaches_83 hlocks
            replace h := im c6 h
            refine lv_iconst (v := 1) hx hb dX5_teaches_78 (by decide) ?_
            refine lv_goto (tgt := 83) hx hb dX5_teaches_79 (by decide) ?_
            obtain rfl := Option.some.inj h
            exact W.zret hx hb hr rfl (fun t ht hW => ⟨⟨_, (), rfl, rfl, by rw [ht]; exact hP, hD⟩, hS.F ht⟩) hS.2.2 dX5_teaches_83 hlocks
          replace h := im c4 h
          refine lv_iload_n hx hb dX5_teaches_32 rfl (lv_at hl 3 rfl) ?_
          refine lv_aload_n hx hb dX5_teaches_33 rfl (lv_at hl 0 rfl) ?_
          refine lv_iload hx hb dX5_teaches_34 (lv_at hl 4 rfl) ?_
          replace h := bd h
          obtain ⟨t7, et7, h⟩ := h
          refine callRi (v := t7) (va_runV (As := [.int i4_23]) (rest := [.int i3_23]) ⟨hx, hb, hml, hown, hts⟩ (c_X5_isLeft l D T a0 (sI x0 1 1) i4_23 t7 et7) (cwV 1 hts gX5_teaches_X5_isLeft rfl rfl rfl hdV_X5_isLeft ⟨Nat.le_of_ble_eq_true rfl, Nat.le_of_ble_eq_true rfl⟩) ⟨PB_blind, va_recv hK.1 hP (ci := 5) (q0 := 0) rfl rfl, PB_at hP hK⟩ rfl rfl hl.1 rfl (lv_room (Nat.le_of_ble_eq_true rfl)) dX5_teaches_36 ⟨Nat.zero_le _, Nat.zero_le _⟩) ?_
          refine lv_if_eq (tgt := 54) hx hb dX5_teaches_39 (by decide) (fun c8 => ?_) (fun c8 => ?_)
          · replace h := ip c8 h
            refine lv_iconst (v := 0) hx hb dX5_teaches_54 (by decide) ?_
            refine lv_ior hx hb dX5_teaches_55 ?_
            refine lv_istore_n (lv' := [(3, .int (i3_23 ||| 0)), (0, .ref (a0 0)), (1, .int v1), (2, .int v2), (4, .int i4_23)]) hx hb dX5_teaches_56 rfl hl (by decide) rfl (fun ls hl => ?_)
            refine lv_iinc (v := i4_23 + 1) (lv' := [(4, .int (i4_23 + 1)), (3, .int (i3_23 ||| 0)), (0, .ref (a0 0)), (1, .int v1), (2, .int v2)]) hx hb dX5_teaches_57 hl (k := 4) rfl rfl (by decide) rfl (fun ls hl => ?_)
            refine lv_goto (tgt := 23) hx hb dX5_teaches_60 (by decide) ?_
            exact ih23 (i3_23 ||| 0) (i4_23 + 1) _ _ ls h hP hD hS (lv_sub hl [2, 3, 4, 1, 0] rfl)
          replace h := im c8 h
          refine lv_iconst (v := 1) hx hb dX5_teaches_42 (by decide) ?_
          refine lv_iload hx hb dX5_teaches_43 (lv_at hl 4 rfl) ?_
          refine lv_iload_n hx hb dX5_teaches_45 rfl (lv_at hl 1 rfl) ?_
          refine lv_iload_n hx hb dX5_teaches_46 rfl (lv_at hl 2 rfl) ?_
          replace h := bd h
          obtain ⟨t9, et9, h⟩ := h
          refine callRi (v := t9) (va_runS (As := [.int i4_23, .int v1, .int v2]) (rest := [.int 1, .int i3_23]) ⟨hx, hb, hml, hown, hts⟩ (c_X5_truth l D T i4_23 v1 v2 t9 et9) (va_cwS 3 hts gX5_teaches_X5_truth rfl rfl rfl hdS_X5_truth ⟨Nat.le_of_ble_eq_true rfl, Nat.le_of_ble_eq_true rfl⟩) ⟨PB_blind, PB_at (hP.sub (ws' := ([] : va_W)) [] rfl) hK⟩ rfl rfl hl.1 rfl (lv_room (Nat.le_of_ble_eq_true rfl)) dX5_teaches_47 ⟨Nat.zero_le _, Nat.zero_le _⟩) ?_
          refine lv_ishl hx hb dX5_teaches_50 ?_
          refine lv_goto (tgt := 55) hx hb dX5_teaches_51 (by decide) ?_
          refine lv_ior hx hb dX5_teaches_55 ?_
          refine lv_istore_n (lv' := [(3, .int (i3_23 ||| (1 <<< (t9 &&& 31)))), (0, .ref (a0 0)), (1, .int v1), (2, .int v2), (4, .int i4_23)]) hx hb dX5_teaches_56 rfl hl (by decide) rfl (fun ls hl => ?_)
          refine lv_iinc (v := i4_23 + 1) (lv' := [(4, .int (i4_23 + 1)), (3, .int (i3_23 ||| (1 <<< (t9 &&& 31)))), (0, .ref (a0 0)), (1, .int v1), (2, .int v2)]) hx hb dX5_teaches_57 hl (k := 4) rfl rfl (by decide) rfl (fun ls hl => ?_)
          refine lv_goto (tgt := 23) hx hb dX5_teaches_60 (by decide) ?_
          exact ih23 (i3_23 ||| (1 <<< (t9 &&& 31))) (i4_23 + 1) _ _ ls h hP hD hS (lv_sub hl [2, 3, 4, 1, 0] rfl)
    exact K23 1000 0 0 _ _ ls h hP hD hS (lv_sub hl [2, 3, 4, 1, 0] rfl)
  replace h := im c2 h
  refine lv_iconst (v := 0) hx hb dX5_teaches_10 (by decide) ?_
  refine lv_goto (tgt := 15) hx hb dX5_teaches_11 (by decide) ?_
  refine va_put (D := D) (ci := 5) (v := .int 0) (ty := .int) (C := RX5) (T := TX5) (N := 11) hx hb hts inX5_teaches_5 tyX5 tyX5_ok nmX5 hown hK.1 hP hD hS 0 rfl rfl 4 (by decide) (hts (.fieldLink RX5 27 "LyingScaleModel" "thrown" "I") (List.mem_of_getElem? (i := 1) rfl)) (fun _ h9 => h9) rfl (by decide +kernel) rfl rfl (Nat.le_of_ble_eq_true rfl) dX5_teaches_15 (fun H locs hP hD hS => ?_)
  replace hP : va_P D vwCl (mdW T a0 (sI x0 1 0)) H := hP
  replace hD : va_D A (mdW T a0 (sI x0 1 0)) := hD
  refine lv_iconst (v := 0) hx hb dX5_teaches_18 (by decide) ?_
  refine lv_istore_n (lv' := [(3, .int 0), (0, .ref (a0 0)), (1, .int v1), (2, .int v2)]) hx hb dX5_teaches_19 rfl hl (by decide) rfl (fun ls hl => ?_)
  refine lv_iconst (v := 0) hx hb dX5_teaches_20 (by decide) ?_
  refine lv_istore (lv' := [(4, .int 0), (3, .int 0), (0, .ref (a0 0)), (1, .int v1), (2, .int v2)]) hx hb dX5_teaches_21 hl (by decide) rfl (fun ls hl => ?_)
  have K23 : ∀ (n23 : Nat) (i3_23 : Int32) (i4_23 : Int32) (H : Heap) (locs : List Loc) (ls : Array Slot), fx2 (B_X5_teaches_23b x0 v1 v2) n23 i3_23 i4_23 = some r → va_P D vwCl (mdW T a0 (sI x0 1 0)) H → va_D A (mdW T a0 (sI x0 1 0)) → va_S A s.heap H locs → lv_has ls 5 [(0, .ref (a0 0)), (1, .int v1), (2, .int v2), (3, .int i3_23), (4, .int i4_23)] → W p l e ({ frames := 2, cells := 0, slots := 0, locals := 45 } : Room) s m args below meth c H locs 0 0 (MQ below (QMi D (mdW T a0 (r.2)) r.1 A) args s 0 0 (A)) (F0 m 23 ls []) := by
    intro n23
    induction n23 with
    | zero =>
        intro i3_23 i4_23 H locs ls h
        cases h
    | succ n23 ih23 =>
        intro i3_23 i4_23 H locs ls h hP hD hS hl
        replace h : B_X5_teaches_23b x0 v1 v2 (fx2 (B_X5_teaches_23b x0 v1 v2) n23) i3_23 i4_23 = some r := h
        unfold B_X5_teaches_23b at h
        refine lv_iload hx hb dX5_teaches_23 (lv_at hl 4 rfl) ?_
        refine lv_aload_n hx hb dX5_teaches_25 rfl (lv_at hl 0 rfl) ?_
        replace h := bd h
        obtain ⟨t10, et10, h⟩ := h
        refine callRi (v := t10) (va_runV (As := []) (rest := [.int i4_23]) ⟨hx, hb, hml, hown, hts⟩ (c_X5_cases l D T a0 (sI x0 1 0) t10 et10) (cwV 0 hts gX5_teaches_X5_cases rfl rfl rfl hdV_X5_cases ⟨Nat.le_of_ble_eq_true rfl, Nat.le_of_ble_eq_true rfl⟩) ⟨PB_blind, va_recv hK.1 hP (ci := 5) (q0 := 0) rfl rfl, PB_at hP hK⟩ rfl rfl hl.1 rfl (lv_room (Nat.le_of_ble_eq_true rfl)) dX5_teaches_26 ⟨Nat.zero_le _, Nat.zero_le _⟩) ?_
        refine lv_icmp_ge (tgt := 63) hx hb dX5_teaches_29 (by decide) (fun c11 => ?_) (fun c11 => ?_)
        · replace h := ip c11 h
          refine lv_aload_n hx hb dX5_teaches_63 rfl (lv_at hl 0 rfl) ?_
          refine va_get (D := D) (ci := 5) (v := .int ((sI x0 1 0).1 1)) (C := RX5) (T := TX5) (N := 11) hx hb hts inX5_teaches_5 hown hK.1 hP 0 rfl rfl 4 (by decide) (hts (.fieldLink RX5 27 "LyingScaleModel" "thrown" "I") (List.mem_of_getElem? (i := 1) rfl)) (fun _ h9 => h9) rfl dX5_teaches_64 ?_
          refine lv_if_ne (tgt := 82) hx hb dX5_teaches_67 (by decide) (fun c12 => ?_) (fun c12 => ?_)
          · replace h := im c12 h
            refine lv_iconst (v := 0) hx hb dX5_teaches_82 (by decide) ?_
            obtain rfl := Option.some.inj h
            exact W.zret hx hb hr rfl (fun t ht hW => ⟨⟨_, (), rfl, rfl, by rw [ht]; exact hP, hD⟩, hS.F ht⟩) hS.2.2 dX5_teaches_83 hlocks
          replace h := ip c12 h
          refine lv_iload_n hx hb dX5_teaches_70 rfl (lv_at hl 3 rfl) ?_
          refine lv_iload_n hx hb dX5_teaches_71 rfl (lv_at hl 3 rfl) ?_
          refine lv_iconst (v := 1) hx hb dX5_teaches_72 (by decide) ?_
          refine lv_isub hx hb dX5_teaches_73 ?_
          refine lv_iand hx hb dX5_teaches_74 ?_
          refine lv_if_eq (tgt := 82) hx hb dX5_teaches_75 (by decide) (fun c13 => ?_) (fun c13 => ?_)
          · replace h := ip c13 h
            refine lv_iconst (v := 0) hx hb dX5_teaches_82 (by decide) ?_
            obtain rfl := Option.some.inj h
            exact W.zret hx hb hr rfl (fun t ht hW => ⟨⟨_, (), rfl, rfl, by rw [ht]; exact hP, hD⟩, hS.F ht⟩) hS.2.2 dX5_teaches_83 hlocks
          replace h := im c13 h
          refine lv_iconst (v := 1) hx hb dX5_teaches_78 (by decide) ?_
          refine lv_goto (tgt := 83) hx hb dX5_teaches_79 (by decide) ?_
          obtain rfl := Option.some.inj h
          exact W.zret hx hb hr rfl (fun t ht hW => ⟨⟨_, (), rfl, rfl, by rw [ht]; exact hP, hD⟩, hS.F ht⟩) hS.2.2 dX5_teaches_83 hlocks
        replace h := im c11 h
        refine lv_iload_n hx hb dX5_teaches_32 rfl (lv_at hl 3 rfl) ?_
        refine lv_aload_n hx hb dX5_teaches_33 rfl (lv_at hl 0 rfl) ?_
        refine lv_iload hx hb dX5_teaches_34 (lv_at hl 4 rfl) ?_
        replace h := bd h
        obtain ⟨t14, et14, h⟩ := h
        refine callRi (v := t14) (va_runV (As := [.int i4_23]) (rest := [.int i3_23]) ⟨hx, hb, hml, hown, hts⟩ (c_X5_isLeft l D T a0 (sI x0 1 0) i4_23 t14 et14) (cwV 1 hts gX5_teaches_X5_isLeft rfl rfl rfl hdV_X5_isLeft ⟨Nat.le_of_ble_eq_true rfl, Nat.le_of_ble_eq_true rfl⟩) ⟨PB_blind, va_recv hK.1 hP (ci := 5) (q0 := 0) rfl rfl, PB_at hP hK⟩ rfl rfl hl.1 rfl (lv_room (Nat.le_of_ble_eq_true rfl)) dX5_teaches_36 ⟨Nat.zero_le _, Nat.zero_le _⟩) ?_
        refine lv_if_eq (tgt := 54) hx hb dX5_teaches_39 (by decide) (fun c15 => ?_) (fun c15 => ?_)
        · replace h := ip c15 h
          refine lv_iconst (v := 0) hx hb dX5_teaches_54 (by decide) ?_
          refine lv_ior hx hb dX5_teaches_55 ?_
          refine lv_istore_n (lv' := [(3, .int (i3_23 ||| 0)), (0, .ref (a0 0)), (1, .int v1), (2, .int v2), (4, .int i4_23)]) hx hb dX5_teaches_56 rfl hl (by decide) rfl (fun ls hl => ?_)
          refine lv_iinc (v := i4_23 + 1) (lv' := [(4, .int (i4_23 + 1)), (3, .int (i3_23 ||| 0)), (0, .ref (a0 0)), (1, .int v1), (2, .int v2)]) hx hb dX5_teaches_57 hl (k := 4) rfl rfl (by decide) rfl (fun ls hl => ?_)
          refine lv_goto (tgt := 23) hx hb dX5_teaches_60 (by decide) ?_
          exact ih23 (i3_23 ||| 0) (i4_23 + 1) _ _ ls h hP hD hS (lv_sub hl [2, 3, 4, 1, 0] rfl)
        replace h := im c15 h
        refine lv_iconst (v := 1) hx hb dX5_teaches_42 (by decide) ?_
        refine lv_iload hx hb dX5_teaches_43 (lv_at hl 4 rfl) ?_
        refine lv_iload_n hx hb dX5_teaches_45 rfl (lv_at hl 1 rfl) ?_
        refine lv_iload_n hx hb dX5_teaches_46 rfl (lv_at hl 2 rfl) ?_
        replace h := bd h
        obtain ⟨t16, et16, h⟩ := h
        refine callRi (v := t16) (va_runS (As := [.int i4_23, .int v1, .int v2]) (rest := [.int 1, .int i3_23]) ⟨hx, hb, hml, hown, hts⟩ (c_X5_truth l D T i4_23 v1 v2 t16 et16) (va_cwS 3 hts gX5_teaches_X5_truth rfl rfl rfl hdS_X5_truth ⟨Nat.le_of_ble_eq_true rfl, Nat.le_of_ble_eq_true rfl⟩) ⟨PB_blind, PB_at (hP.sub (ws' := ([] : va_W)) [] rfl) hK⟩ rfl rfl hl.1 rfl (lv_room (Nat.le_of_ble_eq_true rfl)) dX5_teaches_47 ⟨Nat.zero_le _, Nat.zero_le _⟩) ?_
        refine lv_ishl hx hb dX5_teaches_50 ?_
        refine lv_goto (tgt := 55) hx hb dX5_teaches_51 (by decide) ?_
        refine lv_ior hx hb dX5_teaches_55 ?_
        refine lv_istore_n (lv' := [(3, .int (i3_23 ||| (1 <<< (t16 &&& 31)))), (0, .ref (a0 0)), (1, .int v1), (2, .int v2), (4, .int i4_23)]) hx hb dX5_teaches_56 rfl hl (by decide) rfl (fun ls hl => ?_)
        refine lv_iinc (v := i4_23 + 1) (lv' := [(4, .int (i4_23 + 1)), (3, .int (i3_23 ||| (1 <<< (t16 &&& 31)))), (0, .ref (a0 0)), (1, .int v1), (2, .int v2)]) hx hb dX5_teaches_57 hl (k := 4) rfl rfl (by decide) rfl (fun ls hl => ?_)
        refine lv_goto (tgt := 23) hx hb dX5_teaches_60 (by decide) ?_
        exact ih23 (i3_23 ||| (1 <<< (t16 &&& 31))) (i4_23 + 1) _ _ ls h hP hD hS (lv_sub hl [2, 3, 4, 1, 0] rfl)
  exact K23 1000 0 0 _ _ ls h hP hD hS (lv_sub hl [2, 3, 4, 1, 0] rfl)
set_option maxHeartbeats 4000000 in
set_option maxRecDepth 100000 in
theorem c_X5_apart (l : Launch) (D : va_G) (T : Nat → ClassId) (a0 : Nat → Nat) (x0 : St) (v1 : Int32) (v2 : Int32) (r : Int32) (h : F_X5_apart x0 v1 v2 = some r) : Met l yX5_apart wsX5_apart ({ frames := 1, cells := 0, slots := 0, locals := 24 } : Room) (va_Pc [.ref (a0 0), .int v1, .int v2] (PB D T (mdW T a0 (x0)))) (QRi r) 0 0 (fun _ => False) := by
  refine met_of (cc := cX5_apart) (maxL := 7) (ret := (some .int)) (lv := [(0, .ref (a0 0)), (1, .int v1), (2, .int v2)]) (by decide) rfl (Nat.le_of_ble_eq_true rfl) rfl ?_
  intro p e s m args below meth c ls C0 hl hB
  obtain ⟨hx, hb, hr, hml, hown, hts, hlocks, hname⟩ := C0
  obtain ⟨hP, hK⟩ := hB
  unfold F_X5_apart at h
  refine lv_iconst (v := 0) hx hb dX5_apart_0 (by decide) ?_
  refine lv_istore_n (lv' := [(3, .int 0), (0, .ref (a0 0)), (1, .int v1), (2, .int v2)]) hx hb dX5_apart_1 rfl hl (by decide) rfl (fun ls hl => ?_)
  refine lv_iconst (v := 0) hx hb dX5_apart_2 (by decide) ?_
  refine lv_istore (lv' := [(4, .int 0), (3, .int 0), (0, .ref (a0 0)), (1, .int v1), (2, .int v2)]) hx hb dX5_apart_3 hl (by decide) rfl (fun ls hl => ?_)
  have K5 : ∀ (n5 : Nat) (i3_5 : Int32) (i4_5 : Int32) (ls : Array Slot), fx2 (B_X5_apart_5 x0 v1 v2) n5 i3_5 i4_5 = some r → lv_has ls 7 [(0, .ref (a0 0)), (1, .int v1), (2, .int v2), (3, .int i3_5), (4, .int i4_5)] → W p l e ({ frames := 1, cells := 0, slots := 0, locals := 24 } : Room) s m args below meth c s.heap [] 0 0 (MQ below (QRi r) args s 0 0 (fun _ => False)) (F0 m 5 ls []) := by
    intro n5
    induction n5 with
    | zero =>
        intro i3_5 i4_5 ls h
        cases h
    | succ n5 ih5 =>
        intro i3_5 i4_5 ls h hl
        replace h : B_X5_apart_5 x0 v1 v2 (fx2 (B_X5_apart_5 x0 v1 v2) n5) i3_5 i4_5 = some r := h
        unfold B_X5_apart_5 at h
        refine lv_iload hx hb dX5_apart_5 (lv_at hl 4 rfl) ?_
        refine lv_aload_n hx hb dX5_apart_7 rfl (lv_at hl 0 rfl) ?_
        refine va_get (D := D) (ci := 5) (v := .ref (a0 1)) (C := RX5) (T := TX5) (N := 11) hx hb hts inX5_apart_5 hown hK.1 hP 0 rfl rfl 0 (by decide) (hts (.fieldLink RX5 7 "LyingScaleModel" "s" "[I") (List.mem_of_getElem? (i := 1) rfl)) (fun _ h9 => h9) rfl dX5_apart_8 ?_
        refine lv_iconst (v := 3) hx hb dX5_apart_11 (by decide) ?_
        refine va_iald hx hb hK.1 hP 1 0 rfl rfl (show ¬ ((3 : Int32) < 0 ∨ 176 ≤ Int32.toNatClampNeg 3) from by decide) dX5_apart_12 ?_
        refine eqi (congrArg (x0.2 0) (show Int32.toNatClampNeg 3 = 3 from by decide)) ?_
        refine lv_icmp_ge (tgt := 79) hx hb dX5_apart_13 (by decide) (fun c1 => ?_) (fun c1 => ?_)
        · replace h := ip c1 h
          refine lv_iload_n hx hb dX5_apart_79 rfl (lv_at hl 3 rfl) ?_
          exact W.iret hx hb hr (fun t ht hW => ⟨_, rfl, Option.some.inj h, ht⟩) (fun q hq => absurd hq List.not_mem_nil) dX5_apart_80 hlocks
        replace h := im c1 h
        refine lv_aload_n hx hb dX5_apart_16 rfl (lv_at hl 0 rfl) ?_
        refine va_get (D := D) (ci := 5) (v := .ref (a0 1)) (C := RX5) (T := TX5) (N := 11) hx hb hts inX5_apart_5 hown hK.1 hP 0 rfl rfl 0 (by decide) (hts (.fieldLink RX5 7 "LyingScaleModel" "s" "[I") (List.mem_of_getElem? (i := 1) rfl)) (fun _ h9 => h9) rfl dX5_apart_17 ?_
        refine lv_bipush (v := 127) hx hb dX5_apart_20 (by decide) ?_
        refine lv_iconst (v := 2) hx hb dX5_apart_22 (by decide) ?_
        refine lv_iload hx hb dX5_apart_23 (lv_at hl 4 rfl) ?_
        refine lv_imul hx hb dX5_apart_25 ?_
        refine lv_iadd hx hb dX5_apart_26 ?_
        replace h := gd h
        obtain ⟨g2, h⟩ := h
        refine va_iald hx hb hK.1 hP 1 0 rfl rfl g2 dX5_apart_27 ?_
        refine lv_istore (lv' := [(5, .int ((x0.2 0) (127 + (2 * i4_5)).toNatClampNeg)), (0, .ref (a0 0)), (1, .int v1), (2, .int v2), (3, .int i3_5), (4, .int i4_5)]) hx hb dX5_apart_28 hl (by decide) rfl (fun ls hl => ?_)
        refine lv_aload_n hx hb dX5_apart_30 rfl (lv_at hl 1 rfl) ?_
        refine va_get (D := D) (ci := 5) (v := .ref (a0 1)) (C := RX5) (T := TX5) (N := 11) hx hb hts inX5_apart_5 hown hK.1 hP 0 rfl rfl 0 (by decide) (hts (.fieldLink RX5 7 "LyingScaleModel" "s" "[I") (List.mem_of_getElem? (i := 1) rfl)) (fun _ h9 => h9) rfl dX5_apart_31 ?_
        refine lv_bipush (v := 127) hx hb dX5_apart_34 (by decide) ?_
        refine lv_iconst (v := 2) hx hb dX5_apart_36 (by decide) ?_
        refine lv_iload hx hb dX5_apart_37 (lv_at hl 5 rfl) ?_
        refine lv_imul hx hb dX5_apart_39 ?_
        refine lv_iadd hx hb dX5_apart_40 ?_
        refine lv_iconst (v := 1) hx hb dX5_apart_41 (by decide) ?_
        refine lv_iadd hx hb dX5_apart_42 ?_
        replace h := gd h
        obtain ⟨g3, h⟩ := h
        refine va_iald hx hb hK.1 hP 1 0 rfl rfl g3 dX5_apart_43 ?_
        refine lv_istore (lv' := [(6, .int ((x0.2 0) ((127 + (2 * i4_5)) + 1).toNatClampNeg)), (5, .int ((x0.2 0) (127 + (2 * i4_5)).toNatClampNeg)), (0, .ref (a0 0)), (1, .int v1), (2, .int v2), (3, .int i3_5), (4, .int i4_5)]) hx hb dX5_apart_44 hl (by decide) rfl (fun ls hl => ?_)
        refine lv_iload_n hx hb dX5_apart_46 rfl (lv_at hl 5 rfl) ?_
        refine lv_iload_n hx hb dX5_apart_47 rfl (lv_at hl 3 rfl) ?_
        refine lv_iload hx hb dX5_apart_48 (lv_at hl 1 rfl) ?_
        refine lv_iload hx hb dX5_apart_50 (lv_at hl 0 rfl) ?_
        replace h := bd h
        obtain ⟨t4, et4, h⟩ := h
        refine callRi (v := t4) (va_runS (As := [.int v1, .int ((x0.2 0) (127 + (2 * i4_5)).toNatClampNeg), .int ((x0.2 0) ((127 + (2 * i4_5)) + 1).toNatClampNeg)]) (rest := [.int i3_5]) ⟨hx, hb, hml, hown, hts⟩ (c_X5_truth l D T v1 ((x0.2 0) (127 + (2 * i4_5)).toNatClampNeg) ((x0.2 0) ((127 + (2 * i4_5)) + 1).toNatClampNeg) t4 et4) (va_cwS 3 hts gX5_apart_X5_truth rfl rfl rfl hdS_X5_truth ⟨Nat.le_of_ble_eq_true rfl, Nat.le_of_ble_eq_true rfl⟩) ⟨PB_blind, PB_at (hP.sub (ws' := ([] : va_W)) [] rfl) hK⟩ rfl rfl hl.1 rfl (lv_room (Nat.le_of_ble_eq_true rfl)) dX5_apart_52 ⟨Nat.zero_le _, Nat.zero_le _⟩) ?_
        refine lv_iload_n hx hb dX5_apart_55 rfl (lv_at hl 4 rfl) ?_
        refine lv_iload hx hb dX5_apart_56 (lv_at hl 1 rfl) ?_
        refine lv_iload hx hb dX5_apart_58 (lv_at hl 0 rfl) ?_
        replace h := bd h
        obtain ⟨t5, et5, h⟩ := h
        refine callRi (v := t5) (va_runS (As := [.int v2, .int ((x0.2 0) (127 + (2 * i4_5)).toNatClampNeg), .int ((x0.2 0) ((127 + (2 * i4_5)) + 1).toNatClampNeg)]) (rest := [.int t4, .int i3_5]) ⟨hx, hb, hml, hown, hts⟩ (c_X5_truth l D T v2 ((x0.2 0) (127 + (2 * i4_5)).toNatClampNeg) ((x0.2 0) ((127 + (2 * i4_5)) + 1).toNatClampNeg) t5 et5) (va_cwS 3 hts gX5_apart_X5_truth rfl rfl rfl hdS_X5_truth ⟨Nat.le_of_ble_eq_true rfl, Nat.le_of_ble_eq_true rfl⟩) ⟨PB_blind, PB_at (hP.sub (ws' := ([] : va_W)) [] rfl) hK⟩ rfl rfl hl.1 rfl (lv_room (Nat.le_of_ble_eq_true rfl)) dX5_apart_60 ⟨Nat.zero_le _, Nat.zero_le _⟩) ?_
        refine lv_icmp_ne (tgt := 70) hx hb dX5_apart_63 (by decide) (fun c6 => ?_) (fun c6 => ?_)
        · replace h := im c6 h
          refine lv_iconst (v := 1) hx hb dX5_apart_70 (by decide) ?_
          refine lv_iadd hx hb dX5_apart_71 ?_
          refine lv_istore_n (lv' := [(3, .int (i3_5 + 1)), (6, .int ((x0.2 0) ((127 + (2 * i4_5)) + 1).toNatClampNeg)), (5, .int ((x0.2 0) (127 + (2 * i4_5)).toNatClampNeg)), (0, .ref (a0 0)), (1, .int v1), (2, .int v2), (4, .int i4_5)]) hx hb dX5_apart_72 rfl hl (by decide) rfl (fun ls hl => ?_)
          refine lv_iinc (v := i4_5 + 1) (lv' := [(4, .int (i4_5 + 1)), (3, .int (i3_5 + 1)), (6, .int ((x0.2 0) ((127 + (2 * i4_5)) + 1).toNatClampNeg)), (5, .int ((x0.2 0) (127 + (2 * i4_5)).toNatClampNeg)), (0, .ref (a0 0)), (1, .int v1), (2, .int v2)]) hx hb dX5_apart_73 hl (k := 6) rfl rfl (by decide) rfl (fun ls hl => ?_)
          refine lv_goto (tgt := 5) hx hb dX5_apart_76 (by decide) ?_
          exact ih5 (i3_5 + 1) (i4_5 + 1) ls h (lv_sub hl [4, 5, 6, 1, 0] rfl)
        replace h := ip c6 h
        refine lv_iconst (v := 0) hx hb dX5_apart_66 (by decide) ?_
        refine lv_goto (tgt := 71) hx hb dX5_apart_67 (by decide) ?_
        refine lv_iadd hx hb dX5_apart_71 ?_
        refine lv_istore_n (lv' := [(3, .int (i3_5 + 0)), (6, .int ((x0.2 0) ((127 + (2 * i4_5)) + 1).toNatClampNeg)), (5, .int ((x0.2 0) (127 + (2 * i4_5)).toNatClampNeg)), (0, .ref (a0 0)), (1, .int v1), (2, .int v2), (4, .int i4_5)]) hx hb dX5_apart_72 rfl hl (by decide) rfl (fun ls hl => ?_)
        refine lv_iinc (v := i4_5 + 1) (lv' := [(4, .int (i4_5 + 1)), (3, .int (i3_5 + 0)), (6, .int ((x0.2 0) ((127 + (2 * i4_5)) + 1).toNatClampNeg)), (5, .int ((x0.2 0) (127 + (2 * i4_5)).toNatClampNeg)), (0, .ref (a0 0)), (1, .int v1), (2, .int v2)]) hx hb dX5_apart_73 hl (k := 6) rfl rfl (by decide) rfl (fun ls hl => ?_)
        refine lv_goto (tgt := 5) hx hb dX5_apart_76 (by decide) ?_
        exact ih5 (i3_5 + 0) (i4_5 + 1) ls h (lv_sub hl [4, 5, 6, 1, 0] rfl)
  exact K5 1000 0 0 ls h (lv_sub hl [2, 3, 4, 1, 0] rfl)
set_option maxHeartbeats 4000000 in
set_option maxRecDepth 100000 in
theorem c_X5_distance (l : Launch) (D : va_G) (T : Nat → ClassId) (a0 : Nat → Nat) (x0 : St) (v1 : Int32) (v2 : Int32) (sz : Nat) (r : Int32 × St) (h : F_X5_distance x0 v1 v2 = some r) : Met l yX5_distance wsX5_distance ({ frames := 2, cells := 0, slots := 0, locals := 50 } : Room) (va_Pc [.ref (a0 0), .int v1, .int v2] (PM D T (mdW T a0 (x0)) sz)) (QMi D (mdW T a0 (r.2)) r.1 (va_A (mdW T a0 (x0)) sz)) 0 0 (va_A (mdW T a0 (x0)) sz) := by
  refine met_of (cc := cX5_distance) (maxL := 3) (ret := (some .int)) (lv := [(0, .ref (a0 0)), (1, .int v1), (2, .int v2)]) (by decide) rfl (Nat.le_of_ble_eq_true rfl) rfl ?_
  intro p e s m args below meth c ls C0 hl hB
  obtain ⟨hx, hb, hr, hml, hown, hts, hlocks, hname⟩ := C0
  obtain ⟨hsz, hP, hK, hD0⟩ := hB
  subst hsz
  have hD := hD0.self (sz := s.heap.size)
  generalize hAe : va_A (mdW T a0 (x0)) s.heap.size = A at hD ⊢
  have hA : ∀ q : Nat, s.heap.size ≤ q → A q := fun q h => by rw [← hAe]; exact Or.inr h
  obtain ⟨H, hH⟩ : ∃ H, H = s.heap := ⟨_, rfl⟩
  obtain ⟨locs, hlo⟩ : ∃ L : List Loc, L = [] := ⟨_, rfl⟩
  have hS : va_S A s.heap s.heap [] := va_S.rf
  rw [← hH] at hP ⊢
  rw [← hlo]
  replace hS : va_S A s.heap H locs := by rw [hH, hlo]; exact hS
  clear hH hlo
  unfold F_X5_distance at h
  refine lv_aload_n hx hb dX5_distance_0 rfl (lv_at hl 0 rfl) ?_
  refine lv_iload_n hx hb dX5_distance_1 rfl (lv_at hl 1 rfl) ?_
  replace h := bd h
  obtain ⟨t1, et1, h⟩ := h
  refine callRi (v := t1) (va_runV (As := [.int v1]) (rest := []) ⟨hx, hb, hml, hown, hts⟩ (c_X5_isCase l D T a0 x0 v1 t1 et1) (cwV 1 hts gX5_distance_X5_isCase rfl rfl rfl hdV_X5_isCase ⟨Nat.le_of_ble_eq_true rfl, Nat.le_of_ble_eq_true rfl⟩) ⟨PB_blind, va_recv hK.1 hP (ci := 5) (q0 := 0) rfl rfl, PB_at hP hK⟩ rfl rfl hl.1 rfl (lv_room (Nat.le_of_ble_eq_true rfl)) dX5_distance_2 ⟨Nat.zero_le _, Nat.zero_le _⟩) ?_
  refine lv_if_eq (tgt := 29) hx hb dX5_distance_5 (by decide) (fun c2 => ?_) (fun c2 => ?_)
  · replace h := ip c2 h
    refine lv_aload_n hx hb dX5_distance_29 rfl (lv_at hl 0 rfl) ?_
    refine lv_iconst (v := 1) hx hb dX5_distance_30 (by decide) ?_
    replace h := bd h
    obtain ⟨t3, et3, h⟩ := h
    refine callMi (wr := []) (ws' := mdW T a0 (t3.2)) (va_runV (As := [.int 1]) (rest := []) ⟨hx, hb, hml, hown, hts⟩ (c_X5_fails l D T a0 x0 1 _ t3 et3) (cwV 1 hts gX5_distance_X5_fails rfl rfl rfl hdV_X5_fails ⟨Nat.le_of_ble_eq_true rfl, Nat.le_of_ble_eq_true rfl⟩) ⟨PM_blind, va_recv hK.1 hP (ci := 5) (q0 := 0) rfl rfl, PM_at hP hD hK⟩ rfl rfl hl.1 rfl (lv_room (Nat.le_of_ble_eq_true rfl)) dX5_distance_31 ⟨Nat.zero_le _, Nat.zero_le _⟩) hS hA hP hD [0, 1, 2, 3, 4] [] rfl rfl (by decide) (by decide) [0, 1, 2, 3, 4] (by decide) rfl (fun H locs hP hD hS => ?_)
    obtain rfl := Option.some.inj h
    exact W.iret hx hb hr (fun t ht hW => ⟨⟨_, (), rfl, rfl, by rw [ht]; exact hP, hD⟩, hS.F ht⟩) hS.2.2 dX5_distance_34 hlocks
  replace h := im c2 h
  refine lv_aload_n hx hb dX5_distance_8 rfl (lv_at hl 0 rfl) ?_
  refine lv_iload_n hx hb dX5_distance_9 rfl (lv_at hl 2 rfl) ?_
  replace h := bd h
  obtain ⟨t4, et4, h⟩ := h
  refine callRi (v := t4) (va_runV (As := [.int v2]) (rest := []) ⟨hx, hb, hml, hown, hts⟩ (c_X5_isCase l D T a0 x0 v2 t4 et4) (cwV 1 hts gX5_distance_X5_isCase rfl rfl rfl hdV_X5_isCase ⟨Nat.le_of_ble_eq_true rfl, Nat.le_of_ble_eq_true rfl⟩) ⟨PB_blind, va_recv hK.1 hP (ci := 5) (q0 := 0) rfl rfl, PB_at hP hK⟩ rfl rfl hl.1 rfl (lv_room (Nat.le_of_ble_eq_true rfl)) dX5_distance_10 ⟨Nat.zero_le _, Nat.zero_le _⟩) ?_
  refine lv_if_eq (tgt := 29) hx hb dX5_distance_13 (by decide) (fun c5 => ?_) (fun c5 => ?_)
  · replace h := ip c5 h
    refine lv_aload_n hx hb dX5_distance_29 rfl (lv_at hl 0 rfl) ?_
    refine lv_iconst (v := 1) hx hb dX5_distance_30 (by decide) ?_
    replace h := bd h
    obtain ⟨t6, et6, h⟩ := h
    refine callMi (wr := []) (ws' := mdW T a0 (t6.2)) (va_runV (As := [.int 1]) (rest := []) ⟨hx, hb, hml, hown, hts⟩ (c_X5_fails l D T a0 x0 1 _ t6 et6) (cwV 1 hts gX5_distance_X5_fails rfl rfl rfl hdV_X5_fails ⟨Nat.le_of_ble_eq_true rfl, Nat.le_of_ble_eq_true rfl⟩) ⟨PM_blind, va_recv hK.1 hP (ci := 5) (q0 := 0) rfl rfl, PM_at hP hD hK⟩ rfl rfl hl.1 rfl (lv_room (Nat.le_of_ble_eq_true rfl)) dX5_distance_31 ⟨Nat.zero_le _, Nat.zero_le _⟩) hS hA hP hD [0, 1, 2, 3, 4] [] rfl rfl (by decide) (by decide) [0, 1, 2, 3, 4] (by decide) rfl (fun H locs hP hD hS => ?_)
    obtain rfl := Option.some.inj h
    exact W.iret hx hb hr (fun t ht hW => ⟨⟨_, (), rfl, rfl, by rw [ht]; exact hP, hD⟩, hS.F ht⟩) hS.2.2 dX5_distance_34 hlocks
  replace h := im c5 h
  refine lv_aload_n hx hb dX5_distance_16 rfl (lv_at hl 0 rfl) ?_
  refine lv_aload_n hx hb dX5_distance_17 rfl (lv_at hl 0 rfl) ?_
  refine lv_iload_n hx hb dX5_distance_18 rfl (lv_at hl 1 rfl) ?_
  refine lv_iload_n hx hb dX5_distance_19 rfl (lv_at hl 2 rfl) ?_
  replace h := bd h
  obtain ⟨t7, et7, h⟩ := h
  refine callRi (v := t7) (va_runV (As := [.int v1, .int v2]) (rest := [.ref (a0 0)]) ⟨hx, hb, hml, hown, hts⟩ (c_X5_apart l D T a0 x0 v1 v2 t7 et7) (cwV 2 hts gX5_distance_X5_apart rfl rfl rfl hdV_X5_apart ⟨Nat.le_of_ble_eq_true rfl, Nat.le_of_ble_eq_true rfl⟩) ⟨PB_blind, va_recv hK.1 hP (ci := 5) (q0 := 0) rfl rfl, PB_at hP hK⟩ rfl rfl hl.1 rfl (lv_room (Nat.le_of_ble_eq_true rfl)) dX5_distance_20 ⟨Nat.zero_le _, Nat.zero_le _⟩) ?_
  replace h := bd h
  obtain ⟨t8, et8, h⟩ := h
  refine callMi (wr := []) (ws' := mdW T a0 (t8.2)) (va_runV (As := [.int t7]) (rest := []) ⟨hx, hb, hml, hown, hts⟩ (c_X5_tells l D T a0 x0 t7 _ t8 et8) (cwV 1 hts gX5_distance_X5_tells rfl rfl rfl hdV_X5_tells ⟨Nat.le_of_ble_eq_true rfl, Nat.le_of_ble_eq_true rfl⟩) ⟨PM_blind, va_recv hK.1 hP (ci := 5) (q0 := 0) rfl rfl, PM_at hP hD hK⟩ rfl rfl hl.1 rfl (lv_room (Nat.le_of_ble_eq_true rfl)) dX5_distance_23 ⟨Nat.zero_le _, Nat.zero_le _⟩) hS hA hP hD [0, 1, 2, 3, 4] [] rfl rfl (by decide) (by decide) [0, 1, 2, 3, 4] (by decide) rfl (fun H locs hP hD hS => ?_)
  refine lv_goto (tgt := 34) hx hb dX5_distance_26 (by decide) ?_
  obtain rfl := Option.some.inj h
  exact W.iret hx hb hr (fun t ht hW => ⟨⟨_, (), rfl, rfl, by rw [ht]; exact hP, hD⟩, hS.F ht⟩) hS.2.2 dX5_distance_34 hlocks
set_option maxHeartbeats 4000000 in
set_option maxRecDepth 100000 in
theorem c_X5_nearest (l : Launch) (D : va_G) (T : Nat → ClassId) (a0 : Nat → Nat) (x0 : St) (r : Int32) (h : F_X5_nearest x0 = some r) : Met l yX5_nearest wsX5_nearest ({ frames := 2, cells := 0, slots := 0, locals := 50 } : Room) (va_Pc [.ref (a0 0)] (PB D T (mdW T a0 (x0)))) (QRi r) 0 0 (fun _ => False) := by
  refine met_of (cc := cX5_nearest) (maxL := 5) (ret := (some .int)) (lv := [(0, .ref (a0 0))]) (by decide) rfl (Nat.le_of_ble_eq_true rfl) rfl ?_
  intro p e s m args below meth c ls C0 hl hB
  obtain ⟨hx, hb, hr, hml, hown, hts, hlocks, hname⟩ := C0
  obtain ⟨hP, hK⟩ := hB
  unfold F_X5_nearest at h
  refine lv_bipush (v := 8) hx hb dX5_nearest_0 (by decide) ?_
  refine lv_istore_n (lv' := [(1, .int 8), (0, .ref (a0 0))]) hx hb dX5_nearest_2 rfl hl (by decide) rfl (fun ls hl => ?_)
  refine lv_iconst (v := 0) hx hb dX5_nearest_3 (by decide) ?_
  refine lv_istore_n (lv' := [(2, .int 0), (1, .int 8), (0, .ref (a0 0))]) hx hb dX5_nearest_4 rfl hl (by decide) rfl (fun ls hl => ?_)
  have K5 : ∀ (n5 : Nat) (i1_5 : Int32) (i2_5 : Int32) (ls : Array Slot), fx2 (B_X5_nearest_5 x0) n5 i1_5 i2_5 = some r → lv_has ls 5 [(0, .ref (a0 0)), (1, .int i1_5), (2, .int i2_5)] → W p l e ({ frames := 2, cells := 0, slots := 0, locals := 50 } : Room) s m args below meth c s.heap [] 0 0 (MQ below (QRi r) args s 0 0 (fun _ => False)) (F0 m 5 ls []) := by
    intro n5
    induction n5 with
    | zero =>
        intro i1_5 i2_5 ls h
        cases h
    | succ n5 ih5 =>
        intro i1_5 i2_5 ls h hl
        replace h : B_X5_nearest_5 x0 (fx2 (B_X5_nearest_5 x0) n5) i1_5 i2_5 = some r := h
        unfold B_X5_nearest_5 at h
        refine lv_iload_n hx hb dX5_nearest_5 rfl (lv_at hl 2 rfl) ?_
        refine lv_aload_n hx hb dX5_nearest_6 rfl (lv_at hl 0 rfl) ?_
        replace h := bd h
        obtain ⟨t1, et1, h⟩ := h
        refine callRi (v := t1) (va_runV (As := []) (rest := [.int i2_5]) ⟨hx, hb, hml, hown, hts⟩ (c_X5_cases l D T a0 x0 t1 et1) (cwV 0 hts gX5_nearest_X5_cases rfl rfl rfl hdV_X5_cases ⟨Nat.le_of_ble_eq_true rfl, Nat.le_of_ble_eq_true rfl⟩) ⟨PB_blind, va_recv hK.1 hP (ci := 5) (q0 := 0) rfl rfl, PB_at hP hK⟩ rfl rfl hl.1 rfl (lv_room (Nat.le_of_ble_eq_true rfl)) dX5_nearest_7 ⟨Nat.zero_le _, Nat.zero_le _⟩) ?_
        refine lv_icmp_ge (tgt := 53) hx hb dX5_nearest_10 (by decide) (fun c2 => ?_) (fun c2 => ?_)
        · replace h := ip c2 h
          refine lv_iload_n hx hb dX5_nearest_53 rfl (lv_at hl 1 rfl) ?_
          exact W.iret hx hb hr (fun t ht hW => ⟨_, rfl, Option.some.inj h, ht⟩) (fun q hq => absurd hq List.not_mem_nil) dX5_nearest_54 hlocks
        replace h := im c2 h
        refine lv_iconst (v := 0) hx hb dX5_nearest_13 (by decide) ?_
        refine lv_istore_n (lv' := [(3, .int 0), (0, .ref (a0 0)), (1, .int i1_5), (2, .int i2_5)]) hx hb dX5_nearest_14 rfl hl (by decide) rfl (fun ls hl => ?_)
        have K15 : ∀ (n15 : Nat) (i1_15 : Int32) (i3_15 : Int32) (ls : Array Slot), fx2 (B_X5_nearest_15 x0 i2_5 (fx2 (B_X5_nearest_5 x0) n5)) n15 i1_15 i3_15 = some r → lv_has ls 5 [(0, .ref (a0 0)), (1, .int i1_15), (2, .int i2_5), (3, .int i3_15)] → W p l e ({ frames := 2, cells := 0, slots := 0, locals := 50 } : Room) s m args below meth c s.heap [] 0 0 (MQ below (QRi r) args s 0 0 (fun _ => False)) (F0 m 15 ls []) := by
          intro n15
          induction n15 with
          | zero =>
              intro i1_15 i3_15 ls h
              cases h
          | succ n15 ih15 =>
              intro i1_15 i3_15 ls h hl
              replace h : B_X5_nearest_15 x0 i2_5 (fx2 (B_X5_nearest_5 x0) n5) (fx2 (B_X5_nearest_15 x0 i2_5 (fx2 (B_X5_nearest_5 x0) n5)) n15) i1_15 i3_15 = some r := h
              unfold B_X5_nearest_15 at h
              refine lv_iload_n hx hb dX5_nearest_15 rfl (lv_at hl 3 rfl) ?_
              refine lv_iload_n hx hb dX5_nearest_16 rfl (lv_at hl 2 rfl) ?_
              refine lv_icmp_ge (tgt := 47) hx hb dX5_nearest_17 (by decide) (fun c3 => ?_) (fun c3 => ?_)
              · replace h := ip c3 h
                refine lv_iinc (v := i2_5 + 1) (lv' := [(2, .int (i2_5 + 1)), (0, .ref (a0 0)), (1, .int i1_15), (3, .int i3_15)]) hx hb dX5_nearest_47 hl (k := 2) rfl rfl (by decide) rfl (fun ls hl => ?_)
                refine lv_goto (tgt := 5) hx hb dX5_nearest_50 (by decide) ?_
                exact ih5 i1_15 (i2_5 + 1) ls h (lv_sub hl [1, 2, 0] rfl)
              replace h := im c3 h
              refine lv_aload_n hx hb dX5_nearest_20 rfl (lv_at hl 0 rfl) ?_
              refine lv_iload_n hx hb dX5_nearest_21 rfl (lv_at hl 2 rfl) ?_
              refine lv_iload_n hx hb dX5_nearest_22 rfl (lv_at hl 3 rfl) ?_
              replace h := bd h
              obtain ⟨t4, et4, h⟩ := h
              refine callRi (v := t4) (va_runV (As := [.int i2_5, .int i3_15]) (rest := []) ⟨hx, hb, hml, hown, hts⟩ (c_X5_apart l D T a0 x0 i2_5 i3_15 t4 et4) (cwV 2 hts gX5_nearest_X5_apart rfl rfl rfl hdV_X5_apart ⟨Nat.le_of_ble_eq_true rfl, Nat.le_of_ble_eq_true rfl⟩) ⟨PB_blind, va_recv hK.1 hP (ci := 5) (q0 := 0) rfl rfl, PB_at hP hK⟩ rfl rfl hl.1 rfl (lv_room (Nat.le_of_ble_eq_true rfl)) dX5_nearest_23 ⟨Nat.zero_le _, Nat.zero_le _⟩) ?_
              refine lv_istore (lv' := [(4, .int t4), (0, .ref (a0 0)), (1, .int i1_15), (2, .int i2_5), (3, .int i3_15)]) hx hb dX5_nearest_26 hl (by decide) rfl (fun ls hl => ?_)
              refine lv_iload hx hb dX5_nearest_28 (lv_at hl 0 rfl) ?_
              refine lv_iload_n hx hb dX5_nearest_30 rfl (lv_at hl 2 rfl) ?_
              refine lv_icmp_ge (tgt := 39) hx hb dX5_nearest_31 (by decide) (fun c5 => ?_) (fun c5 => ?_)
              · replace h := ip c5 h
                refine lv_iload_n hx hb dX5_nearest_39 rfl (lv_at hl 2 rfl) ?_
                refine lv_istore_n (lv' := [(1, .int i1_15), (4, .int t4), (0, .ref (a0 0)), (2, .int i2_5), (3, .int i3_15)]) hx hb dX5_nearest_40 rfl hl (by decide) rfl (fun ls hl => ?_)
                refine lv_iinc (v := i3_15 + 1) (lv' := [(3, .int (i3_15 + 1)), (1, .int i1_15), (4, .int t4), (0, .ref (a0 0)), (2, .int i2_5)]) hx hb dX5_nearest_41 hl (k := 4) rfl rfl (by decide) rfl (fun ls hl => ?_)
                refine lv_goto (tgt := 15) hx hb dX5_nearest_44 (by decide) ?_
                exact ih15 i1_15 (i3_15 + 1) ls h (lv_sub hl [3, 1, 4, 0] rfl)
              replace h := im c5 h
              refine lv_iload hx hb dX5_nearest_34 (lv_at hl 0 rfl) ?_
              refine lv_goto (tgt := 40) hx hb dX5_nearest_36 (by decide) ?_
              refine lv_istore_n (lv' := [(1, .int t4), (4, .int t4), (0, .ref (a0 0)), (2, .int i2_5), (3, .int i3_15)]) hx hb dX5_nearest_40 rfl hl (by decide) rfl (fun ls hl => ?_)
              refine lv_iinc (v := i3_15 + 1) (lv' := [(3, .int (i3_15 + 1)), (1, .int t4), (4, .int t4), (0, .ref (a0 0)), (2, .int i2_5)]) hx hb dX5_nearest_41 hl (k := 4) rfl rfl (by decide) rfl (fun ls hl => ?_)
              refine lv_goto (tgt := 15) hx hb dX5_nearest_44 (by decide) ?_
              exact ih15 t4 (i3_15 + 1) ls h (lv_sub hl [3, 1, 4, 0] rfl)
        exact K15 1000 i1_5 0 ls h (lv_sub hl [1, 2, 3, 0] rfl)
  exact K5 1000 8 0 ls h (lv_sub hl [2, 1, 0] rfl)
set_option maxHeartbeats 4000000 in
set_option maxRecDepth 100000 in
theorem c_X5_leastDistance (l : Launch) (D : va_G) (T : Nat → ClassId) (a0 : Nat → Nat) (x0 : St) (sz : Nat) (r : Int32 × St) (h : F_X5_leastDistance x0 = some r) : Met l yX5_leastDistance wsX5_leastDistance ({ frames := 3, cells := 0, slots := 0, locals := 74 } : Room) (va_Pc [.ref (a0 0)] (PM D T (mdW T a0 (x0)) sz)) (QMi D (mdW T a0 (r.2)) r.1 (va_A (mdW T a0 (x0)) sz)) 0 0 (va_A (mdW T a0 (x0)) sz) := by
  refine met_of (cc := cX5_leastDistance) (maxL := 1) (ret := (some .int)) (lv := [(0, .ref (a0 0))]) (by decide) rfl (Nat.le_of_ble_eq_true rfl) rfl ?_
  intro p e s m args below meth c ls C0 hl hB
  obtain ⟨hx, hb, hr, hml, hown, hts, hlocks, hname⟩ := C0
  obtain ⟨hsz, hP, hK, hD0⟩ := hB
  subst hsz
  have hD := hD0.self (sz := s.heap.size)
  generalize hAe : va_A (mdW T a0 (x0)) s.heap.size = A at hD ⊢
  have hA : ∀ q : Nat, s.heap.size ≤ q → A q := fun q h => by rw [← hAe]; exact Or.inr h
  obtain ⟨H, hH⟩ : ∃ H, H = s.heap := ⟨_, rfl⟩
  obtain ⟨locs, hlo⟩ : ∃ L : List Loc, L = [] := ⟨_, rfl⟩
  have hS : va_S A s.heap s.heap [] := va_S.rf
  rw [← hH] at hP ⊢
  rw [← hlo]
  replace hS : va_S A s.heap H locs := by rw [hH, hlo]; exact hS
  clear hH hlo
  unfold F_X5_leastDistance at h
  refine lv_aload_n hx hb dX5_leastDistance_0 rfl (lv_at hl 0 rfl) ?_
  refine lv_aload_n hx hb dX5_leastDistance_1 rfl (lv_at hl 0 rfl) ?_
  replace h := bd h
  obtain ⟨t1, et1, h⟩ := h
  refine callRi (v := t1) (va_runV (As := []) (rest := [.ref (a0 0)]) ⟨hx, hb, hml, hown, hts⟩ (c_X5_nearest l D T a0 x0 t1 et1) (cwV 0 hts gX5_leastDistance_X5_nearest rfl rfl rfl hdV_X5_nearest ⟨Nat.le_of_ble_eq_true rfl, Nat.le_of_ble_eq_true rfl⟩) ⟨PB_blind, va_recv hK.1 hP (ci := 5) (q0 := 0) rfl rfl, PB_at hP hK⟩ rfl rfl hl.1 rfl (lv_room (Nat.le_of_ble_eq_true rfl)) dX5_leastDistance_2 ⟨Nat.zero_le _, Nat.zero_le _⟩) ?_
  replace h := bd h
  obtain ⟨t2, et2, h⟩ := h
  refine callMi (wr := []) (ws' := mdW T a0 (t2.2)) (va_runV (As := [.int t1]) (rest := []) ⟨hx, hb, hml, hown, hts⟩ (c_X5_tells l D T a0 x0 t1 _ t2 et2) (cwV 1 hts gX5_leastDistance_X5_tells rfl rfl rfl hdV_X5_tells ⟨Nat.le_of_ble_eq_true rfl, Nat.le_of_ble_eq_true rfl⟩) ⟨PM_blind, va_recv hK.1 hP (ci := 5) (q0 := 0) rfl rfl, PM_at hP hD hK⟩ rfl rfl hl.1 rfl (lv_room (Nat.le_of_ble_eq_true rfl)) dX5_leastDistance_5 ⟨Nat.zero_le _, Nat.zero_le _⟩) hS hA hP hD [0, 1, 2, 3, 4] [] rfl rfl (by decide) (by decide) [0, 1, 2, 3, 4] (by decide) rfl (fun H locs hP hD hS => ?_)
  obtain rfl := Option.some.inj h
  exact W.iret hx hb hr (fun t ht hW => ⟨⟨_, (), rfl, rfl, by rw [ht]; exact hP, hD⟩, hS.F ht⟩) hS.2.2 dX5_leastDistance_8 hlocks
set_option maxHeartbeats 4000000 in
set_option maxRecDepth 100000 in
theorem c_X5_bears (l : Launch) (D : va_G) (T : Nat → ClassId) (a0 : Nat → Nat) (x0 : St) (sz : Nat) (r : Int32 × St) (h : F_X5_bears x0 = some r) : Met l yX5_bears wsX5_bears ({ frames := 3, cells := 0, slots := 0, locals := 74 } : Room) (va_Pc [.ref (a0 0)] (PM D T (mdW T a0 (x0)) sz)) (QMi D (mdW T a0 (r.2)) r.1 (va_A (mdW T a0 (x0)) sz)) 0 0 (va_A (mdW T a0 (x0)) sz) := by
  refine met_of (cc := cX5_bears) (maxL := 2) (ret := (some .int)) (lv := [(0, .ref (a0 0))]) (by decide) rfl (Nat.le_of_ble_eq_true rfl) rfl ?_
  intro p e s m args below meth c ls C0 hl hB
  obtain ⟨hx, hb, hr, hml, hown, hts, hlocks, hname⟩ := C0
  obtain ⟨hsz, hP, hK, hD0⟩ := hB
  subst hsz
  have hD := hD0.self (sz := s.heap.size)
  generalize hAe : va_A (mdW T a0 (x0)) s.heap.size = A at hD ⊢
  have hA : ∀ q : Nat, s.heap.size ≤ q → A q := fun q h => by rw [← hAe]; exact Or.inr h
  obtain ⟨H, hH⟩ : ∃ H, H = s.heap := ⟨_, rfl⟩
  obtain ⟨locs, hlo⟩ : ∃ L : List Loc, L = [] := ⟨_, rfl⟩
  have hS : va_S A s.heap s.heap [] := va_S.rf
  rw [← hH] at hP ⊢
  rw [← hlo]
  replace hS : va_S A s.heap H locs := by rw [hH, hlo]; exact hS
  clear hH hlo
  unfold F_X5_bears at h
  refine lv_aload_n hx hb dX5_bears_0 rfl (lv_at hl 0 rfl) ?_
  replace h := bd h
  obtain ⟨t1, et1, h⟩ := h
  refine callRi (v := t1) (va_runV (As := []) (rest := []) ⟨hx, hb, hml, hown, hts⟩ (c_X5_nearest l D T a0 x0 t1 et1) (cwV 0 hts gX5_bears_X5_nearest rfl rfl rfl hdV_X5_nearest ⟨Nat.le_of_ble_eq_true rfl, Nat.le_of_ble_eq_true rfl⟩) ⟨PB_blind, va_recv hK.1 hP (ci := 5) (q0 := 0) rfl rfl, PB_at hP hK⟩ rfl rfl hl.1 rfl (lv_room (Nat.le_of_ble_eq_true rfl)) dX5_bears_1 ⟨Nat.zero_le _, Nat.zero_le _⟩) ?_
  refine lv_istore_n (lv' := [(1, .int t1), (0, .ref (a0 0))]) hx hb dX5_bears_4 rfl hl (by decide) rfl (fun ls hl => ?_)
  refine lv_aload_n hx hb dX5_bears_5 rfl (lv_at hl 1 rfl) ?_
  refine lv_iload_n hx hb dX5_bears_6 rfl (lv_at hl 0 rfl) ?_
  refine lv_if_ne (tgt := 14) hx hb dX5_bears_7 (by decide) (fun c2 => ?_) (fun c2 => ?_)
  · replace h := im c2 h
    refine lv_iload_n hx hb dX5_bears_14 rfl (lv_at hl 0 rfl) ?_
    refine lv_iconst (v := 1) hx hb dX5_bears_15 (by decide) ?_
    refine lv_isub hx hb dX5_bears_16 ?_
    refine lv_iconst (v := 2) hx hb dX5_bears_17 (by decide) ?_
    refine lv_idiv hx hb dX5_bears_18 (by decide) ?_
    replace h := bd h
    obtain ⟨t3, et3, h⟩ := h
    refine callMi (wr := []) (ws' := mdW T a0 (t3.2)) (va_runV (As := [.int ((t1 - 1) / 2)]) (rest := []) ⟨hx, hb, hml, hown, hts⟩ (c_X5_tells l D T a0 x0 ((t1 - 1) / 2) _ t3 et3) (cwV 1 hts gX5_bears_X5_tells rfl rfl rfl hdV_X5_tells ⟨Nat.le_of_ble_eq_true rfl, Nat.le_of_ble_eq_true rfl⟩) ⟨PM_blind, va_recv hK.1 hP (ci := 5) (q0 := 0) rfl rfl, PM_at hP hD hK⟩ rfl rfl hl.1 rfl (lv_room (Nat.le_of_ble_eq_true rfl)) dX5_bears_19 ⟨Nat.zero_le _, Nat.zero_le _⟩) hS hA hP hD [0, 1, 2, 3, 4] [] rfl rfl (by decide) (by decide) [0, 1, 2, 3, 4] (by decide) rfl (fun H locs hP hD hS => ?_)
    obtain rfl := Option.some.inj h
    exact W.iret hx hb hr (fun t ht hW => ⟨⟨_, (), rfl, rfl, by rw [ht]; exact hP, hD⟩, hS.F ht⟩) hS.2.2 dX5_bears_22 hlocks
  replace h := ip c2 h
  refine lv_iconst (v := (-1)) hx hb dX5_bears_10 (by decide) ?_
  refine lv_goto (tgt := 19) hx hb dX5_bears_11 (by decide) ?_
  replace h := bd h
  obtain ⟨t4, et4, h⟩ := h
  refine callMi (wr := []) (ws' := mdW T a0 (t4.2)) (va_runV (As := [.int ((-1))]) (rest := []) ⟨hx, hb, hml, hown, hts⟩ (c_X5_tells l D T a0 x0 ((-1)) _ t4 et4) (cwV 1 hts gX5_bears_X5_tells rfl rfl rfl hdV_X5_tells ⟨Nat.le_of_ble_eq_true rfl, Nat.le_of_ble_eq_true rfl⟩) ⟨PM_blind, va_recv hK.1 hP (ci := 5) (q0 := 0) rfl rfl, PM_at hP hD hK⟩ rfl rfl hl.1 rfl (lv_room (Nat.le_of_ble_eq_true rfl)) dX5_bears_19 ⟨Nat.zero_le _, Nat.zero_le _⟩) hS hA hP hD [0, 1, 2, 3, 4] [] rfl rfl (by decide) (by decide) [0, 1, 2, 3, 4] (by decide) rfl (fun H locs hP hD hS => ?_)
  obtain rfl := Option.some.inj h
  exact W.iret hx hb hr (fun t ht hW => ⟨⟨_, (), rfl, rfl, by rw [ht]; exact hP, hD⟩, hS.F ht⟩) hS.2.2 dX5_bears_22 hlocks
set_option maxHeartbeats 4000000 in
set_option maxRecDepth 100000 in
theorem c_X5_differs (l : Launch) (D : va_G) (T : Nat → ClassId) (a0 : Nat → Nat) (x0 : St) (v1 : Int32) (v2 : Int32) (r : Int32) (h : F_X5_differs x0 v1 v2 = some r) : Met l yX5_differs wsX5_differs ({ frames := 1, cells := 0, slots := 0, locals := 24 } : Room) (va_Pc [.ref (a0 0), .int v1, .int v2] (PB D T (mdW T a0 (x0)))) (QRi r) 0 0 (fun _ => False) := by
  refine met_of (cc := cX5_differs) (maxL := 6) (ret := (some .int)) (lv := [(0, .ref (a0 0)), (1, .int v1), (2, .int v2)]) (by decide) rfl (Nat.le_of_ble_eq_true rfl) rfl ?_
  intro p e s m args below meth c ls C0 hl hB
  obtain ⟨hx, hb, hr, hml, hown, hts, hlocks, hname⟩ := C0
  obtain ⟨hP, hK⟩ := hB
  unfold F_X5_differs at h
  refine lv_iconst (v := 0) hx hb dX5_differs_0 (by decide) ?_
  refine lv_istore_n (lv' := [(3, .int 0), (0, .ref (a0 0)), (1, .int v1), (2, .int v2)]) hx hb dX5_differs_1 rfl hl (by decide) rfl (fun ls hl => ?_)
  refine lv_iload_n hx hb dX5_differs_2 rfl (lv_at hl 3 rfl) ?_
  refine lv_istore (lv' := [(4, .int v2), (3, .int 0), (0, .ref (a0 0)), (1, .int v1), (2, .int v2)]) hx hb dX5_differs_3 hl (by decide) rfl (fun ls hl => ?_)
  refine lv_iconst (v := 0) hx hb dX5_differs_5 (by decide) ?_
  refine lv_istore (lv' := [(5, .int 0), (4, .int v2), (3, .int 0), (0, .ref (a0 0)), (1, .int v1), (2, .int v2)]) hx hb dX5_differs_6 hl (by decide) rfl (fun ls hl => ?_)
  have K8 : ∀ (n8 : Nat) (i3_8 : Int32) (i4_8 : Int32) (i5_8 : Int32) (ls : Array Slot), fx3 (B_X5_differs_8 x0 v1) n8 i3_8 i4_8 i5_8 = some r → lv_has ls 6 [(0, .ref (a0 0)), (1, .int v1), (2, .int v2), (3, .int i3_8), (4, .int i4_8), (5, .int i5_8)] → W p l e ({ frames := 1, cells := 0, slots := 0, locals := 24 } : Room) s m args below meth c s.heap [] 0 0 (MQ below (QRi r) args s 0 0 (fun _ => False)) (F0 m 8 ls []) := by
    intro n8
    induction n8 with
    | zero =>
        intro i3_8 i4_8 i5_8 ls h
        cases h
    | succ n8 ih8 =>
        intro i3_8 i4_8 i5_8 ls h hl
        replace h : B_X5_differs_8 x0 v1 (fx3 (B_X5_differs_8 x0 v1) n8) i3_8 i4_8 i5_8 = some r := h
        unfold B_X5_differs_8 at h
        refine lv_iload hx hb dX5_differs_8 (lv_at hl 5 rfl) ?_
        refine lv_aload_n hx hb dX5_differs_10 rfl (lv_at hl 0 rfl) ?_
        refine va_get (D := D) (ci := 5) (v := .ref (a0 1)) (C := RX5) (T := TX5) (N := 11) hx hb hts inX5_differs_5 hown hK.1 hP 0 rfl rfl 0 (by decide) (hts (.fieldLink RX5 7 "LyingScaleModel" "s" "[I") (List.mem_of_getElem? (i := 1) rfl)) (fun _ h9 => h9) rfl dX5_differs_11 ?_
        refine lv_iconst (v := 3) hx hb dX5_differs_14 (by decide) ?_
        refine va_iald hx hb hK.1 hP 1 0 rfl rfl (show ¬ ((3 : Int32) < 0 ∨ 176 ≤ Int32.toNatClampNeg 3) from by decide) dX5_differs_15 ?_
        refine eqi (congrArg (x0.2 0) (show Int32.toNatClampNeg 3 = 3 from by decide)) ?_
        refine lv_icmp_ge (tgt := 76) hx hb dX5_differs_16 (by decide) (fun c1 => ?_) (fun c1 => ?_)
        · replace h := ip c1 h
          refine lv_iload_n hx hb dX5_differs_76 rfl (lv_at hl 3 rfl) ?_
          exact W.iret hx hb hr (fun t ht hW => ⟨_, rfl, Option.some.inj h, ht⟩) (fun q hq => absurd hq List.not_mem_nil) dX5_differs_77 hlocks
        replace h := im c1 h
        refine lv_iload_n hx hb dX5_differs_19 rfl (lv_at hl 3 rfl) ?_
        refine lv_iload_n hx hb dX5_differs_20 rfl (lv_at hl 1 rfl) ?_
        refine lv_aload_n hx hb dX5_differs_21 rfl (lv_at hl 0 rfl) ?_
        refine va_get (D := D) (ci := 5) (v := .ref (a0 1)) (C := RX5) (T := TX5) (N := 11) hx hb hts inX5_differs_5 hown hK.1 hP 0 rfl rfl 0 (by decide) (hts (.fieldLink RX5 7 "LyingScaleModel" "s" "[I") (List.mem_of_getElem? (i := 1) rfl)) (fun _ h9 => h9) rfl dX5_differs_22 ?_
        refine lv_bipush (v := 127) hx hb dX5_differs_25 (by decide) ?_
        refine lv_iconst (v := 2) hx hb dX5_differs_27 (by decide) ?_
        refine lv_iload hx hb dX5_differs_28 (lv_at hl 5 rfl) ?_
        refine lv_imul hx hb dX5_differs_30 ?_
        refine lv_iadd hx hb dX5_differs_31 ?_
        replace h := gd h
        obtain ⟨g2, h⟩ := h
        refine va_iald hx hb hK.1 hP 1 0 rfl rfl g2 dX5_differs_32 ?_
        refine lv_aload_n hx hb dX5_differs_33 rfl (lv_at hl 0 rfl) ?_
        refine va_get (D := D) (ci := 5) (v := .ref (a0 1)) (C := RX5) (T := TX5) (N := 11) hx hb hts inX5_differs_5 hown hK.1 hP 0 rfl rfl 0 (by decide) (hts (.fieldLink RX5 7 "LyingScaleModel" "s" "[I") (List.mem_of_getElem? (i := 1) rfl)) (fun _ h9 => h9) rfl dX5_differs_34 ?_
        refine lv_bipush (v := 127) hx hb dX5_differs_37 (by decide) ?_
        refine lv_iconst (v := 2) hx hb dX5_differs_39 (by decide) ?_
        refine lv_iload hx hb dX5_differs_40 (lv_at hl 5 rfl) ?_
        refine lv_imul hx hb dX5_differs_42 ?_
        refine lv_iadd hx hb dX5_differs_43 ?_
        refine lv_iconst (v := 1) hx hb dX5_differs_44 (by decide) ?_
        refine lv_iadd hx hb dX5_differs_45 ?_
        replace h := gd h
        obtain ⟨g3, h⟩ := h
        refine va_iald hx hb hK.1 hP 1 0 rfl rfl g3 dX5_differs_46 ?_
        replace h := bd h
        obtain ⟨t4, et4, h⟩ := h
        refine callRi (v := t4) (va_runS (As := [.int v1, .int ((x0.2 0) (127 + (2 * i5_8)).toNatClampNeg), .int ((x0.2 0) ((127 + (2 * i5_8)) + 1).toNatClampNeg)]) (rest := [.int i3_8]) ⟨hx, hb, hml, hown, hts⟩ (c_X5_truth l D T v1 ((x0.2 0) (127 + (2 * i5_8)).toNatClampNeg) ((x0.2 0) ((127 + (2 * i5_8)) + 1).toNatClampNeg) t4 et4) (va_cwS 3 hts gX5_differs_X5_truth rfl rfl rfl hdS_X5_truth ⟨Nat.le_of_ble_eq_true rfl, Nat.le_of_ble_eq_true rfl⟩) ⟨PB_blind, PB_at (hP.sub (ws' := ([] : va_W)) [] rfl) hK⟩ rfl rfl hl.1 rfl (lv_room (Nat.le_of_ble_eq_true rfl)) dX5_differs_47 ⟨Nat.zero_le _, Nat.zero_le _⟩) ?_
        refine lv_iload hx hb dX5_differs_50 (lv_at hl 4 rfl) ?_
        refine lv_iconst (v := 3) hx hb dX5_differs_52 (by decide) ?_
        refine lv_irem hx hb dX5_differs_53 (by decide) ?_
        refine lv_icmp_ne (tgt := 61) hx hb dX5_differs_54 (by decide) (fun c5 => ?_) (fun c5 => ?_)
        · replace h := im c5 h
          refine lv_iconst (v := 1) hx hb dX5_differs_61 (by decide) ?_
          refine lv_iadd hx hb dX5_differs_62 ?_
          refine lv_istore_n (lv' := [(3, .int (i3_8 + 1)), (0, .ref (a0 0)), (1, .int v1), (2, .int v2), (4, .int i4_8), (5, .int i5_8)]) hx hb dX5_differs_63 rfl hl (by decide) rfl (fun ls hl => ?_)
          refine lv_iload hx hb dX5_differs_64 (lv_at hl 4 rfl) ?_
          refine lv_iconst (v := 3) hx hb dX5_differs_66 (by decide) ?_
          refine lv_idiv hx hb dX5_differs_67 (by decide) ?_
          refine lv_istore (lv' := [(4, .int (i4_8 / 3)), (3, .int (i3_8 + 1)), (0, .ref (a0 0)), (1, .int v1), (2, .int v2), (5, .int i5_8)]) hx hb dX5_differs_68 hl (by decide) rfl (fun ls hl => ?_)
          refine lv_iinc (v := i5_8 + 1) (lv' := [(5, .int (i5_8 + 1)), (4, .int (i4_8 / 3)), (3, .int (i3_8 + 1)), (0, .ref (a0 0)), (1, .int v1), (2, .int v2)]) hx hb dX5_differs_70 hl (k := 5) rfl rfl (by decide) rfl (fun ls hl => ?_)
          refine lv_goto (tgt := 8) hx hb dX5_differs_73 (by decide) ?_
          exact ih8 (i3_8 + 1) (i4_8 / 3) (i5_8 + 1) ls h (lv_sub hl [3, 4, 5, 2, 1, 0] rfl)
        replace h := ip c5 h
        refine lv_iconst (v := 0) hx hb dX5_differs_57 (by decide) ?_
        refine lv_goto (tgt := 62) hx hb dX5_differs_58 (by decide) ?_
        refine lv_iadd hx hb dX5_differs_62 ?_
        refine lv_istore_n (lv' := [(3, .int (i3_8 + 0)), (0, .ref (a0 0)), (1, .int v1), (2, .int v2), (4, .int i4_8), (5, .int i5_8)]) hx hb dX5_differs_63 rfl hl (by decide) rfl (fun ls hl => ?_)
        refine lv_iload hx hb dX5_differs_64 (lv_at hl 4 rfl) ?_
        refine lv_iconst (v := 3) hx hb dX5_differs_66 (by decide) ?_
        refine lv_idiv hx hb dX5_differs_67 (by decide) ?_
        refine lv_istore (lv' := [(4, .int (i4_8 / 3)), (3, .int (i3_8 + 0)), (0, .ref (a0 0)), (1, .int v1), (2, .int v2), (5, .int i5_8)]) hx hb dX5_differs_68 hl (by decide) rfl (fun ls hl => ?_)
        refine lv_iinc (v := i5_8 + 1) (lv' := [(5, .int (i5_8 + 1)), (4, .int (i4_8 / 3)), (3, .int (i3_8 + 0)), (0, .ref (a0 0)), (1, .int v1), (2, .int v2)]) hx hb dX5_differs_70 hl (k := 5) rfl rfl (by decide) rfl (fun ls hl => ?_)
        refine lv_goto (tgt := 8) hx hb dX5_differs_73 (by decide) ?_
        exact ih8 (i3_8 + 0) (i4_8 / 3) (i5_8 + 1) ls h (lv_sub hl [3, 4, 5, 2, 1, 0] rfl)
  exact K8 1000 0 v2 0 ls h (lv_sub hl [3, 4, 5, 2, 1, 0] rfl)
set_option maxHeartbeats 4000000 in
set_option maxRecDepth 100000 in
theorem c_X5_decode (l : Launch) (D : va_G) (T : Nat → ClassId) (a0 : Nat → Nat) (x0 : St) (v1 : Int32) (sz : Nat) (r : Int32 × St) (h : F_X5_decode x0 v1 = some r) : Met l yX5_decode wsX5_decode ({ frames := 2, cells := 0, slots := 0, locals := 49 } : Room) (va_Pc [.ref (a0 0), .int v1] (PM D T (mdW T a0 (x0)) sz)) (QMi D (mdW T a0 (r.2)) r.1 (va_A (mdW T a0 (x0)) sz)) 0 0 (va_A (mdW T a0 (x0)) sz) := by
  refine met_of (cc := cX5_decode) (maxL := 7) (ret := (some .int)) (lv := [(0, .ref (a0 0)), (1, .int v1)]) (by decide) rfl (Nat.le_of_ble_eq_true rfl) rfl ?_
  intro p e s m args below meth c ls C0 hl hB
  obtain ⟨hx, hb, hr, hml, hown, hts, hlocks, hname⟩ := C0
  obtain ⟨hsz, hP, hK, hD0⟩ := hB
  subst hsz
  have hD := hD0.self (sz := s.heap.size)
  generalize hAe : va_A (mdW T a0 (x0)) s.heap.size = A at hD ⊢
  have hA : ∀ q : Nat, s.heap.size ≤ q → A q := fun q h => by rw [← hAe]; exact Or.inr h
  obtain ⟨H, hH⟩ : ∃ H, H = s.heap := ⟨_, rfl⟩
  obtain ⟨locs, hlo⟩ : ∃ L : List Loc, L = [] := ⟨_, rfl⟩
  have hS : va_S A s.heap s.heap [] := va_S.rf
  rw [← hH] at hP ⊢
  rw [← hlo]
  replace hS : va_S A s.heap H locs := by rw [hH, hlo]; exact hS
  clear hH hlo
  unfold F_X5_decode at h
  refine lv_iconst (v := 1) hx hb dX5_decode_0 (by decide) ?_
  refine lv_istore_n (lv' := [(2, .int 1), (0, .ref (a0 0)), (1, .int v1)]) hx hb dX5_decode_1 rfl hl (by decide) rfl (fun ls hl => ?_)
  refine lv_iconst (v := 0) hx hb dX5_decode_2 (by decide) ?_
  refine lv_istore_n (lv' := [(3, .int 0), (2, .int 1), (0, .ref (a0 0)), (1, .int v1)]) hx hb dX5_decode_3 rfl hl (by decide) rfl (fun ls hl => ?_)
  have K4 : ∀ (n4 : Nat) (i2_4 : Int32) (i3_4 : Int32) (H : Heap) (locs : List Loc) (ls : Array Slot), fx2 (B_X5_decode_4 x0 v1) n4 i2_4 i3_4 = some r → va_P D vwCl (mdW T a0 (x0)) H → va_D A (mdW T a0 (x0)) → va_S A s.heap H locs → lv_has ls 7 [(0, .ref (a0 0)), (1, .int v1), (2, .int i2_4), (3, .int i3_4)] → W p l e ({ frames := 2, cells := 0, slots := 0, locals := 49 } : Room) s m args below meth c H locs 0 0 (MQ below (QMi D (mdW T a0 (r.2)) r.1 A) args s 0 0 (A)) (F0 m 4 ls []) := by
    intro n4
    induction n4 with
    | zero =>
        intro i2_4 i3_4 H locs ls h
        cases h
    | succ n4 ih4 =>
        intro i2_4 i3_4 H locs ls h hP hD hS hl
        replace h : B_X5_decode_4 x0 v1 (fx2 (B_X5_decode_4 x0 v1) n4) i2_4 i3_4 = some r := h
        unfold B_X5_decode_4 at h
        refine lv_iload_n hx hb dX5_decode_4 rfl (lv_at hl 3 rfl) ?_
        refine lv_aload_n hx hb dX5_decode_5 rfl (lv_at hl 0 rfl) ?_
        refine va_get (D := D) (ci := 5) (v := .ref (a0 1)) (C := RX5) (T := TX5) (N := 11) hx hb hts inX5_decode_5 hown hK.1 hP 0 rfl rfl 0 (by decide) (hts (.fieldLink RX5 7 "LyingScaleModel" "s" "[I") (List.mem_of_getElem? (i := 1) rfl)) (fun _ h9 => h9) rfl dX5_decode_6 ?_
        refine lv_iconst (v := 3) hx hb dX5_decode_9 (by decide) ?_
        refine va_iald hx hb hK.1 hP 1 0 rfl rfl (show ¬ ((3 : Int32) < 0 ∨ 176 ≤ Int32.toNatClampNeg 3) from by decide) dX5_decode_10 ?_
        refine eqi (congrArg (x0.2 0) (show Int32.toNatClampNeg 3 = 3 from by decide)) ?_
        refine lv_icmp_ge (tgt := 24) hx hb dX5_decode_11 (by decide) (fun c1 => ?_) (fun c1 => ?_)
        · replace h := ip c1 h
          refine lv_iload_n hx hb dX5_decode_24 rfl (lv_at hl 1 rfl) ?_
          refine lv_iconst (v := 0) hx hb dX5_decode_25 (by decide) ?_
          refine lv_iload_n hx hb dX5_decode_26 rfl (lv_at hl 2 rfl) ?_
          refine lv_iconst (v := 1) hx hb dX5_decode_27 (by decide) ?_
          refine lv_isub hx hb dX5_decode_28 ?_
          replace h := bd h
          obtain ⟨t2, et2, h⟩ := h
          refine callRi (v := t2) (va_runS (As := [.int v1, .int 0, .int (i2_4 - 1)]) (rest := []) ⟨hx, hb, hml, hown, hts⟩ (c_X5_in l D T v1 0 (i2_4 - 1) t2 et2) (va_cwS 3 hts gX5_decode_X5_in rfl rfl rfl hdS_X5_in ⟨Nat.le_of_ble_eq_true rfl, Nat.le_of_ble_eq_true rfl⟩) ⟨PB_blind, PB_at (hP.sub (ws' := ([] : va_W)) [] rfl) hK⟩ rfl rfl hl.1 rfl (lv_room (Nat.le_of_ble_eq_true rfl)) dX5_decode_29 ⟨Nat.zero_le _, Nat.zero_le _⟩) ?_
          refine lv_if_ne (tgt := 41) hx hb dX5_decode_32 (by decide) (fun c3 => ?_) (fun c3 => ?_)
          · replace h := im c3 h
            refine lv_iconst (v := (-1)) hx hb dX5_decode_41 (by decide) ?_
            refine lv_istore_n (lv' := [(3, .int ((-1))), (0, .ref (a0 0)), (1, .int v1), (2, .int i2_4)]) hx hb dX5_decode_42 rfl hl (by decide) rfl (fun ls hl => ?_)
            refine lv_bipush (v := 9) hx hb dX5_decode_43 (by decide) ?_
            refine lv_istore (lv' := [(4, .int 9), (3, .int ((-1))), (0, .ref (a0 0)), (1, .int v1), (2, .int i2_4)]) hx hb dX5_decode_45 hl (by decide) rfl (fun ls hl => ?_)
            refine lv_iconst (v := 0) hx hb dX5_decode_47 (by decide) ?_
            refine lv_istore (lv' := [(5, .int 0), (4, .int 9), (3, .int ((-1))), (0, .ref (a0 0)), (1, .int v1), (2, .int i2_4)]) hx hb dX5_decode_48 hl (by decide) rfl (fun ls hl => ?_)
            have K50 : ∀ (n50 : Nat) (i3_50 : Int32) (i4_50 : Int32) (i5_50 : Int32) (H : Heap) (locs : List Loc) (ls : Array Slot), fx3 (B_X5_decode_50 x0 v1) n50 i3_50 i4_50 i5_50 = some r → va_P D vwCl (mdW T a0 (x0)) H → va_D A (mdW T a0 (x0)) → va_S A s.heap H locs → lv_has ls 7 [(0, .ref (a0 0)), (1, .int v1), (2, .int i2_4), (3, .int i3_50), (4, .int i4_50), (5, .int i5_50)] → W p l e ({ frames := 2, cells := 0, slots := 0, locals := 49 } : Room) s m args below meth c H locs 0 0 (MQ below (QMi D (mdW T a0 (r.2)) r.1 A) args s 0 0 (A)) (F0 m 50 ls []) := by
              intro n50
              induction n50 with
              | zero =>
                  intro i3_50 i4_50 i5_50 H locs ls h
                  cases h
              | succ n50 ih50 =>
                  intro i3_50 i4_50 i5_50 H locs ls h hP hD hS hl
                  replace h : B_X5_decode_50 x0 v1 (fx3 (B_X5_decode_50 x0 v1) n50) i3_50 i4_50 i5_50 = some r := h
                  unfold B_X5_decode_50 at h
                  refine lv_iload hx hb dX5_decode_50 (lv_at hl 5 rfl) ?_
                  refine lv_aload_n hx hb dX5_decode_52 rfl (lv_at hl 0 rfl) ?_
                  replace h := bd h
                  obtain ⟨t4, et4, h⟩ := h
                  refine callRi (v := t4) (va_runV (As := []) (rest := [.int i5_50]) ⟨hx, hb, hml, hown, hts⟩ (c_X5_cases l D T a0 x0 t4 et4) (cwV 0 hts gX5_decode_X5_cases rfl rfl rfl hdV_X5_cases ⟨Nat.le_of_ble_eq_true rfl, Nat.le_of_ble_eq_true rfl⟩) ⟨PB_blind, va_recv hK.1 hP (ci := 5) (q0 := 0) rfl rfl, PB_at hP hK⟩ rfl rfl hl.1 rfl (lv_room (Nat.le_of_ble_eq_true rfl)) dX5_decode_53 ⟨Nat.zero_le _, Nat.zero_le _⟩) ?_
                  refine lv_icmp_ge (tgt := 115) hx hb dX5_decode_56 (by decide) (fun c5 => ?_) (fun c5 => ?_)
                  · replace h := ip c5 h
                    refine lv_aload_n hx hb dX5_decode_115 rfl (lv_at hl 0 rfl) ?_
                    refine lv_iload_n hx hb dX5_decode_116 rfl (lv_at hl 3 rfl) ?_
                    replace h := bd h
                    obtain ⟨t6, et6, h⟩ := h
                    refine callMi (wr := []) (ws' := mdW T a0 (t6.2)) (va_runV (As := [.int i3_50]) (rest := []) ⟨hx, hb, hml, hown, hts⟩ (c_X5_tells l D T a0 x0 i3_50 _ t6 et6) (cwV 1 hts gX5_decode_X5_tells rfl rfl rfl hdV_X5_tells ⟨Nat.le_of_ble_eq_true rfl, Nat.le_of_ble_eq_true rfl⟩) ⟨PM_blind, va_recv hK.1 hP (ci := 5) (q0 := 0) rfl rfl, PM_at hP hD hK⟩ rfl rfl hl.1 rfl (lv_room (Nat.le_of_ble_eq_true rfl)) dX5_decode_117 ⟨Nat.zero_le _, Nat.zero_le _⟩) hS hA hP hD [0, 1, 2, 3, 4] [] rfl rfl (by decide) (by decide) [0, 1, 2, 3, 4] (by decide) rfl (fun H locs hP hD hS => ?_)
                    obtain rfl := Option.some.inj h
                    exact W.iret hx hb hr (fun t ht hW => ⟨⟨_, (), rfl, rfl, by rw [ht]; exact hP, hD⟩, hS.F ht⟩) hS.2.2 dX5_decode_120 hlocks
                  replace h := im c5 h
                  refine lv_aload_n hx hb dX5_decode_59 rfl (lv_at hl 0 rfl) ?_
                  refine lv_iload hx hb dX5_decode_60 (lv_at hl 5 rfl) ?_
                  refine lv_iload_n hx hb dX5_decode_62 rfl (lv_at hl 1 rfl) ?_
                  replace h := bd h
                  obtain ⟨t7, et7, h⟩ := h
                  refine callRi (v := t7) (va_runV (As := [.int i5_50, .int v1]) (rest := []) ⟨hx, hb, hml, hown, hts⟩ (c_X5_differs l D T a0 x0 i5_50 v1 t7 et7) (cwV 2 hts gX5_decode_X5_differs rfl rfl rfl hdV_X5_differs ⟨Nat.le_of_ble_eq_true rfl, Nat.le_of_ble_eq_true rfl⟩) ⟨PB_blind, va_recv hK.1 hP (ci := 5) (q0 := 0) rfl rfl, PB_at hP hK⟩ rfl rfl hl.1 rfl (lv_room (Nat.le_of_ble_eq_true rfl)) dX5_decode_63 ⟨Nat.zero_le _, Nat.zero_le _⟩) ?_
                  refine lv_istore (lv' := [(6, .int t7), (0, .ref (a0 0)), (1, .int v1), (2, .int i2_4), (3, .int i3_50), (4, .int i4_50), (5, .int i5_50)]) hx hb dX5_decode_66 hl (by decide) rfl (fun ls hl => ?_)
                  refine lv_iload hx hb dX5_decode_68 (lv_at hl 0 rfl) ?_
                  refine lv_iload hx hb dX5_decode_70 (lv_at hl 5 rfl) ?_
                  refine lv_icmp_ge (tgt := 80) hx hb dX5_decode_72 (by decide) (fun c8 => ?_) (fun c8 => ?_)
                  · replace h := ip c8 h
                    refine lv_iload hx hb dX5_decode_80 (lv_at hl 0 rfl) ?_
                    refine lv_iload hx hb dX5_decode_82 (lv_at hl 5 rfl) ?_
                    refine lv_icmp_ne (tgt := 91) hx hb dX5_decode_84 (by decide) (fun c9 => ?_) (fun c9 => ?_)
                    · replace h := im c9 h
                      refine lv_iload_n hx hb dX5_decode_91 rfl (lv_at hl 4 rfl) ?_
                      refine lv_istore_n (lv' := [(3, .int i3_50), (6, .int t7), (0, .ref (a0 0)), (1, .int v1), (2, .int i2_4), (4, .int i4_50), (5, .int i5_50)]) hx hb dX5_decode_92 rfl hl (by decide) rfl (fun ls hl => ?_)
                      refine lv_iload hx hb dX5_decode_93 (lv_at hl 1 rfl) ?_
                      refine lv_iload hx hb dX5_decode_95 (lv_at hl 5 rfl) ?_
                      refine lv_icmp_ge (tgt := 105) hx hb dX5_decode_97 (by decide) (fun c10 => ?_) (fun c10 => ?_)
                      · replace h := ip c10 h
                        refine lv_iload hx hb dX5_decode_105 (lv_at hl 5 rfl) ?_
                        refine lv_istore (lv' := [(4, .int i4_50), (3, .int i3_50), (6, .int t7), (0, .ref (a0 0)), (1, .int v1), (2, .int i2_4), (5, .int i5_50)]) hx hb dX5_decode_107 hl (by decide) rfl (fun ls hl => ?_)
                        refine lv_iinc (v := i5_50 + 1) (lv' := [(5, .int (i5_50 + 1)), (4, .int i4_50), (3, .int i3_50), (6, .int t7), (0, .ref (a0 0)), (1, .int v1), (2, .int i2_4)]) hx hb dX5_decode_109 hl (k := 6) rfl rfl (by decide) rfl (fun ls hl => ?_)
                        refine lv_goto (tgt := 50) hx hb dX5_decode_112 (by decide) ?_
                        exact ih50 i3_50 i4_50 (i5_50 + 1) _ _ ls h hP hD hS (lv_sub hl [4, 5, 6, 2, 1, 0] rfl)
                      replace h := im c10 h
                      refine lv_iload hx hb dX5_decode_100 (lv_at hl 1 rfl) ?_
                      refine lv_goto (tgt := 107) hx hb dX5_decode_102 (by decide) ?_
                      refine lv_istore (lv' := [(4, .int t7), (3, .int i3_50), (6, .int t7), (0, .ref (a0 0)), (1, .int v1), (2, .int i2_4), (5, .int i5_50)]) hx hb dX5_decode_107 hl (by decide) rfl (fun ls hl => ?_)
                      refine lv_iinc (v := i5_50 + 1) (lv' := [(5, .int (i5_50 + 1)), (4, .int t7), (3, .int i3_50), (6, .int t7), (0, .ref (a0 0)), (1, .int v1), (2, .int i2_4)]) hx hb dX5_decode_109 hl (k := 6) rfl rfl (by decide) rfl (fun ls hl => ?_)
                      refine lv_goto (tgt := 50) hx hb dX5_decode_112 (by decide) ?_
                      exact ih50 i3_50 t7 (i5_50 + 1) _ _ ls h hP hD hS (lv_sub hl [4, 5, 6, 2, 1, 0] rfl)
                    replace h := ip c9 h
                    refine lv_iconst (v := (-1)) hx hb dX5_decode_87 (by decide) ?_
                    refine lv_goto (tgt := 92) hx hb dX5_decode_88 (by decide) ?_
                    refine lv_istore_n (lv' := [(3, .int ((-1))), (6, .int t7), (0, .ref (a0 0)), (1, .int v1), (2, .int i2_4), (4, .int i4_50), (5, .int i5_50)]) hx hb dX5_decode_92 rfl hl (by decide) rfl (fun ls hl => ?_)
                    refine lv_iload hx hb dX5_decode_93 (lv_at hl 1 rfl) ?_
                    refine lv_iload hx hb dX5_decode_95 (lv_at hl 5 rfl) ?_
                    refine lv_icmp_ge (tgt := 105) hx hb dX5_decode_97 (by decide) (fun c11 => ?_) (fun c11 => ?_)
                    · replace h := ip c11 h
                      refine lv_iload hx hb dX5_decode_105 (lv_at hl 5 rfl) ?_
                      refine lv_istore (lv' := [(4, .int i4_50), (3, .int ((-1))), (6, .int t7), (0, .ref (a0 0)), (1, .int v1), (2, .int i2_4), (5, .int i5_50)]) hx hb dX5_decode_107 hl (by decide) rfl (fun ls hl => ?_)
                      refine lv_iinc (v := i5_50 + 1) (lv' := [(5, .int (i5_50 + 1)), (4, .int i4_50), (3, .int ((-1))), (6, .int t7), (0, .ref (a0 0)), (1, .int v1), (2, .int i2_4)]) hx hb dX5_decode_109 hl (k := 6) rfl rfl (by decide) rfl (fun ls hl => ?_)
                      refine lv_goto (tgt := 50) hx hb dX5_decode_112 (by decide) ?_
                      exact ih50 ((-1)) i4_50 (i5_50 + 1) _ _ ls h hP hD hS (lv_sub hl [4, 5, 6, 2, 1, 0] rfl)
                    replace h := im c11 h
                    refine lv_iload hx hb dX5_decode_100 (lv_at hl 1 rfl) ?_
                    refine lv_goto (tgt := 107) hx hb dX5_decode_102 (by decide) ?_
                    refine lv_istore (lv' := [(4, .int t7), (3, .int ((-1))), (6, .int t7), (0, .ref (a0 0)), (1, .int v1), (2, .int i2_4), (5, .int i5_50)]) hx hb dX5_decode_107 hl (by decide) rfl (fun ls hl => ?_)
                    refine lv_iinc (v := i5_50 + 1) (lv' := [(5, .int (i5_50 + 1)), (4, .int t7), (3, .int ((-1))), (6, .int t7), (0, .ref (a0 0)), (1, .int v1), (2, .int i2_4)]) hx hb dX5_decode_109 hl (k := 6) rfl rfl (by decide) rfl (fun ls hl => ?_)
                    refine lv_goto (tgt := 50) hx hb dX5_decode_112 (by decide) ?_
                    exact ih50 ((-1)) t7 (i5_50 + 1) _ _ ls h hP hD hS (lv_sub hl [4, 5, 6, 2, 1, 0] rfl)
                  replace h := im c8 h
                  refine lv_iload hx hb dX5_decode_75 (lv_at hl 6 rfl) ?_
                  refine lv_goto (tgt := 92) hx hb dX5_decode_77 (by decide) ?_
                  refine lv_istore_n (lv' := [(3, .int i5_50), (6, .int t7), (0, .ref (a0 0)), (1, .int v1), (2, .int i2_4), (4, .int i4_50), (5, .int i5_50)]) hx hb dX5_decode_92 rfl hl (by decide) rfl (fun ls hl => ?_)
                  refine lv_iload hx hb dX5_decode_93 (lv_at hl 1 rfl) ?_
                  refine lv_iload hx hb dX5_decode_95 (lv_at hl 5 rfl) ?_
                  refine lv_icmp_ge (tgt := 105) hx hb dX5_decode_97 (by decide) (fun c12 => ?_) (fun c12 => ?_)
                  · replace h := ip c12 h
                    refine lv_iload hx hb dX5_decode_105 (lv_at hl 5 rfl) ?_
                    refine lv_istore (lv' := [(4, .int i4_50), (3, .int i5_50), (6, .int t7), (0, .ref (a0 0)), (1, .int v1), (2, .int i2_4), (5, .int i5_50)]) hx hb dX5_decode_107 hl (by decide) rfl (fun ls hl => ?_)
                    refine lv_iinc (v := i5_50 + 1) (lv' := [(5, .int (i5_50 + 1)), (4, .int i4_50), (3, .int i5_50), (6, .int t7), (0, .ref (a0 0)), (1, .int v1), (2, .int i2_4)]) hx hb dX5_decode_109 hl (k := 6) rfl rfl (by decide) rfl (fun ls hl => ?_)
                    refine lv_goto (tgt := 50) hx hb dX5_decode_112 (by decide) ?_
                    exact ih50 i5_50 i4_50 (i5_50 + 1) _ _ ls h hP hD hS (lv_sub hl [4, 5, 6, 2, 1, 0] rfl)
                  replace h := im c12 h
                  refine lv_iload hx hb dX5_decode_100 (lv_at hl 1 rfl) ?_
                  refine lv_goto (tgt := 107) hx hb dX5_decode_102 (by decide) ?_
                  refine lv_istore (lv' := [(4, .int t7), (3, .int i5_50), (6, .int t7), (0, .ref (a0 0)), (1, .int v1), (2, .int i2_4), (5, .int i5_50)]) hx hb dX5_decode_107 hl (by decide) rfl (fun ls hl => ?_)
                  refine lv_iinc (v := i5_50 + 1) (lv' := [(5, .int (i5_50 + 1)), (4, .int t7), (3, .int i5_50), (6, .int t7), (0, .ref (a0 0)), (1, .int v1), (2, .int i2_4)]) hx hb dX5_decode_109 hl (k := 6) rfl rfl (by decide) rfl (fun ls hl => ?_)
                  refine lv_goto (tgt := 50) hx hb dX5_decode_112 (by decide) ?_
                  exact ih50 i5_50 t7 (i5_50 + 1) _ _ ls h hP hD hS (lv_sub hl [4, 5, 6, 2, 1, 0] rfl)
            exact K50 1000 ((-1)) 9 0 _ _ ls h hP hD hS (lv_sub hl [3, 4, 5, 2, 1, 0] rfl)
          replace h := ip c3 h
          refine lv_aload_n hx hb dX5_decode_35 rfl (lv_at hl 0 rfl) ?_
          refine lv_iconst (v := 1) hx hb dX5_decode_36 (by decide) ?_
          replace h := bd h
          obtain ⟨t13, et13, h⟩ := h
          refine callMi (wr := []) (ws' := mdW T a0 (t13.2)) (va_runV (As := [.int 1]) (rest := []) ⟨hx, hb, hml, hown, hts⟩ (c_X5_fails l D T a0 x0 1 _ t13 et13) (cwV 1 hts gX5_decode_X5_fails rfl rfl rfl hdV_X5_fails ⟨Nat.le_of_ble_eq_true rfl, Nat.le_of_ble_eq_true rfl⟩) ⟨PM_blind, va_recv hK.1 hP (ci := 5) (q0 := 0) rfl rfl, PM_at hP hD hK⟩ rfl rfl hl.1 rfl (lv_room (Nat.le_of_ble_eq_true rfl)) dX5_decode_37 ⟨Nat.zero_le _, Nat.zero_le _⟩) hS hA hP hD [0, 1, 2, 3, 4] [] rfl rfl (by decide) (by decide) [0, 1, 2, 3, 4] (by decide) rfl (fun H locs hP hD hS => ?_)
          obtain rfl := Option.some.inj h
          exact W.iret hx hb hr (fun t ht hW => ⟨⟨_, (), rfl, rfl, by rw [ht]; exact hP, hD⟩, hS.F ht⟩) hS.2.2 dX5_decode_40 hlocks
        replace h := im c1 h
        refine lv_iload_n hx hb dX5_decode_14 rfl (lv_at hl 2 rfl) ?_
        refine lv_iconst (v := 3) hx hb dX5_decode_15 (by decide) ?_
        refine lv_imul hx hb dX5_decode_16 ?_
        refine lv_istore_n (lv' := [(2, .int (i2_4 * 3)), (0, .ref (a0 0)), (1, .int v1), (3, .int i3_4)]) hx hb dX5_decode_17 rfl hl (by decide) rfl (fun ls hl => ?_)
        refine lv_iinc (v := i3_4 + 1) (lv' := [(3, .int (i3_4 + 1)), (2, .int (i2_4 * 3)), (0, .ref (a0 0)), (1, .int v1)]) hx hb dX5_decode_18 hl (k := 3) rfl rfl (by decide) rfl (fun ls hl => ?_)
        refine lv_goto (tgt := 4) hx hb dX5_decode_21 (by decide) ?_
        exact ih4 (i2_4 * 3) (i3_4 + 1) _ _ ls h hP hD hS (lv_sub hl [2, 3, 1, 0] rfl)
  exact K4 1000 1 0 _ _ ls h hP hD hS (lv_sub hl [2, 3, 1, 0] rfl)
set_option maxHeartbeats 4000000 in
set_option maxRecDepth 100000 in
theorem c_X5_append (l : Launch) (D : va_G) (T : Nat → ClassId) (a0 : Nat → Nat) (x0 : St) (v1 : Int32) (sz : Nat) (r : Int32 × St) (h : F_X5_append x0 v1 = some r) : Met l yX5_append wsX5_append ({ frames := 1, cells := 0, slots := 0, locals := 22 } : Room) (va_Pc [.ref (a0 0), .int v1] (PM D T (mdW T a0 (x0)) sz)) (QMi D (mdW T a0 (r.2)) r.1 (va_A (mdW T a0 (x0)) sz)) 0 0 (va_A (mdW T a0 (x0)) sz) := by
  refine met_of (cc := cX5_append) (maxL := 2) (ret := (some .int)) (lv := [(0, .ref (a0 0)), (1, .int v1)]) (by decide) rfl (Nat.le_of_ble_eq_true rfl) rfl ?_
  intro p e s m args below meth c ls C0 hl hB
  obtain ⟨hx, hb, hr, hml, hown, hts, hlocks, hname⟩ := C0
  obtain ⟨hsz, hP, hK, hD0⟩ := hB
  subst hsz
  have hD := hD0.self (sz := s.heap.size)
  generalize hAe : va_A (mdW T a0 (x0)) s.heap.size = A at hD ⊢
  have hA : ∀ q : Nat, s.heap.size ≤ q → A q := fun q h => by rw [← hAe]; exact Or.inr h
  obtain ⟨H, hH⟩ : ∃ H, H = s.heap := ⟨_, rfl⟩
  obtain ⟨locs, hlo⟩ : ∃ L : List Loc, L = [] := ⟨_, rfl⟩
  have hS : va_S A s.heap s.heap [] := va_S.rf
  rw [← hH] at hP ⊢
  rw [← hlo]
  replace hS : va_S A s.heap H locs := by rw [hH, hlo]; exact hS
  clear hH hlo
  unfold F_X5_append at h
  refine lv_iload_n hx hb dX5_append_0 rfl (lv_at hl 1 rfl) ?_
  refine lv_iconst (v := 0) hx hb dX5_append_1 (by decide) ?_
  refine lv_bipush (v := 127) hx hb dX5_append_2 (by decide) ?_
  replace h := bd h
  obtain ⟨t1, et1, h⟩ := h
  refine callRi (v := t1) (va_runS (As := [.int v1, .int 0, .int 127]) (rest := []) ⟨hx, hb, hml, hown, hts⟩ (c_X5_in l D T v1 0 127 t1 et1) (va_cwS 3 hts gX5_append_X5_in rfl rfl rfl hdS_X5_in ⟨Nat.le_of_ble_eq_true rfl, Nat.le_of_ble_eq_true rfl⟩) ⟨PB_blind, PB_at (hP.sub (ws' := ([] : va_W)) [] rfl) hK⟩ rfl rfl hl.1 rfl (lv_room (Nat.le_of_ble_eq_true rfl)) dX5_append_4 ⟨Nat.zero_le _, Nat.zero_le _⟩) ?_
  refine lv_if_ne (tgt := 16) hx hb dX5_append_7 (by decide) (fun c2 => ?_) (fun c2 => ?_)
  · replace h := im c2 h
    refine lv_aload_n hx hb dX5_append_16 rfl (lv_at hl 0 rfl) ?_
    refine va_get (D := D) (ci := 5) (v := .int (x0.1 2)) (C := RX5) (T := TX5) (N := 11) hx hb hts inX5_append_5 hown hK.1 hP 0 rfl rfl 6 (by decide) (hts (.fieldLink RX5 130 "LyingScaleModel" "typed" "I") (List.mem_of_getElem? (i := 1) rfl)) (fun _ h9 => h9) rfl dX5_append_17 ?_
    refine lv_bipush (v := 100) hx hb dX5_append_20 (by decide) ?_
    refine lv_icmp_ne (tgt := 31) hx hb dX5_append_22 (by decide) (fun c3 => ?_) (fun c3 => ?_)
    · replace h := im c3 h
      refine lv_aload_n hx hb dX5_append_31 rfl (lv_at hl 0 rfl) ?_
      refine va_get (D := D) (ci := 5) (v := .ref (a0 4)) (C := RX5) (T := TX5) (N := 11) hx hb hts inX5_append_5 hown hK.1 hP 0 rfl rfl 5 (by decide) (hts (.fieldLink RX5 19 "LyingScaleModel" "text" "[B") (List.mem_of_getElem? (i := 2) rfl)) (fun _ h9 => h9) rfl dX5_append_32 ?_
      refine lv_aload_n hx hb dX5_append_35 rfl (lv_at hl 0 rfl) ?_
      refine va_get (D := D) (ci := 5) (v := .int (x0.1 2)) (C := RX5) (T := TX5) (N := 11) hx hb hts inX5_append_5 hown hK.1 hP 0 rfl rfl 6 (by decide) (hts (.fieldLink RX5 130 "LyingScaleModel" "typed" "I") (List.mem_of_getElem? (i := 1) rfl)) (fun _ h9 => h9) rfl dX5_append_36 ?_
      refine lv_iload_n hx hb dX5_append_39 rfl (lv_at hl 1 rfl) ?_
      refine lv_i2b (v := v1.toInt8.toInt32) hx hb dX5_append_40 rfl ?_
      replace h := gd h
      obtain ⟨g4, h⟩ := h
      refine va_bast hx hb hK.1 hP hD hS 4 1 rfl rfl g4 dX5_append_41 (fun H locs hP hD hS => ?_)
      replace hP : va_P D vwCl (mdW T a0 (sA x0 3 (upd (x0.2 3) (x0.1 2).toNatClampNeg (vp_nar .byte v1.toInt8.toInt32)))) H := hP
      replace hD : va_D A (mdW T a0 (sA x0 3 (upd (x0.2 3) (x0.1 2).toNatClampNeg (vp_nar .byte v1.toInt8.toInt32)))) := hD
      replace h := bd h
      obtain ⟨y5, ey5, h⟩ := h
      rw [Option.some.inj ey5] at hP hD
      refine lv_aload_n hx hb dX5_append_42 rfl (lv_at hl 0 rfl) ?_
      refine lv_dup hx hb dX5_append_43 rfl ?_
      refine va_get (D := D) (ci := 5) (v := .int (y5.1 2)) (C := RX5) (T := TX5) (N := 11) hx hb hts inX5_append_5 hown hK.1 hP 0 rfl rfl 6 (by decide) (hts (.fieldLink RX5 130 "LyingScaleModel" "typed" "I") (List.mem_of_getElem? (i := 1) rfl)) (fun _ h9 => h9) rfl dX5_append_44 ?_
      refine lv_iconst (v := 1) hx hb dX5_append_47 (by decide) ?_
      refine lv_iadd hx hb dX5_append_48 ?_
      refine va_put (D := D) (ci := 5) (v := .int ((y5.1 2) + 1)) (ty := .int) (C := RX5) (T := TX5) (N := 11) hx hb hts inX5_append_5 tyX5 tyX5_ok nmX5 hown hK.1 hP hD hS 0 rfl rfl 6 (by decide) (hts (.fieldLink RX5 130 "LyingScaleModel" "typed" "I") (List.mem_of_getElem? (i := 1) rfl)) (fun _ h9 => h9) rfl (by decide +kernel) rfl rfl (Nat.le_of_ble_eq_true rfl) dX5_append_49 (fun H locs hP hD hS => ?_)
      replace hP : va_P D vwCl (mdW T a0 (sI y5 2 ((y5.1 2) + 1))) H := hP
      replace hD : va_D A (mdW T a0 (sI y5 2 ((y5.1 2) + 1))) := hD
      refine lv_aload_n hx hb dX5_append_52 rfl (lv_at hl 0 rfl) ?_
      refine lv_aload_n hx hb dX5_append_53 rfl (lv_at hl 0 rfl) ?_
      refine va_get (D := D) (ci := 5) (v := .int ((sI y5 2 ((y5.1 2) + 1)).1 2)) (C := RX5) (T := TX5) (N := 11) hx hb hts inX5_append_5 hown hK.1 hP 0 rfl rfl 6 (by decide) (hts (.fieldLink RX5 130 "LyingScaleModel" "typed" "I") (List.mem_of_getElem? (i := 1) rfl)) (fun _ h9 => h9) rfl dX5_append_54 ?_
      replace h := bd h
      obtain ⟨t6, et6, h⟩ := h
      refine callMi (wr := []) (ws' := mdW T a0 (t6.2)) (va_runV (As := [.int ((sI y5 2 ((y5.1 2) + 1)).1 2)]) (rest := []) ⟨hx, hb, hml, hown, hts⟩ (c_X5_tells l D T a0 (sI y5 2 ((y5.1 2) + 1)) ((sI y5 2 ((y5.1 2) + 1)).1 2) _ t6 et6) (cwV 1 hts gX5_append_X5_tells rfl rfl rfl hdV_X5_tells ⟨Nat.le_of_ble_eq_true rfl, Nat.le_of_ble_eq_true rfl⟩) ⟨PM_blind, va_recv hK.1 hP (ci := 5) (q0 := 0) rfl rfl, PM_at hP hD hK⟩ rfl rfl hl.1 rfl (lv_room (Nat.le_of_ble_eq_true rfl)) dX5_append_57 ⟨Nat.zero_le _, Nat.zero_le _⟩) hS hA hP hD [0, 1, 2, 3, 4] [] rfl rfl (by decide) (by decide) [0, 1, 2, 3, 4] (by decide) rfl (fun H locs hP hD hS => ?_)
      obtain rfl := Option.some.inj h
      exact W.iret hx hb hr (fun t ht hW => ⟨⟨_, (), rfl, rfl, by rw [ht]; exact hP, hD⟩, hS.F ht⟩) hS.2.2 dX5_append_60 hlocks
    replace h := ip c3 h
    refine lv_aload_n hx hb dX5_append_25 rfl (lv_at hl 0 rfl) ?_
    refine lv_iconst (v := 2) hx hb dX5_append_26 (by decide) ?_
    replace h := bd h
    obtain ⟨t7, et7, h⟩ := h
    refine callMi (wr := []) (ws' := mdW T a0 (t7.2)) (va_runV (As := [.int 2]) (rest := []) ⟨hx, hb, hml, hown, hts⟩ (c_X5_fails l D T a0 x0 2 _ t7 et7) (cwV 1 hts gX5_append_X5_fails rfl rfl rfl hdV_X5_fails ⟨Nat.le_of_ble_eq_true rfl, Nat.le_of_ble_eq_true rfl⟩) ⟨PM_blind, va_recv hK.1 hP (ci := 5) (q0 := 0) rfl rfl, PM_at hP hD hK⟩ rfl rfl hl.1 rfl (lv_room (Nat.le_of_ble_eq_true rfl)) dX5_append_27 ⟨Nat.zero_le _, Nat.zero_le _⟩) hS hA hP hD [0, 1, 2, 3, 4] [] rfl rfl (by decide) (by decide) [0, 1, 2, 3, 4] (by decide) rfl (fun H locs hP hD hS => ?_)
    obtain rfl := Option.some.inj h
    exact W.iret hx hb hr (fun t ht hW => ⟨⟨_, (), rfl, rfl, by rw [ht]; exact hP, hD⟩, hS.F ht⟩) hS.2.2 dX5_append_30 hlocks
  replace h := ip c2 h
  refine lv_aload_n hx hb dX5_append_10 rfl (lv_at hl 0 rfl) ?_
  refine lv_iconst (v := 1) hx hb dX5_append_11 (by decide) ?_
  replace h := bd h
  obtain ⟨t8, et8, h⟩ := h
  refine callMi (wr := []) (ws' := mdW T a0 (t8.2)) (va_runV (As := [.int 1]) (rest := []) ⟨hx, hb, hml, hown, hts⟩ (c_X5_fails l D T a0 x0 1 _ t8 et8) (cwV 1 hts gX5_append_X5_fails rfl rfl rfl hdV_X5_fails ⟨Nat.le_of_ble_eq_true rfl, Nat.le_of_ble_eq_true rfl⟩) ⟨PM_blind, va_recv hK.1 hP (ci := 5) (q0 := 0) rfl rfl, PM_at hP hD hK⟩ rfl rfl hl.1 rfl (lv_room (Nat.le_of_ble_eq_true rfl)) dX5_append_12 ⟨Nat.zero_le _, Nat.zero_le _⟩) hS hA hP hD [0, 1, 2, 3, 4] [] rfl rfl (by decide) (by decide) [0, 1, 2, 3, 4] (by decide) rfl (fun H locs hP hD hS => ?_)
  obtain rfl := Option.some.inj h
  exact W.iret hx hb hr (fun t ht hW => ⟨⟨_, (), rfl, rfl, by rw [ht]; exact hP, hD⟩, hS.F ht⟩) hS.2.2 dX5_append_15 hlocks
set_option maxHeartbeats 4000000 in
set_option maxRecDepth 100000 in
theorem c_X5_clearText (l : Launch) (D : va_G) (T : Nat → ClassId) (a0 : Nat → Nat) (x0 : St) (sz : Nat) (r : Int32 × St) (h : F_X5_clearText x0 = some r) : Met l yX5_clearText wsX5_clearText ({ frames := 1, cells := 0, slots := 0, locals := 21 } : Room) (va_Pc [.ref (a0 0)] (PM D T (mdW T a0 (x0)) sz)) (QMi D (mdW T a0 (r.2)) r.1 (va_A (mdW T a0 (x0)) sz)) 0 0 (va_A (mdW T a0 (x0)) sz) := by
  refine met_of (cc := cX5_clearText) (maxL := 2) (ret := (some .int)) (lv := [(0, .ref (a0 0))]) (by decide) rfl (Nat.le_of_ble_eq_true rfl) rfl ?_
  intro p e s m args below meth c ls C0 hl hB
  obtain ⟨hx, hb, hr, hml, hown, hts, hlocks, hname⟩ := C0
  obtain ⟨hsz, hP, hK, hD0⟩ := hB
  subst hsz
  have hD := hD0.self (sz := s.heap.size)
  generalize hAe : va_A (mdW T a0 (x0)) s.heap.size = A at hD ⊢
  have hA : ∀ q : Nat, s.heap.size ≤ q → A q := fun q h => by rw [← hAe]; exact Or.inr h
  obtain ⟨H, hH⟩ : ∃ H, H = s.heap := ⟨_, rfl⟩
  obtain ⟨locs, hlo⟩ : ∃ L : List Loc, L = [] := ⟨_, rfl⟩
  have hS : va_S A s.heap s.heap [] := va_S.rf
  rw [← hH] at hP ⊢
  rw [← hlo]
  replace hS : va_S A s.heap H locs := by rw [hH, hlo]; exact hS
  clear hH hlo
  unfold F_X5_clearText at h
  refine lv_aload_n hx hb dX5_clearText_0 rfl (lv_at hl 0 rfl) ?_
  refine va_get (D := D) (ci := 5) (v := .int (x0.1 2)) (C := RX5) (T := TX5) (N := 11) hx hb hts inX5_clearText_5 hown hK.1 hP 0 rfl rfl 6 (by decide) (hts (.fieldLink RX5 130 "LyingScaleModel" "typed" "I") (List.mem_of_getElem? (i := 1) rfl)) (fun _ h9 => h9) rfl dX5_clearText_1 ?_
  refine lv_istore_n (lv' := [(1, .int (x0.1 2)), (0, .ref (a0 0))]) hx hb dX5_clearText_4 rfl hl (by decide) rfl (fun ls hl => ?_)
  refine lv_aload_n hx hb dX5_clearText_5 rfl (lv_at hl 1 rfl) ?_
  refine lv_iconst (v := 0) hx hb dX5_clearText_6 (by decide) ?_
  refine va_put (D := D) (ci := 5) (v := .int 0) (ty := .int) (C := RX5) (T := TX5) (N := 11) hx hb hts inX5_clearText_5 tyX5 tyX5_ok nmX5 hown hK.1 hP hD hS 0 rfl rfl 6 (by decide) (hts (.fieldLink RX5 130 "LyingScaleModel" "typed" "I") (List.mem_of_getElem? (i := 1) rfl)) (fun _ h9 => h9) rfl (by decide +kernel) rfl rfl (Nat.le_of_ble_eq_true rfl) dX5_clearText_7 (fun H locs hP hD hS => ?_)
  replace hP : va_P D vwCl (mdW T a0 (sI x0 2 0)) H := hP
  replace hD : va_D A (mdW T a0 (sI x0 2 0)) := hD
  refine lv_aload_n hx hb dX5_clearText_10 rfl (lv_at hl 1 rfl) ?_
  refine lv_iload_n hx hb dX5_clearText_11 rfl (lv_at hl 0 rfl) ?_
  replace h := bd h
  obtain ⟨t1, et1, h⟩ := h
  refine callMi (wr := []) (ws' := mdW T a0 (t1.2)) (va_runV (As := [.int (x0.1 2)]) (rest := []) ⟨hx, hb, hml, hown, hts⟩ (c_X5_tells l D T a0 (sI x0 2 0) (x0.1 2) _ t1 et1) (cwV 1 hts gX5_clearText_X5_tells rfl rfl rfl hdV_X5_tells ⟨Nat.le_of_ble_eq_true rfl, Nat.le_of_ble_eq_true rfl⟩) ⟨PM_blind, va_recv hK.1 hP (ci := 5) (q0 := 0) rfl rfl, PM_at hP hD hK⟩ rfl rfl hl.1 rfl (lv_room (Nat.le_of_ble_eq_true rfl)) dX5_clearText_12 ⟨Nat.zero_le _, Nat.zero_le _⟩) hS hA hP hD [0, 1, 2, 3, 4] [] rfl rfl (by decide) (by decide) [0, 1, 2, 3, 4] (by decide) rfl (fun H locs hP hD hS => ?_)
  obtain rfl := Option.some.inj h
  exact W.iret hx hb hr (fun t ht hW => ⟨⟨_, (), rfl, rfl, by rw [ht]; exact hP, hD⟩, hS.F ht⟩) hS.2.2 dX5_clearText_15 hlocks
set_option maxHeartbeats 4000000 in
set_option maxRecDepth 100000 in
theorem c_X5_sign (l : Launch) (D : va_G) (T : Nat → ClassId) (a0 : Nat → Nat) (x0 : St) (r : Int32) (h : F_X5_sign x0 = some r) : Met l yX5_sign wsX5_sign ({ frames := 0, cells := 0, slots := 0, locals := 0 } : Room) (va_Pc [.ref (a0 0)] (PB D T (mdW T a0 (x0)))) (QRi r) 0 0 (fun _ => False) := by
  refine met_of (cc := cX5_sign) (maxL := 1) (ret := (some .int)) (lv := [(0, .ref (a0 0))]) (by decide) rfl (Nat.le_of_ble_eq_true rfl) rfl ?_
  intro p e s m args below meth c ls C0 hl hB
  obtain ⟨hx, hb, hr, hml, hown, hts, hlocks, hname⟩ := C0
  obtain ⟨hP, hK⟩ := hB
  unfold F_X5_sign at h
  refine lv_aload_n hx hb dX5_sign_0 rfl (lv_at hl 0 rfl) ?_
  refine va_get (D := D) (ci := 5) (v := .int (x0.1 3)) (C := RX5) (T := TX5) (N := 11) hx hb hts inX5_sign_5 hown hK.1 hP 0 rfl rfl 7 (by decide) (hts (.fieldLink RX5 133 "LyingScaleModel" "at" "I") (List.mem_of_getElem? (i := 1) rfl)) (fun _ h9 => h9) rfl dX5_sign_1 ?_
  refine lv_aload_n hx hb dX5_sign_4 rfl (lv_at hl 0 rfl) ?_
  refine va_get (D := D) (ci := 5) (v := .int (x0.1 2)) (C := RX5) (T := TX5) (N := 11) hx hb hts inX5_sign_5 hown hK.1 hP 0 rfl rfl 6 (by decide) (hts (.fieldLink RX5 130 "LyingScaleModel" "typed" "I") (List.mem_of_getElem? (i := 2) rfl)) (fun _ h9 => h9) rfl dX5_sign_5 ?_
  refine lv_icmp_ge (tgt := 23) hx hb dX5_sign_8 (by decide) (fun c1 => ?_) (fun c1 => ?_)
  · replace h := ip c1 h
    refine lv_iconst (v := (-1)) hx hb dX5_sign_23 (by decide) ?_
    exact W.iret hx hb hr (fun t ht hW => ⟨_, rfl, Option.some.inj h, ht⟩) (fun q hq => absurd hq List.not_mem_nil) dX5_sign_24 hlocks
  replace h := im c1 h
  refine lv_aload_n hx hb dX5_sign_11 rfl (lv_at hl 0 rfl) ?_
  refine va_get (D := D) (ci := 5) (v := .ref (a0 4)) (C := RX5) (T := TX5) (N := 11) hx hb hts inX5_sign_5 hown hK.1 hP 0 rfl rfl 5 (by decide) (hts (.fieldLink RX5 19 "LyingScaleModel" "text" "[B") (List.mem_of_getElem? (i := 3) rfl)) (fun _ h9 => h9) rfl dX5_sign_12 ?_
  refine lv_aload_n hx hb dX5_sign_15 rfl (lv_at hl 0 rfl) ?_
  refine va_get (D := D) (ci := 5) (v := .int (x0.1 3)) (C := RX5) (T := TX5) (N := 11) hx hb hts inX5_sign_5 hown hK.1 hP 0 rfl rfl 7 (by decide) (hts (.fieldLink RX5 133 "LyingScaleModel" "at" "I") (List.mem_of_getElem? (i := 1) rfl)) (fun _ h9 => h9) rfl dX5_sign_16 ?_
  replace h := gd h
  obtain ⟨g2, h⟩ := h
  refine va_bald hx hb hK.1 hP 4 1 rfl rfl g2 dX5_sign_19 ?_
  refine lv_goto (tgt := 24) hx hb dX5_sign_20 (by decide) ?_
  exact W.iret hx hb hr (fun t ht hW => ⟨_, rfl, Option.some.inj h, ht⟩) (fun q hq => absurd hq List.not_mem_nil) dX5_sign_24 hlocks
set_option maxHeartbeats 4000000 in
set_option maxRecDepth 100000 in
theorem c_X5_side (l : Launch) (D : va_G) (T : Nat → ClassId) (a0 : Nat → Nat) (x0 : St) (v1 : Int32) (sz : Nat) (r : Int32 × St) (h : F_X5_side x0 v1 = some r) : Met l yX5_side wsX5_side ({ frames := 1, cells := 0, slots := 0, locals := 22 } : Room) (va_Pc [.ref (a0 0), .int v1] (PM D T (mdW T a0 (x0)) sz)) (QMi D (mdW T a0 (r.2)) r.1 (va_A (mdW T a0 (x0)) sz)) 0 0 (va_A (mdW T a0 (x0)) sz) := by
  refine met_of (cc := cX5_side) (maxL := 3) (ret := (some .int)) (lv := [(0, .ref (a0 0)), (1, .int v1)]) (by decide) rfl (Nat.le_of_ble_eq_true rfl) rfl ?_
  intro p e s m args below meth c ls C0 hl hB
  obtain ⟨hx, hb, hr, hml, hown, hts, hlocks, hname⟩ := C0
  obtain ⟨hsz, hP, hK, hD0⟩ := hB
  subst hsz
  have hD := hD0.self (sz := s.heap.size)
  generalize hAe : va_A (mdW T a0 (x0)) s.heap.size = A at hD ⊢
  have hA : ∀ q : Nat, s.heap.size ≤ q → A q := fun q h => by rw [← hAe]; exact Or.inr h
  obtain ⟨H, hH⟩ : ∃ H, H = s.heap := ⟨_, rfl⟩
  obtain ⟨locs, hlo⟩ : ∃ L : List Loc, L = [] := ⟨_, rfl⟩
  have hS : va_S A s.heap s.heap [] := va_S.rf
  rw [← hH] at hP ⊢
  rw [← hlo]
  replace hS : va_S A s.heap H locs := by rw [hH, hlo]; exact hS
  clear hH hlo
  unfold F_X5_side at h
  refine lv_iconst (v := 0) hx hb dX5_side_0 (by decide) ?_
  refine lv_istore_n (lv' := [(2, .int 0), (0, .ref (a0 0)), (1, .int v1)]) hx hb dX5_side_1 rfl hl (by decide) rfl (fun ls hl => ?_)
  have K2 : ∀ (n2 : Nat) (i2_2 : Int32) (x0_2 : St) (H : Heap) (locs : List Loc) (ls : Array Slot), fx2 (B_X5_side_2 v1) n2 i2_2 x0_2 = some r → va_P D vwCl (mdW T a0 (x0_2)) H → va_D A (mdW T a0 (x0_2)) → va_S A s.heap H locs → lv_has ls 3 [(0, .ref (a0 0)), (1, .int v1), (2, .int i2_2)] → W p l e ({ frames := 1, cells := 0, slots := 0, locals := 22 } : Room) s m args below meth c H locs 0 0 (MQ below (QMi D (mdW T a0 (r.2)) r.1 A) args s 0 0 (A)) (F0 m 2 ls []) := by
    intro n2
    induction n2 with
    | zero =>
        intro i2_2 x0_2 H locs ls h
        cases h
    | succ n2 ih2 =>
        intro i2_2 x0_2 H locs ls h hP hD hS hl
        replace h : B_X5_side_2 v1 (fx2 (B_X5_side_2 v1) n2) i2_2 x0_2 = some r := h
        unfold B_X5_side_2 at h
        refine lv_aload_n hx hb dX5_side_2 rfl (lv_at hl 0 rfl) ?_
        replace h := bd h
        obtain ⟨t1, et1, h⟩ := h
        refine callRi (v := t1) (va_runV (As := []) (rest := []) ⟨hx, hb, hml, hown, hts⟩ (c_X5_sign l D T a0 x0_2 t1 et1) (cwV 0 hts gX5_side_X5_sign rfl rfl rfl hdV_X5_sign ⟨Nat.le_of_ble_eq_true rfl, Nat.le_of_ble_eq_true rfl⟩) ⟨PB_blind, va_recv hK.1 hP (ci := 5) (q0 := 0) rfl rfl, PB_at hP hK⟩ rfl rfl hl.1 rfl (lv_room (Nat.le_of_ble_eq_true rfl)) dX5_side_3 ⟨Nat.zero_le _, Nat.zero_le _⟩) ?_
        refine lv_bipush (v := 97) hx hb dX5_side_6 (by decide) ?_
        refine lv_bipush (v := 112) hx hb dX5_side_8 (by decide) ?_
        replace h := bd h
        obtain ⟨t2, et2, h⟩ := h
        refine callRi (v := t2) (va_runS (As := [.int t1, .int 97, .int 112]) (rest := []) ⟨hx, hb, hml, hown, hts⟩ (c_X5_in l D T t1 97 112 t2 et2) (va_cwS 3 hts gX5_side_X5_in rfl rfl rfl hdS_X5_in ⟨Nat.le_of_ble_eq_true rfl, Nat.le_of_ble_eq_true rfl⟩) ⟨PB_blind, PB_at (hP.sub (ws' := ([] : va_W)) [] rfl) hK⟩ rfl rfl hl.1 rfl (lv_room (Nat.le_of_ble_eq_true rfl)) dX5_side_10 ⟨Nat.zero_le _, Nat.zero_le _⟩) ?_
        refine lv_if_eq (tgt := 57) hx hb dX5_side_13 (by decide) (fun c3 => ?_) (fun c3 => ?_)
        · replace h := ip c3 h
          refine lv_iload_n hx hb dX5_side_57 rfl (lv_at hl 2 rfl) ?_
          obtain rfl := Option.some.inj h
          exact W.iret hx hb hr (fun t ht hW => ⟨⟨_, (), rfl, rfl, by rw [ht]; exact hP, hD⟩, hS.F ht⟩) hS.2.2 dX5_side_58 hlocks
        replace h := im c3 h
        refine lv_iconst (v := 1) hx hb dX5_side_16 (by decide) ?_
        refine lv_aload_n hx hb dX5_side_17 rfl (lv_at hl 0 rfl) ?_
        replace h := bd h
        obtain ⟨t4, et4, h⟩ := h
        refine callRi (v := t4) (va_runV (As := []) (rest := [.int 1]) ⟨hx, hb, hml, hown, hts⟩ (c_X5_sign l D T a0 x0_2 t4 et4) (cwV 0 hts gX5_side_X5_sign rfl rfl rfl hdV_X5_sign ⟨Nat.le_of_ble_eq_true rfl, Nat.le_of_ble_eq_true rfl⟩) ⟨PB_blind, va_recv hK.1 hP (ci := 5) (q0 := 0) rfl rfl, PB_at hP hK⟩ rfl rfl hl.1 rfl (lv_room (Nat.le_of_ble_eq_true rfl)) dX5_side_18 ⟨Nat.zero_le _, Nat.zero_le _⟩) ?_
        refine lv_bipush (v := 97) hx hb dX5_side_21 (by decide) ?_
        refine lv_isub hx hb dX5_side_23 ?_
        refine lv_ishl hx hb dX5_side_24 ?_
        refine lv_iload_n hx hb dX5_side_25 rfl (lv_at hl 1 rfl) ?_
        refine lv_iload_n hx hb dX5_side_26 rfl (lv_at hl 2 rfl) ?_
        refine lv_ior hx hb dX5_side_27 ?_
        refine lv_iand hx hb dX5_side_28 ?_
        refine lv_if_ne (tgt := 57) hx hb dX5_side_29 (by decide) (fun c5 => ?_) (fun c5 => ?_)
        · replace h := im c5 h
          refine lv_iload_n hx hb dX5_side_57 rfl (lv_at hl 2 rfl) ?_
          obtain rfl := Option.some.inj h
          exact W.iret hx hb hr (fun t ht hW => ⟨⟨_, (), rfl, rfl, by rw [ht]; exact hP, hD⟩, hS.F ht⟩) hS.2.2 dX5_side_58 hlocks
        replace h := ip c5 h
        refine lv_iload_n hx hb dX5_side_32 rfl (lv_at hl 2 rfl) ?_
        refine lv_iconst (v := 1) hx hb dX5_side_33 (by decide) ?_
        refine lv_aload_n hx hb dX5_side_34 rfl (lv_at hl 0 rfl) ?_
        replace h := bd h
        obtain ⟨t6, et6, h⟩ := h
        refine callRi (v := t6) (va_runV (As := []) (rest := [.int 1, .int i2_2]) ⟨hx, hb, hml, hown, hts⟩ (c_X5_sign l D T a0 x0_2 t6 et6) (cwV 0 hts gX5_side_X5_sign rfl rfl rfl hdV_X5_sign ⟨Nat.le_of_ble_eq_true rfl, Nat.le_of_ble_eq_true rfl⟩) ⟨PB_blind, va_recv hK.1 hP (ci := 5) (q0 := 0) rfl rfl, PB_at hP hK⟩ rfl rfl hl.1 rfl (lv_room (Nat.le_of_ble_eq_true rfl)) dX5_side_35 ⟨Nat.zero_le _, Nat.zero_le _⟩) ?_
        refine lv_bipush (v := 97) hx hb dX5_side_38 (by decide) ?_
        refine lv_isub hx hb dX5_side_40 ?_
        refine lv_ishl hx hb dX5_side_41 ?_
        refine lv_ior hx hb dX5_side_42 ?_
        refine lv_istore_n (lv' := [(2, .int (i2_2 ||| (1 <<< ((t6 - 97) &&& 31)))), (0, .ref (a0 0)), (1, .int v1)]) hx hb dX5_side_43 rfl hl (by decide) rfl (fun ls hl => ?_)
        refine lv_aload_n hx hb dX5_side_44 rfl (lv_at hl 1 rfl) ?_
        refine lv_dup hx hb dX5_side_45 rfl ?_
        refine va_get (D := D) (ci := 5) (v := .int (x0_2.1 3)) (C := RX5) (T := TX5) (N := 11) hx hb hts inX5_side_5 hown hK.1 hP 0 rfl rfl 7 (by decide) (hts (.fieldLink RX5 133 "LyingScaleModel" "at" "I") (List.mem_of_getElem? (i := 1) rfl)) (fun _ h9 => h9) rfl dX5_side_46 ?_
        refine lv_iconst (v := 1) hx hb dX5_side_49 (by decide) ?_
        refine lv_iadd hx hb dX5_side_50 ?_
        refine va_put (D := D) (ci := 5) (v := .int ((x0_2.1 3) + 1)) (ty := .int) (C := RX5) (T := TX5) (N := 11) hx hb hts inX5_side_5 tyX5 tyX5_ok nmX5 hown hK.1 hP hD hS 0 rfl rfl 7 (by decide) (hts (.fieldLink RX5 133 "LyingScaleModel" "at" "I") (List.mem_of_getElem? (i := 1) rfl)) (fun _ h9 => h9) rfl (by decide +kernel) rfl rfl (Nat.le_of_ble_eq_true rfl) dX5_side_51 (fun H locs hP hD hS => ?_)
        replace hP : va_P D vwCl (mdW T a0 (sI x0_2 3 ((x0_2.1 3) + 1))) H := hP
        replace hD : va_D A (mdW T a0 (sI x0_2 3 ((x0_2.1 3) + 1))) := hD
        refine lv_goto (tgt := 2) hx hb dX5_side_54 (by decide) ?_
        exact ih2 (i2_2 ||| (1 <<< ((t6 - 97) &&& 31))) (sI x0_2 3 ((x0_2.1 3) + 1)) _ _ ls h hP hD hS (lv_sub hl [1, 2, 0] rfl)
  exact K2 1000 0 x0 _ _ ls h hP hD hS (lv_sub hl [1, 2, 0] rfl)
set_option maxHeartbeats 4000000 in
set_option maxRecDepth 100000 in
theorem c_X5_takes (l : Launch) (D : va_G) (T : Nat → ClassId) (a0 : Nat → Nat) (x0 : St) (v1 : Int32) (sz : Nat) (r : Int32 × St) (h : F_X5_takes x0 v1 = some r) : Met l yX5_takes wsX5_takes ({ frames := 1, cells := 0, slots := 0, locals := 20 } : Room) (va_Pc [.ref (a0 0), .int v1] (PM D T (mdW T a0 (x0)) sz)) (QMi D (mdW T a0 (r.2)) r.1 (va_A (mdW T a0 (x0)) sz)) 0 0 (va_A (mdW T a0 (x0)) sz) := by
  refine met_of (cc := cX5_takes) (maxL := 3) (ret := (some .boolean)) (lv := [(0, .ref (a0 0)), (1, .int v1)]) (by decide) rfl (Nat.le_of_ble_eq_true rfl) rfl ?_
  intro p e s m args below meth c ls C0 hl hB
  obtain ⟨hx, hb, hr, hml, hown, hts, hlocks, hname⟩ := C0
  obtain ⟨hsz, hP, hK, hD0⟩ := hB
  subst hsz
  have hD := hD0.self (sz := s.heap.size)
  generalize hAe : va_A (mdW T a0 (x0)) s.heap.size = A at hD ⊢
  have hA : ∀ q : Nat, s.heap.size ≤ q → A q := fun q h => by rw [← hAe]; exact Or.inr h
  obtain ⟨H, hH⟩ : ∃ H, H = s.heap := ⟨_, rfl⟩
  obtain ⟨locs, hlo⟩ : ∃ L : List Loc, L = [] := ⟨_, rfl⟩
  have hS : va_S A s.heap s.heap [] := va_S.rf
  rw [← hH] at hP ⊢
  rw [← hlo]
  replace hS : va_S A s.heap H locs := by rw [hH, hlo]; exact hS
  clear hH hlo
  unfold F_X5_takes at h
  refine lv_aload_n hx hb dX5_takes_0 rfl (lv_at hl 0 rfl) ?_
  replace h := bd h
  obtain ⟨t1, et1, h⟩ := h
  refine callRi (v := t1) (va_runV (As := []) (rest := []) ⟨hx, hb, hml, hown, hts⟩ (c_X5_sign l D T a0 x0 t1 et1) (cwV 0 hts gX5_takes_X5_sign rfl rfl rfl hdV_X5_sign ⟨Nat.le_of_ble_eq_true rfl, Nat.le_of_ble_eq_true rfl⟩) ⟨PB_blind, va_recv hK.1 hP (ci := 5) (q0 := 0) rfl rfl, PB_at hP hK⟩ rfl rfl hl.1 rfl (lv_room (Nat.le_of_ble_eq_true rfl)) dX5_takes_1 ⟨Nat.zero_le _, Nat.zero_le _⟩) ?_
  refine lv_iload_n hx hb dX5_takes_4 rfl (lv_at hl 1 rfl) ?_
  refine lv_icmp_ne (tgt := 12) hx hb dX5_takes_5 (by decide) (fun c2 => ?_) (fun c2 => ?_)
  · replace h := im c2 h
    refine lv_iconst (v := 0) hx hb dX5_takes_12 (by decide) ?_
    refine lv_istore_n (lv' := [(2, .int 0), (0, .ref (a0 0)), (1, .int v1)]) hx hb dX5_takes_13 rfl hl (by decide) rfl (fun ls hl => ?_)
    refine lv_aload_n hx hb dX5_takes_14 rfl (lv_at hl 1 rfl) ?_
    refine lv_dup hx hb dX5_takes_15 rfl ?_
    refine va_get (D := D) (ci := 5) (v := .int (x0.1 3)) (C := RX5) (T := TX5) (N := 11) hx hb hts inX5_takes_5 hown hK.1 hP 0 rfl rfl 7 (by decide) (hts (.fieldLink RX5 133 "LyingScaleModel" "at" "I") (List.mem_of_getElem? (i := 1) rfl)) (fun _ h9 => h9) rfl dX5_takes_16 ?_
    refine lv_iload_n hx hb dX5_takes_19 rfl (lv_at hl 0 rfl) ?_
    refine lv_if_eq (tgt := 27) hx hb dX5_takes_20 (by decide) (fun _ => ?_) (fun c => absurd c (by decide))
    refine lv_iconst (v := 0) hx hb dX5_takes_27 (by decide) ?_
    refine lv_iadd hx hb dX5_takes_28 ?_
    refine va_put (D := D) (ci := 5) (v := .int ((x0.1 3) + 0)) (ty := .int) (C := RX5) (T := TX5) (N := 11) hx hb hts inX5_takes_5 tyX5 tyX5_ok nmX5 hown hK.1 hP hD hS 0 rfl rfl 7 (by decide) (hts (.fieldLink RX5 133 "LyingScaleModel" "at" "I") (List.mem_of_getElem? (i := 1) rfl)) (fun _ h9 => h9) rfl (by decide +kernel) rfl rfl (Nat.le_of_ble_eq_true rfl) dX5_takes_29 (fun H locs hP hD hS => ?_)
    replace hP : va_P D vwCl (mdW T a0 (sI x0 3 ((x0.1 3) + 0))) H := hP
    replace hD : va_D A (mdW T a0 (sI x0 3 ((x0.1 3) + 0))) := hD
    refine lv_iload_n hx hb dX5_takes_32 rfl (lv_at hl 0 rfl) ?_
    obtain rfl := Option.some.inj h
    exact W.zret hx hb hr rfl (fun t ht hW => ⟨⟨_, (), rfl, rfl, by rw [ht]; exact hP, hD⟩, hS.F ht⟩) hS.2.2 dX5_takes_33 hlocks
  replace h := ip c2 h
  refine lv_iconst (v := 1) hx hb dX5_takes_8 (by decide) ?_
  refine lv_goto (tgt := 13) hx hb dX5_takes_9 (by decide) ?_
  refine lv_istore_n (lv' := [(2, .int 1), (0, .ref (a0 0)), (1, .int v1)]) hx hb dX5_takes_13 rfl hl (by decide) rfl (fun ls hl => ?_)
  refine lv_aload_n hx hb dX5_takes_14 rfl (lv_at hl 1 rfl) ?_
  refine lv_dup hx hb dX5_takes_15 rfl ?_
  refine va_get (D := D) (ci := 5) (v := .int (x0.1 3)) (C := RX5) (T := TX5) (N := 11) hx hb hts inX5_takes_5 hown hK.1 hP 0 rfl rfl 7 (by decide) (hts (.fieldLink RX5 133 "LyingScaleModel" "at" "I") (List.mem_of_getElem? (i := 1) rfl)) (fun _ h9 => h9) rfl dX5_takes_16 ?_
  refine lv_iload_n hx hb dX5_takes_19 rfl (lv_at hl 0 rfl) ?_
  refine lv_if_eq (tgt := 27) hx hb dX5_takes_20 (by decide) (fun c => absurd c (by decide)) (fun _ => ?_)
  refine lv_iconst (v := 1) hx hb dX5_takes_23 (by decide) ?_
  refine lv_goto (tgt := 28) hx hb dX5_takes_24 (by decide) ?_
  refine lv_iadd hx hb dX5_takes_28 ?_
  refine va_put (D := D) (ci := 5) (v := .int ((x0.1 3) + 1)) (ty := .int) (C := RX5) (T := TX5) (N := 11) hx hb hts inX5_takes_5 tyX5 tyX5_ok nmX5 hown hK.1 hP hD hS 0 rfl rfl 7 (by decide) (hts (.fieldLink RX5 133 "LyingScaleModel" "at" "I") (List.mem_of_getElem? (i := 1) rfl)) (fun _ h9 => h9) rfl (by decide +kernel) rfl rfl (Nat.le_of_ble_eq_true rfl) dX5_takes_29 (fun H locs hP hD hS => ?_)
  replace hP : va_P D vwCl (mdW T a0 (sI x0 3 ((x0.1 3) + 1))) H := hP
  replace hD : va_D A (mdW T a0 (sI x0 3 ((x0.1 3) + 1))) := hD
  refine lv_iload_n hx hb dX5_takes_32 rfl (lv_at hl 0 rfl) ?_
  obtain rfl := Option.some.inj h
  exact W.zret hx hb hr rfl (fun t ht hW => ⟨⟨_, (), rfl, rfl, by rw [ht]; exact hP, hD⟩, hS.F ht⟩) hS.2.2 dX5_takes_33 hlocks
set_option maxHeartbeats 4000000 in
set_option maxRecDepth 100000 in
theorem c_X5_kind (l : Launch) (D : va_G) (T : Nat → ClassId) (a0 : Nat → Nat) (x0 : St) (sz : Nat) (r : Int32 × St) (h : F_X5_kind x0 = some r) : Met l yX5_kind wsX5_kind ({ frames := 2, cells := 0, slots := 0, locals := 42 } : Room) (va_Pc [.ref (a0 0)] (PM D T (mdW T a0 (x0)) sz)) (QMi D (mdW T a0 (r.2)) r.1 (va_A (mdW T a0 (x0)) sz)) 0 0 (va_A (mdW T a0 (x0)) sz) := by
  refine met_of (cc := cX5_kind) (maxL := 1) (ret := (some .int)) (lv := [(0, .ref (a0 0))]) (by decide) rfl (Nat.le_of_ble_eq_true rfl) rfl ?_
  intro p e s m args below meth c ls C0 hl hB
  obtain ⟨hx, hb, hr, hml, hown, hts, hlocks, hname⟩ := C0
  obtain ⟨hsz, hP, hK, hD0⟩ := hB
  subst hsz
  have hD := hD0.self (sz := s.heap.size)
  generalize hAe : va_A (mdW T a0 (x0)) s.heap.size = A at hD ⊢
  have hA : ∀ q : Nat, s.heap.size ≤ q → A q := fun q h => by rw [← hAe]; exact Or.inr h
  obtain ⟨H, hH⟩ : ∃ H, H = s.heap := ⟨_, rfl⟩
  obtain ⟨locs, hlo⟩ : ∃ L : List Loc, L = [] := ⟨_, rfl⟩
  have hS : va_S A s.heap s.heap [] := va_S.rf
  rw [← hH] at hP ⊢
  rw [← hlo]
  replace hS : va_S A s.heap H locs := by rw [hH, hlo]; exact hS
  clear hH hlo
  unfold F_X5_kind at h
  refine lv_aload_n hx hb dX5_kind_0 rfl (lv_at hl 0 rfl) ?_
  refine lv_bipush (v := 63) hx hb dX5_kind_1 (by decide) ?_
  replace h := bd h
  obtain ⟨t1, et1, h⟩ := h
  refine callMi (wr := []) (ws' := mdW T a0 (t1.2)) (va_runV (As := [.int 63]) (rest := []) ⟨hx, hb, hml, hown, hts⟩ (c_X5_takes l D T a0 x0 63 _ t1 et1) (cwV 1 hts gX5_kind_X5_takes rfl rfl rfl hdV_X5_takes ⟨Nat.le_of_ble_eq_true rfl, Nat.le_of_ble_eq_true rfl⟩) ⟨PM_blind, va_recv hK.1 hP (ci := 5) (q0 := 0) rfl rfl, PM_at hP hD hK⟩ rfl rfl hl.1 rfl (lv_room (Nat.le_of_ble_eq_true rfl)) dX5_kind_3 ⟨Nat.zero_le _, Nat.zero_le _⟩) hS hA hP hD [0, 1, 2, 3, 4] [] rfl rfl (by decide) (by decide) [0, 1, 2, 3, 4] (by decide) rfl (fun H locs hP hD hS => ?_)
  refine lv_if_eq (tgt := 11) hx hb dX5_kind_6 (by decide) (fun c2 => ?_) (fun c2 => ?_)
  · replace h := ip c2 h
    refine lv_aload_n hx hb dX5_kind_11 rfl (lv_at hl 0 rfl) ?_
    refine lv_bipush (v := 43) hx hb dX5_kind_12 (by decide) ?_
    replace h := bd h
    obtain ⟨t3, et3, h⟩ := h
    refine callMi (wr := []) (ws' := mdW T a0 (t3.2)) (va_runV (As := [.int 43]) (rest := []) ⟨hx, hb, hml, hown, hts⟩ (c_X5_takes l D T a0 t1.2 43 _ t3 et3) (cwV 1 hts gX5_kind_X5_takes rfl rfl rfl hdV_X5_takes ⟨Nat.le_of_ble_eq_true rfl, Nat.le_of_ble_eq_true rfl⟩) ⟨PM_blind, va_recv hK.1 hP (ci := 5) (q0 := 0) rfl rfl, PM_at hP hD hK⟩ rfl rfl hl.1 rfl (lv_room (Nat.le_of_ble_eq_true rfl)) dX5_kind_14 ⟨Nat.zero_le _, Nat.zero_le _⟩) hS hA hP hD [0, 1, 2, 3, 4] [] rfl rfl (by decide) (by decide) [0, 1, 2, 3, 4] (by decide) rfl (fun H locs hP hD hS => ?_)
    refine lv_if_eq (tgt := 22) hx hb dX5_kind_17 (by decide) (fun c4 => ?_) (fun c4 => ?_)
    · replace h := ip c4 h
      refine lv_aload_n hx hb dX5_kind_22 rfl (lv_at hl 0 rfl) ?_
      refine lv_bipush (v := 61) hx hb dX5_kind_23 (by decide) ?_
      replace h := bd h
      obtain ⟨t5, et5, h⟩ := h
      refine callMi (wr := []) (ws' := mdW T a0 (t5.2)) (va_runV (As := [.int 61]) (rest := []) ⟨hx, hb, hml, hown, hts⟩ (c_X5_takes l D T a0 t3.2 61 _ t5 et5) (cwV 1 hts gX5_kind_X5_takes rfl rfl rfl hdV_X5_takes ⟨Nat.le_of_ble_eq_true rfl, Nat.le_of_ble_eq_true rfl⟩) ⟨PM_blind, va_recv hK.1 hP (ci := 5) (q0 := 0) rfl rfl, PM_at hP hD hK⟩ rfl rfl hl.1 rfl (lv_room (Nat.le_of_ble_eq_true rfl)) dX5_kind_25 ⟨Nat.zero_le _, Nat.zero_le _⟩) hS hA hP hD [0, 1, 2, 3, 4] [] rfl rfl (by decide) (by decide) [0, 1, 2, 3, 4] (by decide) rfl (fun H locs hP hD hS => ?_)
      refine lv_if_ne (tgt := 33) hx hb dX5_kind_28 (by decide) (fun c6 => ?_) (fun c6 => ?_)
      · replace h := im c6 h
        refine lv_aload_n hx hb dX5_kind_33 rfl (lv_at hl 0 rfl) ?_
        refine lv_bipush (v := 108) hx hb dX5_kind_34 (by decide) ?_
        replace h := bd h
        obtain ⟨t7, et7, h⟩ := h
        refine callMi (wr := []) (ws' := mdW T a0 (t7.2)) (va_runV (As := [.int 108]) (rest := []) ⟨hx, hb, hml, hown, hts⟩ (c_X5_takes l D T a0 t5.2 108 _ t7 et7) (cwV 1 hts gX5_kind_X5_takes rfl rfl rfl hdV_X5_takes ⟨Nat.le_of_ble_eq_true rfl, Nat.le_of_ble_eq_true rfl⟩) ⟨PM_blind, va_recv hK.1 hP (ci := 5) (q0 := 0) rfl rfl, PM_at hP hD hK⟩ rfl rfl hl.1 rfl (lv_room (Nat.le_of_ble_eq_true rfl)) dX5_kind_36 ⟨Nat.zero_le _, Nat.zero_le _⟩) hS hA hP hD [0, 1, 2, 3, 4] [] rfl rfl (by decide) (by decide) [0, 1, 2, 3, 4] (by decide) rfl (fun H locs hP hD hS => ?_)
        refine lv_if_eq (tgt := 46) hx hb dX5_kind_39 (by decide) (fun c8 => ?_) (fun c8 => ?_)
        · replace h := ip c8 h
          refine lv_aload_n hx hb dX5_kind_46 rfl (lv_at hl 0 rfl) ?_
          refine lv_bipush (v := 114) hx hb dX5_kind_47 (by decide) ?_
          replace h := bd h
          obtain ⟨t9, et9, h⟩ := h
          refine callMi (wr := []) (ws' := mdW T a0 (t9.2)) (va_runV (As := [.int 114]) (rest := []) ⟨hx, hb, hml, hown, hts⟩ (c_X5_takes l D T a0 t7.2 114 _ t9 et9) (cwV 1 hts gX5_kind_X5_takes rfl rfl rfl hdV_X5_takes ⟨Nat.le_of_ble_eq_true rfl, Nat.le_of_ble_eq_true rfl⟩) ⟨PM_blind, va_recv hK.1 hP (ci := 5) (q0 := 0) rfl rfl, PM_at hP hD hK⟩ rfl rfl hl.1 rfl (lv_room (Nat.le_of_ble_eq_true rfl)) dX5_kind_49 ⟨Nat.zero_le _, Nat.zero_le _⟩) hS hA hP hD [0, 1, 2, 3, 4] [] rfl rfl (by decide) (by decide) [0, 1, 2, 3, 4] (by decide) rfl (fun H locs hP hD hS => ?_)
          refine lv_if_eq (tgt := 59) hx hb dX5_kind_52 (by decide) (fun c10 => ?_) (fun c10 => ?_)
          · replace h := ip c10 h
            refine lv_aload_n hx hb dX5_kind_59 rfl (lv_at hl 0 rfl) ?_
            refine lv_bipush (v := 101) hx hb dX5_kind_60 (by decide) ?_
            replace h := bd h
            obtain ⟨t11, et11, h⟩ := h
            refine callMi (wr := []) (ws' := mdW T a0 (t11.2)) (va_runV (As := [.int 101]) (rest := []) ⟨hx, hb, hml, hown, hts⟩ (c_X5_takes l D T a0 t9.2 101 _ t11 et11) (cwV 1 hts gX5_kind_X5_takes rfl rfl rfl hdV_X5_takes ⟨Nat.le_of_ble_eq_true rfl, Nat.le_of_ble_eq_true rfl⟩) ⟨PM_blind, va_recv hK.1 hP (ci := 5) (q0 := 0) rfl rfl, PM_at hP hD hK⟩ rfl rfl hl.1 rfl (lv_room (Nat.le_of_ble_eq_true rfl)) dX5_kind_62 ⟨Nat.zero_le _, Nat.zero_le _⟩) hS hA hP hD [0, 1, 2, 3, 4] [] rfl rfl (by decide) (by decide) [0, 1, 2, 3, 4] (by decide) rfl (fun H locs hP hD hS => ?_)
            refine lv_if_eq (tgt := 72) hx hb dX5_kind_65 (by decide) (fun c12 => ?_) (fun c12 => ?_)
            · replace h := ip c12 h
              refine lv_iconst (v := (-1)) hx hb dX5_kind_72 (by decide) ?_
              obtain rfl := Option.some.inj h
              exact W.iret hx hb hr (fun t ht hW => ⟨⟨_, (), rfl, rfl, by rw [ht]; exact hP, hD⟩, hS.F ht⟩) hS.2.2 dX5_kind_73 hlocks
            replace h := im c12 h
            refine lv_iconst (v := 2) hx hb dX5_kind_68 (by decide) ?_
            refine lv_goto (tgt := 73) hx hb dX5_kind_69 (by decide) ?_
            obtain rfl := Option.some.inj h
            exact W.iret hx hb hr (fun t ht hW => ⟨⟨_, (), rfl, rfl, by rw [ht]; exact hP, hD⟩, hS.F ht⟩) hS.2.2 dX5_kind_73 hlocks
          replace h := im c10 h
          refine lv_iconst (v := 1) hx hb dX5_kind_55 (by decide) ?_
          refine lv_goto (tgt := 73) hx hb dX5_kind_56 (by decide) ?_
          obtain rfl := Option.some.inj h
          exact W.iret hx hb hr (fun t ht hW => ⟨⟨_, (), rfl, rfl, by rw [ht]; exact hP, hD⟩, hS.F ht⟩) hS.2.2 dX5_kind_73 hlocks
        replace h := im c8 h
        refine lv_iconst (v := 0) hx hb dX5_kind_42 (by decide) ?_
        refine lv_goto (tgt := 73) hx hb dX5_kind_43 (by decide) ?_
        obtain rfl := Option.some.inj h
        exact W.iret hx hb hr (fun t ht hW => ⟨⟨_, (), rfl, rfl, by rw [ht]; exact hP, hD⟩, hS.F ht⟩) hS.2.2 dX5_kind_73 hlocks
      replace h := ip c6 h
      refine lv_iconst (v := (-1)) hx hb dX5_kind_31 (by decide) ?_
      obtain rfl := Option.some.inj h
      exact W.iret hx hb hr (fun t ht hW => ⟨⟨_, (), rfl, rfl, by rw [ht]; exact hP, hD⟩, hS.F ht⟩) hS.2.2 dX5_kind_32 hlocks
    replace h := im c4 h
    refine lv_iconst (v := 4) hx hb dX5_kind_20 (by decide) ?_
    obtain rfl := Option.some.inj h
    exact W.iret hx hb hr (fun t ht hW => ⟨⟨_, (), rfl, rfl, by rw [ht]; exact hP, hD⟩, hS.F ht⟩) hS.2.2 dX5_kind_21 hlocks
  replace h := im c2 h
  refine lv_iconst (v := 3) hx hb dX5_kind_9 (by decide) ?_
  obtain rfl := Option.some.inj h
  exact W.iret hx hb hr (fun t ht hW => ⟨⟨_, (), rfl, rfl, by rw [ht]; exact hP, hD⟩, hS.F ht⟩) hS.2.2 dX5_kind_10 hlocks
set_option maxHeartbeats 4000000 in
set_option maxRecDepth 100000 in
theorem c_X5_reads (l : Launch) (D : va_G) (T : Nat → ClassId) (a0 : Nat → Nat) (x0 : St) (sz : Nat) (r : Int32 × St) (h : F_X5_reads x0 = some r) : Met l yX5_reads wsX5_reads ({ frames := 3, cells := 0, slots := 0, locals := 62 } : Room) (va_Pc [.ref (a0 0)] (PM D T (mdW T a0 (x0)) sz)) (QMi D (mdW T a0 (r.2)) r.1 (va_A (mdW T a0 (x0)) sz)) 0 0 (va_A (mdW T a0 (x0)) sz) := by
  refine met_of (cc := cX5_reads) (maxL := 1) (ret := (some .boolean)) (lv := [(0, .ref (a0 0))]) (by decide) rfl (Nat.le_of_ble_eq_true rfl) rfl ?_
  intro p e s m args below meth c ls C0 hl hB
  obtain ⟨hx, hb, hr, hml, hown, hts, hlocks, hname⟩ := C0
  obtain ⟨hsz, hP, hK, hD0⟩ := hB
  subst hsz
  have hD := hD0.self (sz := s.heap.size)
  generalize hAe : va_A (mdW T a0 (x0)) s.heap.size = A at hD ⊢
  have hA : ∀ q : Nat, s.heap.size ≤ q → A q := fun q h => by rw [← hAe]; exact Or.inr h
  obtain ⟨H, hH⟩ : ∃ H, H = s.heap := ⟨_, rfl⟩
  obtain ⟨locs, hlo⟩ : ∃ L : List Loc, L = [] := ⟨_, rfl⟩
  have hS : va_S A s.heap s.heap [] := va_S.rf
  rw [← hH] at hP ⊢
  rw [← hlo]
  replace hS : va_S A s.heap H locs := by rw [hH, hlo]; exact hS
  clear hH hlo
  unfold F_X5_reads at h
  refine lv_aload_n hx hb dX5_reads_0 rfl (lv_at hl 0 rfl) ?_
  refine lv_aload_n hx hb dX5_reads_1 rfl (lv_at hl 0 rfl) ?_
  refine lv_iconst (v := 0) hx hb dX5_reads_2 (by decide) ?_
  replace h := bd h
  obtain ⟨t1, et1, h⟩ := h
  refine callMi (wr := []) (ws' := mdW T a0 (t1.2)) (va_runV (As := [.int 0]) (rest := [.ref (a0 0)]) ⟨hx, hb, hml, hown, hts⟩ (c_X5_side l D T a0 x0 0 _ t1 et1) (cwV 1 hts gX5_reads_X5_side rfl rfl rfl hdV_X5_side ⟨Nat.le_of_ble_eq_true rfl, Nat.le_of_ble_eq_true rfl⟩) ⟨PM_blind, va_recv hK.1 hP (ci := 5) (q0 := 0) rfl rfl, PM_at hP hD hK⟩ rfl rfl hl.1 rfl (lv_room (Nat.le_of_ble_eq_true rfl)) dX5_reads_3 ⟨Nat.zero_le _, Nat.zero_le _⟩) hS hA hP hD [0, 1, 2, 3, 4] [] rfl rfl (by decide) (by decide) [0, 1, 2, 3, 4] (by decide) rfl (fun H locs hP hD hS => ?_)
  refine va_put (D := D) (ci := 5) (v := .int t1.1) (ty := .int) (C := RX5) (T := TX5) (N := 11) hx hb hts inX5_reads_5 tyX5 tyX5_ok nmX5 hown hK.1 hP hD hS 0 rfl rfl 8 (by decide) (hts (.fieldLink RX5 145 "LyingScaleModel" "left" "I") (List.mem_of_getElem? (i := 1) rfl)) (fun _ h9 => h9) rfl (by decide +kernel) rfl rfl (Nat.le_of_ble_eq_true rfl) dX5_reads_6 (fun H locs hP hD hS => ?_)
  replace hP : va_P D vwCl (mdW T a0 (sI t1.2 4 t1.1)) H := hP
  replace hD : va_D A (mdW T a0 (sI t1.2 4 t1.1)) := hD
  refine lv_aload_n hx hb dX5_reads_9 rfl (lv_at hl 0 rfl) ?_
  refine va_get (D := D) (ci := 5) (v := .int ((sI t1.2 4 t1.1).1 4)) (C := RX5) (T := TX5) (N := 11) hx hb hts inX5_reads_5 hown hK.1 hP 0 rfl rfl 8 (by decide) (hts (.fieldLink RX5 145 "LyingScaleModel" "left" "I") (List.mem_of_getElem? (i := 1) rfl)) (fun _ h9 => h9) rfl dX5_reads_10 ?_
  refine lv_if_eq (tgt := 25) hx hb dX5_reads_13 (by decide) (fun c2 => ?_) (fun c2 => ?_)
  · replace h := ip c2 h
    refine lv_iconst (v := 0) hx hb dX5_reads_25 (by decide) ?_
    obtain rfl := Option.some.inj h
    exact W.zret hx hb hr rfl (fun t ht hW => ⟨⟨_, (), rfl, rfl, by rw [ht]; exact hP, hD⟩, hS.F ht⟩) hS.2.2 dX5_reads_26 hlocks
  replace h := im c2 h
  refine lv_aload_n hx hb dX5_reads_16 rfl (lv_at hl 0 rfl) ?_
  refine lv_bipush (v := 47) hx hb dX5_reads_17 (by decide) ?_
  replace h := bd h
  obtain ⟨t3, et3, h⟩ := h
  refine callMi (wr := []) (ws' := mdW T a0 (t3.2)) (va_runV (As := [.int 47]) (rest := []) ⟨hx, hb, hml, hown, hts⟩ (c_X5_takes l D T a0 (sI t1.2 4 t1.1) 47 _ t3 et3) (cwV 1 hts gX5_reads_X5_takes rfl rfl rfl hdV_X5_takes ⟨Nat.le_of_ble_eq_true rfl, Nat.le_of_ble_eq_true rfl⟩) ⟨PM_blind, va_recv hK.1 hP (ci := 5) (q0 := 0) rfl rfl, PM_at hP hD hK⟩ rfl rfl hl.1 rfl (lv_room (Nat.le_of_ble_eq_true rfl)) dX5_reads_19 ⟨Nat.zero_le _, Nat.zero_le _⟩) hS hA hP hD [0, 1, 2, 3, 4] [] rfl rfl (by decide) (by decide) [0, 1, 2, 3, 4] (by decide) rfl (fun H locs hP hD hS => ?_)
  refine lv_if_ne (tgt := 27) hx hb dX5_reads_22 (by decide) (fun c4 => ?_) (fun c4 => ?_)
  · replace h := im c4 h
    refine lv_aload_n hx hb dX5_reads_27 rfl (lv_at hl 0 rfl) ?_
    refine lv_aload_n hx hb dX5_reads_28 rfl (lv_at hl 0 rfl) ?_
    refine lv_aload_n hx hb dX5_reads_29 rfl (lv_at hl 0 rfl) ?_
    refine va_get (D := D) (ci := 5) (v := .int (t3.2.1 4)) (C := RX5) (T := TX5) (N := 11) hx hb hts inX5_reads_5 hown hK.1 hP 0 rfl rfl 8 (by decide) (hts (.fieldLink RX5 145 "LyingScaleModel" "left" "I") (List.mem_of_getElem? (i := 1) rfl)) (fun _ h9 => h9) rfl dX5_reads_30 ?_
    replace h := bd h
    obtain ⟨t5, et5, h⟩ := h
    refine callMi (wr := []) (ws' := mdW T a0 (t5.2)) (va_runV (As := [.int (t3.2.1 4)]) (rest := [.ref (a0 0)]) ⟨hx, hb, hml, hown, hts⟩ (c_X5_side l D T a0 t3.2 (t3.2.1 4) _ t5 et5) (cwV 1 hts gX5_reads_X5_side rfl rfl rfl hdV_X5_side ⟨Nat.le_of_ble_eq_true rfl, Nat.le_of_ble_eq_true rfl⟩) ⟨PM_blind, va_recv hK.1 hP (ci := 5) (q0 := 0) rfl rfl, PM_at hP hD hK⟩ rfl rfl hl.1 rfl (lv_room (Nat.le_of_ble_eq_true rfl)) dX5_reads_33 ⟨Nat.zero_le _, Nat.zero_le _⟩) hS hA hP hD [0, 1, 2, 3, 4] [] rfl rfl (by decide) (by decide) [0, 1, 2, 3, 4] (by decide) rfl (fun H locs hP hD hS => ?_)
    refine va_put (D := D) (ci := 5) (v := .int t5.1) (ty := .int) (C := RX5) (T := TX5) (N := 11) hx hb hts inX5_reads_5 tyX5 tyX5_ok nmX5 hown hK.1 hP hD hS 0 rfl rfl 9 (by decide) (hts (.fieldLink RX5 148 "LyingScaleModel" "right" "I") (List.mem_of_getElem? (i := 2) rfl)) (fun _ h9 => h9) rfl (by decide +kernel) rfl rfl (Nat.le_of_ble_eq_true rfl) dX5_reads_36 (fun H locs hP hD hS => ?_)
    replace hP : va_P D vwCl (mdW T a0 (sI t5.2 5 t5.1)) H := hP
    replace hD : va_D A (mdW T a0 (sI t5.2 5 t5.1)) := hD
    refine lv_aload_n hx hb dX5_reads_39 rfl (lv_at hl 0 rfl) ?_
    refine va_get (D := D) (ci := 5) (v := .int ((sI t5.2 5 t5.1).1 5)) (C := RX5) (T := TX5) (N := 11) hx hb hts inX5_reads_5 hown hK.1 hP 0 rfl rfl 9 (by decide) (hts (.fieldLink RX5 148 "LyingScaleModel" "right" "I") (List.mem_of_getElem? (i := 2) rfl)) (fun _ h9 => h9) rfl dX5_reads_40 ?_
    refine lv_if_ne (tgt := 48) hx hb dX5_reads_43 (by decide) (fun c6 => ?_) (fun c6 => ?_)
    · replace h := im c6 h
      refine lv_aload_n hx hb dX5_reads_48 rfl (lv_at hl 0 rfl) ?_
      refine lv_aload_n hx hb dX5_reads_49 rfl (lv_at hl 0 rfl) ?_
      replace h := bd h
      obtain ⟨t7, et7, h⟩ := h
      refine callMi (wr := []) (ws' := mdW T a0 (t7.2)) (va_runV (As := []) (rest := [.ref (a0 0)]) ⟨hx, hb, hml, hown, hts⟩ (c_X5_kind l D T a0 (sI t5.2 5 t5.1) _ t7 et7) (cwV 0 hts gX5_reads_X5_kind rfl rfl rfl hdV_X5_kind ⟨Nat.le_of_ble_eq_true rfl, Nat.le_of_ble_eq_true rfl⟩) ⟨PM_blind, va_recv hK.1 hP (ci := 5) (q0 := 0) rfl rfl, PM_at hP hD hK⟩ rfl rfl hl.1 rfl (lv_room (Nat.le_of_ble_eq_true rfl)) dX5_reads_50 ⟨Nat.zero_le _, Nat.zero_le _⟩) hS hA hP hD [0, 1, 2, 3, 4] [] rfl rfl (by decide) (by decide) [0, 1, 2, 3, 4] (by decide) rfl (fun H locs hP hD hS => ?_)
      refine va_put (D := D) (ci := 5) (v := .int t7.1) (ty := .int) (C := RX5) (T := TX5) (N := 11) hx hb hts inX5_reads_5 tyX5 tyX5_ok nmX5 hown hK.1 hP hD hS 0 rfl rfl 10 (by decide) (hts (.fieldLink RX5 154 "LyingScaleModel" "what" "I") (List.mem_of_getElem? (i := 3) rfl)) (fun _ h9 => h9) rfl (by decide +kernel) rfl rfl (Nat.le_of_ble_eq_true rfl) dX5_reads_53 (fun H locs hP hD hS => ?_)
      replace hP : va_P D vwCl (mdW T a0 (sI t7.2 6 t7.1)) H := hP
      replace hD : va_D A (mdW T a0 (sI t7.2 6 t7.1)) := hD
      refine lv_aload_n hx hb dX5_reads_56 rfl (lv_at hl 0 rfl) ?_
      refine va_get (D := D) (ci := 5) (v := .int ((sI t7.2 6 t7.1).1 6)) (C := RX5) (T := TX5) (N := 11) hx hb hts inX5_reads_5 hown hK.1 hP 0 rfl rfl 10 (by decide) (hts (.fieldLink RX5 154 "LyingScaleModel" "what" "I") (List.mem_of_getElem? (i := 3) rfl)) (fun _ h9 => h9) rfl dX5_reads_57 ?_
      refine lv_if_lt (tgt := 76) hx hb dX5_reads_60 (by decide) (fun c8 => ?_) (fun c8 => ?_)
      · replace h := ip c8 h
        refine lv_iconst (v := 0) hx hb dX5_reads_76 (by decide) ?_
        obtain rfl := Option.some.inj h
        exact W.zret hx hb hr rfl (fun t ht hW => ⟨⟨_, (), rfl, rfl, by rw [ht]; exact hP, hD⟩, hS.F ht⟩) hS.2.2 dX5_reads_77 hlocks
      replace h := im c8 h
      refine lv_aload_n hx hb dX5_reads_63 rfl (lv_at hl 0 rfl) ?_
      refine lv_bipush (v := 59) hx hb dX5_reads_64 (by decide) ?_
      replace h := bd h
      obtain ⟨t9, et9, h⟩ := h
      refine callMi (wr := []) (ws' := mdW T a0 (t9.2)) (va_runV (As := [.int 59]) (rest := []) ⟨hx, hb, hml, hown, hts⟩ (c_X5_takes l D T a0 (sI t7.2 6 t7.1) 59 _ t9 et9) (cwV 1 hts gX5_reads_X5_takes rfl rfl rfl hdV_X5_takes ⟨Nat.le_of_ble_eq_true rfl, Nat.le_of_ble_eq_true rfl⟩) ⟨PM_blind, va_recv hK.1 hP (ci := 5) (q0 := 0) rfl rfl, PM_at hP hD hK⟩ rfl rfl hl.1 rfl (lv_room (Nat.le_of_ble_eq_true rfl)) dX5_reads_66 ⟨Nat.zero_le _, Nat.zero_le _⟩) hS hA hP hD [0, 1, 2, 3, 4] [] rfl rfl (by decide) (by decide) [0, 1, 2, 3, 4] (by decide) rfl (fun H locs hP hD hS => ?_)
      refine lv_if_eq (tgt := 76) hx hb dX5_reads_69 (by decide) (fun c10 => ?_) (fun c10 => ?_)
      · replace h := ip c10 h
        refine lv_iconst (v := 0) hx hb dX5_reads_76 (by decide) ?_
        obtain rfl := Option.some.inj h
        exact W.zret hx hb hr rfl (fun t ht hW => ⟨⟨_, (), rfl, rfl, by rw [ht]; exact hP, hD⟩, hS.F ht⟩) hS.2.2 dX5_reads_77 hlocks
      replace h := im c10 h
      refine lv_iconst (v := 1) hx hb dX5_reads_72 (by decide) ?_
      refine lv_goto (tgt := 77) hx hb dX5_reads_73 (by decide) ?_
      obtain rfl := Option.some.inj h
      exact W.zret hx hb hr rfl (fun t ht hW => ⟨⟨_, (), rfl, rfl, by rw [ht]; exact hP, hD⟩, hS.F ht⟩) hS.2.2 dX5_reads_77 hlocks
    replace h := ip c6 h
    refine lv_iconst (v := 0) hx hb dX5_reads_46 (by decide) ?_
    obtain rfl := Option.some.inj h
    exact W.zret hx hb hr rfl (fun t ht hW => ⟨⟨_, (), rfl, rfl, by rw [ht]; exact hP, hD⟩, hS.F ht⟩) hS.2.2 dX5_reads_47 hlocks
  replace h := ip c4 h
  refine lv_iconst (v := 0) hx hb dX5_reads_25 (by decide) ?_
  obtain rfl := Option.some.inj h
  exact W.zret hx hb hr rfl (fun t ht hW => ⟨⟨_, (), rfl, rfl, by rw [ht]; exact hP, hD⟩, hS.F ht⟩) hS.2.2 dX5_reads_26 hlocks
set_option maxHeartbeats 4000000 in
set_option maxRecDepth 100000 in
theorem c_X5_wrong (l : Launch) (D : va_G) (T : Nat → ClassId) (a0 : Nat → Nat) (x0 : St) (sz : Nat) (r : Int32 × St) (h : F_X5_wrong x0 = some r) : Met l yX5_wrong wsX5_wrong ({ frames := 4, cells := 0, slots := 0, locals := 82 } : Room) (va_Pc [.ref (a0 0)] (PM D T (mdW T a0 (x0)) sz)) (QMi D (mdW T a0 (r.2)) r.1 (va_A (mdW T a0 (x0)) sz)) 0 0 (va_A (mdW T a0 (x0)) sz) := by
  refine met_of (cc := cX5_wrong) (maxL := 1) (ret := (some .int)) (lv := [(0, .ref (a0 0))]) (by decide) rfl (Nat.le_of_ble_eq_true rfl) rfl ?_
  intro p e s m args below meth c ls C0 hl hB
  obtain ⟨hx, hb, hr, hml, hown, hts, hlocks, hname⟩ := C0
  obtain ⟨hsz, hP, hK, hD0⟩ := hB
  subst hsz
  have hD := hD0.self (sz := s.heap.size)
  generalize hAe : va_A (mdW T a0 (x0)) s.heap.size = A at hD ⊢
  have hA : ∀ q : Nat, s.heap.size ≤ q → A q := fun q h => by rw [← hAe]; exact Or.inr h
  obtain ⟨H, hH⟩ : ∃ H, H = s.heap := ⟨_, rfl⟩
  obtain ⟨locs, hlo⟩ : ∃ L : List Loc, L = [] := ⟨_, rfl⟩
  have hS : va_S A s.heap s.heap [] := va_S.rf
  rw [← hH] at hP ⊢
  rw [← hlo]
  replace hS : va_S A s.heap H locs := by rw [hH, hlo]; exact hS
  clear hH hlo
  unfold F_X5_wrong at h
  refine lv_aload_n hx hb dX5_wrong_0 rfl (lv_at hl 0 rfl) ?_
  refine lv_iconst (v := 0) hx hb dX5_wrong_1 (by decide) ?_
  refine va_put (D := D) (ci := 5) (v := .int 0) (ty := .int) (C := RX5) (T := TX5) (N := 11) hx hb hts inX5_wrong_5 tyX5 tyX5_ok nmX5 hown hK.1 hP hD hS 0 rfl rfl 7 (by decide) (hts (.fieldLink RX5 133 "LyingScaleModel" "at" "I") (List.mem_of_getElem? (i := 1) rfl)) (fun _ h9 => h9) rfl (by decide +kernel) rfl rfl (Nat.le_of_ble_eq_true rfl) dX5_wrong_2 (fun H locs hP hD hS => ?_)
  replace hP : va_P D vwCl (mdW T a0 (sI x0 3 0)) H := hP
  replace hD : va_D A (mdW T a0 (sI x0 3 0)) := hD
  have K5 : ∀ (n5 : Nat) (x0_5 : St) (H : Heap) (locs : List Loc) (ls : Array Slot), fx1 (B_X5_wrong_5) n5 x0_5 = some r → va_P D vwCl (mdW T a0 (x0_5)) H → va_D A (mdW T a0 (x0_5)) → va_S A s.heap H locs → lv_has ls 1 [(0, .ref (a0 0))] → W p l e ({ frames := 4, cells := 0, slots := 0, locals := 82 } : Room) s m args below meth c H locs 0 0 (MQ below (QMi D (mdW T a0 (r.2)) r.1 A) args s 0 0 (A)) (F0 m 5 ls []) := by
    intro n5
    induction n5 with
    | zero =>
        intro x0_5 H locs ls h
        cases h
    | succ n5 ih5 =>
        intro x0_5 H locs ls h hP hD hS hl
        replace h : B_X5_wrong_5 (fx1 (B_X5_wrong_5) n5) x0_5 = some r := h
        unfold B_X5_wrong_5 at h
        refine lv_aload_n hx hb dX5_wrong_5 rfl (lv_at hl 0 rfl) ?_
        refine va_get (D := D) (ci := 5) (v := .int (x0_5.1 3)) (C := RX5) (T := TX5) (N := 11) hx hb hts inX5_wrong_5 hown hK.1 hP 0 rfl rfl 7 (by decide) (hts (.fieldLink RX5 133 "LyingScaleModel" "at" "I") (List.mem_of_getElem? (i := 1) rfl)) (fun _ h9 => h9) rfl dX5_wrong_6 ?_
        refine lv_aload_n hx hb dX5_wrong_9 rfl (lv_at hl 0 rfl) ?_
        refine va_get (D := D) (ci := 5) (v := .int (x0_5.1 2)) (C := RX5) (T := TX5) (N := 11) hx hb hts inX5_wrong_5 hown hK.1 hP 0 rfl rfl 6 (by decide) (hts (.fieldLink RX5 130 "LyingScaleModel" "typed" "I") (List.mem_of_getElem? (i := 2) rfl)) (fun _ h9 => h9) rfl dX5_wrong_10 ?_
        refine lv_icmp_ge (tgt := 28) hx hb dX5_wrong_13 (by decide) (fun c1 => ?_) (fun c1 => ?_)
        · replace h := ip c1 h
          refine lv_iconst (v := (-1)) hx hb dX5_wrong_28 (by decide) ?_
          obtain rfl := Option.some.inj h
          exact W.iret hx hb hr (fun t ht hW => ⟨⟨_, (), rfl, rfl, by rw [ht]; exact hP, hD⟩, hS.F ht⟩) hS.2.2 dX5_wrong_29 hlocks
        replace h := im c1 h
        refine lv_aload_n hx hb dX5_wrong_16 rfl (lv_at hl 0 rfl) ?_
        replace h := bd h
        obtain ⟨t2, et2, h⟩ := h
        refine callMi (wr := []) (ws' := mdW T a0 (t2.2)) (va_runV (As := []) (rest := []) ⟨hx, hb, hml, hown, hts⟩ (c_X5_reads l D T a0 x0_5 _ t2 et2) (cwV 0 hts gX5_wrong_X5_reads rfl rfl rfl hdV_X5_reads ⟨Nat.le_of_ble_eq_true rfl, Nat.le_of_ble_eq_true rfl⟩) ⟨PM_blind, va_recv hK.1 hP (ci := 5) (q0 := 0) rfl rfl, PM_at hP hD hK⟩ rfl rfl hl.1 rfl (lv_room (Nat.le_of_ble_eq_true rfl)) dX5_wrong_17 ⟨Nat.zero_le _, Nat.zero_le _⟩) hS hA hP hD [0, 1, 2, 3, 4] [] rfl rfl (by decide) (by decide) [0, 1, 2, 3, 4] (by decide) rfl (fun H locs hP hD hS => ?_)
        refine lv_if_ne (tgt := 5) hx hb dX5_wrong_20 (by decide) (fun c3 => ?_) (fun c3 => ?_)
        · replace h := im c3 h
          exact ih5 t2.2 _ _ ls h hP hD hS (lv_sub hl [0] rfl)
        replace h := ip c3 h
        refine lv_aload_n hx hb dX5_wrong_23 rfl (lv_at hl 0 rfl) ?_
        refine va_get (D := D) (ci := 5) (v := .int (t2.2.1 3)) (C := RX5) (T := TX5) (N := 11) hx hb hts inX5_wrong_5 hown hK.1 hP 0 rfl rfl 7 (by decide) (hts (.fieldLink RX5 133 "LyingScaleModel" "at" "I") (List.mem_of_getElem? (i := 1) rfl)) (fun _ h9 => h9) rfl dX5_wrong_24 ?_
        obtain rfl := Option.some.inj h
        exact W.iret hx hb hr (fun t ht hW => ⟨⟨_, (), rfl, rfl, by rw [ht]; exact hP, hD⟩, hS.F ht⟩) hS.2.2 dX5_wrong_27 hlocks
  exact K5 1000 (sI x0 3 0) _ _ ls h hP hD hS (lv_sub hl [0] rfl)
set_option maxHeartbeats 4000000 in
set_option maxRecDepth 100000 in
theorem c_X5_does (l : Launch) (D : va_G) (T : Nat → ClassId) (a0 : Nat → Nat) (x0 : St) (sz : Nat) (r : Int32 × St) (h : F_X5_does x0 = some r) : Met l yX5_does wsX5_does ({ frames := 3, cells := 0, slots := 0, locals := 73 } : Room) (va_Pc [.ref (a0 0)] (PM D T (mdW T a0 (x0)) sz)) (QMi D (mdW T a0 (r.2)) r.1 (va_A (mdW T a0 (x0)) sz)) 0 0 (va_A (mdW T a0 (x0)) sz) := by
  refine met_of (cc := cX5_does) (maxL := 2) (ret := (some .boolean)) (lv := [(0, .ref (a0 0))]) (by decide) rfl (Nat.le_of_ble_eq_true rfl) rfl ?_
  intro p e s m args below meth c ls C0 hl hB
  obtain ⟨hx, hb, hr, hml, hown, hts, hlocks, hname⟩ := C0
  obtain ⟨hsz, hP, hK, hD0⟩ := hB
  subst hsz
  have hD := hD0.self (sz := s.heap.size)
  generalize hAe : va_A (mdW T a0 (x0)) s.heap.size = A at hD ⊢
  have hA : ∀ q : Nat, s.heap.size ≤ q → A q := fun q h => by rw [← hAe]; exact Or.inr h
  obtain ⟨H, hH⟩ : ∃ H, H = s.heap := ⟨_, rfl⟩
  obtain ⟨locs, hlo⟩ : ∃ L : List Loc, L = [] := ⟨_, rfl⟩
  have hS : va_S A s.heap s.heap [] := va_S.rf
  rw [← hH] at hP ⊢
  rw [← hlo]
  replace hS : va_S A s.heap H locs := by rw [hH, hlo]; exact hS
  clear hH hlo
  unfold F_X5_does at h
  refine lv_aload_n hx hb dX5_does_0 rfl (lv_at hl 0 rfl) ?_
  refine va_get (D := D) (ci := 5) (v := .int (x0.1 6)) (C := RX5) (T := TX5) (N := 11) hx hb hts inX5_does_5 hown hK.1 hP 0 rfl rfl 10 (by decide) (hts (.fieldLink RX5 154 "LyingScaleModel" "what" "I") (List.mem_of_getElem? (i := 1) rfl)) (fun _ h9 => h9) rfl dX5_does_1 ?_
  refine lv_iconst (v := 3) hx hb dX5_does_4 (by decide) ?_
  refine lv_icmp_ge (tgt := 27) hx hb dX5_does_5 (by decide) (fun c1 => ?_) (fun c1 => ?_)
  · replace h := ip c1 h
    refine lv_aload_n hx hb dX5_does_27 rfl (lv_at hl 0 rfl) ?_
    refine va_get (D := D) (ci := 5) (v := .int (x0.1 6)) (C := RX5) (T := TX5) (N := 11) hx hb hts inX5_does_5 hown hK.1 hP 0 rfl rfl 10 (by decide) (hts (.fieldLink RX5 154 "LyingScaleModel" "what" "I") (List.mem_of_getElem? (i := 1) rfl)) (fun _ h9 => h9) rfl dX5_does_28 ?_
    refine lv_iconst (v := 3) hx hb dX5_does_31 (by decide) ?_
    refine lv_icmp_ne (tgt := 50) hx hb dX5_does_32 (by decide) (fun c2 => ?_) (fun c2 => ?_)
    · replace h := im c2 h
      refine lv_aload_n hx hb dX5_does_50 rfl (lv_at hl 0 rfl) ?_
      refine lv_aload_n hx hb dX5_does_51 rfl (lv_at hl 0 rfl) ?_
      refine va_get (D := D) (ci := 5) (v := .int (x0.1 4)) (C := RX5) (T := TX5) (N := 11) hx hb hts inX5_does_5 hown hK.1 hP 0 rfl rfl 8 (by decide) (hts (.fieldLink RX5 145 "LyingScaleModel" "left" "I") (List.mem_of_getElem? (i := 2) rfl)) (fun _ h9 => h9) rfl dX5_does_52 ?_
      refine lv_aload_n hx hb dX5_does_55 rfl (lv_at hl 0 rfl) ?_
      refine va_get (D := D) (ci := 5) (v := .int (x0.1 5)) (C := RX5) (T := TX5) (N := 11) hx hb hts inX5_does_5 hown hK.1 hP 0 rfl rfl 9 (by decide) (hts (.fieldLink RX5 148 "LyingScaleModel" "right" "I") (List.mem_of_getElem? (i := 3) rfl)) (fun _ h9 => h9) rfl dX5_does_56 ?_
      replace h := bd h
      obtain ⟨t3, et3, h⟩ := h
      refine callRi (v := t3) (va_runV (As := [.int (x0.1 4), .int (x0.1 5)]) (rest := []) ⟨hx, hb, hml, hown, hts⟩ (c_X5_whyNotAdd l D T a0 x0 (x0.1 4) (x0.1 5) t3 et3) (cwV 2 hts gX5_does_X5_whyNotAdd rfl rfl rfl hdV_X5_whyNotAdd ⟨Nat.le_of_ble_eq_true rfl, Nat.le_of_ble_eq_true rfl⟩) ⟨PB_blind, va_recv hK.1 hP (ci := 5) (q0 := 0) rfl rfl, PB_at hP hK⟩ rfl rfl hl.1 rfl (lv_room (Nat.le_of_ble_eq_true rfl)) dX5_does_59 ⟨Nat.zero_le _, Nat.zero_le _⟩) ?_
      refine lv_istore_n (lv' := [(1, .int t3), (0, .ref (a0 0))]) hx hb dX5_does_62 rfl hl (by decide) rfl (fun ls hl => ?_)
      refine lv_iload_n hx hb dX5_does_63 rfl (lv_at hl 0 rfl) ?_
      refine lv_if_le (tgt := 69) hx hb dX5_does_64 (by decide) (fun c4 => ?_) (fun c4 => ?_)
      · replace h := ip c4 h
        refine lv_aload_n hx hb dX5_does_69 rfl (lv_at hl 1 rfl) ?_
        refine va_get (D := D) (ci := 5) (v := .int (x0.1 6)) (C := RX5) (T := TX5) (N := 11) hx hb hts inX5_does_5 hown hK.1 hP 0 rfl rfl 10 (by decide) (hts (.fieldLink RX5 154 "LyingScaleModel" "what" "I") (List.mem_of_getElem? (i := 1) rfl)) (fun _ h9 => h9) rfl dX5_does_70 ?_
        refine lv_iconst (v := 3) hx hb dX5_does_73 (by decide) ?_
        refine lv_icmp_ge (tgt := 96) hx hb dX5_does_74 (by decide) (fun c5 => ?_) (fun c5 => ?_)
        · replace h := ip c5 h
          refine lv_aload_n hx hb dX5_does_96 rfl (lv_at hl 1 rfl) ?_
          refine va_get (D := D) (ci := 5) (v := .int (x0.1 6)) (C := RX5) (T := TX5) (N := 11) hx hb hts inX5_does_5 hown hK.1 hP 0 rfl rfl 10 (by decide) (hts (.fieldLink RX5 154 "LyingScaleModel" "what" "I") (List.mem_of_getElem? (i := 1) rfl)) (fun _ h9 => h9) rfl dX5_does_97 ?_
          refine lv_iconst (v := 3) hx hb dX5_does_100 (by decide) ?_
          refine lv_icmp_ne (tgt := 120) hx hb dX5_does_101 (by decide) (fun c6 => ?_) (fun c6 => ?_)
          · replace h := im c6 h
            refine lv_aload_n hx hb dX5_does_120 rfl (lv_at hl 1 rfl) ?_
            refine lv_aload_n hx hb dX5_does_121 rfl (lv_at hl 1 rfl) ?_
            refine va_get (D := D) (ci := 5) (v := .int (x0.1 4)) (C := RX5) (T := TX5) (N := 11) hx hb hts inX5_does_5 hown hK.1 hP 0 rfl rfl 8 (by decide) (hts (.fieldLink RX5 145 "LyingScaleModel" "left" "I") (List.mem_of_getElem? (i := 2) rfl)) (fun _ h9 => h9) rfl dX5_does_122 ?_
            refine lv_aload_n hx hb dX5_does_125 rfl (lv_at hl 1 rfl) ?_
            refine va_get (D := D) (ci := 5) (v := .int (x0.1 5)) (C := RX5) (T := TX5) (N := 11) hx hb hts inX5_does_5 hown hK.1 hP 0 rfl rfl 9 (by decide) (hts (.fieldLink RX5 148 "LyingScaleModel" "right" "I") (List.mem_of_getElem? (i := 3) rfl)) (fun _ h9 => h9) rfl dX5_does_126 ?_
            replace h := bd h
            obtain ⟨t7, et7, h⟩ := h
            refine callMi (wr := []) (ws' := mdW T a0 (t7.2)) (va_runV (As := [.int (x0.1 4), .int (x0.1 5)]) (rest := []) ⟨hx, hb, hml, hown, hts⟩ (c_X5_adds l D T a0 x0 (x0.1 4) (x0.1 5) _ t7 et7) (cwV 2 hts gX5_does_X5_adds rfl rfl rfl hdV_X5_adds ⟨Nat.le_of_ble_eq_true rfl, Nat.le_of_ble_eq_true rfl⟩) ⟨PM_blind, va_recv hK.1 hP (ci := 5) (q0 := 0) rfl rfl, PM_at hP hD hK⟩ rfl rfl hl.1 rfl (lv_room (Nat.le_of_ble_eq_true rfl)) dX5_does_129 ⟨Nat.zero_le _, Nat.zero_le _⟩) hS hA hP hD [0, 1, 2, 3, 4] [] rfl rfl (by decide) (by decide) [0, 1, 2, 3, 4] (by decide) rfl (fun H locs hP hD hS => ?_)
            refine lv_pop hx hb dX5_does_132 rfl ?_
            refine lv_iconst (v := 1) hx hb dX5_does_133 (by decide) ?_
            obtain rfl := Option.some.inj h
            exact W.zret hx hb hr rfl (fun t ht hW => ⟨⟨_, (), rfl, rfl, by rw [ht]; exact hP, hD⟩, hS.F ht⟩) hS.2.2 dX5_does_134 hlocks
          replace h := ip c6 h
          refine lv_aload_n hx hb dX5_does_104 rfl (lv_at hl 1 rfl) ?_
          refine lv_aload_n hx hb dX5_does_105 rfl (lv_at hl 1 rfl) ?_
          refine va_get (D := D) (ci := 5) (v := .int (x0.1 4)) (C := RX5) (T := TX5) (N := 11) hx hb hts inX5_does_5 hown hK.1 hP 0 rfl rfl 8 (by decide) (hts (.fieldLink RX5 145 "LyingScaleModel" "left" "I") (List.mem_of_getElem? (i := 2) rfl)) (fun _ h9 => h9) rfl dX5_does_106 ?_
          refine lv_aload_n hx hb dX5_does_109 rfl (lv_at hl 1 rfl) ?_
          refine va_get (D := D) (ci := 5) (v := .int (x0.1 5)) (C := RX5) (T := TX5) (N := 11) hx hb hts inX5_does_5 hown hK.1 hP 0 rfl rfl 9 (by decide) (hts (.fieldLink RX5 148 "LyingScaleModel" "right" "I") (List.mem_of_getElem? (i := 3) rfl)) (fun _ h9 => h9) rfl dX5_does_110 ?_
          replace h := bd h
          obtain ⟨t8, et8, h⟩ := h
          refine callMi (wr := []) (ws' := mdW T a0 (t8.2)) (va_runV (As := [.int (x0.1 4), .int (x0.1 5)]) (rest := []) ⟨hx, hb, hml, hown, hts⟩ (c_X5_asks l D T a0 x0 (x0.1 4) (x0.1 5) _ t8 et8) (cwV 2 hts gX5_does_X5_asks rfl rfl rfl hdV_X5_asks ⟨Nat.le_of_ble_eq_true rfl, Nat.le_of_ble_eq_true rfl⟩) ⟨PM_blind, va_recv hK.1 hP (ci := 5) (q0 := 0) rfl rfl, PM_at hP hD hK⟩ rfl rfl hl.1 rfl (lv_room (Nat.le_of_ble_eq_true rfl)) dX5_does_113 ⟨Nat.zero_le _, Nat.zero_le _⟩) hS hA hP hD [0, 1, 2, 3, 4] [] rfl rfl (by decide) (by decide) [0, 1, 2, 3, 4] (by decide) rfl (fun H locs hP hD hS => ?_)
          refine lv_pop hx hb dX5_does_116 rfl ?_
          refine lv_goto (tgt := 133) hx hb dX5_does_117 (by decide) ?_
          refine lv_iconst (v := 1) hx hb dX5_does_133 (by decide) ?_
          obtain rfl := Option.some.inj h
          exact W.zret hx hb hr rfl (fun t ht hW => ⟨⟨_, (), rfl, rfl, by rw [ht]; exact hP, hD⟩, hS.F ht⟩) hS.2.2 dX5_does_134 hlocks
        replace h := im c5 h
        refine lv_aload_n hx hb dX5_does_77 rfl (lv_at hl 1 rfl) ?_
        refine lv_aload_n hx hb dX5_does_78 rfl (lv_at hl 1 rfl) ?_
        refine va_get (D := D) (ci := 5) (v := .int (x0.1 4)) (C := RX5) (T := TX5) (N := 11) hx hb hts inX5_does_5 hown hK.1 hP 0 rfl rfl 8 (by decide) (hts (.fieldLink RX5 145 "LyingScaleModel" "left" "I") (List.mem_of_getElem? (i := 2) rfl)) (fun _ h9 => h9) rfl dX5_does_79 ?_
        refine lv_aload_n hx hb dX5_does_82 rfl (lv_at hl 1 rfl) ?_
        refine va_get (D := D) (ci := 5) (v := .int (x0.1 5)) (C := RX5) (T := TX5) (N := 11) hx hb hts inX5_does_5 hown hK.1 hP 0 rfl rfl 9 (by decide) (hts (.fieldLink RX5 148 "LyingScaleModel" "right" "I") (List.mem_of_getElem? (i := 3) rfl)) (fun _ h9 => h9) rfl dX5_does_83 ?_
        refine lv_aload_n hx hb dX5_does_86 rfl (lv_at hl 1 rfl) ?_
        refine va_get (D := D) (ci := 5) (v := .int (x0.1 6)) (C := RX5) (T := TX5) (N := 11) hx hb hts inX5_does_5 hown hK.1 hP 0 rfl rfl 10 (by decide) (hts (.fieldLink RX5 154 "LyingScaleModel" "what" "I") (List.mem_of_getElem? (i := 1) rfl)) (fun _ h9 => h9) rfl dX5_does_87 ?_
        replace h := bd h
        obtain ⟨t9, et9, h⟩ := h
        refine callMv (wr := []) (ws' := mdW T a0 (t9)) (va_runV (As := [.int (x0.1 4), .int (x0.1 5), .int (x0.1 6)]) (rest := []) ⟨hx, hb, hml, hown, hts⟩ (c_X5_lays l D T a0 x0 (x0.1 4) (x0.1 5) (x0.1 6) _ t9 et9) (cwV 3 hts gX5_does_X5_lays rfl rfl rfl hdV_X5_lays ⟨Nat.le_of_ble_eq_true rfl, Nat.le_of_ble_eq_true rfl⟩) ⟨PM_blind, va_recv hK.1 hP (ci := 5) (q0 := 0) rfl rfl, PM_at hP hD hK⟩ rfl rfl hl.1 rfl (lv_room (Nat.le_of_ble_eq_true rfl)) dX5_does_90 ⟨Nat.zero_le _, Nat.zero_le _⟩) hS hA hP hD [0, 1, 2, 3, 4] [] rfl rfl (by decide) (by decide) [0, 1, 2, 3, 4] (by decide) rfl (fun H locs hP hD hS => ?_)
        refine lv_goto (tgt := 133) hx hb dX5_does_93 (by decide) ?_
        refine lv_iconst (v := 1) hx hb dX5_does_133 (by decide) ?_
        obtain rfl := Option.some.inj h
        exact W.zret hx hb hr rfl (fun t ht hW => ⟨⟨_, (), rfl, rfl, by rw [ht]; exact hP, hD⟩, hS.F ht⟩) hS.2.2 dX5_does_134 hlocks
      replace h := im c4 h
      refine lv_iconst (v := 0) hx hb dX5_does_67 (by decide) ?_
      obtain rfl := Option.some.inj h
      exact W.zret hx hb hr rfl (fun t ht hW => ⟨⟨_, (), rfl, rfl, by rw [ht]; exact hP, hD⟩, hS.F ht⟩) hS.2.2 dX5_does_68 hlocks
    replace h := ip c2 h
    refine lv_aload_n hx hb dX5_does_35 rfl (lv_at hl 0 rfl) ?_
    refine lv_aload_n hx hb dX5_does_36 rfl (lv_at hl 0 rfl) ?_
    refine va_get (D := D) (ci := 5) (v := .int (x0.1 4)) (C := RX5) (T := TX5) (N := 11) hx hb hts inX5_does_5 hown hK.1 hP 0 rfl rfl 8 (by decide) (hts (.fieldLink RX5 145 "LyingScaleModel" "left" "I") (List.mem_of_getElem? (i := 2) rfl)) (fun _ h9 => h9) rfl dX5_does_37 ?_
    refine lv_aload_n hx hb dX5_does_40 rfl (lv_at hl 0 rfl) ?_
    refine va_get (D := D) (ci := 5) (v := .int (x0.1 5)) (C := RX5) (T := TX5) (N := 11) hx hb hts inX5_does_5 hown hK.1 hP 0 rfl rfl 9 (by decide) (hts (.fieldLink RX5 148 "LyingScaleModel" "right" "I") (List.mem_of_getElem? (i := 3) rfl)) (fun _ h9 => h9) rfl dX5_does_41 ?_
    replace h := bd h
    obtain ⟨t10, et10, h⟩ := h
    refine callRi (v := t10) (va_runV (As := [.int (x0.1 4), .int (x0.1 5)]) (rest := []) ⟨hx, hb, hml, hown, hts⟩ (c_X5_whyNotAsk l D T a0 x0 (x0.1 4) (x0.1 5) t10 et10) (cwV 2 hts gX5_does_X5_whyNotAsk rfl rfl rfl hdV_X5_whyNotAsk ⟨Nat.le_of_ble_eq_true rfl, Nat.le_of_ble_eq_true rfl⟩) ⟨PB_blind, va_recv hK.1 hP (ci := 5) (q0 := 0) rfl rfl, PB_at hP hK⟩ rfl rfl hl.1 rfl (lv_room (Nat.le_of_ble_eq_true rfl)) dX5_does_44 ⟨Nat.zero_le _, Nat.zero_le _⟩) ?_
    refine lv_goto (tgt := 62) hx hb dX5_does_47 (by decide) ?_
    refine lv_istore_n (lv' := [(1, .int t10), (0, .ref (a0 0))]) hx hb dX5_does_62 rfl hl (by decide) rfl (fun ls hl => ?_)
    refine lv_iload_n hx hb dX5_does_63 rfl (lv_at hl 0 rfl) ?_
    refine lv_if_le (tgt := 69) hx hb dX5_does_64 (by decide) (fun c11 => ?_) (fun c11 => ?_)
    · replace h := ip c11 h
      refine lv_aload_n hx hb dX5_does_69 rfl (lv_at hl 1 rfl) ?_
      refine va_get (D := D) (ci := 5) (v := .int (x0.1 6)) (C := RX5) (T := TX5) (N := 11) hx hb hts inX5_does_5 hown hK.1 hP 0 rfl rfl 10 (by decide) (hts (.fieldLink RX5 154 "LyingScaleModel" "what" "I") (List.mem_of_getElem? (i := 1) rfl)) (fun _ h9 => h9) rfl dX5_does_70 ?_
      refine lv_iconst (v := 3) hx hb dX5_does_73 (by decide) ?_
      refine lv_icmp_ge (tgt := 96) hx hb dX5_does_74 (by decide) (fun c12 => ?_) (fun c12 => ?_)
      · replace h := ip c12 h
        refine lv_aload_n hx hb dX5_does_96 rfl (lv_at hl 1 rfl) ?_
        refine va_get (D := D) (ci := 5) (v := .int (x0.1 6)) (C := RX5) (T := TX5) (N := 11) hx hb hts inX5_does_5 hown hK.1 hP 0 rfl rfl 10 (by decide) (hts (.fieldLink RX5 154 "LyingScaleModel" "what" "I") (List.mem_of_getElem? (i := 1) rfl)) (fun _ h9 => h9) rfl dX5_does_97 ?_
        refine lv_iconst (v := 3) hx hb dX5_does_100 (by decide) ?_
        refine lv_icmp_ne (tgt := 120) hx hb dX5_does_101 (by decide) (fun c13 => ?_) (fun c13 => ?_)
        · replace h := im c13 h
          refine lv_aload_n hx hb dX5_does_120 rfl (lv_at hl 1 rfl) ?_
          refine lv_aload_n hx hb dX5_does_121 rfl (lv_at hl 1 rfl) ?_
          refine va_get (D := D) (ci := 5) (v := .int (x0.1 4)) (C := RX5) (T := TX5) (N := 11) hx hb hts inX5_does_5 hown hK.1 hP 0 rfl rfl 8 (by decide) (hts (.fieldLink RX5 145 "LyingScaleModel" "left" "I") (List.mem_of_getElem? (i := 2) rfl)) (fun _ h9 => h9) rfl dX5_does_122 ?_
          refine lv_aload_n hx hb dX5_does_125 rfl (lv_at hl 1 rfl) ?_
          refine va_get (D := D) (ci := 5) (v := .int (x0.1 5)) (C := RX5) (T := TX5) (N := 11) hx hb hts inX5_does_5 hown hK.1 hP 0 rfl rfl 9 (by decide) (hts (.fieldLink RX5 148 "LyingScaleModel" "right" "I") (List.mem_of_getElem? (i := 3) rfl)) (fun _ h9 => h9) rfl dX5_does_126 ?_
          replace h := bd h
          obtain ⟨t14, et14, h⟩ := h
          refine callMi (wr := []) (ws' := mdW T a0 (t14.2)) (va_runV (As := [.int (x0.1 4), .int (x0.1 5)]) (rest := []) ⟨hx, hb, hml, hown, hts⟩ (c_X5_adds l D T a0 x0 (x0.1 4) (x0.1 5) _ t14 et14) (cwV 2 hts gX5_does_X5_adds rfl rfl rfl hdV_X5_adds ⟨Nat.le_of_ble_eq_true rfl, Nat.le_of_ble_eq_true rfl⟩) ⟨PM_blind, va_recv hK.1 hP (ci := 5) (q0 := 0) rfl rfl, PM_at hP hD hK⟩ rfl rfl hl.1 rfl (lv_room (Nat.le_of_ble_eq_true rfl)) dX5_does_129 ⟨Nat.zero_le _, Nat.zero_le _⟩) hS hA hP hD [0, 1, 2, 3, 4] [] rfl rfl (by decide) (by decide) [0, 1, 2, 3, 4] (by decide) rfl (fun H locs hP hD hS => ?_)
          refine lv_pop hx hb dX5_does_132 rfl ?_
          refine lv_iconst (v := 1) hx hb dX5_does_133 (by decide) ?_
          obtain rfl := Option.some.inj h
          exact W.zret hx hb hr rfl (fun t ht hW => ⟨⟨_, (), rfl, rfl, by rw [ht]; exact hP, hD⟩, hS.F ht⟩) hS.2.2 dX5_does_134 hlocks
        replace h := ip c13 h
        refine lv_aload_n hx hb dX5_does_104 rfl (lv_at hl 1 rfl) ?_
        refine lv_aload_n hx hb dX5_does_105 rfl (lv_at hl 1 rfl) ?_
        refine va_get (D := D) (ci := 5) (v := .int (x0.1 4)) (C := RX5) (T := TX5) (N := 11) hx hb hts inX5_does_5 hown hK.1 hP 0 rfl rfl 8 (by decide) (hts (.fieldLink RX5 145 "LyingScaleModel" "left" "I") (List.mem_of_getElem? (i := 2) rfl)) (fun _ h9 => h9) rfl dX5_does_106 ?_
        refine lv_aload_n hx hb dX5_does_109 rfl (lv_at hl 1 rfl) ?_
        refine va_get (D := D) (ci := 5) (v := .int (x0.1 5)) (C := RX5) (T := TX5) (N := 11) hx hb hts inX5_does_5 hown hK.1 hP 0 rfl rfl 9 (by decide) (hts (.fieldLink RX5 148 "LyingScaleModel" "right" "I") (List.mem_of_getElem? (i := 3) rfl)) (fun _ h9 => h9) rfl dX5_does_110 ?_
        replace h := bd h
        obtain ⟨t15, et15, h⟩ := h
        refine callMi (wr := []) (ws' := mdW T a0 (t15.2)) (va_runV (As := [.int (x0.1 4), .int (x0.1 5)]) (rest := []) ⟨hx, hb, hml, hown, hts⟩ (c_X5_asks l D T a0 x0 (x0.1 4) (x0.1 5) _ t15 et15) (cwV 2 hts gX5_does_X5_asks rfl rfl rfl hdV_X5_asks ⟨Nat.le_of_ble_eq_true rfl, Nat.le_of_ble_eq_true rfl⟩) ⟨PM_blind, va_recv hK.1 hP (ci := 5) (q0 := 0) rfl rfl, PM_at hP hD hK⟩ rfl rfl hl.1 rfl (lv_room (Nat.le_of_ble_eq_true rfl)) dX5_does_113 ⟨Nat.zero_le _, Nat.zero_le _⟩) hS hA hP hD [0, 1, 2, 3, 4] [] rfl rfl (by decide) (by decide) [0, 1, 2, 3, 4] (by decide) rfl (fun H locs hP hD hS => ?_)
        refine lv_pop hx hb dX5_does_116 rfl ?_
        refine lv_goto (tgt := 133) hx hb dX5_does_117 (by decide) ?_
        refine lv_iconst (v := 1) hx hb dX5_does_133 (by decide) ?_
        obtain rfl := Option.some.inj h
        exact W.zret hx hb hr rfl (fun t ht hW => ⟨⟨_, (), rfl, rfl, by rw [ht]; exact hP, hD⟩, hS.F ht⟩) hS.2.2 dX5_does_134 hlocks
      replace h := im c12 h
      refine lv_aload_n hx hb dX5_does_77 rfl (lv_at hl 1 rfl) ?_
      refine lv_aload_n hx hb dX5_does_78 rfl (lv_at hl 1 rfl) ?_
      refine va_get (D := D) (ci := 5) (v := .int (x0.1 4)) (C := RX5) (T := TX5) (N := 11) hx hb hts inX5_does_5 hown hK.1 hP 0 rfl rfl 8 (by decide) (hts (.fieldLink RX5 145 "LyingScaleModel" "left" "I") (List.mem_of_getElem? (i := 2) rfl)) (fun _ h9 => h9) rfl dX5_does_79 ?_
      refine lv_aload_n hx hb dX5_does_82 rfl (lv_at hl 1 rfl) ?_
      refine va_get (D := D) (ci := 5) (v := .int (x0.1 5)) (C := RX5) (T := TX5) (N := 11) hx hb hts inX5_does_5 hown hK.1 hP 0 rfl rfl 9 (by decide) (hts (.fieldLink RX5 148 "LyingScaleModel" "right" "I") (List.mem_of_getElem? (i := 3) rfl)) (fun _ h9 => h9) rfl dX5_does_83 ?_
      refine lv_aload_n hx hb dX5_does_86 rfl (lv_at hl 1 rfl) ?_
      refine va_get (D := D) (ci := 5) (v := .int (x0.1 6)) (C := RX5) (T := TX5) (N := 11) hx hb hts inX5_does_5 hown hK.1 hP 0 rfl rfl 10 (by decide) (hts (.fieldLink RX5 154 "LyingScaleModel" "what" "I") (List.mem_of_getElem? (i := 1) rfl)) (fun _ h9 => h9) rfl dX5_does_87 ?_
      replace h := bd h
      obtain ⟨t16, et16, h⟩ := h
      refine callMv (wr := []) (ws' := mdW T a0 (t16)) (va_runV (As := [.int (x0.1 4), .int (x0.1 5), .int (x0.1 6)]) (rest := []) ⟨hx, hb, hml, hown, hts⟩ (c_X5_lays l D T a0 x0 (x0.1 4) (x0.1 5) (x0.1 6) _ t16 et16) (cwV 3 hts gX5_does_X5_lays rfl rfl rfl hdV_X5_lays ⟨Nat.le_of_ble_eq_true rfl, Nat.le_of_ble_eq_true rfl⟩) ⟨PM_blind, va_recv hK.1 hP (ci := 5) (q0 := 0) rfl rfl, PM_at hP hD hK⟩ rfl rfl hl.1 rfl (lv_room (Nat.le_of_ble_eq_true rfl)) dX5_does_90 ⟨Nat.zero_le _, Nat.zero_le _⟩) hS hA hP hD [0, 1, 2, 3, 4] [] rfl rfl (by decide) (by decide) [0, 1, 2, 3, 4] (by decide) rfl (fun H locs hP hD hS => ?_)
      refine lv_goto (tgt := 133) hx hb dX5_does_93 (by decide) ?_
      refine lv_iconst (v := 1) hx hb dX5_does_133 (by decide) ?_
      obtain rfl := Option.some.inj h
      exact W.zret hx hb hr rfl (fun t ht hW => ⟨⟨_, (), rfl, rfl, by rw [ht]; exact hP, hD⟩, hS.F ht⟩) hS.2.2 dX5_does_134 hlocks
    replace h := im c11 h
    refine lv_iconst (v := 0) hx hb dX5_does_67 (by decide) ?_
    obtain rfl := Option.some.inj h
    exact W.zret hx hb hr rfl (fun t ht hW => ⟨⟨_, (), rfl, rfl, by rw [ht]; exact hP, hD⟩, hS.F ht⟩) hS.2.2 dX5_does_68 hlocks
  replace h := im c1 h
  refine lv_aload_n hx hb dX5_does_8 rfl (lv_at hl 0 rfl) ?_
  refine lv_aload_n hx hb dX5_does_9 rfl (lv_at hl 0 rfl) ?_
  refine va_get (D := D) (ci := 5) (v := .int (x0.1 4)) (C := RX5) (T := TX5) (N := 11) hx hb hts inX5_does_5 hown hK.1 hP 0 rfl rfl 8 (by decide) (hts (.fieldLink RX5 145 "LyingScaleModel" "left" "I") (List.mem_of_getElem? (i := 2) rfl)) (fun _ h9 => h9) rfl dX5_does_10 ?_
  refine lv_aload_n hx hb dX5_does_13 rfl (lv_at hl 0 rfl) ?_
  refine va_get (D := D) (ci := 5) (v := .int (x0.1 5)) (C := RX5) (T := TX5) (N := 11) hx hb hts inX5_does_5 hown hK.1 hP 0 rfl rfl 9 (by decide) (hts (.fieldLink RX5 148 "LyingScaleModel" "right" "I") (List.mem_of_getElem? (i := 3) rfl)) (fun _ h9 => h9) rfl dX5_does_14 ?_
  refine lv_aload_n hx hb dX5_does_17 rfl (lv_at hl 0 rfl) ?_
  refine va_get (D := D) (ci := 5) (v := .int (x0.1 6)) (C := RX5) (T := TX5) (N := 11) hx hb hts inX5_does_5 hown hK.1 hP 0 rfl rfl 10 (by decide) (hts (.fieldLink RX5 154 "LyingScaleModel" "what" "I") (List.mem_of_getElem? (i := 1) rfl)) (fun _ h9 => h9) rfl dX5_does_18 ?_
  replace h := bd h
  obtain ⟨t17, et17, h⟩ := h
  refine callRi (v := t17) (va_runV (As := [.int (x0.1 4), .int (x0.1 5), .int (x0.1 6)]) (rest := []) ⟨hx, hb, hml, hown, hts⟩ (c_X5_whyNotTell l D T a0 x0 (x0.1 4) (x0.1 5) (x0.1 6) t17 et17) (cwV 3 hts gX5_does_X5_whyNotTell rfl rfl rfl hdV_X5_whyNotTell ⟨Nat.le_of_ble_eq_true rfl, Nat.le_of_ble_eq_true rfl⟩) ⟨PB_blind, va_recv hK.1 hP (ci := 5) (q0 := 0) rfl rfl, PB_at hP hK⟩ rfl rfl hl.1 rfl (lv_room (Nat.le_of_ble_eq_true rfl)) dX5_does_21 ⟨Nat.zero_le _, Nat.zero_le _⟩) ?_
  refine lv_goto (tgt := 62) hx hb dX5_does_24 (by decide) ?_
  refine lv_istore_n (lv' := [(1, .int t17), (0, .ref (a0 0))]) hx hb dX5_does_62 rfl hl (by decide) rfl (fun ls hl => ?_)
  refine lv_iload_n hx hb dX5_does_63 rfl (lv_at hl 0 rfl) ?_
  refine lv_if_le (tgt := 69) hx hb dX5_does_64 (by decide) (fun c18 => ?_) (fun c18 => ?_)
  · replace h := ip c18 h
    refine lv_aload_n hx hb dX5_does_69 rfl (lv_at hl 1 rfl) ?_
    refine va_get (D := D) (ci := 5) (v := .int (x0.1 6)) (C := RX5) (T := TX5) (N := 11) hx hb hts inX5_does_5 hown hK.1 hP 0 rfl rfl 10 (by decide) (hts (.fieldLink RX5 154 "LyingScaleModel" "what" "I") (List.mem_of_getElem? (i := 1) rfl)) (fun _ h9 => h9) rfl dX5_does_70 ?_
    refine lv_iconst (v := 3) hx hb dX5_does_73 (by decide) ?_
    refine lv_icmp_ge (tgt := 96) hx hb dX5_does_74 (by decide) (fun c19 => ?_) (fun c19 => ?_)
    · replace h := ip c19 h
      refine lv_aload_n hx hb dX5_does_96 rfl (lv_at hl 1 rfl) ?_
      refine va_get (D := D) (ci := 5) (v := .int (x0.1 6)) (C := RX5) (T := TX5) (N := 11) hx hb hts inX5_does_5 hown hK.1 hP 0 rfl rfl 10 (by decide) (hts (.fieldLink RX5 154 "LyingScaleModel" "what" "I") (List.mem_of_getElem? (i := 1) rfl)) (fun _ h9 => h9) rfl dX5_does_97 ?_
      refine lv_iconst (v := 3) hx hb dX5_does_100 (by decide) ?_
      refine lv_icmp_ne (tgt := 120) hx hb dX5_does_101 (by decide) (fun c20 => ?_) (fun c20 => ?_)
      · replace h := im c20 h
        refine lv_aload_n hx hb dX5_does_120 rfl (lv_at hl 1 rfl) ?_
        refine lv_aload_n hx hb dX5_does_121 rfl (lv_at hl 1 rfl) ?_
        refine va_get (D := D) (ci := 5) (v := .int (x0.1 4)) (C := RX5) (T := TX5) (N := 11) hx hb hts inX5_does_5 hown hK.1 hP 0 rfl rfl 8 (by decide) (hts (.fieldLink RX5 145 "LyingScaleModel" "left" "I") (List.mem_of_getElem? (i := 2) rfl)) (fun _ h9 => h9) rfl dX5_does_122 ?_
        refine lv_aload_n hx hb dX5_does_125 rfl (lv_at hl 1 rfl) ?_
        refine va_get (D := D) (ci := 5) (v := .int (x0.1 5)) (C := RX5) (T := TX5) (N := 11) hx hb hts inX5_does_5 hown hK.1 hP 0 rfl rfl 9 (by decide) (hts (.fieldLink RX5 148 "LyingScaleModel" "right" "I") (List.mem_of_getElem? (i := 3) rfl)) (fun _ h9 => h9) rfl dX5_does_126 ?_
        replace h := bd h
        obtain ⟨t21, et21, h⟩ := h
        refine callMi (wr := []) (ws' := mdW T a0 (t21.2)) (va_runV (As := [.int (x0.1 4), .int (x0.1 5)]) (rest := []) ⟨hx, hb, hml, hown, hts⟩ (c_X5_adds l D T a0 x0 (x0.1 4) (x0.1 5) _ t21 et21) (cwV 2 hts gX5_does_X5_adds rfl rfl rfl hdV_X5_adds ⟨Nat.le_of_ble_eq_true rfl, Nat.le_of_ble_eq_true rfl⟩) ⟨PM_blind, va_recv hK.1 hP (ci := 5) (q0 := 0) rfl rfl, PM_at hP hD hK⟩ rfl rfl hl.1 rfl (lv_room (Nat.le_of_ble_eq_true rfl)) dX5_does_129 ⟨Nat.zero_le _, Nat.zero_le _⟩) hS hA hP hD [0, 1, 2, 3, 4] [] rfl rfl (by decide) (by decide) [0, 1, 2, 3, 4] (by decide) rfl (fun H locs hP hD hS => ?_)
        refine lv_pop hx hb dX5_does_132 rfl ?_
        refine lv_iconst (v := 1) hx hb dX5_does_133 (by decide) ?_
        obtain rfl := Option.some.inj h
        exact W.zret hx hb hr rfl (fun t ht hW => ⟨⟨_, (), rfl, rfl, by rw [ht]; exact hP, hD⟩, hS.F ht⟩) hS.2.2 dX5_does_134 hlocks
      replace h := ip c20 h
      refine lv_aload_n hx hb dX5_does_104 rfl (lv_at hl 1 rfl) ?_
      refine lv_aload_n hx hb dX5_does_105 rfl (lv_at hl 1 rfl) ?_
      refine va_get (D := D) (ci := 5) (v := .int (x0.1 4)) (C := RX5) (T := TX5) (N := 11) hx hb hts inX5_does_5 hown hK.1 hP 0 rfl rfl 8 (by decide) (hts (.fieldLink RX5 145 "LyingScaleModel" "left" "I") (List.mem_of_getElem? (i := 2) rfl)) (fun _ h9 => h9) rfl dX5_does_106 ?_
      refine lv_aload_n hx hb dX5_does_109 rfl (lv_at hl 1 rfl) ?_
      refine va_get (D := D) (ci := 5) (v := .int (x0.1 5)) (C := RX5) (T := TX5) (N := 11) hx hb hts inX5_does_5 hown hK.1 hP 0 rfl rfl 9 (by decide) (hts (.fieldLink RX5 148 "LyingScaleModel" "right" "I") (List.mem_of_getElem? (i := 3) rfl)) (fun _ h9 => h9) rfl dX5_does_110 ?_
      replace h := bd h
      obtain ⟨t22, et22, h⟩ := h
      refine callMi (wr := []) (ws' := mdW T a0 (t22.2)) (va_runV (As := [.int (x0.1 4), .int (x0.1 5)]) (rest := []) ⟨hx, hb, hml, hown, hts⟩ (c_X5_asks l D T a0 x0 (x0.1 4) (x0.1 5) _ t22 et22) (cwV 2 hts gX5_does_X5_asks rfl rfl rfl hdV_X5_asks ⟨Nat.le_of_ble_eq_true rfl, Nat.le_of_ble_eq_true rfl⟩) ⟨PM_blind, va_recv hK.1 hP (ci := 5) (q0 := 0) rfl rfl, PM_at hP hD hK⟩ rfl rfl hl.1 rfl (lv_room (Nat.le_of_ble_eq_true rfl)) dX5_does_113 ⟨Nat.zero_le _, Nat.zero_le _⟩) hS hA hP hD [0, 1, 2, 3, 4] [] rfl rfl (by decide) (by decide) [0, 1, 2, 3, 4] (by decide) rfl (fun H locs hP hD hS => ?_)
      refine lv_pop hx hb dX5_does_116 rfl ?_
      refine lv_goto (tgt := 133) hx hb dX5_does_117 (by decide) ?_
      refine lv_iconst (v := 1) hx hb dX5_does_133 (by decide) ?_
      obtain rfl := Option.some.inj h
      exact W.zret hx hb hr rfl (fun t ht hW => ⟨⟨_, (), rfl, rfl, by rw [ht]; exact hP, hD⟩, hS.F ht⟩) hS.2.2 dX5_does_134 hlocks
    replace h := im c19 h
    refine lv_aload_n hx hb dX5_does_77 rfl (lv_at hl 1 rfl) ?_
    refine lv_aload_n hx hb dX5_does_78 rfl (lv_at hl 1 rfl) ?_
    refine va_get (D := D) (ci := 5) (v := .int (x0.1 4)) (C := RX5) (T := TX5) (N := 11) hx hb hts inX5_does_5 hown hK.1 hP 0 rfl rfl 8 (by decide) (hts (.fieldLink RX5 145 "LyingScaleModel" "left" "I") (List.mem_of_getElem? (i := 2) rfl)) (fun _ h9 => h9) rfl dX5_does_79 ?_
    refine lv_aload_n hx hb dX5_does_82 rfl (lv_at hl 1 rfl) ?_
    refine va_get (D := D) (ci := 5) (v := .int (x0.1 5)) (C := RX5) (T := TX5) (N := 11) hx hb hts inX5_does_5 hown hK.1 hP 0 rfl rfl 9 (by decide) (hts (.fieldLink RX5 148 "LyingScaleModel" "right" "I") (List.mem_of_getElem? (i := 3) rfl)) (fun _ h9 => h9) rfl dX5_does_83 ?_
    refine lv_aload_n hx hb dX5_does_86 rfl (lv_at hl 1 rfl) ?_
    refine va_get (D := D) (ci := 5) (v := .int (x0.1 6)) (C := RX5) (T := TX5) (N := 11) hx hb hts inX5_does_5 hown hK.1 hP 0 rfl rfl 10 (by decide) (hts (.fieldLink RX5 154 "LyingScaleModel" "what" "I") (List.mem_of_getElem? (i := 1) rfl)) (fun _ h9 => h9) rfl dX5_does_87 ?_
    replace h := bd h
    obtain ⟨t23, et23, h⟩ := h
    refine callMv (wr := []) (ws' := mdW T a0 (t23)) (va_runV (As := [.int (x0.1 4), .int (x0.1 5), .int (x0.1 6)]) (rest := []) ⟨hx, hb, hml, hown, hts⟩ (c_X5_lays l D T a0 x0 (x0.1 4) (x0.1 5) (x0.1 6) _ t23 et23) (cwV 3 hts gX5_does_X5_lays rfl rfl rfl hdV_X5_lays ⟨Nat.le_of_ble_eq_true rfl, Nat.le_of_ble_eq_true rfl⟩) ⟨PM_blind, va_recv hK.1 hP (ci := 5) (q0 := 0) rfl rfl, PM_at hP hD hK⟩ rfl rfl hl.1 rfl (lv_room (Nat.le_of_ble_eq_true rfl)) dX5_does_90 ⟨Nat.zero_le _, Nat.zero_le _⟩) hS hA hP hD [0, 1, 2, 3, 4] [] rfl rfl (by decide) (by decide) [0, 1, 2, 3, 4] (by decide) rfl (fun H locs hP hD hS => ?_)
    refine lv_goto (tgt := 133) hx hb dX5_does_93 (by decide) ?_
    refine lv_iconst (v := 1) hx hb dX5_does_133 (by decide) ?_
    obtain rfl := Option.some.inj h
    exact W.zret hx hb hr rfl (fun t ht hW => ⟨⟨_, (), rfl, rfl, by rw [ht]; exact hP, hD⟩, hS.F ht⟩) hS.2.2 dX5_does_134 hlocks
  replace h := im c18 h
  refine lv_iconst (v := 0) hx hb dX5_does_67 (by decide) ?_
  obtain rfl := Option.some.inj h
  exact W.zret hx hb hr rfl (fun t ht hW => ⟨⟨_, (), rfl, rfl, by rw [ht]; exact hP, hD⟩, hS.F ht⟩) hS.2.2 dX5_does_68 hlocks
set_option maxHeartbeats 4000000 in
set_option maxRecDepth 100000 in
theorem c_X5_carryOut (l : Launch) (D : va_G) (T : Nat → ClassId) (a0 : Nat → Nat) (x0 : St) (sz : Nat) (r : Int32 × St) (h : F_X5_carryOut x0 = some r) : Met l yX5_carryOut wsX5_carryOut ({ frames := 5, cells := 0, slots := 0, locals := 102 } : Room) (va_Pc [.ref (a0 0)] (PM D T (mdW T a0 (x0)) sz)) (QMi D (mdW T a0 (r.2)) r.1 (va_A (mdW T a0 (x0)) sz)) 0 0 (va_A (mdW T a0 (x0)) sz) := by
  refine met_of (cc := cX5_carryOut) (maxL := 4) (ret := (some .int)) (lv := [(0, .ref (a0 0))]) (by decide) rfl (Nat.le_of_ble_eq_true rfl) rfl ?_
  intro p e s m args below meth c ls C0 hl hB
  obtain ⟨hx, hb, hr, hml, hown, hts, hlocks, hname⟩ := C0
  obtain ⟨hsz, hP, hK, hD0⟩ := hB
  subst hsz
  have hD := hD0.self (sz := s.heap.size)
  generalize hAe : va_A (mdW T a0 (x0)) s.heap.size = A at hD ⊢
  have hA : ∀ q : Nat, s.heap.size ≤ q → A q := fun q h => by rw [← hAe]; exact Or.inr h
  obtain ⟨H, hH⟩ : ∃ H, H = s.heap := ⟨_, rfl⟩
  obtain ⟨locs, hlo⟩ : ∃ L : List Loc, L = [] := ⟨_, rfl⟩
  have hS : va_S A s.heap s.heap [] := va_S.rf
  rw [← hH] at hP ⊢
  rw [← hlo]
  replace hS : va_S A s.heap H locs := by rw [hH, hlo]; exact hS
  clear hH hlo
  unfold F_X5_carryOut at h
  refine lv_aload_n hx hb dX5_carryOut_0 rfl (lv_at hl 0 rfl) ?_
  replace h := bd h
  obtain ⟨t1, et1, h⟩ := h
  refine callMi (wr := []) (ws' := mdW T a0 (t1.2)) (va_runV (As := []) (rest := []) ⟨hx, hb, hml, hown, hts⟩ (c_X5_wrong l D T a0 x0 _ t1 et1) (cwV 0 hts gX5_carryOut_X5_wrong rfl rfl rfl hdV_X5_wrong ⟨Nat.le_of_ble_eq_true rfl, Nat.le_of_ble_eq_true rfl⟩) ⟨PM_blind, va_recv hK.1 hP (ci := 5) (q0 := 0) rfl rfl, PM_at hP hD hK⟩ rfl rfl hl.1 rfl (lv_room (Nat.le_of_ble_eq_true rfl)) dX5_carryOut_1 ⟨Nat.zero_le _, Nat.zero_le _⟩) hS hA hP hD [0, 1, 2, 3, 4] [] rfl rfl (by decide) (by decide) [0, 1, 2, 3, 4] (by decide) rfl (fun H locs hP hD hS => ?_)
  refine lv_istore_n (lv' := [(1, .int t1.1), (0, .ref (a0 0))]) hx hb dX5_carryOut_4 rfl hl (by decide) rfl (fun ls hl => ?_)
  refine lv_iload_n hx hb dX5_carryOut_5 rfl (lv_at hl 0 rfl) ?_
  refine lv_if_lt (tgt := 18) hx hb dX5_carryOut_6 (by decide) (fun c2 => ?_) (fun c2 => ?_)
  · replace h := ip c2 h
    refine lv_aload_n hx hb dX5_carryOut_18 rfl (lv_at hl 1 rfl) ?_
    replace h := bd h
    obtain ⟨t3, et3, h⟩ := h
    refine callMv (wr := []) (ws' := mdW T a0 (t3)) (va_runV (As := []) (rest := []) ⟨hx, hb, hml, hown, hts⟩ (c_X5_begins l D T a0 t1.2 _ t3 et3) (cwV 0 hts gX5_carryOut_X5_begins rfl rfl rfl hdV_X5_begins ⟨Nat.le_of_ble_eq_true rfl, Nat.le_of_ble_eq_true rfl⟩) ⟨PM_blind, va_recv hK.1 hP (ci := 5) (q0 := 0) rfl rfl, PM_at hP hD hK⟩ rfl rfl hl.1 rfl (lv_room (Nat.le_of_ble_eq_true rfl)) dX5_carryOut_19 ⟨Nat.zero_le _, Nat.zero_le _⟩) hS hA hP hD [0, 1, 2, 3, 4] [] rfl rfl (by decide) (by decide) [0, 1, 2, 3, 4] (by decide) rfl (fun H locs hP hD hS => ?_)
    refine lv_aload_n hx hb dX5_carryOut_22 rfl (lv_at hl 1 rfl) ?_
    refine lv_iconst (v := 0) hx hb dX5_carryOut_23 (by decide) ?_
    refine va_put (D := D) (ci := 5) (v := .int 0) (ty := .int) (C := RX5) (T := TX5) (N := 11) hx hb hts inX5_carryOut_5 tyX5 tyX5_ok nmX5 hown hK.1 hP hD hS 0 rfl rfl 7 (by decide) (hts (.fieldLink RX5 133 "LyingScaleModel" "at" "I") (List.mem_of_getElem? (i := 1) rfl)) (fun _ h9 => h9) rfl (by decide +kernel) rfl rfl (Nat.le_of_ble_eq_true rfl) dX5_carryOut_24 (fun H locs hP hD hS => ?_)
    replace hP : va_P D vwCl (mdW T a0 (sI t3 3 0)) H := hP
    replace hD : va_D A (mdW T a0 (sI t3 3 0)) := hD
    refine lv_iconst (v := 0) hx hb dX5_carryOut_27 (by decide) ?_
    refine lv_istore_n (lv' := [(2, .int 0), (1, .int t1.1), (0, .ref (a0 0))]) hx hb dX5_carryOut_28 rfl hl (by decide) rfl (fun ls hl => ?_)
    refine lv_iconst (v := 1) hx hb dX5_carryOut_29 (by decide) ?_
    refine lv_istore_n (lv' := [(3, .int 1), (2, .int 0), (1, .int t1.1), (0, .ref (a0 0))]) hx hb dX5_carryOut_30 rfl hl (by decide) rfl (fun ls hl => ?_)
    have K31 : ∀ (n31 : Nat) (i2_31 : Int32) (i3_31 : Int32) (x0_31 : St) (H : Heap) (locs : List Loc) (ls : Array Slot), fx3 (B_X5_carryOut_31) n31 i2_31 i3_31 x0_31 = some r → va_P D vwCl (mdW T a0 (x0_31)) H → va_D A (mdW T a0 (x0_31)) → va_S A s.heap H locs → lv_has ls 4 [(0, .ref (a0 0)), (1, .int t1.1), (2, .int i2_31), (3, .int i3_31)] → W p l e ({ frames := 5, cells := 0, slots := 0, locals := 102 } : Room) s m args below meth c H locs 0 0 (MQ below (QMi D (mdW T a0 (r.2)) r.1 A) args s 0 0 (A)) (F0 m 31 ls []) := by
      intro n31
      induction n31 with
      | zero =>
          intro i2_31 i3_31 x0_31 H locs ls h
          cases h
      | succ n31 ih31 =>
          intro i2_31 i3_31 x0_31 H locs ls h hP hD hS hl
          replace h : B_X5_carryOut_31 (fx3 (B_X5_carryOut_31) n31) i2_31 i3_31 x0_31 = some r := h
          unfold B_X5_carryOut_31 at h
          refine lv_aload_n hx hb dX5_carryOut_31 rfl (lv_at hl 0 rfl) ?_
          refine va_get (D := D) (ci := 5) (v := .int (x0_31.1 3)) (C := RX5) (T := TX5) (N := 11) hx hb hts inX5_carryOut_5 hown hK.1 hP 0 rfl rfl 7 (by decide) (hts (.fieldLink RX5 133 "LyingScaleModel" "at" "I") (List.mem_of_getElem? (i := 1) rfl)) (fun _ h9 => h9) rfl dX5_carryOut_32 ?_
          refine lv_aload_n hx hb dX5_carryOut_35 rfl (lv_at hl 0 rfl) ?_
          refine va_get (D := D) (ci := 5) (v := .int (x0_31.1 2)) (C := RX5) (T := TX5) (N := 11) hx hb hts inX5_carryOut_5 hown hK.1 hP 0 rfl rfl 6 (by decide) (hts (.fieldLink RX5 130 "LyingScaleModel" "typed" "I") (List.mem_of_getElem? (i := 2) rfl)) (fun _ h9 => h9) rfl dX5_carryOut_36 ?_
          refine lv_icmp_ge (tgt := 71) hx hb dX5_carryOut_39 (by decide) (fun c4 => ?_) (fun c4 => ?_)
          · replace h := ip c4 h
            refine lv_aload_n hx hb dX5_carryOut_71 rfl (lv_at hl 0 rfl) ?_
            refine lv_iload_n hx hb dX5_carryOut_72 rfl (lv_at hl 2 rfl) ?_
            replace h := bd h
            obtain ⟨t5, et5, h⟩ := h
            refine callMi (wr := []) (ws' := mdW T a0 (t5.2)) (va_runV (As := [.int i2_31]) (rest := []) ⟨hx, hb, hml, hown, hts⟩ (c_X5_saved l D T a0 x0_31 i2_31 _ t5 et5) (cwV 1 hts gX5_carryOut_X5_saved rfl rfl rfl hdV_X5_saved ⟨Nat.le_of_ble_eq_true rfl, Nat.le_of_ble_eq_true rfl⟩) ⟨PM_blind, va_recv hK.1 hP (ci := 5) (q0 := 0) rfl rfl, PM_at hP hD hK⟩ rfl rfl hl.1 rfl (lv_room (Nat.le_of_ble_eq_true rfl)) dX5_carryOut_73 ⟨Nat.zero_le _, Nat.zero_le _⟩) hS hA hP hD [0, 1, 2, 3, 4] [] rfl rfl (by decide) (by decide) [0, 1, 2, 3, 4] (by decide) rfl (fun H locs hP hD hS => ?_)
            obtain rfl := Option.some.inj h
            exact W.iret hx hb hr (fun t ht hW => ⟨⟨_, (), rfl, rfl, by rw [ht]; exact hP, hD⟩, hS.F ht⟩) hS.2.2 dX5_carryOut_76 hlocks
          replace h := im c4 h
          refine lv_iload_n hx hb dX5_carryOut_42 rfl (lv_at hl 3 rfl) ?_
          refine lv_if_eq (tgt := 71) hx hb dX5_carryOut_43 (by decide) (fun c6 => ?_) (fun c6 => ?_)
          · replace h := ip c6 h
            refine lv_aload_n hx hb dX5_carryOut_71 rfl (lv_at hl 0 rfl) ?_
            refine lv_iload_n hx hb dX5_carryOut_72 rfl (lv_at hl 2 rfl) ?_
            replace h := bd h
            obtain ⟨t7, et7, h⟩ := h
            refine callMi (wr := []) (ws' := mdW T a0 (t7.2)) (va_runV (As := [.int i2_31]) (rest := []) ⟨hx, hb, hml, hown, hts⟩ (c_X5_saved l D T a0 x0_31 i2_31 _ t7 et7) (cwV 1 hts gX5_carryOut_X5_saved rfl rfl rfl hdV_X5_saved ⟨Nat.le_of_ble_eq_true rfl, Nat.le_of_ble_eq_true rfl⟩) ⟨PM_blind, va_recv hK.1 hP (ci := 5) (q0 := 0) rfl rfl, PM_at hP hD hK⟩ rfl rfl hl.1 rfl (lv_room (Nat.le_of_ble_eq_true rfl)) dX5_carryOut_73 ⟨Nat.zero_le _, Nat.zero_le _⟩) hS hA hP hD [0, 1, 2, 3, 4] [] rfl rfl (by decide) (by decide) [0, 1, 2, 3, 4] (by decide) rfl (fun H locs hP hD hS => ?_)
            obtain rfl := Option.some.inj h
            exact W.iret hx hb hr (fun t ht hW => ⟨⟨_, (), rfl, rfl, by rw [ht]; exact hP, hD⟩, hS.F ht⟩) hS.2.2 dX5_carryOut_76 hlocks
          replace h := im c6 h
          refine lv_aload_n hx hb dX5_carryOut_46 rfl (lv_at hl 0 rfl) ?_
          replace h := bd h
          obtain ⟨t8, et8, h⟩ := h
          refine callMi (wr := []) (ws' := mdW T a0 (t8.2)) (va_runV (As := []) (rest := []) ⟨hx, hb, hml, hown, hts⟩ (c_X5_reads l D T a0 x0_31 _ t8 et8) (cwV 0 hts gX5_carryOut_X5_reads rfl rfl rfl hdV_X5_reads ⟨Nat.le_of_ble_eq_true rfl, Nat.le_of_ble_eq_true rfl⟩) ⟨PM_blind, va_recv hK.1 hP (ci := 5) (q0 := 0) rfl rfl, PM_at hP hD hK⟩ rfl rfl hl.1 rfl (lv_room (Nat.le_of_ble_eq_true rfl)) dX5_carryOut_47 ⟨Nat.zero_le _, Nat.zero_le _⟩) hS hA hP hD [0, 1, 2, 3, 4] [] rfl rfl (by decide) (by decide) [0, 1, 2, 3, 4] (by decide) rfl (fun H locs hP hD hS => ?_)
          refine lv_pop hx hb dX5_carryOut_50 rfl ?_
          refine lv_aload_n hx hb dX5_carryOut_51 rfl (lv_at hl 0 rfl) ?_
          replace h := bd h
          obtain ⟨t9, et9, h⟩ := h
          refine callMi (wr := []) (ws' := mdW T a0 (t9.2)) (va_runV (As := []) (rest := []) ⟨hx, hb, hml, hown, hts⟩ (c_X5_does l D T a0 t8.2 _ t9 et9) (cwV 0 hts gX5_carryOut_X5_does rfl rfl rfl hdV_X5_does ⟨Nat.le_of_ble_eq_true rfl, Nat.le_of_ble_eq_true rfl⟩) ⟨PM_blind, va_recv hK.1 hP (ci := 5) (q0 := 0) rfl rfl, PM_at hP hD hK⟩ rfl rfl hl.1 rfl (lv_room (Nat.le_of_ble_eq_true rfl)) dX5_carryOut_52 ⟨Nat.zero_le _, Nat.zero_le _⟩) hS hA hP hD [0, 1, 2, 3, 4] [] rfl rfl (by decide) (by decide) [0, 1, 2, 3, 4] (by decide) rfl (fun H locs hP hD hS => ?_)
          refine lv_istore_n (lv' := [(3, .int t9.1), (0, .ref (a0 0)), (1, .int t1.1), (2, .int i2_31)]) hx hb dX5_carryOut_55 rfl hl (by decide) rfl (fun ls hl => ?_)
          refine lv_iload_n hx hb dX5_carryOut_56 rfl (lv_at hl 3 rfl) ?_
          refine lv_iload_n hx hb dX5_carryOut_57 rfl (lv_at hl 0 rfl) ?_
          refine lv_if_eq (tgt := 65) hx hb dX5_carryOut_58 (by decide) (fun c10 => ?_) (fun c10 => ?_)
          · replace h := ip c10 h
            refine lv_iconst (v := 0) hx hb dX5_carryOut_65 (by decide) ?_
            refine lv_iadd hx hb dX5_carryOut_66 ?_
            refine lv_istore_n (lv' := [(2, .int (i2_31 + 0)), (3, .int t9.1), (0, .ref (a0 0)), (1, .int t1.1)]) hx hb dX5_carryOut_67 rfl hl (by decide) rfl (fun ls hl => ?_)
            refine lv_goto (tgt := 31) hx hb dX5_carryOut_68 (by decide) ?_
            exact ih31 (i2_31 + 0) t9.1 t9.2 _ _ ls h hP hD hS (lv_sub hl [2, 3, 0, 1] rfl)
          replace h := im c10 h
          refine lv_iconst (v := 1) hx hb dX5_carryOut_61 (by decide) ?_
          refine lv_goto (tgt := 66) hx hb dX5_carryOut_62 (by decide) ?_
          refine lv_iadd hx hb dX5_carryOut_66 ?_
          refine lv_istore_n (lv' := [(2, .int (i2_31 + 1)), (3, .int t9.1), (0, .ref (a0 0)), (1, .int t1.1)]) hx hb dX5_carryOut_67 rfl hl (by decide) rfl (fun ls hl => ?_)
          refine lv_goto (tgt := 31) hx hb dX5_carryOut_68 (by decide) ?_
          exact ih31 (i2_31 + 1) t9.1 t9.2 _ _ ls h hP hD hS (lv_sub hl [2, 3, 0, 1] rfl)
    exact K31 1000 0 1 (sI t3 3 0) _ _ ls h hP hD hS (lv_sub hl [3, 2, 1, 0] rfl)
  replace h := im c2 h
  refine lv_aload_n hx hb dX5_carryOut_9 rfl (lv_at hl 1 rfl) ?_
  refine lv_bipush (v := (-10)) hx hb dX5_carryOut_10 (by decide) ?_
  refine lv_iload_n hx hb dX5_carryOut_12 rfl (lv_at hl 0 rfl) ?_
  refine lv_isub hx hb dX5_carryOut_13 ?_
  replace h := bd h
  obtain ⟨t11, et11, h⟩ := h
  refine callMi (wr := []) (ws' := mdW T a0 (t11.2)) (va_runV (As := [.int (((-10)) - t1.1)]) (rest := []) ⟨hx, hb, hml, hown, hts⟩ (c_X5_tells l D T a0 t1.2 (((-10)) - t1.1) _ t11 et11) (cwV 1 hts gX5_carryOut_X5_tells rfl rfl rfl hdV_X5_tells ⟨Nat.le_of_ble_eq_true rfl, Nat.le_of_ble_eq_true rfl⟩) ⟨PM_blind, va_recv hK.1 hP (ci := 5) (q0 := 0) rfl rfl, PM_at hP hD hK⟩ rfl rfl hl.1 rfl (lv_room (Nat.le_of_ble_eq_true rfl)) dX5_carryOut_14 ⟨Nat.zero_le _, Nat.zero_le _⟩) hS hA hP hD [0, 1, 2, 3, 4] [] rfl rfl (by decide) (by decide) [0, 1, 2, 3, 4] (by decide) rfl (fun H locs hP hD hS => ?_)
  obtain rfl := Option.some.inj h
  exact W.iret hx hb hr (fun t ht hW => ⟨⟨_, (), rfl, rfl, by rw [ht]; exact hP, hD⟩, hS.F ht⟩) hS.2.2 dX5_carryOut_17 hlocks
set_option maxHeartbeats 4000000 in
set_option maxRecDepth 100000 in
theorem c_X5_undo (l : Launch) (D : va_G) (T : Nat → ClassId) (a0 : Nat → Nat) (x0 : St) (sz : Nat) (r : Int32 × St) (h : F_X5_undo x0 = some r) : Met l yX5_undo wsX5_undo ({ frames := 1, cells := 0, slots := 0, locals := 21 } : Room) (va_Pc [.ref (a0 0)] (PM D T (mdW T a0 (x0)) sz)) (QMi D (mdW T a0 (r.2)) r.1 (va_A (mdW T a0 (x0)) sz)) 0 0 (va_A (mdW T a0 (x0)) sz) := by
  refine met_of (cc := cX5_undo) (maxL := 2) (ret := (some .int)) (lv := [(0, .ref (a0 0))]) (by decide) rfl (Nat.le_of_ble_eq_true rfl) rfl ?_
  intro p e s m args below meth c ls C0 hl hB
  obtain ⟨hx, hb, hr, hml, hown, hts, hlocks, hname⟩ := C0
  obtain ⟨hsz, hP, hK, hD0⟩ := hB
  subst hsz
  have hD := hD0.self (sz := s.heap.size)
  generalize hAe : va_A (mdW T a0 (x0)) s.heap.size = A at hD ⊢
  have hA : ∀ q : Nat, s.heap.size ≤ q → A q := fun q h => by rw [← hAe]; exact Or.inr h
  obtain ⟨H, hH⟩ : ∃ H, H = s.heap := ⟨_, rfl⟩
  obtain ⟨locs, hlo⟩ : ∃ L : List Loc, L = [] := ⟨_, rfl⟩
  have hS : va_S A s.heap s.heap [] := va_S.rf
  rw [← hH] at hP ⊢
  rw [← hlo]
  replace hS : va_S A s.heap H locs := by rw [hH, hlo]; exact hS
  clear hH hlo
  unfold F_X5_undo at h
  refine lv_aload_n hx hb dX5_undo_0 rfl (lv_at hl 0 rfl) ?_
  refine va_get (D := D) (ci := 5) (v := .int (x0.1 0)) (C := RX5) (T := TX5) (N := 11) hx hb hts inX5_undo_5 hown hK.1 hP 0 rfl rfl 3 (by decide) (hts (.fieldLink RX5 31 "LyingScaleModel" "pasts" "I") (List.mem_of_getElem? (i := 1) rfl)) (fun _ h9 => h9) rfl dX5_undo_1 ?_
  refine lv_if_ne (tgt := 13) hx hb dX5_undo_4 (by decide) (fun c1 => ?_) (fun c1 => ?_)
  · replace h := im c1 h
    refine lv_aload_n hx hb dX5_undo_13 rfl (lv_at hl 0 rfl) ?_
    refine lv_dup hx hb dX5_undo_14 rfl ?_
    refine va_get (D := D) (ci := 5) (v := .int (x0.1 0)) (C := RX5) (T := TX5) (N := 11) hx hb hts inX5_undo_5 hown hK.1 hP 0 rfl rfl 3 (by decide) (hts (.fieldLink RX5 31 "LyingScaleModel" "pasts" "I") (List.mem_of_getElem? (i := 1) rfl)) (fun _ h9 => h9) rfl dX5_undo_15 ?_
    refine lv_iconst (v := 1) hx hb dX5_undo_18 (by decide) ?_
    refine lv_isub hx hb dX5_undo_19 ?_
    refine va_put (D := D) (ci := 5) (v := .int ((x0.1 0) - 1)) (ty := .int) (C := RX5) (T := TX5) (N := 11) hx hb hts inX5_undo_5 tyX5 tyX5_ok nmX5 hown hK.1 hP hD hS 0 rfl rfl 3 (by decide) (hts (.fieldLink RX5 31 "LyingScaleModel" "pasts" "I") (List.mem_of_getElem? (i := 1) rfl)) (fun _ h9 => h9) rfl (by decide +kernel) rfl rfl (Nat.le_of_ble_eq_true rfl) dX5_undo_20 (fun H locs hP hD hS => ?_)
    replace hP : va_P D vwCl (mdW T a0 (sI x0 0 ((x0.1 0) - 1))) H := hP
    replace hD : va_D A (mdW T a0 (sI x0 0 ((x0.1 0) - 1))) := hD
    refine lv_iconst (v := 0) hx hb dX5_undo_23 (by decide) ?_
    refine lv_istore_n (lv' := [(1, .int 0), (0, .ref (a0 0))]) hx hb dX5_undo_24 rfl hl (by decide) rfl (fun ls hl => ?_)
    have K25 : ∀ (n25 : Nat) (i1_25 : Int32) (x0_25 : St) (H : Heap) (locs : List Loc) (ls : Array Slot), fx2 (B_X5_undo_25) n25 i1_25 x0_25 = some r → va_P D vwCl (mdW T a0 (x0_25)) H → va_D A (mdW T a0 (x0_25)) → va_S A s.heap H locs → lv_has ls 2 [(0, .ref (a0 0)), (1, .int i1_25)] → W p l e ({ frames := 1, cells := 0, slots := 0, locals := 21 } : Room) s m args below meth c H locs 0 0 (MQ below (QMi D (mdW T a0 (r.2)) r.1 A) args s 0 0 (A)) (F0 m 25 ls []) := by
      intro n25
      induction n25 with
      | zero =>
          intro i1_25 x0_25 H locs ls h
          cases h
      | succ n25 ih25 =>
          intro i1_25 x0_25 H locs ls h hP hD hS hl
          replace h : B_X5_undo_25 (fx2 (B_X5_undo_25) n25) i1_25 x0_25 = some r := h
          unfold B_X5_undo_25 at h
          refine lv_iload_n hx hb dX5_undo_25 rfl (lv_at hl 1 rfl) ?_
          refine lv_sipush (v := 176) hx hb dX5_undo_26 (by decide) ?_
          refine lv_icmp_ge (tgt := 59) hx hb dX5_undo_29 (by decide) (fun c2 => ?_) (fun c2 => ?_)
          · replace h := ip c2 h
            refine lv_aload_n hx hb dX5_undo_59 rfl (lv_at hl 0 rfl) ?_
            refine lv_aload_n hx hb dX5_undo_60 rfl (lv_at hl 0 rfl) ?_
            refine va_get (D := D) (ci := 5) (v := .int (x0_25.1 0)) (C := RX5) (T := TX5) (N := 11) hx hb hts inX5_undo_5 hown hK.1 hP 0 rfl rfl 3 (by decide) (hts (.fieldLink RX5 31 "LyingScaleModel" "pasts" "I") (List.mem_of_getElem? (i := 1) rfl)) (fun _ h9 => h9) rfl dX5_undo_61 ?_
            replace h := bd h
            obtain ⟨t3, et3, h⟩ := h
            refine callMi (wr := []) (ws' := mdW T a0 (t3.2)) (va_runV (As := [.int (x0_25.1 0)]) (rest := []) ⟨hx, hb, hml, hown, hts⟩ (c_X5_tells l D T a0 x0_25 (x0_25.1 0) _ t3 et3) (cwV 1 hts gX5_undo_X5_tells rfl rfl rfl hdV_X5_tells ⟨Nat.le_of_ble_eq_true rfl, Nat.le_of_ble_eq_true rfl⟩) ⟨PM_blind, va_recv hK.1 hP (ci := 5) (q0 := 0) rfl rfl, PM_at hP hD hK⟩ rfl rfl hl.1 rfl (lv_room (Nat.le_of_ble_eq_true rfl)) dX5_undo_64 ⟨Nat.zero_le _, Nat.zero_le _⟩) hS hA hP hD [0, 1, 2, 3, 4] [] rfl rfl (by decide) (by decide) [0, 1, 2, 3, 4] (by decide) rfl (fun H locs hP hD hS => ?_)
            obtain rfl := Option.some.inj h
            exact W.iret hx hb hr (fun t ht hW => ⟨⟨_, (), rfl, rfl, by rw [ht]; exact hP, hD⟩, hS.F ht⟩) hS.2.2 dX5_undo_67 hlocks
          replace h := im c2 h
          refine lv_aload_n hx hb dX5_undo_32 rfl (lv_at hl 0 rfl) ?_
          refine va_get (D := D) (ci := 5) (v := .ref (a0 1)) (C := RX5) (T := TX5) (N := 11) hx hb hts inX5_undo_5 hown hK.1 hP 0 rfl rfl 0 (by decide) (hts (.fieldLink RX5 7 "LyingScaleModel" "s" "[I") (List.mem_of_getElem? (i := 2) rfl)) (fun _ h9 => h9) rfl dX5_undo_33 ?_
          refine lv_iload_n hx hb dX5_undo_36 rfl (lv_at hl 1 rfl) ?_
          refine lv_aload_n hx hb dX5_undo_37 rfl (lv_at hl 0 rfl) ?_
          refine va_get (D := D) (ci := 5) (v := .ref (a0 2)) (C := RX5) (T := TX5) (N := 11) hx hb hts inX5_undo_5 hown hK.1 hP 0 rfl rfl 1 (by decide) (hts (.fieldLink RX5 13 "LyingScaleModel" "past" "[I") (List.mem_of_getElem? (i := 3) rfl)) (fun _ h9 => h9) rfl dX5_undo_38 ?_
          refine lv_sipush (v := 176) hx hb dX5_undo_41 (by decide) ?_
          refine lv_aload_n hx hb dX5_undo_44 rfl (lv_at hl 0 rfl) ?_
          refine va_get (D := D) (ci := 5) (v := .int (x0_25.1 0)) (C := RX5) (T := TX5) (N := 11) hx hb hts inX5_undo_5 hown hK.1 hP 0 rfl rfl 3 (by decide) (hts (.fieldLink RX5 31 "LyingScaleModel" "pasts" "I") (List.mem_of_getElem? (i := 1) rfl)) (fun _ h9 => h9) rfl dX5_undo_45 ?_
          refine lv_imul hx hb dX5_undo_48 ?_
          refine lv_iload_n hx hb dX5_undo_49 rfl (lv_at hl 1 rfl) ?_
          refine lv_iadd hx hb dX5_undo_50 ?_
          replace h := gd h
          obtain ⟨g4, h⟩ := h
          refine va_iald hx hb hK.1 hP 2 0 rfl rfl g4 dX5_undo_51 ?_
          replace h := gd h
          obtain ⟨g5, h⟩ := h
          refine va_iast hx hb hK.1 hP hD hS 1 0 rfl rfl g5 dX5_undo_52 (fun H locs hP hD hS => ?_)
          replace hP : va_P D vwCl (mdW T a0 (sA x0_25 0 (upd (x0_25.2 0) i1_25.toNatClampNeg ((x0_25.2 1) ((176 * (x0_25.1 0)) + i1_25).toNatClampNeg)))) H := hP
          replace hD : va_D A (mdW T a0 (sA x0_25 0 (upd (x0_25.2 0) i1_25.toNatClampNeg ((x0_25.2 1) ((176 * (x0_25.1 0)) + i1_25).toNatClampNeg)))) := hD
          replace h := bd h
          obtain ⟨y6, ey6, h⟩ := h
          rw [Option.some.inj ey6] at hP hD
          refine lv_iinc (v := i1_25 + 1) (lv' := [(1, .int (i1_25 + 1)), (0, .ref (a0 0))]) hx hb dX5_undo_53 hl (k := 1) rfl rfl (by decide) rfl (fun ls hl => ?_)
          refine lv_goto (tgt := 25) hx hb dX5_undo_56 (by decide) ?_
          exact ih25 (i1_25 + 1) y6 _ _ ls h hP hD hS (lv_sub hl [1, 0] rfl)
    exact K25 1000 0 (sI x0 0 ((x0.1 0) - 1)) _ _ ls h hP hD hS (lv_sub hl [1, 0] rfl)
  replace h := ip c1 h
  refine lv_aload_n hx hb dX5_undo_7 rfl (lv_at hl 0 rfl) ?_
  refine lv_iconst (v := 1) hx hb dX5_undo_8 (by decide) ?_
  replace h := bd h
  obtain ⟨t7, et7, h⟩ := h
  refine callMi (wr := []) (ws' := mdW T a0 (t7.2)) (va_runV (As := [.int 1]) (rest := []) ⟨hx, hb, hml, hown, hts⟩ (c_X5_fails l D T a0 x0 1 _ t7 et7) (cwV 1 hts gX5_undo_X5_fails rfl rfl rfl hdV_X5_fails ⟨Nat.le_of_ble_eq_true rfl, Nat.le_of_ble_eq_true rfl⟩) ⟨PM_blind, va_recv hK.1 hP (ci := 5) (q0 := 0) rfl rfl, PM_at hP hD hK⟩ rfl rfl hl.1 rfl (lv_room (Nat.le_of_ble_eq_true rfl)) dX5_undo_9 ⟨Nat.zero_le _, Nat.zero_le _⟩) hS hA hP hD [0, 1, 2, 3, 4] [] rfl rfl (by decide) (by decide) [0, 1, 2, 3, 4] (by decide) rfl (fun H locs hP hD hS => ?_)
  obtain rfl := Option.some.inj h
  exact W.iret hx hb hr (fun t ht hW => ⟨⟨_, (), rfl, rfl, by rw [ht]; exact hP, hD⟩, hS.F ht⟩) hS.2.2 dX5_undo_12 hlocks
set_option maxHeartbeats 4000000 in
set_option maxRecDepth 100000 in
theorem c_X5_digest (l : Launch) (D : va_G) (T : Nat → ClassId) (a0 : Nat → Nat) (x0 : St) (sz : Nat) (r : Int64 × St) (h : F_X5_digest x0 = some r) : Met l yX5_digest wsX5_digest ({ frames := 3, cells := 0, slots := 0, locals := 83 } : Room) (va_Pc [.ref (a0 0)] (PM D T (mdW T a0 (x0)) sz)) (QMl D (mdW T a0 (r.2)) r.1 (va_A (mdW T a0 (x0)) sz)) 0 0 (va_A (mdW T a0 (x0)) sz) := by
  refine met_of (cc := cX5_digest) (maxL := 4) (ret := (some .long)) (lv := [(0, .ref (a0 0))]) (by decide) rfl (Nat.le_of_ble_eq_true rfl) rfl ?_
  intro p e s m args below meth c ls C0 hl hB
  obtain ⟨hx, hb, hr, hml, hown, hts, hlocks, hname⟩ := C0
  obtain ⟨hsz, hP, hK, hD0⟩ := hB
  subst hsz
  have hD := hD0.self (sz := s.heap.size)
  generalize hAe : va_A (mdW T a0 (x0)) s.heap.size = A at hD ⊢
  have hA : ∀ q : Nat, s.heap.size ≤ q → A q := fun q h => by rw [← hAe]; exact Or.inr h
  obtain ⟨H, hH⟩ : ∃ H, H = s.heap := ⟨_, rfl⟩
  obtain ⟨locs, hlo⟩ : ∃ L : List Loc, L = [] := ⟨_, rfl⟩
  have hS : va_S A s.heap s.heap [] := va_S.rf
  rw [← hH] at hP ⊢
  rw [← hlo]
  replace hS : va_S A s.heap H locs := by rw [hH, hlo]; exact hS
  clear hH hlo
  unfold F_X5_digest at h
  refine lv_aload_n hx hb dX5_digest_0 rfl (lv_at hl 0 rfl) ?_
  refine lv_iconst (v := 0) hx hb dX5_digest_1 (by decide) ?_
  refine va_put (D := D) (ci := 5) (v := .int 0) (ty := .int) (C := RX5) (T := TX5) (N := 11) hx hb hts inX5_digest_5 tyX5 tyX5_ok nmX5 hown hK.1 hP hD hS 0 rfl rfl 4 (by decide) (hts (.fieldLink RX5 27 "LyingScaleModel" "thrown" "I") (List.mem_of_getElem? (i := 1) rfl)) (fun _ h9 => h9) rfl (by decide +kernel) rfl rfl (Nat.le_of_ble_eq_true rfl) dX5_digest_2 (fun H locs hP hD hS => ?_)
  replace hP : va_P D vwCl (mdW T a0 (sI x0 1 0)) H := hP
  replace hD : va_D A (mdW T a0 (sI x0 1 0)) := hD
  refine lv_ldc2 hx hb hown (hts (.constantLong RX5 167 (118451)) (List.mem_of_getElem? (i := 2) rfl)) dX5_digest_5 ?_
  refine lv_aload_n hx hb dX5_digest_8 rfl (lv_at hl 0 rfl) ?_
  refine va_get (D := D) (ci := 5) (v := .int ((sI x0 1 0).1 2)) (C := RX5) (T := TX5) (N := 11) hx hb hts inX5_digest_5 hown hK.1 hP 0 rfl rfl 6 (by decide) (hts (.fieldLink RX5 130 "LyingScaleModel" "typed" "I") (List.mem_of_getElem? (i := 3) rfl)) (fun _ h9 => h9) rfl dX5_digest_9 ?_
  refine lv_i2l (v := ((sI x0 1 0).1 2).toInt64) hx hb dX5_digest_12 rfl ?_
  refine lv_ladd hx hb dX5_digest_13 ?_
  refine lv_lstore_n (lv' := [(1, .long (118451 + (((sI x0 1 0).1 2).toInt64))), (0, .ref (a0 0))]) hx hb dX5_digest_14 rfl hl (by decide) rfl (fun ls hl => ?_)
  refine lv_iconst (v := 0) hx hb dX5_digest_15 (by decide) ?_
  refine lv_istore_n (lv' := [(3, .int 0), (1, .long (118451 + (((sI x0 1 0).1 2).toInt64))), (0, .ref (a0 0))]) hx hb dX5_digest_16 rfl hl (by decide) rfl (fun ls hl => ?_)
  have K17 : ∀ (n17 : Nat) (i1_17 : Int64) (i3_17 : Int32) (H : Heap) (locs : List Loc) (ls : Array Slot), fx2 (B_X5_digest_17 x0) n17 i1_17 i3_17 = some r → va_P D vwCl (mdW T a0 (sI x0 1 0)) H → va_D A (mdW T a0 (sI x0 1 0)) → va_S A s.heap H locs → lv_has ls 4 [(0, .ref (a0 0)), (1, .long i1_17), (3, .int i3_17)] → W p l e ({ frames := 3, cells := 0, slots := 0, locals := 83 } : Room) s m args below meth c H locs 0 0 (MQ below (QMl D (mdW T a0 (r.2)) r.1 A) args s 0 0 (A)) (F0 m 17 ls []) := by
    intro n17
    induction n17 with
    | zero =>
        intro i1_17 i3_17 H locs ls h
        cases h
    | succ n17 ih17 =>
        intro i1_17 i3_17 H locs ls h hP hD hS hl
        replace h : B_X5_digest_17 x0 (fx2 (B_X5_digest_17 x0) n17) i1_17 i3_17 = some r := h
        unfold B_X5_digest_17 at h
        refine lv_iload_n hx hb dX5_digest_17 rfl (lv_at hl 2 rfl) ?_
        refine lv_bipush (v := 9) hx hb dX5_digest_18 (by decide) ?_
        refine lv_icmp_ge (tgt := 42) hx hb dX5_digest_20 (by decide) (fun c1 => ?_) (fun c1 => ?_)
        · replace h := ip c1 h
          refine lv_iconst (v := 0) hx hb dX5_digest_42 (by decide) ?_
          refine lv_istore_n (lv' := [(3, .int 0), (0, .ref (a0 0)), (1, .long i1_17)]) hx hb dX5_digest_43 rfl hl (by decide) rfl (fun ls hl => ?_)
          have K44 : ∀ (n44 : Nat) (i1_44 : Int64) (i3_44 : Int32) (H : Heap) (locs : List Loc) (ls : Array Slot), fx2 (B_X5_digest_44 x0) n44 i1_44 i3_44 = some r → va_P D vwCl (mdW T a0 (sI x0 1 0)) H → va_D A (mdW T a0 (sI x0 1 0)) → va_S A s.heap H locs → lv_has ls 4 [(0, .ref (a0 0)), (1, .long i1_44), (3, .int i3_44)] → W p l e ({ frames := 3, cells := 0, slots := 0, locals := 83 } : Room) s m args below meth c H locs 0 0 (MQ below (QMl D (mdW T a0 (r.2)) r.1 A) args s 0 0 (A)) (F0 m 44 ls []) := by
            intro n44
            induction n44 with
            | zero =>
                intro i1_44 i3_44 H locs ls h
                cases h
            | succ n44 ih44 =>
                intro i1_44 i3_44 H locs ls h hP hD hS hl
                replace h : B_X5_digest_44 x0 (fx2 (B_X5_digest_44 x0) n44) i1_44 i3_44 = some r := h
                unfold B_X5_digest_44 at h
                refine lv_iload_n hx hb dX5_digest_44 rfl (lv_at hl 2 rfl) ?_
                refine lv_iconst (v := 3) hx hb dX5_digest_45 (by decide) ?_
                refine lv_aload_n hx hb dX5_digest_46 rfl (lv_at hl 0 rfl) ?_
                refine va_get (D := D) (ci := 5) (v := .ref (a0 1)) (C := RX5) (T := TX5) (N := 11) hx hb hts inX5_digest_5 hown hK.1 hP 0 rfl rfl 0 (by decide) (hts (.fieldLink RX5 7 "LyingScaleModel" "s" "[I") (List.mem_of_getElem? (i := 5) rfl)) (fun _ h9 => h9) rfl dX5_digest_47 ?_
                refine lv_iconst (v := 2) hx hb dX5_digest_50 (by decide) ?_
                refine va_iald hx hb hK.1 hP 1 0 rfl rfl (show ¬ ((2 : Int32) < 0 ∨ 176 ≤ Int32.toNatClampNeg 2) from by decide) dX5_digest_51 ?_
                refine eqi (congrArg ((sI x0 1 0).2 0) (show Int32.toNatClampNeg 2 = 2 from by decide)) ?_
                refine lv_imul hx hb dX5_digest_52 ?_
                refine lv_icmp_ge (tgt := 79) hx hb dX5_digest_53 (by decide) (fun c2 => ?_) (fun c2 => ?_)
                · replace h := ip c2 h
                  refine lv_iconst (v := 0) hx hb dX5_digest_79 (by decide) ?_
                  refine lv_istore_n (lv' := [(3, .int 0), (0, .ref (a0 0)), (1, .long i1_44)]) hx hb dX5_digest_80 rfl hl (by decide) rfl (fun ls hl => ?_)
                  have K81 : ∀ (n81 : Nat) (i1_81 : Int64) (i3_81 : Int32) (H : Heap) (locs : List Loc) (ls : Array Slot), fx2 (B_X5_digest_81 x0) n81 i1_81 i3_81 = some r → va_P D vwCl (mdW T a0 (sI x0 1 0)) H → va_D A (mdW T a0 (sI x0 1 0)) → va_S A s.heap H locs → lv_has ls 4 [(0, .ref (a0 0)), (1, .long i1_81), (3, .int i3_81)] → W p l e ({ frames := 3, cells := 0, slots := 0, locals := 83 } : Room) s m args below meth c H locs 0 0 (MQ below (QMl D (mdW T a0 (r.2)) r.1 A) args s 0 0 (A)) (F0 m 81 ls []) := by
                    intro n81
                    induction n81 with
                    | zero =>
                        intro i1_81 i3_81 H locs ls h
                        cases h
                    | succ n81 ih81 =>
                        intro i1_81 i3_81 H locs ls h hP hD hS hl
                        replace h : B_X5_digest_81 x0 (fx2 (B_X5_digest_81 x0) n81) i1_81 i3_81 = some r := h
                        unfold B_X5_digest_81 at h
                        refine lv_iload_n hx hb dX5_digest_81 rfl (lv_at hl 2 rfl) ?_
                        refine lv_aload_n hx hb dX5_digest_82 rfl (lv_at hl 0 rfl) ?_
                        replace h := bd h
                        obtain ⟨t3, et3, h⟩ := h
                        refine callRi (v := t3) (va_runV (As := []) (rest := [.int i3_81]) ⟨hx, hb, hml, hown, hts⟩ (c_X5_cases l D T a0 (sI x0 1 0) t3 et3) (cwV 0 hts gX5_digest_X5_cases rfl rfl rfl hdV_X5_cases ⟨Nat.le_of_ble_eq_true rfl, Nat.le_of_ble_eq_true rfl⟩) ⟨PB_blind, va_recv hK.1 hP (ci := 5) (q0 := 0) rfl rfl, PB_at hP hK⟩ rfl rfl hl.1 rfl (lv_room (Nat.le_of_ble_eq_true rfl)) dX5_digest_83 ⟨Nat.zero_le _, Nat.zero_le _⟩) ?_
                        refine lv_icmp_ge (tgt := 113) hx hb dX5_digest_86 (by decide) (fun c4 => ?_) (fun c4 => ?_)
                        · replace h := ip c4 h
                          refine lv_iconst (v := 0) hx hb dX5_digest_113 (by decide) ?_
                          refine lv_istore_n (lv' := [(3, .int 0), (0, .ref (a0 0)), (1, .long i1_81)]) hx hb dX5_digest_114 rfl hl (by decide) rfl (fun ls hl => ?_)
                          have K115 : ∀ (n115 : Nat) (i1_115 : Int64) (i3_115 : Int32) (H : Heap) (locs : List Loc) (ls : Array Slot), fx2 (B_X5_digest_115 x0) n115 i1_115 i3_115 = some r → va_P D vwCl (mdW T a0 (sI x0 1 0)) H → va_D A (mdW T a0 (sI x0 1 0)) → va_S A s.heap H locs → lv_has ls 4 [(0, .ref (a0 0)), (1, .long i1_115), (3, .int i3_115)] → W p l e ({ frames := 3, cells := 0, slots := 0, locals := 83 } : Room) s m args below meth c H locs 0 0 (MQ below (QMl D (mdW T a0 (r.2)) r.1 A) args s 0 0 (A)) (F0 m 115 ls []) := by
                            intro n115
                            induction n115 with
                            | zero =>
                                intro i1_115 i3_115 H locs ls h
                                cases h
                            | succ n115 ih115 =>
                                intro i1_115 i3_115 H locs ls h hP hD hS hl
                                replace h : B_X5_digest_115 x0 (fx2 (B_X5_digest_115 x0) n115) i1_115 i3_115 = some r := h
                                unfold B_X5_digest_115 at h
                                refine lv_iload_n hx hb dX5_digest_115 rfl (lv_at hl 2 rfl) ?_
                                refine lv_iconst (v := 2) hx hb dX5_digest_116 (by decide) ?_
                                refine lv_aload_n hx hb dX5_digest_117 rfl (lv_at hl 0 rfl) ?_
                                refine va_get (D := D) (ci := 5) (v := .ref (a0 1)) (C := RX5) (T := TX5) (N := 11) hx hb hts inX5_digest_5 hown hK.1 hP 0 rfl rfl 0 (by decide) (hts (.fieldLink RX5 7 "LyingScaleModel" "s" "[I") (List.mem_of_getElem? (i := 5) rfl)) (fun _ h9 => h9) rfl dX5_digest_118 ?_
                                refine lv_iconst (v := 3) hx hb dX5_digest_121 (by decide) ?_
                                refine va_iald hx hb hK.1 hP 1 0 rfl rfl (show ¬ ((3 : Int32) < 0 ∨ 176 ≤ Int32.toNatClampNeg 3) from by decide) dX5_digest_122 ?_
                                refine eqi (congrArg ((sI x0 1 0).2 0) (show Int32.toNatClampNeg 3 = 3 from by decide)) ?_
                                refine lv_imul hx hb dX5_digest_123 ?_
                                refine lv_icmp_ge (tgt := 150) hx hb dX5_digest_124 (by decide) (fun c5 => ?_) (fun c5 => ?_)
                                · replace h := ip c5 h
                                  refine lv_ldc2 hx hb hown (hts (.constantLong RX5 169 (31)) (List.mem_of_getElem? (i := 4) rfl)) dX5_digest_150 ?_
                                  refine lv_lload_n hx hb dX5_digest_153 rfl (lv_at hl 1 rfl) ?_
                                  refine lv_lmul hx hb dX5_digest_154 ?_
                                  refine lv_aload_n hx hb dX5_digest_155 rfl (lv_at hl 0 rfl) ?_
                                  replace h := bd h
                                  obtain ⟨t6, et6, h⟩ := h
                                  refine callRi (v := t6) (va_runV (As := []) (rest := [.long (31 * i1_115)]) ⟨hx, hb, hml, hown, hts⟩ (c_X5_nearest l D T a0 (sI x0 1 0) t6 et6) (cwV 0 hts gX5_digest_X5_nearest rfl rfl rfl hdV_X5_nearest ⟨Nat.le_of_ble_eq_true rfl, Nat.le_of_ble_eq_true rfl⟩) ⟨PB_blind, va_recv hK.1 hP (ci := 5) (q0 := 0) rfl rfl, PB_at hP hK⟩ rfl rfl hl.1 rfl (lv_room (Nat.le_of_ble_eq_true rfl)) dX5_digest_156 ⟨Nat.zero_le _, Nat.zero_le _⟩) ?_
                                  refine lv_i2l (v := t6.toInt64) hx hb dX5_digest_159 rfl ?_
                                  refine lv_ladd hx hb dX5_digest_160 ?_
                                  refine lv_lstore_n (lv' := [(1, .long ((31 * i1_115) + t6.toInt64)), (0, .ref (a0 0)), (3, .int i3_115)]) hx hb dX5_digest_161 rfl hl (by decide) rfl (fun ls hl => ?_)
                                  refine lv_ldc2 hx hb hown (hts (.constantLong RX5 169 (31)) (List.mem_of_getElem? (i := 4) rfl)) dX5_digest_162 ?_
                                  refine lv_lload_n hx hb dX5_digest_165 rfl (lv_at hl 0 rfl) ?_
                                  refine lv_lmul hx hb dX5_digest_166 ?_
                                  refine lv_aload_n hx hb dX5_digest_167 rfl (lv_at hl 1 rfl) ?_
                                  replace h := bd h
                                  obtain ⟨t7, et7, h⟩ := h
                                  refine callRi (v := t7) (va_runV (As := []) (rest := [.long (31 * ((31 * i1_115) + t6.toInt64))]) ⟨hx, hb, hml, hown, hts⟩ (c_X5_least l D T a0 (sI x0 1 0) t7 et7) (cwV 0 hts gX5_digest_X5_least rfl rfl rfl hdV_X5_least ⟨Nat.le_of_ble_eq_true rfl, Nat.le_of_ble_eq_true rfl⟩) ⟨PB_blind, va_recv hK.1 hP (ci := 5) (q0 := 0) rfl rfl, PB_at hP hK⟩ rfl rfl hl.1 rfl (lv_room (Nat.le_of_ble_eq_true rfl)) dX5_digest_168 ⟨Nat.zero_le _, Nat.zero_le _⟩) ?_
                                  refine lv_i2l (v := t7.toInt64) hx hb dX5_digest_171 rfl ?_
                                  refine lv_ladd hx hb dX5_digest_172 ?_
                                  refine lv_lstore_n (lv' := [(1, .long ((31 * ((31 * i1_115) + t6.toInt64)) + t7.toInt64)), (0, .ref (a0 0)), (3, .int i3_115)]) hx hb dX5_digest_173 rfl hl (by decide) rfl (fun ls hl => ?_)
                                  refine lv_ldc2 hx hb hown (hts (.constantLong RX5 169 (31)) (List.mem_of_getElem? (i := 4) rfl)) dX5_digest_174 ?_
                                  refine lv_lload_n hx hb dX5_digest_177 rfl (lv_at hl 0 rfl) ?_
                                  refine lv_lmul hx hb dX5_digest_178 ?_
                                  refine lv_aload_n hx hb dX5_digest_179 rfl (lv_at hl 1 rfl) ?_
                                  refine lv_iconst (v := 0) hx hb dX5_digest_180 (by decide) ?_
                                  refine lv_iconst (v := 0) hx hb dX5_digest_181 (by decide) ?_
                                  refine lv_iconst (v := 0) hx hb dX5_digest_182 (by decide) ?_
                                  refine lv_iconst (v := 5) hx hb dX5_digest_183 (by decide) ?_
                                  replace h := bd h
                                  obtain ⟨t8, et8, h⟩ := h
                                  refine callRl (v := t8) (va_runV (As := [.int 0, .int 0, .int 0, .int 5]) (rest := [.long (31 * ((31 * ((31 * i1_115) + t6.toInt64)) + t7.toInt64))]) ⟨hx, hb, hml, hown, hts⟩ (c_X5_weighs l D T a0 (sI x0 1 0) 0 0 0 5 t8 et8) (cwV 4 hts gX5_digest_X5_weighs rfl rfl rfl hdV_X5_weighs ⟨Nat.le_of_ble_eq_true rfl, Nat.le_of_ble_eq_true rfl⟩) ⟨PB_blind, va_recv hK.1 hP (ci := 5) (q0 := 0) rfl rfl, PB_at hP hK⟩ rfl rfl hl.1 rfl (lv_room (Nat.le_of_ble_eq_true rfl)) dX5_digest_184 ⟨Nat.zero_le _, Nat.zero_le _⟩) ?_
                                  refine lv_ladd hx hb dX5_digest_187 ?_
                                  replace h := bd h
                                  obtain ⟨t9, et9, h⟩ := h
                                  refine eql (Option.some.inj et9) ?_
                                  refine lv_lstore_n (lv' := [(1, .long t9), (0, .ref (a0 0)), (3, .int i3_115)]) hx hb dX5_digest_188 rfl hl (by decide) rfl (fun ls hl => ?_)
                                  refine lv_ldc2 hx hb hown (hts (.constantLong RX5 169 (31)) (List.mem_of_getElem? (i := 4) rfl)) dX5_digest_189 ?_
                                  refine lv_lload_n hx hb dX5_digest_192 rfl (lv_at hl 0 rfl) ?_
                                  refine lv_lmul hx hb dX5_digest_193 ?_
                                  refine lv_aload_n hx hb dX5_digest_194 rfl (lv_at hl 1 rfl) ?_
                                  refine lv_iconst (v := 3) hx hb dX5_digest_195 (by decide) ?_
                                  replace h := bd h
                                  obtain ⟨t10, et10, h⟩ := h
                                  refine callRi (v := t10) (va_runV (As := [.int 3]) (rest := [.long (31 * t9)]) ⟨hx, hb, hml, hown, hts⟩ (c_X5_best l D T a0 (sI x0 1 0) 3 t10 et10) (cwV 1 hts gX5_digest_X5_best rfl rfl rfl hdV_X5_best ⟨Nat.le_of_ble_eq_true rfl, Nat.le_of_ble_eq_true rfl⟩) ⟨PB_blind, va_recv hK.1 hP (ci := 5) (q0 := 0) rfl rfl, PB_at hP hK⟩ rfl rfl hl.1 rfl (lv_room (Nat.le_of_ble_eq_true rfl)) dX5_digest_196 ⟨Nat.zero_le _, Nat.zero_le _⟩) ?_
                                  refine lv_i2l (v := t10.toInt64) hx hb dX5_digest_199 rfl ?_
                                  refine lv_ladd hx hb dX5_digest_200 ?_
                                  refine lv_lstore_n (lv' := [(1, .long ((31 * t9) + t10.toInt64)), (0, .ref (a0 0)), (3, .int i3_115)]) hx hb dX5_digest_201 rfl hl (by decide) rfl (fun ls hl => ?_)
                                  refine lv_ldc2 hx hb hown (hts (.constantLong RX5 169 (31)) (List.mem_of_getElem? (i := 4) rfl)) dX5_digest_202 ?_
                                  refine lv_lload_n hx hb dX5_digest_205 rfl (lv_at hl 0 rfl) ?_
                                  refine lv_lmul hx hb dX5_digest_206 ?_
                                  refine lv_aload_n hx hb dX5_digest_207 rfl (lv_at hl 1 rfl) ?_
                                  refine va_get (D := D) (ci := 5) (v := .int ((sI x0 1 0).1 0)) (C := RX5) (T := TX5) (N := 11) hx hb hts inX5_digest_5 hown hK.1 hP 0 rfl rfl 3 (by decide) (hts (.fieldLink RX5 31 "LyingScaleModel" "pasts" "I") (List.mem_of_getElem? (i := 6) rfl)) (fun _ h9 => h9) rfl dX5_digest_208 ?_
                                  refine lv_i2l (v := ((sI x0 1 0).1 0).toInt64) hx hb dX5_digest_211 rfl ?_
                                  refine lv_ladd hx hb dX5_digest_212 ?_
                                  obtain rfl := Option.some.inj h
                                  exact W.lret hx hb hr (fun t ht hW => ⟨⟨_, (), rfl, rfl, by rw [ht]; exact hP, hD⟩, hS.F ht⟩) hS.2.2 dX5_digest_213 hlocks
                                replace h := im c5 h
                                refine lv_ldc2 hx hb hown (hts (.constantLong RX5 169 (31)) (List.mem_of_getElem? (i := 4) rfl)) dX5_digest_127 ?_
                                refine lv_lload_n hx hb dX5_digest_130 rfl (lv_at hl 1 rfl) ?_
                                refine lv_lmul hx hb dX5_digest_131 ?_
                                refine lv_aload_n hx hb dX5_digest_132 rfl (lv_at hl 0 rfl) ?_
                                refine va_get (D := D) (ci := 5) (v := .ref (a0 1)) (C := RX5) (T := TX5) (N := 11) hx hb hts inX5_digest_5 hown hK.1 hP 0 rfl rfl 0 (by decide) (hts (.fieldLink RX5 7 "LyingScaleModel" "s" "[I") (List.mem_of_getElem? (i := 5) rfl)) (fun _ h9 => h9) rfl dX5_digest_133 ?_
                                refine lv_bipush (v := 127) hx hb dX5_digest_136 (by decide) ?_
                                refine lv_iload_n hx hb dX5_digest_138 rfl (lv_at hl 2 rfl) ?_
                                refine lv_iadd hx hb dX5_digest_139 ?_
                                replace h := gd h
                                obtain ⟨g11, h⟩ := h
                                refine va_iald hx hb hK.1 hP 1 0 rfl rfl g11 dX5_digest_140 ?_
                                refine lv_i2l (v := (((sI x0 1 0).2 0) (127 + i3_115).toNatClampNeg).toInt64) hx hb dX5_digest_141 rfl ?_
                                refine lv_ladd hx hb dX5_digest_142 ?_
                                replace h := bd h
                                obtain ⟨t12, et12, h⟩ := h
                                refine eql (Option.some.inj et12) ?_
                                refine lv_lstore_n (lv' := [(1, .long t12), (0, .ref (a0 0)), (3, .int i3_115)]) hx hb dX5_digest_143 rfl hl (by decide) rfl (fun ls hl => ?_)
                                refine lv_iinc (v := i3_115 + 1) (lv' := [(3, .int (i3_115 + 1)), (1, .long t12), (0, .ref (a0 0))]) hx hb dX5_digest_144 hl (k := 2) rfl rfl (by decide) rfl (fun ls hl => ?_)
                                refine lv_goto (tgt := 115) hx hb dX5_digest_147 (by decide) ?_
                                exact ih115 t12 (i3_115 + 1) _ _ ls h hP hD hS (lv_sub hl [2, 1, 0] rfl)
                          exact K115 1000 i1_81 0 _ _ ls h hP hD hS (lv_sub hl [1, 2, 0] rfl)
                        replace h := im c4 h
                        refine lv_ldc2 hx hb hown (hts (.constantLong RX5 169 (31)) (List.mem_of_getElem? (i := 4) rfl)) dX5_digest_89 ?_
                        refine lv_lload_n hx hb dX5_digest_92 rfl (lv_at hl 1 rfl) ?_
                        refine lv_lmul hx hb dX5_digest_93 ?_
                        refine lv_aload_n hx hb dX5_digest_94 rfl (lv_at hl 0 rfl) ?_
                        refine va_get (D := D) (ci := 5) (v := .ref (a0 1)) (C := RX5) (T := TX5) (N := 11) hx hb hts inX5_digest_5 hown hK.1 hP 0 rfl rfl 0 (by decide) (hts (.fieldLink RX5 7 "LyingScaleModel" "s" "[I") (List.mem_of_getElem? (i := 5) rfl)) (fun _ h9 => h9) rfl dX5_digest_95 ?_
                        refine lv_sipush (v := 143) hx hb dX5_digest_98 (by decide) ?_
                        refine lv_iload_n hx hb dX5_digest_101 rfl (lv_at hl 2 rfl) ?_
                        refine lv_iadd hx hb dX5_digest_102 ?_
                        replace h := gd h
                        obtain ⟨g13, h⟩ := h
                        refine va_iald hx hb hK.1 hP 1 0 rfl rfl g13 dX5_digest_103 ?_
                        refine lv_i2l (v := (((sI x0 1 0).2 0) (143 + i3_81).toNatClampNeg).toInt64) hx hb dX5_digest_104 rfl ?_
                        refine lv_ladd hx hb dX5_digest_105 ?_
                        replace h := bd h
                        obtain ⟨t14, et14, h⟩ := h
                        refine eql (Option.some.inj et14) ?_
                        refine lv_lstore_n (lv' := [(1, .long t14), (0, .ref (a0 0)), (3, .int i3_81)]) hx hb dX5_digest_106 rfl hl (by decide) rfl (fun ls hl => ?_)
                        refine lv_iinc (v := i3_81 + 1) (lv' := [(3, .int (i3_81 + 1)), (1, .long t14), (0, .ref (a0 0))]) hx hb dX5_digest_107 hl (k := 2) rfl rfl (by decide) rfl (fun ls hl => ?_)
                        refine lv_goto (tgt := 81) hx hb dX5_digest_110 (by decide) ?_
                        exact ih81 t14 (i3_81 + 1) _ _ ls h hP hD hS (lv_sub hl [2, 1, 0] rfl)
                  exact K81 1000 i1_44 0 _ _ ls h hP hD hS (lv_sub hl [1, 2, 0] rfl)
                replace h := im c2 h
                refine lv_ldc2 hx hb hown (hts (.constantLong RX5 169 (31)) (List.mem_of_getElem? (i := 4) rfl)) dX5_digest_56 ?_
                refine lv_lload_n hx hb dX5_digest_59 rfl (lv_at hl 1 rfl) ?_
                refine lv_lmul hx hb dX5_digest_60 ?_
                refine lv_aload_n hx hb dX5_digest_61 rfl (lv_at hl 0 rfl) ?_
                refine va_get (D := D) (ci := 5) (v := .ref (a0 1)) (C := RX5) (T := TX5) (N := 11) hx hb hts inX5_digest_5 hown hK.1 hP 0 rfl rfl 0 (by decide) (hts (.fieldLink RX5 7 "LyingScaleModel" "s" "[I") (List.mem_of_getElem? (i := 5) rfl)) (fun _ h9 => h9) rfl dX5_digest_62 ?_
                refine lv_bipush (v := 7) hx hb dX5_digest_65 (by decide) ?_
                refine lv_iload_n hx hb dX5_digest_67 rfl (lv_at hl 2 rfl) ?_
                refine lv_iadd hx hb dX5_digest_68 ?_
                replace h := gd h
                obtain ⟨g15, h⟩ := h
                refine va_iald hx hb hK.1 hP 1 0 rfl rfl g15 dX5_digest_69 ?_
                refine lv_i2l (v := (((sI x0 1 0).2 0) (7 + i3_44).toNatClampNeg).toInt64) hx hb dX5_digest_70 rfl ?_
                refine lv_ladd hx hb dX5_digest_71 ?_
                replace h := bd h
                obtain ⟨t16, et16, h⟩ := h
                refine eql (Option.some.inj et16) ?_
                refine lv_lstore_n (lv' := [(1, .long t16), (0, .ref (a0 0)), (3, .int i3_44)]) hx hb dX5_digest_72 rfl hl (by decide) rfl (fun ls hl => ?_)
                refine lv_iinc (v := i3_44 + 1) (lv' := [(3, .int (i3_44 + 1)), (1, .long t16), (0, .ref (a0 0))]) hx hb dX5_digest_73 hl (k := 2) rfl rfl (by decide) rfl (fun ls hl => ?_)
                refine lv_goto (tgt := 44) hx hb dX5_digest_76 (by decide) ?_
                exact ih44 t16 (i3_44 + 1) _ _ ls h hP hD hS (lv_sub hl [2, 1, 0] rfl)
          exact K44 1000 i1_17 0 _ _ ls h hP hD hS (lv_sub hl [1, 2, 0] rfl)
        replace h := im c1 h
        refine lv_ldc2 hx hb hown (hts (.constantLong RX5 169 (31)) (List.mem_of_getElem? (i := 4) rfl)) dX5_digest_23 ?_
        refine lv_lload_n hx hb dX5_digest_26 rfl (lv_at hl 1 rfl) ?_
        refine lv_lmul hx hb dX5_digest_27 ?_
        refine lv_aload_n hx hb dX5_digest_28 rfl (lv_at hl 0 rfl) ?_
        refine lv_iload_n hx hb dX5_digest_29 rfl (lv_at hl 2 rfl) ?_
        replace h := bd h
        obtain ⟨t17, et17, h⟩ := h
        refine callRi (v := t17) (va_runV (As := [.int i3_17]) (rest := [.long (31 * i1_17)]) ⟨hx, hb, hml, hown, hts⟩ (c_X5_number l D T a0 (sI x0 1 0) i3_17 t17 et17) (cwV 1 hts gX5_digest_X5_number rfl rfl rfl hdV_X5_number ⟨Nat.le_of_ble_eq_true rfl, Nat.le_of_ble_eq_true rfl⟩) ⟨PB_blind, va_recv hK.1 hP (ci := 5) (q0 := 0) rfl rfl, PB_at hP hK⟩ rfl rfl hl.1 rfl (lv_room (Nat.le_of_ble_eq_true rfl)) dX5_digest_30 ⟨Nat.zero_le _, Nat.zero_le _⟩) ?_
        refine lv_i2l (v := t17.toInt64) hx hb dX5_digest_33 rfl ?_
        refine lv_ladd hx hb dX5_digest_34 ?_
        refine lv_lstore_n (lv' := [(1, .long ((31 * i1_17) + t17.toInt64)), (0, .ref (a0 0)), (3, .int i3_17)]) hx hb dX5_digest_35 rfl hl (by decide) rfl (fun ls hl => ?_)
        refine lv_iinc (v := i3_17 + 1) (lv' := [(3, .int (i3_17 + 1)), (1, .long ((31 * i1_17) + t17.toInt64)), (0, .ref (a0 0))]) hx hb dX5_digest_36 hl (k := 2) rfl rfl (by decide) rfl (fun ls hl => ?_)
        refine lv_goto (tgt := 17) hx hb dX5_digest_39 (by decide) ?_
        exact ih17 ((31 * i1_17) + t17.toInt64) (i3_17 + 1) _ _ ls h hP hD hS (lv_sub hl [2, 1, 0] rfl)
  exact K17 1000 (118451 + (((sI x0 1 0).1 2).toInt64)) 0 _ _ ls h hP hD hS (lv_sub hl [2, 1, 0] rfl)
