def F_X1_goTo (x0 : St) (v1 : Int32) : Option (Int32 × St) :=
  some (1, sI x0 2 v1)
def F_X1_coinOf (x0 : St) (v1 : Int32) : Option (Int32) :=
  if v1 < 97 then (some 0) else (if v1 ≤ 112 then (some ((1 <<< ((v1 - 97) &&& 31)) &&& (((x0.1 3) ||| (x0.1 4)) ^^^ ((-1))))) else (some 0))
def F_X1_takeLeft (x0 : St) (v1 : Int32) : Option (Int32 × St) :=
  (F_X1_coinOf x0 v1).bind fun t1 => if t1 = 0 then (some (0, sI x0 3 ((x0.1 3) ||| t1))) else ((F_X1_goTo (sI x0 3 ((x0.1 3) ||| t1)) 1).bind fun t3 => if t3.1 = 0 then (some (0, t3.2)) else (some (1, t3.2)))
def F_X1_takeRight (x0 : St) (v1 : Int32) : Option (Int32 × St) :=
  (F_X1_coinOf x0 v1).bind fun t1 => if t1 = 0 then (some (0, sI x0 4 ((x0.1 4) ||| t1))) else ((F_X1_goTo (sI x0 4 ((x0.1 4) ||| t1)) 3).bind fun t3 => if t3.1 = 0 then (some (0, t3.2)) else (some (1, t3.2)))
def F_X1_decide (x0 : St) (v1 : Int32) : Option (Int32 × St) :=
  (F_X4_put 20 (x0.2 1) (x0.1 1) (x0.1 3)).bind fun t1 => (F_X4_put 20 ((sA x0 1 t1).2 2) ((sA x0 1 t1).1 1) ((sA x0 1 t1).1 4)).bind fun t2 => (F_X4_put 20 ((sA (sA x0 1 t1) 2 t2).2 3) ((sA (sA x0 1 t1) 2 t2).1 1) v1).bind fun t3 => (F_X1_goTo (sA (sA (sA x0 1 t1) 2 t2) 3 t3) 5).bind fun t4 => if ¬ t4.1 &&& 1 = t4.1 then none else some (t4.1, t4.2)
def F_X1_takeDeed (x0 : St) (v1 : Int32) : Option (Int32 × St) :=
  if v1 = 43 then ((F_X1_decide x0 4).bind fun t2 => if ¬ t2.1 &&& 1 = t2.1 then none else some (t2.1, t2.2)) else if v1 = 61 then ((F_X1_goTo x0 4).bind fun t5 => if ¬ t5.1 &&& 1 = t5.1 then none else some (t5.1, t5.2)) else if v1 = 63 then ((F_X1_decide x0 3).bind fun t8 => if ¬ t8.1 &&& 1 = t8.1 then none else some (t8.1, t8.2)) else (some (0, x0))
def F_X1_takeAnswer (x0 : St) (v1 : Int32) : Option (Int32 × St) :=
  if v1 = 101 then ((F_X1_decide x0 2).bind fun t2 => if ¬ t2.1 &&& 1 = t2.1 then none else some (t2.1, t2.2)) else if v1 = 108 then ((F_X1_decide x0 0).bind fun t5 => if ¬ t5.1 &&& 1 = t5.1 then none else some (t5.1, t5.2)) else if v1 = 114 then ((F_X1_decide x0 1).bind fun t8 => if ¬ t8.1 &&& 1 = t8.1 then none else some (t8.1, t8.2)) else (some (0, x0))
def F_X1_close (x0 : St) : Option (Int32 × St) :=
  (F_X1_goTo (sI x0 1 ((x0.1 1) + 1)) 0).bind fun t1 => if ¬ t1.1 &&& 1 = t1.1 then none else some (t1.1, t1.2)
def F_X1_take (x0 : St) (v1 : Int32) : Option (Int32 × St) :=
  if x0.1 2 = 0 then ((F_X1_takeLeft (sI (sI x0 3 0) 4 0) v1).bind fun t2 => if ¬ t2.1 &&& 1 = t2.1 then none else some (t2.1, t2.2)) else if x0.1 2 = 1 then (if v1 = 47 then ((F_X1_goTo x0 2).bind fun t8 => if ¬ t8.1 &&& 1 = t8.1 then none else some (t8.1, t8.2)) else ((F_X1_takeLeft x0 v1).bind fun t6 => if ¬ t6.1 &&& 1 = t6.1 then none else some (t6.1, t6.2))) else if x0.1 2 = 2 then ((F_X1_takeRight x0 v1).bind fun t11 => if ¬ t11.1 &&& 1 = t11.1 then none else some (t11.1, t11.2)) else if x0.1 2 = 3 then ((F_X1_takeDeed x0 v1).bind fun t14 => if t14.1 = 0 then ((F_X1_takeRight t14.2 v1).bind fun t16 => if t16.1 = 0 then (some (0, t16.2)) else (some (1, t16.2))) else (some (1, t14.2))) else if x0.1 2 = 4 then ((F_X1_takeAnswer x0 v1).bind fun t19 => if ¬ t19.1 &&& 1 = t19.1 then none else some (t19.1, t19.2)) else (if v1 = 59 then ((F_X1_close x0).bind fun t22 => if t22.1 = 0 then (some (0, t22.2)) else (some (1, t22.2))) else (some (0, x0)))
def F_X1_write (x0 : St) (v1 : Int32) : Option (St) :=
  if 100 ≤ (x0.1 0) then (some x0) else ((F_X4_put 100 (x0.2 0) (x0.1 0) v1).bind fun t2 => some (sI (sA x0 0 t2) 0 (((sA x0 0 t2).1 0) + 1)))
def B_X1_read_12 (k12 : Int32 → St → Option (Int32 × St)) (i1_12 : Int32) (x0_12 : St) : Option (Int32 × St) :=
  if (x0_12.1 0) ≤ i1_12 then (if (x0_12.1 2) = 0 then (some ((-1), x0_12)) else (some (x0_12.1 0, x0_12))) else ((F_X4_at 100 (x0_12.2 0) i1_12).bind fun t3 => (F_X1_take x0_12 t3).bind fun t4 => if t4.1 = 0 then (some (i1_12, t4.2)) else (k12 (i1_12 + 1) t4.2))
def F_X1_read (x0 : St) : Option (Int32 × St) :=
  fx2 (B_X1_read_12) 1000 0 (sI (sI x0 1 0) 2 0)
theorem inX1_goTo_1 : ∀ w ∈ u_ws RX1 TX1 9, w ∈ wsX1_goTo := by decide +kernel
theorem hdS_X1_goTo : yX1_goTo.cls ≠ "java/lang/invoke/MethodHandle" ∧ yX1_goTo.cls ≠ "java/lang/invoke/VarHandle" ∧ (parseMethodDescriptor yX1_goTo.desc).map (fun d => d.parameters.length) = some 1 := by decide +kernel
theorem hdV_X1_goTo : yX1_goTo.cls = RX1 ∧ yX1_goTo.cls ≠ "java/lang/invoke/MethodHandle" ∧ yX1_goTo.cls ≠ "java/lang/invoke/VarHandle" ∧ (parseMethodDescriptor yX1_goTo.desc).map (fun d => d.parameters.length) = some 1 := by decide +kernel
theorem inX1_coinOf_1 : ∀ w ∈ u_ws RX1 TX1 9, w ∈ wsX1_coinOf := by decide +kernel
theorem hdS_X1_coinOf : yX1_coinOf.cls ≠ "java/lang/invoke/MethodHandle" ∧ yX1_coinOf.cls ≠ "java/lang/invoke/VarHandle" ∧ (parseMethodDescriptor yX1_coinOf.desc).map (fun d => d.parameters.length) = some 1 := by decide +kernel
theorem hdV_X1_coinOf : yX1_coinOf.cls = RX1 ∧ yX1_coinOf.cls ≠ "java/lang/invoke/MethodHandle" ∧ yX1_coinOf.cls ≠ "java/lang/invoke/VarHandle" ∧ (parseMethodDescriptor yX1_coinOf.desc).map (fun d => d.parameters.length) = some 1 := by decide +kernel
theorem inX1_takeLeft_1 : ∀ w ∈ u_ws RX1 TX1 9, w ∈ wsX1_takeLeft := by decide +kernel
theorem hdS_X1_takeLeft : yX1_takeLeft.cls ≠ "java/lang/invoke/MethodHandle" ∧ yX1_takeLeft.cls ≠ "java/lang/invoke/VarHandle" ∧ (parseMethodDescriptor yX1_takeLeft.desc).map (fun d => d.parameters.length) = some 1 := by decide +kernel
theorem hdV_X1_takeLeft : yX1_takeLeft.cls = RX1 ∧ yX1_takeLeft.cls ≠ "java/lang/invoke/MethodHandle" ∧ yX1_takeLeft.cls ≠ "java/lang/invoke/VarHandle" ∧ (parseMethodDescriptor yX1_takeLeft.desc).map (fun d => d.parameters.length) = some 1 := by decide +kernel
theorem inX1_takeRight_1 : ∀ w ∈ u_ws RX1 TX1 9, w ∈ wsX1_takeRight := by decide +kernel
theorem hdS_X1_takeRight : yX1_takeRight.cls ≠ "java/lang/invoke/MethodHandle" ∧ yX1_takeRight.cls ≠ "java/lang/invoke/VarHandle" ∧ (parseMethodDescriptor yX1_takeRight.desc).map (fun d => d.parameters.length) = some 1 := by decide +kernel
theorem hdV_X1_takeRight : yX1_takeRight.cls = RX1 ∧ yX1_takeRight.cls ≠ "java/lang/invoke/MethodHandle" ∧ yX1_takeRight.cls ≠ "java/lang/invoke/VarHandle" ∧ (parseMethodDescriptor yX1_takeRight.desc).map (fun d => d.parameters.length) = some 1 := by decide +kernel
theorem inX1_decide_1 : ∀ w ∈ u_ws RX1 TX1 9, w ∈ wsX1_decide := by decide +kernel
theorem hdS_X1_decide : yX1_decide.cls ≠ "java/lang/invoke/MethodHandle" ∧ yX1_decide.cls ≠ "java/lang/invoke/VarHandle" ∧ (parseMethodDescriptor yX1_decide.desc).map (fun d => d.parameters.length) = some 1 := by decide +kernel
theorem hdV_X1_decide : yX1_decide.cls = RX1 ∧ yX1_decide.cls ≠ "java/lang/invoke/MethodHandle" ∧ yX1_decide.cls ≠ "java/lang/invoke/VarHandle" ∧ (parseMethodDescriptor yX1_decide.desc).map (fun d => d.parameters.length) = some 1 := by decide +kernel
theorem hdS_X1_takeDeed : yX1_takeDeed.cls ≠ "java/lang/invoke/MethodHandle" ∧ yX1_takeDeed.cls ≠ "java/lang/invoke/VarHandle" ∧ (parseMethodDescriptor yX1_takeDeed.desc).map (fun d => d.parameters.length) = some 1 := by decide +kernel
theorem hdV_X1_takeDeed : yX1_takeDeed.cls = RX1 ∧ yX1_takeDeed.cls ≠ "java/lang/invoke/MethodHandle" ∧ yX1_takeDeed.cls ≠ "java/lang/invoke/VarHandle" ∧ (parseMethodDescriptor yX1_takeDeed.desc).map (fun d => d.parameters.length) = some 1 := by decide +kernel
theorem hdS_X1_takeAnswer : yX1_takeAnswer.cls ≠ "java/lang/invoke/MethodHandle" ∧ yX1_takeAnswer.cls ≠ "java/lang/invoke/VarHandle" ∧ (parseMethodDescriptor yX1_takeAnswer.desc).map (fun d => d.parameters.length) = some 1 := by decide +kernel
theorem hdV_X1_takeAnswer : yX1_takeAnswer.cls = RX1 ∧ yX1_takeAnswer.cls ≠ "java/lang/invoke/MethodHandle" ∧ yX1_takeAnswer.cls ≠ "java/lang/invoke/VarHandle" ∧ (parseMethodDescriptor yX1_takeAnswer.desc).map (fun d => d.parameters.length) = some 1 := by decide +kernel
theorem inX1_close_1 : ∀ w ∈ u_ws RX1 TX1 9, w ∈ wsX1_close := by decide +kernel
theorem hdS_X1_close : yX1_close.cls ≠ "java/lang/invoke/MethodHandle" ∧ yX1_close.cls ≠ "java/lang/invoke/VarHandle" ∧ (parseMethodDescriptor yX1_close.desc).map (fun d => d.parameters.length) = some 0 := by decide +kernel
theorem hdV_X1_close : yX1_close.cls = RX1 ∧ yX1_close.cls ≠ "java/lang/invoke/MethodHandle" ∧ yX1_close.cls ≠ "java/lang/invoke/VarHandle" ∧ (parseMethodDescriptor yX1_close.desc).map (fun d => d.parameters.length) = some 0 := by decide +kernel
theorem inX1_take_1 : ∀ w ∈ u_ws RX1 TX1 9, w ∈ wsX1_take := by decide +kernel
theorem hdS_X1_take : yX1_take.cls ≠ "java/lang/invoke/MethodHandle" ∧ yX1_take.cls ≠ "java/lang/invoke/VarHandle" ∧ (parseMethodDescriptor yX1_take.desc).map (fun d => d.parameters.length) = some 1 := by decide +kernel
theorem hdV_X1_take : yX1_take.cls = RX1 ∧ yX1_take.cls ≠ "java/lang/invoke/MethodHandle" ∧ yX1_take.cls ≠ "java/lang/invoke/VarHandle" ∧ (parseMethodDescriptor yX1_take.desc).map (fun d => d.parameters.length) = some 1 := by decide +kernel
theorem inX1_write_1 : ∀ w ∈ u_ws RX1 TX1 9, w ∈ wsX1_write := by decide +kernel
theorem hdS_X1_write : yX1_write.cls ≠ "java/lang/invoke/MethodHandle" ∧ yX1_write.cls ≠ "java/lang/invoke/VarHandle" ∧ (parseMethodDescriptor yX1_write.desc).map (fun d => d.parameters.length) = some 1 := by decide +kernel
theorem hdV_X1_write : yX1_write.cls = RX1 ∧ yX1_write.cls ≠ "java/lang/invoke/MethodHandle" ∧ yX1_write.cls ≠ "java/lang/invoke/VarHandle" ∧ (parseMethodDescriptor yX1_write.desc).map (fun d => d.parameters.length) = some 1 := by decide +kernel
theorem inX1_read_1 : ∀ w ∈ u_ws RX1 TX1 9, w ∈ wsX1_read := by decide +kernel
theorem hdS_X1_read : yX1_read.cls ≠ "java/lang/invoke/MethodHandle" ∧ yX1_read.cls ≠ "java/lang/invoke/VarHandle" ∧ (parseMethodDescriptor yX1_read.desc).map (fun d => d.parameters.length) = some 0 := by decide +kernel
theorem hdV_X1_read : yX1_read.cls = RX1 ∧ yX1_read.cls ≠ "java/lang/invoke/MethodHandle" ∧ yX1_read.cls ≠ "java/lang/invoke/VarHandle" ∧ (parseMethodDescriptor yX1_read.desc).map (fun d => d.parameters.length) = some 0 := by decide +kernel
set_option maxHeartbeats 4000000 in
set_option maxRecDepth 100000 in
theorem c_X1_goTo (l : Launch) (D : va_G) (T : Nat → ClassId) (a0 : Nat → Nat) (x0 : St) (v1 : Int32) (sz : Nat) (r : Int32 × St) (h : F_X1_goTo x0 v1 = some r) : Met l yX1_goTo wsX1_goTo ({ frames := 0, cells := 0, slots := 0, locals := 0 } : Room) (va_Pc [.ref (a0 0), .int v1] (PM D T (orW T a0 (x0)) sz)) (QMi D (orW T a0 (r.2)) r.1 (va_A (orW T a0 (x0)) sz)) 0 0 (va_A (orW T a0 (x0)) sz) := by
  refine met_of (cc := cX1_goTo) (maxL := 2) (ret := (some .boolean)) (lv := [(0, .ref (a0 0)), (1, .int v1)]) (by decide) rfl (Nat.le_of_ble_eq_true rfl) rfl ?_
  intro p e s m args below meth c ls C0 hl hB
  obtain ⟨hx, hb, hr, hml, hown, hts, hlocks, hname⟩ := C0
  obtain ⟨hsz, hP, hK, hD0⟩ := hB
  subst hsz
  have hD := hD0.self (sz := s.heap.size)
  generalize hAe : va_A (orW T a0 (x0)) s.heap.size = A at hD ⊢
  have hA : ∀ q : Nat, s.heap.size ≤ q → A q := fun q h => by rw [← hAe]; exact Or.inr h
  obtain ⟨H, hH⟩ : ∃ H, H = s.heap := ⟨_, rfl⟩
  obtain ⟨locs, hlo⟩ : ∃ L : List Loc, L = [] := ⟨_, rfl⟩
  have hS : va_S A s.heap s.heap [] := va_S.rf
  rw [← hH] at hP ⊢
  rw [← hlo]
  replace hS : va_S A s.heap H locs := by rw [hH, hlo]; exact hS
  clear hH hlo
  unfold F_X1_goTo at h
  refine lv_aload_n hx hb dX1_goTo_0 rfl (lv_at hl 0 rfl) ?_
  refine lv_iload_n hx hb dX1_goTo_1 rfl (lv_at hl 1 rfl) ?_
  refine va_put (D := D) (ci := 1) (v := .int v1) (ty := .int) (C := RX1) (T := TX1) (N := 9) hx hb hts inX1_goTo_1 tyX1 tyX1_ok nmX1 hown hK.1 hP hD hS 0 rfl rfl 6 (by decide) (hts (.fieldLink RX1 35 "LyingScale$Orders" "place" "I") (List.mem_of_getElem? (i := 1) rfl)) (fun _ h9 => h9) rfl (by decide +kernel) rfl rfl (Nat.le_of_ble_eq_true rfl) dX1_goTo_2 (fun H locs hP hD hS => ?_)
  replace hP : va_P D vwCl (orW T a0 (sI x0 2 v1)) H := hP
  replace hD : va_D A (orW T a0 (sI x0 2 v1)) := hD
  refine lv_iconst (v := 1) hx hb dX1_goTo_5 (by decide) ?_
  obtain rfl := Option.some.inj h
  exact W.zret hx hb hr rfl (fun t ht hW => ⟨⟨_, (), rfl, rfl, by rw [ht]; exact hP, hD⟩, hS.F ht⟩) hS.2.2 dX1_goTo_6 hlocks
set_option maxHeartbeats 4000000 in
set_option maxRecDepth 100000 in
theorem c_X1_coinOf (l : Launch) (D : va_G) (T : Nat → ClassId) (a0 : Nat → Nat) (x0 : St) (v1 : Int32) (r : Int32) (h : F_X1_coinOf x0 v1 = some r) : Met l yX1_coinOf wsX1_coinOf ({ frames := 0, cells := 0, slots := 0, locals := 0 } : Room) (va_Pc [.ref (a0 0), .int v1] (PB D T (orW T a0 (x0)))) (QRi r) 0 0 (fun _ => False) := by
  refine met_of (cc := cX1_coinOf) (maxL := 2) (ret := (some .int)) (lv := [(0, .ref (a0 0)), (1, .int v1)]) (by decide) rfl (Nat.le_of_ble_eq_true rfl) rfl ?_
  intro p e s m args below meth c ls C0 hl hB
  obtain ⟨hx, hb, hr, hml, hown, hts, hlocks, hname⟩ := C0
  obtain ⟨hP, hK⟩ := hB
  unfold F_X1_coinOf at h
  refine lv_iload_n hx hb dX1_coinOf_0 rfl (lv_at hl 1 rfl) ?_
  refine lv_bipush (v := 97) hx hb dX1_coinOf_1 (by decide) ?_
  refine lv_icmp_lt (tgt := 12) hx hb dX1_coinOf_3 (by decide) (fun c1 => ?_) (fun c1 => ?_)
  · replace h := ip c1 h
    refine lv_iconst (v := 0) hx hb dX1_coinOf_12 (by decide) ?_
    exact W.iret hx hb hr (fun t ht hW => ⟨_, rfl, Option.some.inj h, ht⟩) (fun q hq => absurd hq List.not_mem_nil) dX1_coinOf_13 hlocks
  replace h := im c1 h
  refine lv_iload_n hx hb dX1_coinOf_6 rfl (lv_at hl 1 rfl) ?_
  refine lv_bipush (v := 112) hx hb dX1_coinOf_7 (by decide) ?_
  refine lv_icmp_le (tgt := 14) hx hb dX1_coinOf_9 (by decide) (fun c2 => ?_) (fun c2 => ?_)
  · replace h := ip c2 h
    refine lv_iconst (v := 1) hx hb dX1_coinOf_14 (by decide) ?_
    refine lv_iload_n hx hb dX1_coinOf_15 rfl (lv_at hl 1 rfl) ?_
    refine lv_bipush (v := 97) hx hb dX1_coinOf_16 (by decide) ?_
    refine lv_isub hx hb dX1_coinOf_18 ?_
    refine lv_ishl hx hb dX1_coinOf_19 ?_
    refine lv_aload_n hx hb dX1_coinOf_20 rfl (lv_at hl 0 rfl) ?_
    refine va_get (D := D) (ci := 1) (v := .int (x0.1 3)) (C := RX1) (T := TX1) (N := 9) hx hb hts inX1_coinOf_1 hown hK.1 hP 0 rfl rfl 7 (by decide) (hts (.fieldLink RX1 46 "LyingScale$Orders" "left" "I") (List.mem_of_getElem? (i := 1) rfl)) (fun _ h9 => h9) rfl dX1_coinOf_21 ?_
    refine lv_aload_n hx hb dX1_coinOf_24 rfl (lv_at hl 0 rfl) ?_
    refine va_get (D := D) (ci := 1) (v := .int (x0.1 4)) (C := RX1) (T := TX1) (N := 9) hx hb hts inX1_coinOf_1 hown hK.1 hP 0 rfl rfl 8 (by decide) (hts (.fieldLink RX1 49 "LyingScale$Orders" "right" "I") (List.mem_of_getElem? (i := 2) rfl)) (fun _ h9 => h9) rfl dX1_coinOf_25 ?_
    refine lv_ior hx hb dX1_coinOf_28 ?_
    refine lv_iconst (v := (-1)) hx hb dX1_coinOf_29 (by decide) ?_
    refine lv_ixor hx hb dX1_coinOf_30 ?_
    refine lv_iand hx hb dX1_coinOf_31 ?_
    exact W.iret hx hb hr (fun t ht hW => ⟨_, rfl, Option.some.inj h, ht⟩) (fun q hq => absurd hq List.not_mem_nil) dX1_coinOf_32 hlocks
  replace h := im c2 h
  refine lv_iconst (v := 0) hx hb dX1_coinOf_12 (by decide) ?_
  exact W.iret hx hb hr (fun t ht hW => ⟨_, rfl, Option.some.inj h, ht⟩) (fun q hq => absurd hq List.not_mem_nil) dX1_coinOf_13 hlocks
set_option maxHeartbeats 4000000 in
set_option maxRecDepth 100000 in
theorem c_X1_takeLeft (l : Launch) (D : va_G) (T : Nat → ClassId) (a0 : Nat → Nat) (x0 : St) (v1 : Int32) (sz : Nat) (r : Int32 × St) (h : F_X1_takeLeft x0 v1 = some r) : Met l yX1_takeLeft wsX1_takeLeft ({ frames := 1, cells := 0, slots := 0, locals := 21 } : Room) (va_Pc [.ref (a0 0), .int v1] (PM D T (orW T a0 (x0)) sz)) (QMi D (orW T a0 (r.2)) r.1 (va_A (orW T a0 (x0)) sz)) 0 0 (va_A (orW T a0 (x0)) sz) := by
  refine met_of (cc := cX1_takeLeft) (maxL := 3) (ret := (some .boolean)) (lv := [(0, .ref (a0 0)), (1, .int v1)]) (by decide) rfl (Nat.le_of_ble_eq_true rfl) rfl ?_
  intro p e s m args below meth c ls C0 hl hB
  obtain ⟨hx, hb, hr, hml, hown, hts, hlocks, hname⟩ := C0
  obtain ⟨hsz, hP, hK, hD0⟩ := hB
  subst hsz
  have hD := hD0.self (sz := s.heap.size)
  generalize hAe : va_A (orW T a0 (x0)) s.heap.size = A at hD ⊢
  have hA : ∀ q : Nat, s.heap.size ≤ q → A q := fun q h => by rw [← hAe]; exact Or.inr h
  obtain ⟨H, hH⟩ : ∃ H, H = s.heap := ⟨_, rfl⟩
  obtain ⟨locs, hlo⟩ : ∃ L : List Loc, L = [] := ⟨_, rfl⟩
  have hS : va_S A s.heap s.heap [] := va_S.rf
  rw [← hH] at hP ⊢
  rw [← hlo]
  replace hS : va_S A s.heap H locs := by rw [hH, hlo]; exact hS
  clear hH hlo
  unfold F_X1_takeLeft at h
  refine lv_aload_n hx hb dX1_takeLeft_0 rfl (lv_at hl 0 rfl) ?_
  refine lv_iload_n hx hb dX1_takeLeft_1 rfl (lv_at hl 1 rfl) ?_
  replace h := bd h
  obtain ⟨t1, et1, h⟩ := h
  refine callRi (v := t1) (va_runV (As := [.int v1]) (rest := []) ⟨hx, hb, hml, hown, hts⟩ (c_X1_coinOf l D T a0 x0 v1 t1 et1) (cwV 1 hts gX1_takeLeft_X1_coinOf rfl rfl rfl hdV_X1_coinOf ⟨Nat.le_of_ble_eq_true rfl, Nat.le_of_ble_eq_true rfl⟩) ⟨PB_blind, va_recv hK.1 hP (ci := 1) (q0 := 0) rfl rfl, PB_at hP hK⟩ rfl rfl hl.1 rfl (lv_room (Nat.le_of_ble_eq_true rfl)) dX1_takeLeft_2 ⟨Nat.zero_le _, Nat.zero_le _⟩) ?_
  refine lv_istore_n (lv' := [(2, .int t1), (0, .ref (a0 0)), (1, .int v1)]) hx hb dX1_takeLeft_5 rfl hl (by decide) rfl (fun ls hl => ?_)
  refine lv_aload_n hx hb dX1_takeLeft_6 rfl (lv_at hl 1 rfl) ?_
  refine lv_dup hx hb dX1_takeLeft_7 rfl ?_
  refine va_get (D := D) (ci := 1) (v := .int (x0.1 3)) (C := RX1) (T := TX1) (N := 9) hx hb hts inX1_takeLeft_1 hown hK.1 hP 0 rfl rfl 7 (by decide) (hts (.fieldLink RX1 46 "LyingScale$Orders" "left" "I") (List.mem_of_getElem? (i := 1) rfl)) (fun _ h9 => h9) rfl dX1_takeLeft_8 ?_
  refine lv_iload_n hx hb dX1_takeLeft_11 rfl (lv_at hl 0 rfl) ?_
  refine lv_ior hx hb dX1_takeLeft_12 ?_
  refine va_put (D := D) (ci := 1) (v := .int ((x0.1 3) ||| t1)) (ty := .int) (C := RX1) (T := TX1) (N := 9) hx hb hts inX1_takeLeft_1 tyX1 tyX1_ok nmX1 hown hK.1 hP hD hS 0 rfl rfl 7 (by decide) (hts (.fieldLink RX1 46 "LyingScale$Orders" "left" "I") (List.mem_of_getElem? (i := 1) rfl)) (fun _ h9 => h9) rfl (by decide +kernel) rfl rfl (Nat.le_of_ble_eq_true rfl) dX1_takeLeft_13 (fun H locs hP hD hS => ?_)
  replace hP : va_P D vwCl (orW T a0 (sI x0 3 ((x0.1 3) ||| t1))) H := hP
  replace hD : va_D A (orW T a0 (sI x0 3 ((x0.1 3) ||| t1))) := hD
  refine lv_iload_n hx hb dX1_takeLeft_16 rfl (lv_at hl 0 rfl) ?_
  refine lv_if_eq (tgt := 32) hx hb dX1_takeLeft_17 (by decide) (fun c2 => ?_) (fun c2 => ?_)
  · replace h := ip c2 h
    refine lv_iconst (v := 0) hx hb dX1_takeLeft_32 (by decide) ?_
    obtain rfl := Option.some.inj h
    exact W.zret hx hb hr rfl (fun t ht hW => ⟨⟨_, (), rfl, rfl, by rw [ht]; exact hP, hD⟩, hS.F ht⟩) hS.2.2 dX1_takeLeft_33 hlocks
  replace h := im c2 h
  refine lv_aload_n hx hb dX1_takeLeft_20 rfl (lv_at hl 1 rfl) ?_
  refine lv_iconst (v := 1) hx hb dX1_takeLeft_21 (by decide) ?_
  replace h := bd h
  obtain ⟨t3, et3, h⟩ := h
  refine callMi (wr := []) (ws' := orW T a0 (t3.2)) (va_runV (As := [.int 1]) (rest := []) ⟨hx, hb, hml, hown, hts⟩ (c_X1_goTo l D T a0 (sI x0 3 ((x0.1 3) ||| t1)) 1 H.size t3 et3) (cwV 1 hts gX1_takeLeft_X1_goTo rfl rfl rfl hdV_X1_goTo ⟨Nat.le_of_ble_eq_true rfl, Nat.le_of_ble_eq_true rfl⟩) ⟨PM_blind, va_recv hK.1 hP (ci := 1) (q0 := 0) rfl rfl, PM_at hP hD hK⟩ rfl rfl hl.1 rfl (lv_room (Nat.le_of_ble_eq_true rfl)) dX1_takeLeft_22 ⟨Nat.zero_le _, Nat.zero_le _⟩) hS hA hP hD [0, 1, 2, 3, 4] [] rfl rfl (by decide) (by decide) [0, 1, 2, 3, 4] (by decide) rfl (fun H locs hP hD hS => ?_)
  refine lv_if_eq (tgt := 32) hx hb dX1_takeLeft_25 (by decide) (fun c4 => ?_) (fun c4 => ?_)
  · replace h := ip c4 h
    refine lv_iconst (v := 0) hx hb dX1_takeLeft_32 (by decide) ?_
    obtain rfl := Option.some.inj h
    exact W.zret hx hb hr rfl (fun t ht hW => ⟨⟨_, (), rfl, rfl, by rw [ht]; exact hP, hD⟩, hS.F ht⟩) hS.2.2 dX1_takeLeft_33 hlocks
  replace h := im c4 h
  refine lv_iconst (v := 1) hx hb dX1_takeLeft_28 (by decide) ?_
  refine lv_goto (tgt := 33) hx hb dX1_takeLeft_29 (by decide) ?_
  obtain rfl := Option.some.inj h
  exact W.zret hx hb hr rfl (fun t ht hW => ⟨⟨_, (), rfl, rfl, by rw [ht]; exact hP, hD⟩, hS.F ht⟩) hS.2.2 dX1_takeLeft_33 hlocks
set_option maxHeartbeats 4000000 in
set_option maxRecDepth 100000 in
theorem c_X1_takeRight (l : Launch) (D : va_G) (T : Nat → ClassId) (a0 : Nat → Nat) (x0 : St) (v1 : Int32) (sz : Nat) (r : Int32 × St) (h : F_X1_takeRight x0 v1 = some r) : Met l yX1_takeRight wsX1_takeRight ({ frames := 1, cells := 0, slots := 0, locals := 21 } : Room) (va_Pc [.ref (a0 0), .int v1] (PM D T (orW T a0 (x0)) sz)) (QMi D (orW T a0 (r.2)) r.1 (va_A (orW T a0 (x0)) sz)) 0 0 (va_A (orW T a0 (x0)) sz) := by
  refine met_of (cc := cX1_takeRight) (maxL := 3) (ret := (some .boolean)) (lv := [(0, .ref (a0 0)), (1, .int v1)]) (by decide) rfl (Nat.le_of_ble_eq_true rfl) rfl ?_
  intro p e s m args below meth c ls C0 hl hB
  obtain ⟨hx, hb, hr, hml, hown, hts, hlocks, hname⟩ := C0
  obtain ⟨hsz, hP, hK, hD0⟩ := hB
  subst hsz
  have hD := hD0.self (sz := s.heap.size)
  generalize hAe : va_A (orW T a0 (x0)) s.heap.size = A at hD ⊢
  have hA : ∀ q : Nat, s.heap.size ≤ q → A q := fun q h => by rw [← hAe]; exact Or.inr h
  obtain ⟨H, hH⟩ : ∃ H, H = s.heap := ⟨_, rfl⟩
  obtain ⟨locs, hlo⟩ : ∃ L : List Loc, L = [] := ⟨_, rfl⟩
  have hS : va_S A s.heap s.heap [] := va_S.rf
  rw [← hH] at hP ⊢
  rw [← hlo]
  replace hS : va_S A s.heap H locs := by rw [hH, hlo]; exact hS
  clear hH hlo
  unfold F_X1_takeRight at h
  refine lv_aload_n hx hb dX1_takeRight_0 rfl (lv_at hl 0 rfl) ?_
  refine lv_iload_n hx hb dX1_takeRight_1 rfl (lv_at hl 1 rfl) ?_
  replace h := bd h
  obtain ⟨t1, et1, h⟩ := h
  refine callRi (v := t1) (va_runV (As := [.int v1]) (rest := []) ⟨hx, hb, hml, hown, hts⟩ (c_X1_coinOf l D T a0 x0 v1 t1 et1) (cwV 1 hts gX1_takeRight_X1_coinOf rfl rfl rfl hdV_X1_coinOf ⟨Nat.le_of_ble_eq_true rfl, Nat.le_of_ble_eq_true rfl⟩) ⟨PB_blind, va_recv hK.1 hP (ci := 1) (q0 := 0) rfl rfl, PB_at hP hK⟩ rfl rfl hl.1 rfl (lv_room (Nat.le_of_ble_eq_true rfl)) dX1_takeRight_2 ⟨Nat.zero_le _, Nat.zero_le _⟩) ?_
  refine lv_istore_n (lv' := [(2, .int t1), (0, .ref (a0 0)), (1, .int v1)]) hx hb dX1_takeRight_5 rfl hl (by decide) rfl (fun ls hl => ?_)
  refine lv_aload_n hx hb dX1_takeRight_6 rfl (lv_at hl 1 rfl) ?_
  refine lv_dup hx hb dX1_takeRight_7 rfl ?_
  refine va_get (D := D) (ci := 1) (v := .int (x0.1 4)) (C := RX1) (T := TX1) (N := 9) hx hb hts inX1_takeRight_1 hown hK.1 hP 0 rfl rfl 8 (by decide) (hts (.fieldLink RX1 49 "LyingScale$Orders" "right" "I") (List.mem_of_getElem? (i := 1) rfl)) (fun _ h9 => h9) rfl dX1_takeRight_8 ?_
  refine lv_iload_n hx hb dX1_takeRight_11 rfl (lv_at hl 0 rfl) ?_
  refine lv_ior hx hb dX1_takeRight_12 ?_
  refine va_put (D := D) (ci := 1) (v := .int ((x0.1 4) ||| t1)) (ty := .int) (C := RX1) (T := TX1) (N := 9) hx hb hts inX1_takeRight_1 tyX1 tyX1_ok nmX1 hown hK.1 hP hD hS 0 rfl rfl 8 (by decide) (hts (.fieldLink RX1 49 "LyingScale$Orders" "right" "I") (List.mem_of_getElem? (i := 1) rfl)) (fun _ h9 => h9) rfl (by decide +kernel) rfl rfl (Nat.le_of_ble_eq_true rfl) dX1_takeRight_13 (fun H locs hP hD hS => ?_)
  replace hP : va_P D vwCl (orW T a0 (sI x0 4 ((x0.1 4) ||| t1))) H := hP
  replace hD : va_D A (orW T a0 (sI x0 4 ((x0.1 4) ||| t1))) := hD
  refine lv_iload_n hx hb dX1_takeRight_16 rfl (lv_at hl 0 rfl) ?_
  refine lv_if_eq (tgt := 32) hx hb dX1_takeRight_17 (by decide) (fun c2 => ?_) (fun c2 => ?_)
  · replace h := ip c2 h
    refine lv_iconst (v := 0) hx hb dX1_takeRight_32 (by decide) ?_
    obtain rfl := Option.some.inj h
    exact W.zret hx hb hr rfl (fun t ht hW => ⟨⟨_, (), rfl, rfl, by rw [ht]; exact hP, hD⟩, hS.F ht⟩) hS.2.2 dX1_takeRight_33 hlocks
  replace h := im c2 h
  refine lv_aload_n hx hb dX1_takeRight_20 rfl (lv_at hl 1 rfl) ?_
  refine lv_iconst (v := 3) hx hb dX1_takeRight_21 (by decide) ?_
  replace h := bd h
  obtain ⟨t3, et3, h⟩ := h
  refine callMi (wr := []) (ws' := orW T a0 (t3.2)) (va_runV (As := [.int 3]) (rest := []) ⟨hx, hb, hml, hown, hts⟩ (c_X1_goTo l D T a0 (sI x0 4 ((x0.1 4) ||| t1)) 3 H.size t3 et3) (cwV 1 hts gX1_takeRight_X1_goTo rfl rfl rfl hdV_X1_goTo ⟨Nat.le_of_ble_eq_true rfl, Nat.le_of_ble_eq_true rfl⟩) ⟨PM_blind, va_recv hK.1 hP (ci := 1) (q0 := 0) rfl rfl, PM_at hP hD hK⟩ rfl rfl hl.1 rfl (lv_room (Nat.le_of_ble_eq_true rfl)) dX1_takeRight_22 ⟨Nat.zero_le _, Nat.zero_le _⟩) hS hA hP hD [0, 1, 2, 3, 4] [] rfl rfl (by decide) (by decide) [0, 1, 2, 3, 4] (by decide) rfl (fun H locs hP hD hS => ?_)
  refine lv_if_eq (tgt := 32) hx hb dX1_takeRight_25 (by decide) (fun c4 => ?_) (fun c4 => ?_)
  · replace h := ip c4 h
    refine lv_iconst (v := 0) hx hb dX1_takeRight_32 (by decide) ?_
    obtain rfl := Option.some.inj h
    exact W.zret hx hb hr rfl (fun t ht hW => ⟨⟨_, (), rfl, rfl, by rw [ht]; exact hP, hD⟩, hS.F ht⟩) hS.2.2 dX1_takeRight_33 hlocks
  replace h := im c4 h
  refine lv_iconst (v := 1) hx hb dX1_takeRight_28 (by decide) ?_
  refine lv_goto (tgt := 33) hx hb dX1_takeRight_29 (by decide) ?_
  obtain rfl := Option.some.inj h
  exact W.zret hx hb hr rfl (fun t ht hW => ⟨⟨_, (), rfl, rfl, by rw [ht]; exact hP, hD⟩, hS.F ht⟩) hS.2.2 dX1_takeRight_33 hlocks
set_option maxHeartbeats 4000000 in
set_option maxRecDepth 100000 in
theorem c_X1_decide (l : Launch) (D : va_G) (T : Nat → ClassId) (a0 : Nat → Nat) (x0 : St) (v1 : Int32) (sz : Nat) (r : Int32 × St) (h : F_X1_decide x0 v1 = some r) : Met l yX1_decide wsX1_decide ({ frames := 1, cells := 0, slots := 0, locals := 22 } : Room) (va_Pc [.ref (a0 0), .int v1] (PM D T (orW T a0 (x0)) sz)) (QMi D (orW T a0 (r.2)) r.1 (va_A (orW T a0 (x0)) sz)) 0 0 (va_A (orW T a0 (x0)) sz) := by
  refine met_of (cc := cX1_decide) (maxL := 2) (ret := (some .boolean)) (lv := [(0, .ref (a0 0)), (1, .int v1)]) (by decide) rfl (Nat.le_of_ble_eq_true rfl) rfl ?_
  intro p e s m args below meth c ls C0 hl hB
  obtain ⟨hx, hb, hr, hml, hown, hts, hlocks, hname⟩ := C0
  obtain ⟨hsz, hP, hK, hD0⟩ := hB
  subst hsz
  have hD := hD0.self (sz := s.heap.size)
  generalize hAe : va_A (orW T a0 (x0)) s.heap.size = A at hD ⊢
  have hA : ∀ q : Nat, s.heap.size ≤ q → A q := fun q h => by rw [← hAe]; exact Or.inr h
  obtain ⟨H, hH⟩ : ∃ H, H = s.heap := ⟨_, rfl⟩
  obtain ⟨locs, hlo⟩ : ∃ L : List Loc, L = [] := ⟨_, rfl⟩
  have hS : va_S A s.heap s.heap [] := va_S.rf
  rw [← hH] at hP ⊢
  rw [← hlo]
  replace hS : va_S A s.heap H locs := by rw [hH, hlo]; exact hS
  clear hH hlo
  unfold F_X1_decide at h
  refine lv_aload_n hx hb dX1_decide_0 rfl (lv_at hl 0 rfl) ?_
  refine va_get (D := D) (ci := 1) (v := .ref (a0 2)) (C := RX1) (T := TX1) (N := 9) hx hb hts inX1_decide_1 hown hK.1 hP 0 rfl rfl 1 (by decide) (hts (.fieldLink RX1 15 "LyingScale$Orders" "lefts" "[I") (List.mem_of_getElem? (i := 1) rfl)) (fun _ h9 => h9) rfl dX1_decide_1 ?_
  refine lv_aload_n hx hb dX1_decide_4 rfl (lv_at hl 0 rfl) ?_
  refine va_get (D := D) (ci := 1) (v := .int (x0.1 1)) (C := RX1) (T := TX1) (N := 9) hx hb hts inX1_decide_1 hown hK.1 hP 0 rfl rfl 5 (by decide) (hts (.fieldLink RX1 32 "LyingScale$Orders" "count" "I") (List.mem_of_getElem? (i := 2) rfl)) (fun _ h9 => h9) rfl dX1_decide_5 ?_
  refine lv_aload_n hx hb dX1_decide_8 rfl (lv_at hl 0 rfl) ?_
  refine va_get (D := D) (ci := 1) (v := .int (x0.1 3)) (C := RX1) (T := TX1) (N := 9) hx hb hts inX1_decide_1 hown hK.1 hP 0 rfl rfl 7 (by decide) (hts (.fieldLink RX1 46 "LyingScale$Orders" "left" "I") (List.mem_of_getElem? (i := 3) rfl)) (fun _ h9 => h9) rfl dX1_decide_9 ?_
  replace h := bd h
  obtain ⟨t1, et1, h⟩ := h
  refine callMv (wr := [(a0 0, .inr (1, [.ref (a0 1), .ref (a0 2), .ref (a0 3), .ref (a0 4), .int (x0.1 0), .int (x0.1 1), .int (x0.1 2), .int (x0.1 3), .int (x0.1 4)])), (a0 1, .inl (T 0, 100, .inl (x0.2 0))), (a0 3, .inl (T 0, 20, .inl (x0.2 2))), (a0 4, .inl (T 0, 20, .inl (x0.2 3)))]) (ws' := orW T a0 (sA x0 1 t1)) (va_runSN (As := [.ref (a0 2), .int (x0.1 1), .int (x0.1 3)]) (rest := []) ⟨hx, hb, hml, hown, hts⟩ (c_X4_put l D T (a0 2) 20 (x0.2 1) (x0.1 1) (x0.1 3) H.size (Nat.le_of_ble_eq_true rfl) t1 et1) ⟨va_cnB 3 hts gX1_decide_X4_put_n28 rfl rfl rfl (hK.2 (.methodLinkNest RX1 28 yX4_put "LyingScale") (List.mem_of_getElem? (i := 15) rfl)) (hts (.initialized RX4) (List.mem_of_getElem? (i := 8) rfl)) hdS_X4_put ⟨Nat.le_of_ble_eq_true rfl, Nat.le_of_ble_eq_true rfl⟩, (hts (.static yX4_put) (List.mem_of_getElem? (i := 7) rfl)), trivial⟩ ⟨PM_blind, PM_at (hP.sub (ws' := ([(a0 2, .inl (T 0, 20, .inl (x0.2 1)))] : va_W)) [2] rfl) (hD.sub (ws' := ([(a0 2, .inl (T 0, 20, .inl (x0.2 1)))] : va_W)) [2] (by decide) rfl) hK⟩ rfl rfl hl.1 rfl (lv_room (Nat.le_of_ble_eq_true rfl)) dX1_decide_12 ⟨Nat.zero_le _, Nat.zero_le _⟩) hS hA hP hD [2] [0, 1, 3, 4] rfl rfl (by decide) (by decide) [0, 1, 4, 2, 3] (by decide) rfl (fun H locs hP hD hS => ?_)
  refine lv_aload_n hx hb dX1_decide_15 rfl (lv_at hl 0 rfl) ?_
  refine va_get (D := D) (ci := 1) (v := .ref (a0 3)) (C := RX1) (T := TX1) (N := 9) hx hb hts inX1_decide_1 hown hK.1 hP 0 rfl rfl 2 (by decide) (hts (.fieldLink RX1 18 "LyingScale$Orders" "rights" "[I") (List.mem_of_getElem? (i := 4) rfl)) (fun _ h9 => h9) rfl dX1_decide_16 ?_
  refine lv_aload_n hx hb dX1_decide_19 rfl (lv_at hl 0 rfl) ?_
  refine va_get (D := D) (ci := 1) (v := .int ((sA x0 1 t1).1 1)) (C := RX1) (T := TX1) (N := 9) hx hb hts inX1_decide_1 hown hK.1 hP 0 rfl rfl 5 (by decide) (hts (.fieldLink RX1 32 "LyingScale$Orders" "count" "I") (List.mem_of_getElem? (i := 2) rfl)) (fun _ h9 => h9) rfl dX1_decide_20 ?_
  refine lv_aload_n hx hb dX1_decide_23 rfl (lv_at hl 0 rfl) ?_
  refine va_get (D := D) (ci := 1) (v := .int ((sA x0 1 t1).1 4)) (C := RX1) (T := TX1) (N := 9) hx hb hts inX1_decide_1 hown hK.1 hP 0 rfl rfl 8 (by decide) (hts (.fieldLink RX1 49 "LyingScale$Orders" "right" "I") (List.mem_of_getElem? (i := 5) rfl)) (fun _ h9 => h9) rfl dX1_decide_24 ?_
  replace h := bd h
  obtain ⟨t2, et2, h⟩ := h
  refine callMv (wr := [(a0 0, .inr (1, [.ref (a0 1), .ref (a0 2), .ref (a0 3), .ref (a0 4), .int ((sA x0 1 t1).1 0), .int ((sA x0 1 t1).1 1), .int ((sA x0 1 t1).1 2), .int ((sA x0 1 t1).1 3), .int ((sA x0 1 t1).1 4)])), (a0 1, .inl (T 0, 100, .inl ((sA x0 1 t1).2 0))), (a0 2, .inl (T 0, 20, .inl ((sA x0 1 t1).2 1))), (a0 4, .inl (T 0, 20, .inl ((sA x0 1 t1).2 3)))]) (ws' := orW T a0 (sA (sA x0 1 t1) 2 t2)) (va_runSN (As := [.ref (a0 3), .int ((sA x0 1 t1).1 1), .int ((sA x0 1 t1).1 4)]) (rest := []) ⟨hx, hb, hml, hown, hts⟩ (c_X4_put l D T (a0 3) 20 ((sA x0 1 t1).2 2) ((sA x0 1 t1).1 1) ((sA x0 1 t1).1 4) H.size (Nat.le_of_ble_eq_true rfl) t2 et2) ⟨va_cnB 3 hts gX1_decide_X4_put_n28 rfl rfl rfl (hK.2 (.methodLinkNest RX1 28 yX4_put "LyingScale") (List.mem_of_getElem? (i := 15) rfl)) (hts (.initialized RX4) (List.mem_of_getElem? (i := 8) rfl)) hdS_X4_put ⟨Nat.le_of_ble_eq_true rfl, Nat.le_of_ble_eq_true rfl⟩, (hts (.static yX4_put) (List.mem_of_getElem? (i := 7) rfl)), trivial⟩ ⟨PM_blind, PM_at (hP.sub (ws' := ([(a0 3, .inl (T 0, 20, .inl ((sA x0 1 t1).2 2)))] : va_W)) [3] rfl) (hD.sub (ws' := ([(a0 3, .inl (T 0, 20, .inl ((sA x0 1 t1).2 2)))] : va_W)) [3] (by decide) rfl) hK⟩ rfl rfl hl.1 rfl (lv_room (Nat.le_of_ble_eq_true rfl)) dX1_decide_27 ⟨Nat.zero_le _, Nat.zero_le _⟩) hS hA hP hD [3] [0, 1, 2, 4] rfl rfl (by decide) (by decide) [0, 1, 2, 4, 3] (by decide) rfl (fun H locs hP hD hS => ?_)
  refine lv_aload_n hx hb dX1_decide_30 rfl (lv_at hl 0 rfl) ?_
  refine va_get (D := D) (ci := 1) (v := .ref (a0 4)) (C := RX1) (T := TX1) (N := 9) hx hb hts inX1_decide_1 hown hK.1 hP 0 rfl rfl 3 (by decide) (hts (.fieldLink RX1 21 "LyingScale$Orders" "deeds" "[I") (List.mem_of_getElem? (i := 6) rfl)) (fun _ h9 => h9) rfl dX1_decide_31 ?_
  refine lv_aload_n hx hb dX1_decide_34 rfl (lv_at hl 0 rfl) ?_
  refine va_get (D := D) (ci := 1) (v := .int ((sA (sA x0 1 t1) 2 t2).1 1)) (C := RX1) (T := TX1) (N := 9) hx hb hts inX1_decide_1 hown hK.1 hP 0 rfl rfl 5 (by decide) (hts (.fieldLink RX1 32 "LyingScale$Orders" "count" "I") (List.mem_of_getElem? (i := 2) rfl)) (fun _ h9 => h9) rfl dX1_decide_35 ?_
  refine lv_iload_n hx hb dX1_decide_38 rfl (lv_at hl 1 rfl) ?_
  replace h := bd h
  obtain ⟨t3, et3, h⟩ := h
  refine callMv (wr := [(a0 0, .inr (1, [.ref (a0 1), .ref (a0 2), .ref (a0 3), .ref (a0 4), .int ((sA (sA x0 1 t1) 2 t2).1 0), .int ((sA (sA x0 1 t1) 2 t2).1 1), .int ((sA (sA x0 1 t1) 2 t2).1 2), .int ((sA (sA x0 1 t1) 2 t2).1 3), .int ((sA (sA x0 1 t1) 2 t2).1 4)])), (a0 1, .inl (T 0, 100, .inl ((sA (sA x0 1 t1) 2 t2).2 0))), (a0 2, .inl (T 0, 20, .inl ((sA (sA x0 1 t1) 2 t2).2 1))), (a0 3, .inl (T 0, 20, .inl ((sA (sA x0 1 t1) 2 t2).2 2)))]) (ws' := orW T a0 (sA (sA (sA x0 1 t1) 2 t2) 3 t3)) (va_runSN (As := [.ref (a0 4), .int ((sA (sA x0 1 t1) 2 t2).1 1), .int v1]) (rest := []) ⟨hx, hb, hml, hown, hts⟩ (c_X4_put l D T (a0 4) 20 ((sA (sA x0 1 t1) 2 t2).2 3) ((sA (sA x0 1 t1) 2 t2).1 1) v1 H.size (Nat.le_of_ble_eq_true rfl) t3 et3) ⟨va_cnB 3 hts gX1_decide_X4_put_n28 rfl rfl rfl (hK.2 (.methodLinkNest RX1 28 yX4_put "LyingScale") (List.mem_of_getElem? (i := 15) rfl)) (hts (.initialized RX4) (List.mem_of_getElem? (i := 8) rfl)) hdS_X4_put ⟨Nat.le_of_ble_eq_true rfl, Nat.le_of_ble_eq_true rfl⟩, (hts (.static yX4_put) (List.mem_of_getElem? (i := 7) rfl)), trivial⟩ ⟨PM_blind, PM_at (hP.sub (ws' := ([(a0 4, .inl (T 0, 20, .inl ((sA (sA x0 1 t1) 2 t2).2 3)))] : va_W)) [4] rfl) (hD.sub (ws' := ([(a0 4, .inl (T 0, 20, .inl ((sA (sA x0 1 t1) 2 t2).2 3)))] : va_W)) [4] (by decide) rfl) hK⟩ rfl rfl hl.1 rfl (lv_room (Nat.le_of_ble_eq_true rfl)) dX1_decide_39 ⟨Nat.zero_le _, Nat.zero_le _⟩) hS hA hP hD [4] [0, 1, 2, 3] rfl rfl (by decide) (by decide) [0, 1, 2, 3, 4] (by decide) rfl (fun H locs hP hD hS => ?_)
  refine lv_aload_n hx hb dX1_decide_42 rfl (lv_at hl 0 rfl) ?_
  refine lv_iconst (v := 5) hx hb dX1_decide_43 (by decide) ?_
  replace h := bd h
  obtain ⟨t4, et4, h⟩ := h
  refine callMi (wr := []) (ws' := orW T a0 (t4.2)) (va_runV (As := [.int 5]) (rest := []) ⟨hx, hb, hml, hown, hts⟩ (c_X1_goTo l D T a0 (sA (sA (sA x0 1 t1) 2 t2) 3 t3) 5 H.size t4 et4) (cwV 1 hts gX1_decide_X1_goTo rfl rfl rfl hdV_X1_goTo ⟨Nat.le_of_ble_eq_true rfl, Nat.le_of_ble_eq_true rfl⟩) ⟨PM_blind, va_recv hK.1 hP (ci := 1) (q0 := 0) rfl rfl, PM_at hP hD hK⟩ rfl rfl hl.1 rfl (lv_room (Nat.le_of_ble_eq_true rfl)) dX1_decide_44 ⟨Nat.zero_le _, Nat.zero_le _⟩) hS hA hP hD [0, 1, 2, 3, 4] [] rfl rfl (by decide) (by decide) [0, 1, 2, 3, 4] (by decide) rfl (fun H locs hP hD hS => ?_)
  replace h := gd h
  obtain ⟨g5, h⟩ := h
  obtain rfl := Option.some.inj h
  exact W.zret hx hb hr (nrZ g5) (fun t ht hW => ⟨⟨_, (), rfl, rfl, by rw [ht]; exact hP, hD⟩, hS.F ht⟩) hS.2.2 dX1_decide_47 hlocks
set_option maxHeartbeats 4000000 in
set_option maxRecDepth 100000 in
theorem c_X1_takeDeed (l : Launch) (D : va_G) (T : Nat → ClassId) (a0 : Nat → Nat) (x0 : St) (v1 : Int32) (sz : Nat) (r : Int32 × St) (h : F_X1_takeDeed x0 v1 = some r) : Met l yX1_takeDeed wsX1_takeDeed ({ frames := 2, cells := 0, slots := 0, locals := 43 } : Room) (va_Pc [.ref (a0 0), .int v1] (PM D T (orW T a0 (x0)) sz)) (QMi D (orW T a0 (r.2)) r.1 (va_A (orW T a0 (x0)) sz)) 0 0 (va_A (orW T a0 (x0)) sz) := by
  refine met_of (cc := cX1_takeDeed) (maxL := 2) (ret := (some .boolean)) (lv := [(0, .ref (a0 0)), (1, .int v1)]) (by decide) rfl (Nat.le_of_ble_eq_true rfl) rfl ?_
  intro p e s m args below meth c ls C0 hl hB
  obtain ⟨hx, hb, hr, hml, hown, hts, hlocks, hname⟩ := C0
  obtain ⟨hsz, hP, hK, hD0⟩ := hB
  subst hsz
  have hD := hD0.self (sz := s.heap.size)
  generalize hAe : va_A (orW T a0 (x0)) s.heap.size = A at hD ⊢
  have hA : ∀ q : Nat, s.heap.size ≤ q → A q := fun q h => by rw [← hAe]; exact Or.inr h
  obtain ⟨H, hH⟩ : ∃ H, H = s.heap := ⟨_, rfl⟩
  obtain ⟨locs, hlo⟩ : ∃ L : List Loc, L = [] := ⟨_, rfl⟩
  have hS : va_S A s.heap s.heap [] := va_S.rf
  rw [← hH] at hP ⊢
  rw [← hlo]
  replace hS : va_S A s.heap H locs := by rw [hH, hlo]; exact hS
  clear hH hlo
  unfold F_X1_takeDeed at h
  refine lv_iload_n hx hb dX1_takeDeed_0 rfl (lv_at hl 1 rfl) ?_
  by_cases c1 : v1 = 43
  · replace h := ip c1 h
    refine lv_lookup (off := 47) (tgt := 48) hx hb dX1_takeDeed_1 (by decide) (by rw [c1]; decide) (by decide) ?_
    refine lv_aload_n hx hb dX1_takeDeed_48 rfl (lv_at hl 0 rfl) ?_
    refine lv_iconst (v := 4) hx hb dX1_takeDeed_49 (by decide) ?_
    replace h := bd h
    obtain ⟨t2, et2, h⟩ := h
    refine callMi (wr := []) (ws' := orW T a0 (t2.2)) (va_runV (As := [.int 4]) (rest := []) ⟨hx, hb, hml, hown, hts⟩ (c_X1_decide l D T a0 x0 4 H.size t2 et2) (cwV 1 hts gX1_takeDeed_X1_decide rfl rfl rfl hdV_X1_decide ⟨Nat.le_of_ble_eq_true rfl, Nat.le_of_ble_eq_true rfl⟩) ⟨PM_blind, va_recv hK.1 hP (ci := 1) (q0 := 0) rfl rfl, PM_at hP hD hK⟩ rfl rfl hl.1 rfl (lv_room (Nat.le_of_ble_eq_true rfl)) dX1_takeDeed_50 ⟨Nat.zero_le _, Nat.zero_le _⟩) hS hA hP hD [0, 1, 2, 3, 4] [] rfl rfl (by decide) (by decide) [0, 1, 2, 3, 4] (by decide) rfl (fun H locs hP hD hS => ?_)
    replace h := gd h
    obtain ⟨g3, h⟩ := h
    obtain rfl := Option.some.inj h
    exact W.zret hx hb hr (nrZ g3) (fun t ht hW => ⟨⟨_, (), rfl, rfl, by rw [ht]; exact hP, hD⟩, hS.F ht⟩) hS.2.2 dX1_takeDeed_53 hlocks
  replace h := im c1 h
  by_cases c4 : v1 = 61
  · replace h := ip c4 h
    refine lv_lookup (off := 35) (tgt := 36) hx hb dX1_takeDeed_1 (by decide) (by rw [c4]; decide) (by decide) ?_
    refine lv_aload_n hx hb dX1_takeDeed_36 rfl (lv_at hl 0 rfl) ?_
    refine lv_iconst (v := 4) hx hb dX1_takeDeed_37 (by decide) ?_
    replace h := bd h
    obtain ⟨t5, et5, h⟩ := h
    refine callMi (wr := []) (ws' := orW T a0 (t5.2)) (va_runV (As := [.int 4]) (rest := []) ⟨hx, hb, hml, hown, hts⟩ (c_X1_goTo l D T a0 x0 4 H.size t5 et5) (cwV 1 hts gX1_takeDeed_X1_goTo rfl rfl rfl hdV_X1_goTo ⟨Nat.le_of_ble_eq_true rfl, Nat.le_of_ble_eq_true rfl⟩) ⟨PM_blind, va_recv hK.1 hP (ci := 1) (q0 := 0) rfl rfl, PM_at hP hD hK⟩ rfl rfl hl.1 rfl (lv_room (Nat.le_of_ble_eq_true rfl)) dX1_takeDeed_38 ⟨Nat.zero_le _, Nat.zero_le _⟩) hS hA hP hD [0, 1, 2, 3, 4] [] rfl rfl (by decide) (by decide) [0, 1, 2, 3, 4] (by decide) rfl (fun H locs hP hD hS => ?_)
    replace h := gd h
    obtain ⟨g6, h⟩ := h
    obtain rfl := Option.some.inj h
    exact W.zret hx hb hr (nrZ g6) (fun t ht hW => ⟨⟨_, (), rfl, rfl, by rw [ht]; exact hP, hD⟩, hS.F ht⟩) hS.2.2 dX1_takeDeed_41 hlocks
  replace h := im c4 h
  by_cases c7 : v1 = 63
  · replace h := ip c7 h
    refine lv_lookup (off := 41) (tgt := 42) hx hb dX1_takeDeed_1 (by decide) (by rw [c7]; decide) (by decide) ?_
    refine lv_aload_n hx hb dX1_takeDeed_42 rfl (lv_at hl 0 rfl) ?_
    refine lv_iconst (v := 3) hx hb dX1_takeDeed_43 (by decide) ?_
    replace h := bd h
    obtain ⟨t8, et8, h⟩ := h
    refine callMi (wr := []) (ws' := orW T a0 (t8.2)) (va_runV (As := [.int 3]) (rest := []) ⟨hx, hb, hml, hown, hts⟩ (c_X1_decide l D T a0 x0 3 H.size t8 et8) (cwV 1 hts gX1_takeDeed_X1_decide rfl rfl rfl hdV_X1_decide ⟨Nat.le_of_ble_eq_true rfl, Nat.le_of_ble_eq_true rfl⟩) ⟨PM_blind, va_recv hK.1 hP (ci := 1) (q0 := 0) rfl rfl, PM_at hP hD hK⟩ rfl rfl hl.1 rfl (lv_room (Nat.le_of_ble_eq_true rfl)) dX1_takeDeed_44 ⟨Nat.zero_le _, Nat.zero_le _⟩) hS hA hP hD [0, 1, 2, 3, 4] [] rfl rfl (by decide) (by decide) [0, 1, 2, 3, 4] (by decide) rfl (fun H locs hP hD hS => ?_)
    replace h := gd h
    obtain ⟨g9, h⟩ := h
    obtain rfl := Option.some.inj h
    exact W.zret hx hb hr (nrZ g9) (fun t ht hW => ⟨⟨_, (), rfl, rfl, by rw [ht]; exact hP, hD⟩, hS.F ht⟩) hS.2.2 dX1_takeDeed_47 hlocks
  replace h := im c7 h
  refine lv_lookup (off := 53) (tgt := 54) hx hb dX1_takeDeed_1 (by decide) ((lv_osw c1 (by decide)).trans ((lv_osw c4 (by decide)).trans ((lv_osw c7 (by decide)).trans rfl))) (by decide) ?_
  refine lv_iconst (v := 0) hx hb dX1_takeDeed_54 (by decide) ?_
  obtain rfl := Option.some.inj h
  exact W.zret hx hb hr rfl (fun t ht hW => ⟨⟨_, (), rfl, rfl, by rw [ht]; exact hP, hD⟩, hS.F ht⟩) hS.2.2 dX1_takeDeed_55 hlocks
set_option maxHeartbeats 4000000 in
set_option maxRecDepth 100000 in
theorem c_X1_takeAnswer (l : Launch) (D : va_G) (T : Nat → ClassId) (a0 : Nat → Nat) (x0 : St) (v1 : Int32) (sz : Nat) (r : Int32 × St) (h : F_X1_takeAnswer x0 v1 = some r) : Met l yX1_takeAnswer wsX1_takeAnswer ({ frames := 2, cells := 0, slots := 0, locals := 43 } : Room) (va_Pc [.ref (a0 0), .int v1] (PM D T (orW T a0 (x0)) sz)) (QMi D (orW T a0 (r.2)) r.1 (va_A (orW T a0 (x0)) sz)) 0 0 (va_A (orW T a0 (x0)) sz) := by
  refine met_of (cc := cX1_takeAnswer) (maxL := 2) (ret := (some .boolean)) (lv := [(0, .ref (a0 0)), (1, .int v1)]) (by decide) rfl (Nat.le_of_ble_eq_true rfl) rfl ?_
  intro p e s m args below meth c ls C0 hl hB
  obtain ⟨hx, hb, hr, hml, hown, hts, hlocks, hname⟩ := C0
  obtain ⟨hsz, hP, hK, hD0⟩ := hB
  subst hsz
  have hD := hD0.self (sz := s.heap.size)
  generalize hAe : va_A (orW T a0 (x0)) s.heap.size = A at hD ⊢
  have hA : ∀ q : Nat, s.heap.size ≤ q → A q := fun q h => by rw [← hAe]; exact Or.inr h
  obtain ⟨H, hH⟩ : ∃ H, H = s.heap := ⟨_, rfl⟩
  obtain ⟨locs, hlo⟩ : ∃ L : List Loc, L = [] := ⟨_, rfl⟩
  have hS : va_S A s.heap s.heap [] := va_S.rf
  rw [← hH] at hP ⊢
  rw [← hlo]
  replace hS : va_S A s.heap H locs := by rw [hH, hlo]; exact hS
  clear hH hlo
  unfold F_X1_takeAnswer at h
  refine lv_iload_n hx hb dX1_takeAnswer_0 rfl (lv_at hl 1 rfl) ?_
  by_cases c1 : v1 = 101
  · replace h := ip c1 h
    refine lv_lookup (off := 47) (tgt := 48) hx hb dX1_takeAnswer_1 (by decide) (by rw [c1]; decide) (by decide) ?_
    refine lv_aload_n hx hb dX1_takeAnswer_48 rfl (lv_at hl 0 rfl) ?_
    refine lv_iconst (v := 2) hx hb dX1_takeAnswer_49 (by decide) ?_
    replace h := bd h
    obtain ⟨t2, et2, h⟩ := h
    refine callMi (wr := []) (ws' := orW T a0 (t2.2)) (va_runV (As := [.int 2]) (rest := []) ⟨hx, hb, hml, hown, hts⟩ (c_X1_decide l D T a0 x0 2 H.size t2 et2) (cwV 1 hts gX1_takeAnswer_X1_decide rfl rfl rfl hdV_X1_decide ⟨Nat.le_of_ble_eq_true rfl, Nat.le_of_ble_eq_true rfl⟩) ⟨PM_blind, va_recv hK.1 hP (ci := 1) (q0 := 0) rfl rfl, PM_at hP hD hK⟩ rfl rfl hl.1 rfl (lv_room (Nat.le_of_ble_eq_true rfl)) dX1_takeAnswer_50 ⟨Nat.zero_le _, Nat.zero_le _⟩) hS hA hP hD [0, 1, 2, 3, 4] [] rfl rfl (by decide) (by decide) [0, 1, 2, 3, 4] (by decide) rfl (fun H locs hP hD hS => ?_)
    replace h := gd h
    obtain ⟨g3, h⟩ := h
    obtain rfl := Option.some.inj h
    exact W.zret hx hb hr (nrZ g3) (fun t ht hW => ⟨⟨_, (), rfl, rfl, by rw [ht]; exact hP, hD⟩, hS.F ht⟩) hS.2.2 dX1_takeAnswer_53 hlocks
  replace h := im c1 h
  by_cases c4 : v1 = 108
  · replace h := ip c4 h
    refine lv_lookup (off := 35) (tgt := 36) hx hb dX1_takeAnswer_1 (by decide) (by rw [c4]; decide) (by decide) ?_
    refine lv_aload_n hx hb dX1_takeAnswer_36 rfl (lv_at hl 0 rfl) ?_
    refine lv_iconst (v := 0) hx hb dX1_takeAnswer_37 (by decide) ?_
    replace h := bd h
    obtain ⟨t5, et5, h⟩ := h
    refine callMi (wr := []) (ws' := orW T a0 (t5.2)) (va_runV (As := [.int 0]) (rest := []) ⟨hx, hb, hml, hown, hts⟩ (c_X1_decide l D T a0 x0 0 H.size t5 et5) (cwV 1 hts gX1_takeAnswer_X1_decide rfl rfl rfl hdV_X1_decide ⟨Nat.le_of_ble_eq_true rfl, Nat.le_of_ble_eq_true rfl⟩) ⟨PM_blind, va_recv hK.1 hP (ci := 1) (q0 := 0) rfl rfl, PM_at hP hD hK⟩ rfl rfl hl.1 rfl (lv_room (Nat.le_of_ble_eq_true rfl)) dX1_takeAnswer_38 ⟨Nat.zero_le _, Nat.zero_le _⟩) hS hA hP hD [0, 1, 2, 3, 4] [] rfl rfl (by decide) (by decide) [0, 1, 2, 3, 4] (by decide) rfl (fun H locs hP hD hS => ?_)
    replace h := gd h
    obtain ⟨g6, h⟩ := h
    obtain rfl := Option.some.inj h
    exact W.zret hx hb hr (nrZ g6) (fun t ht hW => ⟨⟨_, (), rfl, rfl, by rw [ht]; exact hP, hD⟩, hS.F ht⟩) hS.2.2 dX1_takeAnswer_41 hlocks
  replace h := im c4 h
  by_cases c7 : v1 = 114
  · replace h := ip c7 h
    refine lv_lookup (off := 41) (tgt := 42) hx hb dX1_takeAnswer_1 (by decide) (by rw [c7]; decide) (by decide) ?_
    refine lv_aload_n hx hb dX1_takeAnswer_42 rfl (lv_at hl 0 rfl) ?_
    refine lv_iconst (v := 1) hx hb dX1_takeAnswer_43 (by decide) ?_
    replace h := bd h
    obtain ⟨t8, et8, h⟩ := h
    refine callMi (wr := []) (ws' := orW T a0 (t8.2)) (va_runV (As := [.int 1]) (rest := []) ⟨hx, hb, hml, hown, hts⟩ (c_X1_decide l D T a0 x0 1 H.size t8 et8) (cwV 1 hts gX1_takeAnswer_X1_decide rfl rfl rfl hdV_X1_decide ⟨Nat.le_of_ble_eq_true rfl, Nat.le_of_ble_eq_true rfl⟩) ⟨PM_blind, va_recv hK.1 hP (ci := 1) (q0 := 0) rfl rfl, PM_at hP hD hK⟩ rfl rfl hl.1 rfl (lv_room (Nat.le_of_ble_eq_true rfl)) dX1_takeAnswer_44 ⟨Nat.zero_le _, Nat.zero_le _⟩) hS hA hP hD [0, 1, 2, 3, 4] [] rfl rfl (by decide) (by decide) [0, 1, 2, 3, 4] (by decide) rfl (fun H locs hP hD hS => ?_)
    replace h := gd h
    obtain ⟨g9, h⟩ := h
    obtain rfl := Option.some.inj h
    exact W.zret hx hb hr (nrZ g9) (fun t ht hW => ⟨⟨_, (), rfl, rfl, by rw [ht]; exact hP, hD⟩, hS.F ht⟩) hS.2.2 dX1_takeAnswer_47 hlocks
  replace h := im c7 h
  refine lv_lookup (off := 53) (tgt := 54) hx hb dX1_takeAnswer_1 (by decide) ((lv_osw c1 (by decide)).trans ((lv_osw c4 (by decide)).trans ((lv_osw c7 (by decide)).trans rfl))) (by decide) ?_
  refine lv_iconst (v := 0) hx hb dX1_takeAnswer_54 (by decide) ?_
  obtain rfl := Option.some.inj h
  exact W.zret hx hb hr rfl (fun t ht hW => ⟨⟨_, (), rfl, rfl, by rw [ht]; exact hP, hD⟩, hS.F ht⟩) hS.2.2 dX1_takeAnswer_55 hlocks
set_option maxHeartbeats 4000000 in
set_option maxRecDepth 100000 in
theorem c_X1_close (l : Launch) (D : va_G) (T : Nat → ClassId) (a0 : Nat → Nat) (x0 : St) (sz : Nat) (r : Int32 × St) (h : F_X1_close x0 = some r) : Met l yX1_close wsX1_close ({ frames := 1, cells := 0, slots := 0, locals := 21 } : Room) (va_Pc [.ref (a0 0)] (PM D T (orW T a0 (x0)) sz)) (QMi D (orW T a0 (r.2)) r.1 (va_A (orW T a0 (x0)) sz)) 0 0 (va_A (orW T a0 (x0)) sz) := by
  refine met_of (cc := cX1_close) (maxL := 1) (ret := (some .boolean)) (lv := [(0, .ref (a0 0))]) (by decide) rfl (Nat.le_of_ble_eq_true rfl) rfl ?_
  intro p e s m args below meth c ls C0 hl hB
  obtain ⟨hx, hb, hr, hml, hown, hts, hlocks, hname⟩ := C0
  obtain ⟨hsz, hP, hK, hD0⟩ := hB
  subst hsz
  have hD := hD0.self (sz := s.heap.size)
  generalize hAe : va_A (orW T a0 (x0)) s.heap.size = A at hD ⊢
  have hA : ∀ q : Nat, s.heap.size ≤ q → A q := fun q h => by rw [← hAe]; exact Or.inr h
  obtain ⟨H, hH⟩ : ∃ H, H = s.heap := ⟨_, rfl⟩
  obtain ⟨locs, hlo⟩ : ∃ L : List Loc, L = [] := ⟨_, rfl⟩
  have hS : va_S A s.heap s.heap [] := va_S.rf
  rw [← hH] at hP ⊢
  rw [← hlo]
  replace hS : va_S A s.heap H locs := by rw [hH, hlo]; exact hS
  clear hH hlo
  unfold F_X1_close at h
  refine lv_aload_n hx hb dX1_close_0 rfl (lv_at hl 0 rfl) ?_
  refine lv_dup hx hb dX1_close_1 rfl ?_
  refine va_get (D := D) (ci := 1) (v := .int (x0.1 1)) (C := RX1) (T := TX1) (N := 9) hx hb hts inX1_close_1 hown hK.1 hP 0 rfl rfl 5 (by decide) (hts (.fieldLink RX1 32 "LyingScale$Orders" "count" "I") (List.mem_of_getElem? (i := 1) rfl)) (fun _ h9 => h9) rfl dX1_close_2 ?_
  refine lv_iconst (v := 1) hx hb dX1_close_5 (by decide) ?_
  refine lv_iadd hx hb dX1_close_6 ?_
  refine va_put (D := D) (ci := 1) (v := .int ((x0.1 1) + 1)) (ty := .int) (C := RX1) (T := TX1) (N := 9) hx hb hts inX1_close_1 tyX1 tyX1_ok nmX1 hown hK.1 hP hD hS 0 rfl rfl 5 (by decide) (hts (.fieldLink RX1 32 "LyingScale$Orders" "count" "I") (List.mem_of_getElem? (i := 1) rfl)) (fun _ h9 => h9) rfl (by decide +kernel) rfl rfl (Nat.le_of_ble_eq_true rfl) dX1_close_7 (fun H locs hP hD hS => ?_)
  replace hP : va_P D vwCl (orW T a0 (sI x0 1 ((x0.1 1) + 1))) H := hP
  replace hD : va_D A (orW T a0 (sI x0 1 ((x0.1 1) + 1))) := hD
  refine lv_aload_n hx hb dX1_close_10 rfl (lv_at hl 0 rfl) ?_
  refine lv_iconst (v := 0) hx hb dX1_close_11 (by decide) ?_
  replace h := bd h
  obtain ⟨t1, et1, h⟩ := h
  refine callMi (wr := []) (ws' := orW T a0 (t1.2)) (va_runV (As := [.int 0]) (rest := []) ⟨hx, hb, hml, hown, hts⟩ (c_X1_goTo l D T a0 (sI x0 1 ((x0.1 1) + 1)) 0 H.size t1 et1) (cwV 1 hts gX1_close_X1_goTo rfl rfl rfl hdV_X1_goTo ⟨Nat.le_of_ble_eq_true rfl, Nat.le_of_ble_eq_true rfl⟩) ⟨PM_blind, va_recv hK.1 hP (ci := 1) (q0 := 0) rfl rfl, PM_at hP hD hK⟩ rfl rfl hl.1 rfl (lv_room (Nat.le_of_ble_eq_true rfl)) dX1_close_12 ⟨Nat.zero_le _, Nat.zero_le _⟩) hS hA hP hD [0, 1, 2, 3, 4] [] rfl rfl (by decide) (by decide) [0, 1, 2, 3, 4] (by decide) rfl (fun H locs hP hD hS => ?_)
  replace h := gd h
  obtain ⟨g2, h⟩ := h
  obtain rfl := Option.some.inj h
  exact W.zret hx hb hr (nrZ g2) (fun t ht hW => ⟨⟨_, (), rfl, rfl, by rw [ht]; exact hP, hD⟩, hS.F ht⟩) hS.2.2 dX1_close_15 hlocks
set_option maxHeartbeats 4000000 in
set_option maxRecDepth 100000 in
theorem c_X1_take (l : Launch) (D : va_G) (T : Nat → ClassId) (a0 : Nat → Nat) (x0 : St) (v1 : Int32) (sz : Nat) (r : Int32 × St) (h : F_X1_take x0 v1 = some r) : Met l yX1_take wsX1_take ({ frames := 3, cells := 0, slots := 0, locals := 64 } : Room) (va_Pc [.ref (a0 0), .int v1] (PM D T (orW T a0 (x0)) sz)) (QMi D (orW T a0 (r.2)) r.1 (va_A (orW T a0 (x0)) sz)) 0 0 (va_A (orW T a0 (x0)) sz) := by
  refine met_of (cc := cX1_take) (maxL := 2) (ret := (some .boolean)) (lv := [(0, .ref (a0 0)), (1, .int v1)]) (by decide) rfl (Nat.le_of_ble_eq_true rfl) rfl ?_
  intro p e s m args below meth c ls C0 hl hB
  obtain ⟨hx, hb, hr, hml, hown, hts, hlocks, hname⟩ := C0
  obtain ⟨hsz, hP, hK, hD0⟩ := hB
  subst hsz
  have hD := hD0.self (sz := s.heap.size)
  generalize hAe : va_A (orW T a0 (x0)) s.heap.size = A at hD ⊢
  have hA : ∀ q : Nat, s.heap.size ≤ q → A q := fun q h => by rw [← hAe]; exact Or.inr h
  obtain ⟨H, hH⟩ : ∃ H, H = s.heap := ⟨_, rfl⟩
  obtain ⟨locs, hlo⟩ : ∃ L : List Loc, L = [] := ⟨_, rfl⟩
  have hS : va_S A s.heap s.heap [] := va_S.rf
  rw [← hH] at hP ⊢
  rw [← hlo]
  replace hS : va_S A s.heap H locs := by rw [hH, hlo]; exact hS
  clear hH hlo
  unfold F_X1_take at h
  refine lv_aload_n hx hb dX1_take_0 rfl (lv_at hl 0 rfl) ?_
  refine va_get (D := D) (ci := 1) (v := .int (x0.1 2)) (C := RX1) (T := TX1) (N := 9) hx hb hts inX1_take_1 hown hK.1 hP 0 rfl rfl 6 (by decide) (hts (.fieldLink RX1 35 "LyingScale$Orders" "place" "I") (List.mem_of_getElem? (i := 1) rfl)) (fun _ h9 => h9) rfl dX1_take_1 ?_
  by_cases c1 : x0.1 2 = 0
  · replace h := ip c1 h
    refine lv_tableIn (off := 36) (tgt := 40) hx hb dX1_take_4 (by rw [c1]; decide) (by rw [c1]; decide) (by rw [c1]; decide) (by decide) ?_
    refine lv_aload_n hx hb dX1_take_40 rfl (lv_at hl 0 rfl) ?_
    refine lv_iconst (v := 0) hx hb dX1_take_41 (by decide) ?_
    refine va_put (D := D) (ci := 1) (v := .int 0) (ty := .int) (C := RX1) (T := TX1) (N := 9) hx hb hts inX1_take_1 tyX1 tyX1_ok nmX1 hown hK.1 hP hD hS 0 rfl rfl 7 (by decide) (hts (.fieldLink RX1 46 "LyingScale$Orders" "left" "I") (List.mem_of_getElem? (i := 2) rfl)) (fun _ h9 => h9) rfl (by decide +kernel) rfl rfl (Nat.le_of_ble_eq_true rfl) dX1_take_42 (fun H locs hP hD hS => ?_)
    replace hP : va_P D vwCl (orW T a0 (sI x0 3 0)) H := hP
    replace hD : va_D A (orW T a0 (sI x0 3 0)) := hD
    refine lv_aload_n hx hb dX1_take_45 rfl (lv_at hl 0 rfl) ?_
    refine lv_iconst (v := 0) hx hb dX1_take_46 (by decide) ?_
    refine va_put (D := D) (ci := 1) (v := .int 0) (ty := .int) (C := RX1) (T := TX1) (N := 9) hx hb hts inX1_take_1 tyX1 tyX1_ok nmX1 hown hK.1 hP hD hS 0 rfl rfl 8 (by decide) (hts (.fieldLink RX1 49 "LyingScale$Orders" "right" "I") (List.mem_of_getElem? (i := 3) rfl)) (fun _ h9 => h9) rfl (by decide +kernel) rfl rfl (Nat.le_of_ble_eq_true rfl) dX1_take_47 (fun H locs hP hD hS => ?_)
    replace hP : va_P D vwCl (orW T a0 (sI (sI x0 3 0) 4 0)) H := hP
    replace hD : va_D A (orW T a0 (sI (sI x0 3 0) 4 0)) := hD
    refine lv_aload_n hx hb dX1_take_50 rfl (lv_at hl 0 rfl) ?_
    refine lv_iload_n hx hb dX1_take_51 rfl (lv_at hl 1 rfl) ?_
    replace h := bd h
    obtain ⟨t2, et2, h⟩ := h
    refine callMi (wr := []) (ws' := orW T a0 (t2.2)) (va_runV (As := [.int v1]) (rest := []) ⟨hx, hb, hml, hown, hts⟩ (c_X1_takeLeft l D T a0 (sI (sI x0 3 0) 4 0) v1 H.size t2 et2) (cwV 1 hts gX1_take_X1_takeLeft rfl rfl rfl hdV_X1_takeLeft ⟨Nat.le_of_ble_eq_true rfl, Nat.le_of_ble_eq_true rfl⟩) ⟨PM_blind, va_recv hK.1 hP (ci := 1) (q0 := 0) rfl rfl, PM_at hP hD hK⟩ rfl rfl hl.1 rfl (lv_room (Nat.le_of_ble_eq_true rfl)) dX1_take_52 ⟨Nat.zero_le _, Nat.zero_le _⟩) hS hA hP hD [0, 1, 2, 3, 4] [] rfl rfl (by decide) (by decide) [0, 1, 2, 3, 4] (by decide) rfl (fun H locs hP hD hS => ?_)
    replace h := gd h
    obtain ⟨g3, h⟩ := h
    obtain rfl := Option.some.inj h
    exact W.zret hx hb hr (nrZ g3) (fun t ht hW => ⟨⟨_, (), rfl, rfl, by rw [ht]; exact hP, hD⟩, hS.F ht⟩) hS.2.2 dX1_take_55 hlocks
  replace h := im c1 h
  by_cases c4 : x0.1 2 = 1
  · replace h := ip c4 h
    refine lv_tableIn (off := 52) (tgt := 56) hx hb dX1_take_4 (by rw [c4]; decide) (by rw [c4]; decide) (by rw [c4]; decide) (by decide) ?_
    refine lv_iload_n hx hb dX1_take_56 rfl (lv_at hl 1 rfl) ?_
    refine lv_bipush (v := 47) hx hb dX1_take_57 (by decide) ?_
    refine lv_icmp_ne (tgt := 70) hx hb dX1_take_59 (by decide) (fun c5 => ?_) (fun c5 => ?_)
    · replace h := im c5 h
      refine lv_aload_n hx hb dX1_take_70 rfl (lv_at hl 0 rfl) ?_
      refine lv_iload_n hx hb dX1_take_71 rfl (lv_at hl 1 rfl) ?_
      replace h := bd h
      obtain ⟨t6, et6, h⟩ := h
      refine callMi (wr := []) (ws' := orW T a0 (t6.2)) (va_runV (As := [.int v1]) (rest := []) ⟨hx, hb, hml, hown, hts⟩ (c_X1_takeLeft l D T a0 x0 v1 H.size t6 et6) (cwV 1 hts gX1_take_X1_takeLeft rfl rfl rfl hdV_X1_takeLeft ⟨Nat.le_of_ble_eq_true rfl, Nat.le_of_ble_eq_true rfl⟩) ⟨PM_blind, va_recv hK.1 hP (ci := 1) (q0 := 0) rfl rfl, PM_at hP hD hK⟩ rfl rfl hl.1 rfl (lv_room (Nat.le_of_ble_eq_true rfl)) dX1_take_72 ⟨Nat.zero_le _, Nat.zero_le _⟩) hS hA hP hD [0, 1, 2, 3, 4] [] rfl rfl (by decide) (by decide) [0, 1, 2, 3, 4] (by decide) rfl (fun H locs hP hD hS => ?_)
      replace h := gd h
      obtain ⟨g7, h⟩ := h
      obtain rfl := Option.some.inj h
      exact W.zret hx hb hr (nrZ g7) (fun t ht hW => ⟨⟨_, (), rfl, rfl, by rw [ht]; exact hP, hD⟩, hS.F ht⟩) hS.2.2 dX1_take_75 hlocks
    replace h := ip c5 h
    refine lv_aload_n hx hb dX1_take_62 rfl (lv_at hl 0 rfl) ?_
    refine lv_iconst (v := 2) hx hb dX1_take_63 (by decide) ?_
    replace h := bd h
    obtain ⟨t8, et8, h⟩ := h
    refine callMi (wr := []) (ws' := orW T a0 (t8.2)) (va_runV (As := [.int 2]) (rest := []) ⟨hx, hb, hml, hown, hts⟩ (c_X1_goTo l D T a0 x0 2 H.size t8 et8) (cwV 1 hts gX1_take_X1_goTo rfl rfl rfl hdV_X1_goTo ⟨Nat.le_of_ble_eq_true rfl, Nat.le_of_ble_eq_true rfl⟩) ⟨PM_blind, va_recv hK.1 hP (ci := 1) (q0 := 0) rfl rfl, PM_at hP hD hK⟩ rfl rfl hl.1 rfl (lv_room (Nat.le_of_ble_eq_true rfl)) dX1_take_64 ⟨Nat.zero_le _, Nat.zero_le _⟩) hS hA hP hD [0, 1, 2, 3, 4] [] rfl rfl (by decide) (by decide) [0, 1, 2, 3, 4] (by decide) rfl (fun H locs hP hD hS => ?_)
    refine lv_goto (tgt := 75) hx hb dX1_take_67 (by decide) ?_
    replace h := gd h
    obtain ⟨g9, h⟩ := h
    obtain rfl := Option.some.inj h
    exact W.zret hx hb hr (nrZ g9) (fun t ht hW => ⟨⟨_, (), rfl, rfl, by rw [ht]; exact hP, hD⟩, hS.F ht⟩) hS.2.2 dX1_take_75 hlocks
  replace h := im c4 h
  by_cases c10 : x0.1 2 = 2
  · replace h := ip c10 h
    refine lv_tableIn (off := 72) (tgt := 76) hx hb dX1_take_4 (by rw [c10]; decide) (by rw [c10]; decide) (by rw [c10]; decide) (by decide) ?_
    refine lv_aload_n hx hb dX1_take_76 rfl (lv_at hl 0 rfl) ?_
    refine lv_iload_n hx hb dX1_take_77 rfl (lv_at hl 1 rfl) ?_
    replace h := bd h
    obtain ⟨t11, et11, h⟩ := h
    refine callMi (wr := []) (ws' := orW T a0 (t11.2)) (va_runV (As := [.int v1]) (rest := []) ⟨hx, hb, hml, hown, hts⟩ (c_X1_takeRight l D T a0 x0 v1 H.size t11 et11) (cwV 1 hts gX1_take_X1_takeRight rfl rfl rfl hdV_X1_takeRight ⟨Nat.le_of_ble_eq_true rfl, Nat.le_of_ble_eq_true rfl⟩) ⟨PM_blind, va_recv hK.1 hP (ci := 1) (q0 := 0) rfl rfl, PM_at hP hD hK⟩ rfl rfl hl.1 rfl (lv_room (Nat.le_of_ble_eq_true rfl)) dX1_take_78 ⟨Nat.zero_le _, Nat.zero_le _⟩) hS hA hP hD [0, 1, 2, 3, 4] [] rfl rfl (by decide) (by decide) [0, 1, 2, 3, 4] (by decide) rfl (fun H locs hP hD hS => ?_)
    replace h := gd h
    obtain ⟨g12, h⟩ := h
    obtain rfl := Option.some.inj h
    exact W.zret hx hb hr (nrZ g12) (fun t ht hW => ⟨⟨_, (), rfl, rfl, by rw [ht]; exact hP, hD⟩, hS.F ht⟩) hS.2.2 dX1_take_81 hlocks
  replace h := im c10 h
  by_cases c13 : x0.1 2 = 3
  · replace h := ip c13 h
    refine lv_tableIn (off := 78) (tgt := 82) hx hb dX1_take_4 (by rw [c13]; decide) (by rw [c13]; decide) (by rw [c13]; decide) (by decide) ?_
    refine lv_aload_n hx hb dX1_take_82 rfl (lv_at hl 0 rfl) ?_
    refine lv_iload_n hx hb dX1_take_83 rfl (lv_at hl 1 rfl) ?_
    replace h := bd h
    obtain ⟨t14, et14, h⟩ := h
    refine callMi (wr := []) (ws' := orW T a0 (t14.2)) (va_runV (As := [.int v1]) (rest := []) ⟨hx, hb, hml, hown, hts⟩ (c_X1_takeDeed l D T a0 x0 v1 H.size t14 et14) (cwV 1 hts gX1_take_X1_takeDeed rfl rfl rfl hdV_X1_takeDeed ⟨Nat.le_of_ble_eq_true rfl, Nat.le_of_ble_eq_true rfl⟩) ⟨PM_blind, va_recv hK.1 hP (ci := 1) (q0 := 0) rfl rfl, PM_at hP hD hK⟩ rfl rfl hl.1 rfl (lv_room (Nat.le_of_ble_eq_true rfl)) dX1_take_84 ⟨Nat.zero_le _, Nat.zero_le _⟩) hS hA hP hD [0, 1, 2, 3, 4] [] rfl rfl (by decide) (by decide) [0, 1, 2, 3, 4] (by decide) rfl (fun H locs hP hD hS => ?_)
    refine lv_if_ne (tgt := 98) hx hb dX1_take_87 (by decide) (fun c15 => ?_) (fun c15 => ?_)
    · replace h := im c15 h
      refine lv_iconst (v := 1) hx hb dX1_take_98 (by decide) ?_
      refine lv_goto (tgt := 103) hx hb dX1_take_99 (by decide) ?_
      obtain rfl := Option.some.inj h
      exact W.zret hx hb hr rfl (fun t ht hW => ⟨⟨_, (), rfl, rfl, by rw [ht]; exact hP, hD⟩, hS.F ht⟩) hS.2.2 dX1_take_103 hlocks
    replace h := ip c15 h
    refine lv_aload_n hx hb dX1_take_90 rfl (lv_at hl 0 rfl) ?_
    refine lv_iload_n hx hb dX1_take_91 rfl (lv_at hl 1 rfl) ?_
    replace h := bd h
    obtain ⟨t16, et16, h⟩ := h
    refine callMi (wr := []) (ws' := orW T a0 (t16.2)) (va_runV (As := [.int v1]) (rest := []) ⟨hx, hb, hml, hown, hts⟩ (c_X1_takeRight l D T a0 t14.2 v1 H.size t16 et16) (cwV 1 hts gX1_take_X1_takeRight rfl rfl rfl hdV_X1_takeRight ⟨Nat.le_of_ble_eq_true rfl, Nat.le_of_ble_eq_true rfl⟩) ⟨PM_blind, va_recv hK.1 hP (ci := 1) (q0 := 0) rfl rfl, PM_at hP hD hK⟩ rfl rfl hl.1 rfl (lv_room (Nat.le_of_ble_eq_true rfl)) dX1_take_92 ⟨Nat.zero_le _, Nat.zero_le _⟩) hS hA hP hD [0, 1, 2, 3, 4] [] rfl rfl (by decide) (by decide) [0, 1, 2, 3, 4] (by decide) rfl (fun H locs hP hD hS => ?_)
    refine lv_if_eq (tgt := 102) hx hb dX1_take_95 (by decide) (fun c17 => ?_) (fun c17 => ?_)
    · replace h := ip c17 h
      refine lv_iconst (v := 0) hx hb dX1_take_102 (by decide) ?_
      obtain rfl := Option.some.inj h
      exact W.zret hx hb hr rfl (fun t ht hW => ⟨⟨_, (), rfl, rfl, by rw [ht]; exact hP, hD⟩, hS.F ht⟩) hS.2.2 dX1_take_103 hlocks
    replace h := im c17 h
    refine lv_iconst (v := 1) hx hb dX1_take_98 (by decide) ?_
    refine lv_goto (tgt := 103) hx hb dX1_take_99 (by decide) ?_
    obtain rfl := Option.some.inj h
    exact W.zret hx hb hr rfl (fun t ht hW => ⟨⟨_, (), rfl, rfl, by rw [ht]; exact hP, hD⟩, hS.F ht⟩) hS.2.2 dX1_take_103 hlocks
  replace h := im c13 h
  by_cases c18 : x0.1 2 = 4
  · replace h := ip c18 h
    refine lv_tableIn (off := 100) (tgt := 104) hx hb dX1_take_4 (by rw [c18]; decide) (by rw [c18]; decide) (by rw [c18]; decide) (by decide) ?_
    refine lv_aload_n hx hb dX1_take_104 rfl (lv_at hl 0 rfl) ?_
    refine lv_iload_n hx hb dX1_take_105 rfl (lv_at hl 1 rfl) ?_
    replace h := bd h
    obtain ⟨t19, et19, h⟩ := h
    refine callMi (wr := []) (ws' := orW T a0 (t19.2)) (va_runV (As := [.int v1]) (rest := []) ⟨hx, hb, hml, hown, hts⟩ (c_X1_takeAnswer l D T a0 x0 v1 H.size t19 et19) (cwV 1 hts gX1_take_X1_takeAnswer rfl rfl rfl hdV_X1_takeAnswer ⟨Nat.le_of_ble_eq_true rfl, Nat.le_of_ble_eq_true rfl⟩) ⟨PM_blind, va_recv hK.1 hP (ci := 1) (q0 := 0) rfl rfl, PM_at hP hD hK⟩ rfl rfl hl.1 rfl (lv_room (Nat.le_of_ble_eq_true rfl)) dX1_take_106 ⟨Nat.zero_le _, Nat.zero_le _⟩) hS hA hP hD [0, 1, 2, 3, 4] [] rfl rfl (by decide) (by decide) [0, 1, 2, 3, 4] (by decide) rfl (fun H locs hP hD hS => ?_)
    replace h := gd h
    obtain ⟨g20, h⟩ := h
    obtain rfl := Option.some.inj h
    exact W.zret hx hb hr (nrZ g20) (fun t ht hW => ⟨⟨_, (), rfl, rfl, by rw [ht]; exact hP, hD⟩, hS.F ht⟩) hS.2.2 dX1_take_109 hlocks
  replace h := im c18 h
  have qc1 := lv_neT c1 (a := 0) (by decide)
  have qc4 := lv_neT c4 (a := 1) (by decide)
  have qc10 := lv_neT c10 (a := 2) (by decide)
  have qc13 := lv_neT c13 (a := 3) (by decide)
  have qc18 := lv_neT c18 (a := 4) (by decide)
  refine lv_tableOut (tgt := 110) hx hb dX1_take_4 (by omega) (by decide) ?_
  refine lv_iload_n hx hb dX1_take_110 rfl (lv_at hl 1 rfl) ?_
  refine lv_bipush (v := 59) hx hb dX1_take_111 (by decide) ?_
  refine lv_icmp_ne (tgt := 127) hx hb dX1_take_113 (by decide) (fun c21 => ?_) (fun c21 => ?_)
  · replace h := im c21 h
    refine lv_iconst (v := 0) hx hb dX1_take_127 (by decide) ?_
    obtain rfl := Option.some.inj h
    exact W.zret hx hb hr rfl (fun t ht hW => ⟨⟨_, (), rfl, rfl, by rw [ht]; exact hP, hD⟩, hS.F ht⟩) hS.2.2 dX1_take_128 hlocks
  replace h := ip c21 h
  refine lv_aload_n hx hb dX1_take_116 rfl (lv_at hl 0 rfl) ?_
  replace h := bd h
  obtain ⟨t22, et22, h⟩ := h
  refine callMi (wr := []) (ws' := orW T a0 (t22.2)) (va_runV (As := []) (rest := []) ⟨hx, hb, hml, hown, hts⟩ (c_X1_close l D T a0 x0 H.size t22 et22) (cwV 0 hts gX1_take_X1_close rfl rfl rfl hdV_X1_close ⟨Nat.le_of_ble_eq_true rfl, Nat.le_of_ble_eq_true rfl⟩) ⟨PM_blind, va_recv hK.1 hP (ci := 1) (q0 := 0) rfl rfl, PM_at hP hD hK⟩ rfl rfl hl.1 rfl (lv_room (Nat.le_of_ble_eq_true rfl)) dX1_take_117 ⟨Nat.zero_le _, Nat.zero_le _⟩) hS hA hP hD [0, 1, 2, 3, 4] [] rfl rfl (by decide) (by decide) [0, 1, 2, 3, 4] (by decide) rfl (fun H locs hP hD hS => ?_)
  refine lv_if_eq (tgt := 127) hx hb dX1_take_120 (by decide) (fun c23 => ?_) (fun c23 => ?_)
  · replace h := ip c23 h
    refine lv_iconst (v := 0) hx hb dX1_take_127 (by decide) ?_
    obtain rfl := Option.some.inj h
    exact W.zret hx hb hr rfl (fun t ht hW => ⟨⟨_, (), rfl, rfl, by rw [ht]; exact hP, hD⟩, hS.F ht⟩) hS.2.2 dX1_take_128 hlocks
  replace h := im c23 h
  refine lv_iconst (v := 1) hx hb dX1_take_123 (by decide) ?_
  refine lv_goto (tgt := 128) hx hb dX1_take_124 (by decide) ?_
  obtain rfl := Option.some.inj h
  exact W.zret hx hb hr rfl (fun t ht hW => ⟨⟨_, (), rfl, rfl, by rw [ht]; exact hP, hD⟩, hS.F ht⟩) hS.2.2 dX1_take_128 hlocks
set_option maxHeartbeats 4000000 in
set_option maxRecDepth 100000 in
theorem c_X1_write (l : Launch) (D : va_G) (T : Nat → ClassId) (a0 : Nat → Nat) (x0 : St) (v1 : Int32) (sz : Nat) (r : St) (h : F_X1_write x0 v1 = some r) : Met l yX1_write wsX1_write ({ frames := 1, cells := 0, slots := 0, locals := 22 } : Room) (va_Pc [.ref (a0 0), .int v1] (PM D T (orW T a0 (x0)) sz)) (QMv D (orW T a0 (r)) (va_A (orW T a0 (x0)) sz)) 0 0 (va_A (orW T a0 (x0)) sz) := by
  refine met_of (cc := cX1_write) (maxL := 2) (ret := none) (lv := [(0, .ref (a0 0)), (1, .int v1)]) (by decide) rfl (Nat.le_of_ble_eq_true rfl) rfl ?_
  intro p e s m args below meth c ls C0 hl hB
  obtain ⟨hx, hb, hr, hml, hown, hts, hlocks, hname⟩ := C0
  obtain ⟨hsz, hP, hK, hD0⟩ := hB
  subst hsz
  have hD := hD0.self (sz := s.heap.size)
  generalize hAe : va_A (orW T a0 (x0)) s.heap.size = A at hD ⊢
  have hA : ∀ q : Nat, s.heap.size ≤ q → A q := fun q h => by rw [← hAe]; exact Or.inr h
  obtain ⟨H, hH⟩ : ∃ H, H = s.heap := ⟨_, rfl⟩
  obtain ⟨locs, hlo⟩ : ∃ L : List Loc, L = [] := ⟨_, rfl⟩
  have hS : va_S A s.heap s.heap [] := va_S.rf
  rw [← hH] at hP ⊢
  rw [← hlo]
  replace hS : va_S A s.heap H locs := by rw [hH, hlo]; exact hS
  clear hH hlo
  unfold F_X1_write at h
  refine lv_aload_n hx hb dX1_write_0 rfl (lv_at hl 0 rfl) ?_
  refine va_get (D := D) (ci := 1) (v := .int (x0.1 0)) (C := RX1) (T := TX1) (N := 9) hx hb hts inX1_write_1 hown hK.1 hP 0 rfl rfl 4 (by decide) (hts (.fieldLink RX1 24 "LyingScale$Orders" "length" "I") (List.mem_of_getElem? (i := 1) rfl)) (fun _ h9 => h9) rfl dX1_write_1 ?_
  refine lv_aload_n hx hb dX1_write_4 rfl (lv_at hl 0 rfl) ?_
  refine va_get (D := D) (ci := 1) (v := .ref (a0 1)) (C := RX1) (T := TX1) (N := 9) hx hb hts inX1_write_1 hown hK.1 hP 0 rfl rfl 0 (by decide) (hts (.fieldLink RX1 9 "LyingScale$Orders" "bytes" "[I") (List.mem_of_getElem? (i := 2) rfl)) (fun _ h9 => h9) rfl dX1_write_5 ?_
  refine va_alen hx hb hK.1 hP 1 0 rfl rfl (v := 100) rfl dX1_write_8 ?_
  refine lv_icmp_ge (tgt := 34) hx hb dX1_write_9 (by decide) (fun c1 => ?_) (fun c1 => ?_)
  · replace h := ip c1 h
    obtain rfl := Option.some.inj h
    exact W.vret hx hb hr (fun t ht hW => ⟨⟨(), rfl, trivial, by rw [ht]; exact hP, hD⟩, hS.F ht⟩) hS.2.2 dX1_write_34 hlocks
  replace h := im c1 h
  refine lv_aload_n hx hb dX1_write_12 rfl (lv_at hl 0 rfl) ?_
  refine va_get (D := D) (ci := 1) (v := .ref (a0 1)) (C := RX1) (T := TX1) (N := 9) hx hb hts inX1_write_1 hown hK.1 hP 0 rfl rfl 0 (by decide) (hts (.fieldLink RX1 9 "LyingScale$Orders" "bytes" "[I") (List.mem_of_getElem? (i := 2) rfl)) (fun _ h9 => h9) rfl dX1_write_13 ?_
  refine lv_aload_n hx hb dX1_write_16 rfl (lv_at hl 0 rfl) ?_
  refine va_get (D := D) (ci := 1) (v := .int (x0.1 0)) (C := RX1) (T := TX1) (N := 9) hx hb hts inX1_write_1 hown hK.1 hP 0 rfl rfl 4 (by decide) (hts (.fieldLink RX1 24 "LyingScale$Orders" "length" "I") (List.mem_of_getElem? (i := 1) rfl)) (fun _ h9 => h9) rfl dX1_write_17 ?_
  refine lv_iload_n hx hb dX1_write_20 rfl (lv_at hl 1 rfl) ?_
  replace h := bd h
  obtain ⟨t2, et2, h⟩ := h
  refine callMv (wr := [(a0 0, .inr (1, [.ref (a0 1), .ref (a0 2), .ref (a0 3), .ref (a0 4), .int (x0.1 0), .int (x0.1 1), .int (x0.1 2), .int (x0.1 3), .int (x0.1 4)])), (a0 2, .inl (T 0, 20, .inl (x0.2 1))), (a0 3, .inl (T 0, 20, .inl (x0.2 2))), (a0 4, .inl (T 0, 20, .inl (x0.2 3)))]) (ws' := orW T a0 (sA x0 0 t2)) (va_runSN (As := [.ref (a0 1), .int (x0.1 0), .int v1]) (rest := []) ⟨hx, hb, hml, hown, hts⟩ (c_X4_put l D T (a0 1) 100 (x0.2 0) (x0.1 0) v1 H.size (Nat.le_of_ble_eq_true rfl) t2 et2) ⟨va_cnB 3 hts gX1_write_X4_put_n28 rfl rfl rfl (hK.2 (.methodLinkNest RX1 28 yX4_put "LyingScale") (List.mem_of_getElem? (i := 15) rfl)) (hts (.initialized RX4) (List.mem_of_getElem? (i := 4) rfl)) hdS_X4_put ⟨Nat.le_of_ble_eq_true rfl, Nat.le_of_ble_eq_true rfl⟩, (hts (.static yX4_put) (List.mem_of_getElem? (i := 3) rfl)), trivial⟩ ⟨PM_blind, PM_at (hP.sub (ws' := ([(a0 1, .inl (T 0, 100, .inl (x0.2 0)))] : va_W)) [1] rfl) (hD.sub (ws' := ([(a0 1, .inl (T 0, 100, .inl (x0.2 0)))] : va_W)) [1] (by decide) rfl) hK⟩ rfl rfl hl.1 rfl (lv_room (Nat.le_of_ble_eq_true rfl)) dX1_write_21 ⟨Nat.zero_le _, Nat.zero_le _⟩) hS hA hP hD [1] [0, 2, 3, 4] rfl rfl (by decide) (by decide) [0, 4, 1, 2, 3] (by decide) rfl (fun H locs hP hD hS => ?_)
  refine lv_aload_n hx hb dX1_write_24 rfl (lv_at hl 0 rfl) ?_
  refine lv_dup hx hb dX1_write_25 rfl ?_
  refine va_get (D := D) (ci := 1) (v := .int ((sA x0 0 t2).1 0)) (C := RX1) (T := TX1) (N := 9) hx hb hts inX1_write_1 hown hK.1 hP 0 rfl rfl 4 (by decide) (hts (.fieldLink RX1 24 "LyingScale$Orders" "length" "I") (List.mem_of_getElem? (i := 1) rfl)) (fun _ h9 => h9) rfl dX1_write_26 ?_
  refine lv_iconst (v := 1) hx hb dX1_write_29 (by decide) ?_
  refine lv_iadd hx hb dX1_write_30 ?_
  refine va_put (D := D) (ci := 1) (v := .int (((sA x0 0 t2).1 0) + 1)) (ty := .int) (C := RX1) (T := TX1) (N := 9) hx hb hts inX1_write_1 tyX1 tyX1_ok nmX1 hown hK.1 hP hD hS 0 rfl rfl 4 (by decide) (hts (.fieldLink RX1 24 "LyingScale$Orders" "length" "I") (List.mem_of_getElem? (i := 1) rfl)) (fun _ h9 => h9) rfl (by decide +kernel) rfl rfl (Nat.le_of_ble_eq_true rfl) dX1_write_31 (fun H locs hP hD hS => ?_)
  replace hP : va_P D vwCl (orW T a0 (sI (sA x0 0 t2) 0 (((sA x0 0 t2).1 0) + 1))) H := hP
  replace hD : va_D A (orW T a0 (sI (sA x0 0 t2) 0 (((sA x0 0 t2).1 0) + 1))) := hD
  obtain rfl := Option.some.inj h
  exact W.vret hx hb hr (fun t ht hW => ⟨⟨(), rfl, trivial, by rw [ht]; exact hP, hD⟩, hS.F ht⟩) hS.2.2 dX1_write_34 hlocks
set_option maxHeartbeats 4000000 in
set_option maxRecDepth 100000 in
theorem c_X1_read (l : Launch) (D : va_G) (T : Nat → ClassId) (a0 : Nat → Nat) (x0 : St) (sz : Nat) (r : Int32 × St) (h : F_X1_read x0 = some r) : Met l yX1_read wsX1_read ({ frames := 4, cells := 0, slots := 0, locals := 85 } : Room) (va_Pc [.ref (a0 0)] (PM D T (orW T a0 (x0)) sz)) (QMi D (orW T a0 (r.2)) r.1 (va_A (orW T a0 (x0)) sz)) 0 0 (va_A (orW T a0 (x0)) sz) := by
  refine met_of (cc := cX1_read) (maxL := 2) (ret := (some .int)) (lv := [(0, .ref (a0 0))]) (by decide) rfl (Nat.le_of_ble_eq_true rfl) rfl ?_
  intro p e s m args below meth c ls C0 hl hB
  obtain ⟨hx, hb, hr, hml, hown, hts, hlocks, hname⟩ := C0
  obtain ⟨hsz, hP, hK, hD0⟩ := hB
  subst hsz
  have hD := hD0.self (sz := s.heap.size)
  generalize hAe : va_A (orW T a0 (x0)) s.heap.size = A at hD ⊢
  have hA : ∀ q : Nat, s.heap.size ≤ q → A q := fun q h => by rw [← hAe]; exact Or.inr h
  obtain ⟨H, hH⟩ : ∃ H, H = s.heap := ⟨_, rfl⟩
  obtain ⟨locs, hlo⟩ : ∃ L : List Loc, L = [] := ⟨_, rfl⟩
  have hS : va_S A s.heap s.heap [] := va_S.rf
  rw [← hH] at hP ⊢
  rw [← hlo]
  replace hS : va_S A s.heap H locs := by rw [hH, hlo]; exact hS
  clear hH hlo
  unfold F_X1_read at h
  refine lv_aload_n hx hb dX1_read_0 rfl (lv_at hl 0 rfl) ?_
  refine lv_iconst (v := 0) hx hb dX1_read_1 (by decide) ?_
  refine va_put (D := D) (ci := 1) (v := .int 0) (ty := .int) (C := RX1) (T := TX1) (N := 9) hx hb hts inX1_read_1 tyX1 tyX1_ok nmX1 hown hK.1 hP hD hS 0 rfl rfl 5 (by decide) (hts (.fieldLink RX1 32 "LyingScale$Orders" "count" "I") (List.mem_of_getElem? (i := 1) rfl)) (fun _ h9 => h9) rfl (by decide +kernel) rfl rfl (Nat.le_of_ble_eq_true rfl) dX1_read_2 (fun H locs hP hD hS => ?_)
  replace hP : va_P D vwCl (orW T a0 (sI x0 1 0)) H := hP
  replace hD : va_D A (orW T a0 (sI x0 1 0)) := hD
  refine lv_aload_n hx hb dX1_read_5 rfl (lv_at hl 0 rfl) ?_
  refine lv_iconst (v := 0) hx hb dX1_read_6 (by decide) ?_
  refine va_put (D := D) (ci := 1) (v := .int 0) (ty := .int) (C := RX1) (T := TX1) (N := 9) hx hb hts inX1_read_1 tyX1 tyX1_ok nmX1 hown hK.1 hP hD hS 0 rfl rfl 6 (by decide) (hts (.fieldLink RX1 35 "LyingScale$Orders" "place" "I") (List.mem_of_getElem? (i := 2) rfl)) (fun _ h9 => h9) rfl (by decide +kernel) rfl rfl (Nat.le_of_ble_eq_true rfl) dX1_read_7 (fun H locs hP hD hS => ?_)
  replace hP : va_P D vwCl (orW T a0 (sI (sI x0 1 0) 2 0)) H := hP
  replace hD : va_D A (orW T a0 (sI (sI x0 1 0) 2 0)) := hD
  refine lv_iconst (v := 0) hx hb dX1_read_10 (by decide) ?_
  refine lv_istore_n (lv' := [(1, .int 0), (0, .ref (a0 0))]) hx hb dX1_read_11 rfl hl (by decide) rfl (fun ls hl => ?_)
  have K12 : ∀ (n12 : Nat) (i1_12 : Int32) (x0_12 : St) (H : Heap) (locs : List Loc) (ls : Array Slot), fx2 (B_X1_read_12) n12 i1_12 x0_12 = some r → va_P D vwCl (orW T a0 (x0_12)) H → va_D A (orW T a0 (x0_12)) → va_S A s.heap H locs → lv_has ls 2 [(0, .ref (a0 0)), (1, .int i1_12)] → W p l e ({ frames := 4, cells := 0, slots := 0, locals := 85 } : Room) s m args below meth c H locs 0 0 (MQ below (QMi D (orW T a0 (r.2)) r.1 A) args s 0 0 (A)) (F0 m 12 ls []) := by
    intro n12
    induction n12 with
    | zero =>
        intro i1_12 x0_12 H locs ls h
        cases h
    | succ n12 ih12 =>
        intro i1_12 x0_12 H locs ls h hP hD hS hl
        replace h : B_X1_read_12 (fx2 (B_X1_read_12) n12) i1_12 x0_12 = some r := h
        unfold B_X1_read_12 at h
        refine lv_iload_n hx hb dX1_read_12 rfl (lv_at hl 1 rfl) ?_
        refine lv_aload_n hx hb dX1_read_13 rfl (lv_at hl 0 rfl) ?_
        refine va_get (D := D) (ci := 1) (v := .int (x0_12.1 0)) (C := RX1) (T := TX1) (N := 9) hx hb hts inX1_read_1 hown hK.1 hP 0 rfl rfl 4 (by decide) (hts (.fieldLink RX1 24 "LyingScale$Orders" "length" "I") (List.mem_of_getElem? (i := 3) rfl)) (fun _ h9 => h9) rfl dX1_read_14 ?_
        refine lv_icmp_ge (tgt := 43) hx hb dX1_read_17 (by decide) (fun c1 => ?_) (fun c1 => ?_)
        · replace h := ip c1 h
          refine lv_aload_n hx hb dX1_read_43 rfl (lv_at hl 0 rfl) ?_
          refine va_get (D := D) (ci := 1) (v := .int (x0_12.1 2)) (C := RX1) (T := TX1) (N := 9) hx hb hts inX1_read_1 hown hK.1 hP 0 rfl rfl 6 (by decide) (hts (.fieldLink RX1 35 "LyingScale$Orders" "place" "I") (List.mem_of_getElem? (i := 2) rfl)) (fun _ h9 => h9) rfl dX1_read_44 ?_
          refine lv_if_ne (tgt := 54) hx hb dX1_read_47 (by decide) (fun c2 => ?_) (fun c2 => ?_)
          · replace h := im c2 h
            refine lv_aload_n hx hb dX1_read_54 rfl (lv_at hl 0 rfl) ?_
            refine va_get (D := D) (ci := 1) (v := .int (x0_12.1 0)) (C := RX1) (T := TX1) (N := 9) hx hb hts inX1_read_1 hown hK.1 hP 0 rfl rfl 4 (by decide) (hts (.fieldLink RX1 24 "LyingScale$Orders" "length" "I") (List.mem_of_getElem? (i := 3) rfl)) (fun _ h9 => h9) rfl dX1_read_55 ?_
            obtain rfl := Option.some.inj h
            exact W.iret hx hb hr (fun t ht hW => ⟨⟨_, (), rfl, rfl, by rw [ht]; exact hP, hD⟩, hS.F ht⟩) hS.2.2 dX1_read_58 hlocks
          replace h := ip c2 h
          refine lv_iconst (v := (-1)) hx hb dX1_read_50 (by decide) ?_
          refine lv_goto (tgt := 58) hx hb dX1_read_51 (by decide) ?_
          obtain rfl := Option.some.inj h
          exact W.iret hx hb hr (fun t ht hW => ⟨⟨_, (), rfl, rfl, by rw [ht]; exact hP, hD⟩, hS.F ht⟩) hS.2.2 dX1_read_58 hlocks
        replace h := im c1 h
        refine lv_aload_n hx hb dX1_read_20 rfl (lv_at hl 0 rfl) ?_
        refine lv_aload_n hx hb dX1_read_21 rfl (lv_at hl 0 rfl) ?_
        refine va_get (D := D) (ci := 1) (v := .ref (a0 1)) (C := RX1) (T := TX1) (N := 9) hx hb hts inX1_read_1 hown hK.1 hP 0 rfl rfl 0 (by decide) (hts (.fieldLink RX1 9 "LyingScale$Orders" "bytes" "[I") (List.mem_of_getElem? (i := 4) rfl)) (fun _ h9 => h9) rfl dX1_read_22 ?_
        refine lv_iload_n hx hb dX1_read_25 rfl (lv_at hl 1 rfl) ?_
        replace h := bd h
        obtain ⟨t3, et3, h⟩ := h
        refine callRi (v := t3) (va_runSN (As := [.ref (a0 1), .int i1_12]) (rest := [.ref (a0 0)]) ⟨hx, hb, hml, hown, hts⟩ (c_X4_at l D T (a0 1) 100 (x0_12.2 0) i1_12 (Nat.le_of_ble_eq_true rfl) t3 et3) ⟨va_cnB 2 hts gX1_read_X4_at_n38 rfl rfl rfl (hK.2 (.methodLinkNest RX1 38 yX4_at "LyingScale") (List.mem_of_getElem? (i := 16) rfl)) (hts (.initialized RX4) (List.mem_of_getElem? (i := 6) rfl)) hdS_X4_at ⟨Nat.le_of_ble_eq_true rfl, Nat.le_of_ble_eq_true rfl⟩, (hts (.static yX4_at) (List.mem_of_getElem? (i := 5) rfl)), trivial⟩ ⟨PB_blind, PB_at (hP.sub (ws' := ([(a0 1, .inl (T 0, 100, .inl (x0_12.2 0)))] : va_W)) [1] rfl) hK⟩ rfl rfl hl.1 rfl (lv_room (Nat.le_of_ble_eq_true rfl)) dX1_read_26 ⟨Nat.zero_le _, Nat.zero_le _⟩) ?_
        replace h := bd h
        obtain ⟨t4, et4, h⟩ := h
        refine callMi (wr := []) (ws' := orW T a0 (t4.2)) (va_runV (As := [.int t3]) (rest := []) ⟨hx, hb, hml, hown, hts⟩ (c_X1_take l D T a0 x0_12 t3 H.size t4 et4) (cwV 1 hts gX1_read_X1_take rfl rfl rfl hdV_X1_take ⟨Nat.le_of_ble_eq_true rfl, Nat.le_of_ble_eq_true rfl⟩) ⟨PM_blind, va_recv hK.1 hP (ci := 1) (q0 := 0) rfl rfl, PM_at hP hD hK⟩ rfl rfl hl.1 rfl (lv_room (Nat.le_of_ble_eq_true rfl)) dX1_read_29 ⟨Nat.zero_le _, Nat.zero_le _⟩) hS hA hP hD [0, 1, 2, 3, 4] [] rfl rfl (by decide) (by decide) [0, 1, 2, 3, 4] (by decide) rfl (fun H locs hP hD hS => ?_)
        refine lv_if_ne (tgt := 37) hx hb dX1_read_32 (by decide) (fun c5 => ?_) (fun c5 => ?_)
        · replace h := im c5 h
          refine lv_iinc (v := i1_12 + 1) (lv' := [(1, .int (i1_12 + 1)), (0, .ref (a0 0))]) hx hb dX1_read_37 hl (k := 1) rfl rfl (by decide) rfl (fun ls hl => ?_)
          refine lv_goto (tgt := 12) hx hb dX1_read_40 (by decide) ?_
          exact ih12 (i1_12 + 1) t4.2 H locs ls h hP hD hS (lv_sub hl [1, 0] rfl)
        replace h := ip c5 h
        refine lv_iload_n hx hb dX1_read_35 rfl (lv_at hl 1 rfl) ?_
        obtain rfl := Option.some.inj h
        exact W.iret hx hb hr (fun t ht hW => ⟨⟨_, (), rfl, rfl, by rw [ht]; exact hP, hD⟩, hS.F ht⟩) hS.2.2 dX1_read_36 hlocks
  exact K12 1000 0 (sI (sI x0 1 0) 2 0) H locs ls h hP hD hS (lv_sub hl [1, 0] rfl)
