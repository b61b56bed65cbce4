def F_J6_bitCount_0f7a4 (v0 : Int32) : Option (Int32) :=
  (some (v0 - (((v0.toUInt32 >>> ((1 : Int32).toUInt32 &&& Int32.toUInt32 31)).toInt32) &&& 1431655765))).bind fun t1 => (some ((t1 &&& 858993459) + (((t1.toUInt32 >>> ((2 : Int32).toUInt32 &&& Int32.toUInt32 31)).toInt32) &&& 858993459))).bind fun t2 => (some ((t2 + ((t2.toUInt32 >>> ((4 : Int32).toUInt32 &&& Int32.toUInt32 31)).toInt32)) &&& 252645135)).bind fun t3 => (some (t3 + ((t3.toUInt32 >>> ((8 : Int32).toUInt32 &&& Int32.toUInt32 31)).toInt32))).bind fun t4 => (some (t4 + ((t4.toUInt32 >>> ((16 : Int32).toUInt32 &&& Int32.toUInt32 31)).toInt32))).bind fun t5 => some (t5 &&& 63)
def F_X4_isAnswer (v0 : Int32) : Option (Int32) :=
  if v0 < 0 then (some 0) else (if 3 ≤ v0 then (some 0) else (some 1))
def F_X4_isAhead (v0 : Int32) : Option (Int32) :=
  if v0 < 0 then (some 0) else (if 20 < v0 then (some 0) else (some 1))
def F_X4_at (n0 : Nat) (f0 : Nat → Int32) (v1 : Int32) : Option (Int32) :=
  if v1 < 0 then (some 0) else (if (nI n0) ≤ v1 then (some 0) else (some (f0 v1.toNatClampNeg)))
def F_X4_put (n0 : Nat) (f0 : Nat → Int32) (v1 : Int32) (v2 : Int32) : Option ((Nat → Int32)) :=
  if v1 < 0 then (some f0) else (if (nI n0) ≤ v1 then (some f0) else (some (upd f0 v1.toNatClampNeg v2)))
def F_X4_coinBit (v0 : Int32) : Option (Int32) :=
  if 0 < v0 then (some (1 <<< (((v0 - 1) / 2) &&& 31))) else (some 0)
def F_X4_trueAnswer (v0 : Int32) (v1 : Int32) (v2 : Int32) : Option (Int32) :=
  (F_X4_coinBit v0).bind fun t1 => if (v0 &&& 1) = 1 then (if (v1 &&& t1) = 0 then (if (v2 &&& t1) = 0 then (some 2) else (some 1)) else (some 0)) else (if (v1 &&& t1) = 0 then (if (v2 &&& t1) = 0 then (some 2) else (some 0)) else (some 1))
def B_X4_volume_15 (v0 : Int32) (v1 : Int32) (k15 : Int64 → Int64 → Int32 → Option (Int64)) (i2_15 : Int64) (i4_15 : Int64) (i7_15 : Int32) : Option (Int64) :=
  if (if v1 < v0 then v1 else v0) < i7_15 then (some i4_15) else (if i7_15.toInt64 = 0 then none else (some ((i2_15 * (((v0 - i7_15) + 1).toInt64)) / i7_15.toInt64)).bind fun t3 => k15 t3 (i4_15 + (t3 <<< (i7_15.toInt64 &&& 63))) (i7_15 + 1))
def F_X4_volume (v0 : Int32) (v1 : Int32) : Option (Int64) :=
  fx3 (B_X4_volume_15 v0 v1) 1000 1 1 1
def F_X4_copyRow (n0 : Nat) (f0 : Nat → Int32) (n1 : Nat) (f1 : Nat → Int32) : Option ((Nat → Int32)) :=
  if ¬ n0 = n1 then none else some (va_cpy f0 f1 0 0 n0)
def F_X3_write (n0 : Nat) (x0 : St) (v1 : Int32) (v2 : Int32) (v3 : Int32) : Option (St) :=
  if (nI n0) ≤ (x0.1 0) then (some x0) else ((F_X4_put n0 (x0.2 0) (x0.1 0) v1).bind fun t2 => (F_X4_put n0 ((sA x0 0 t2).2 1) ((sA x0 0 t2).1 0) v2).bind fun t3 => (F_X4_put n0 ((sA (sA x0 0 t2) 1 t3).2 2) ((sA (sA x0 0 t2) 1 t3).1 0) v3).bind fun t4 => (some (sI (sA (sA (sA x0 0 t2) 1 t3) 2 t4) 0 (((sA (sA (sA x0 0 t2) 1 t3) 2 t4).1 0) + 1))).bind fun y5 => some y5)
def F_X3_copyFrom (n0 : Nat) (x0 : St) (n1 : Nat) (x1 : St) : Option (St) :=
  (F_X4_copyRow n1 (x1.2 0) n0 (x0.2 0)).bind fun t1 => (F_X4_copyRow n1 (x1.2 1) n0 ((sA x0 0 t1).2 1)).bind fun t2 => (F_X4_copyRow n1 (x1.2 2) n0 ((sA (sA x0 0 t1) 1 t2).2 2)).bind fun t3 => (some (sI (sA (sA (sA x0 0 t1) 1 t2) 2 t3) 0 (x1.1 0))).bind fun y4 => some y4
theorem hdS_J6_bitCount_0f7a4 : yJ6_bitCount_0f7a4.cls ≠ "java/lang/invoke/MethodHandle" ∧ yJ6_bitCount_0f7a4.cls ≠ "java/lang/invoke/VarHandle" ∧ (parseMethodDescriptor yJ6_bitCount_0f7a4.desc).map (fun d => d.parameters.length) = some 1 := by decide +kernel
theorem hdV_J6_bitCount_0f7a4 : yJ6_bitCount_0f7a4.cls = RJ6 ∧ yJ6_bitCount_0f7a4.cls ≠ "java/lang/invoke/MethodHandle" ∧ yJ6_bitCount_0f7a4.cls ≠ "java/lang/invoke/VarHandle" ∧ (parseMethodDescriptor yJ6_bitCount_0f7a4.desc).map (fun d => d.parameters.length) = some 1 := by decide +kernel
theorem hdS_X4_isAnswer : yX4_isAnswer.cls ≠ "java/lang/invoke/MethodHandle" ∧ yX4_isAnswer.cls ≠ "java/lang/invoke/VarHandle" ∧ (parseMethodDescriptor yX4_isAnswer.desc).map (fun d => d.parameters.length) = some 1 := by decide +kernel
theorem hdV_X4_isAnswer : yX4_isAnswer.cls = RX4 ∧ yX4_isAnswer.cls ≠ "java/lang/invoke/MethodHandle" ∧ yX4_isAnswer.cls ≠ "java/lang/invoke/VarHandle" ∧ (parseMethodDescriptor yX4_isAnswer.desc).map (fun d => d.parameters.length) = some 1 := by decide +kernel
theorem hdS_X4_isAhead : yX4_isAhead.cls ≠ "java/lang/invoke/MethodHandle" ∧ yX4_isAhead.cls ≠ "java/lang/invoke/VarHandle" ∧ (parseMethodDescriptor yX4_isAhead.desc).map (fun d => d.parameters.length) = some 1 := by decide +kernel
theorem hdV_X4_isAhead : yX4_isAhead.cls = RX4 ∧ yX4_isAhead.cls ≠ "java/lang/invoke/MethodHandle" ∧ yX4_isAhead.cls ≠ "java/lang/invoke/VarHandle" ∧ (parseMethodDescriptor yX4_isAhead.desc).map (fun d => d.parameters.length) = some 1 := by decide +kernel
theorem hdS_X4_at : yX4_at.cls ≠ "java/lang/invoke/MethodHandle" ∧ yX4_at.cls ≠ "java/lang/invoke/VarHandle" ∧ (parseMethodDescriptor yX4_at.desc).map (fun d => d.parameters.length) = some 2 := by decide +kernel
theorem hdV_X4_at : yX4_at.cls = RX4 ∧ yX4_at.cls ≠ "java/lang/invoke/MethodHandle" ∧ yX4_at.cls ≠ "java/lang/invoke/VarHandle" ∧ (parseMethodDescriptor yX4_at.desc).map (fun d => d.parameters.length) = some 2 := by decide +kernel
theorem hdS_X4_put : yX4_put.cls ≠ "java/lang/invoke/MethodHandle" ∧ yX4_put.cls ≠ "java/lang/invoke/VarHandle" ∧ (parseMethodDescriptor yX4_put.desc).map (fun d => d.parameters.length) = some 3 := by decide +kernel
theorem hdV_X4_put : yX4_put.cls = RX4 ∧ yX4_put.cls ≠ "java/lang/invoke/MethodHandle" ∧ yX4_put.cls ≠ "java/lang/invoke/VarHandle" ∧ (parseMethodDescriptor yX4_put.desc).map (fun d => d.parameters.length) = some 3 := by decide +kernel
theorem hdS_X4_coinBit : yX4_coinBit.cls ≠ "java/lang/invoke/MethodHandle" ∧ yX4_coinBit.cls ≠ "java/lang/invoke/VarHandle" ∧ (parseMethodDescriptor yX4_coinBit.desc).map (fun d => d.parameters.length) = some 1 := by decide +kernel
theorem hdV_X4_coinBit : yX4_coinBit.cls = RX4 ∧ yX4_coinBit.cls ≠ "java/lang/invoke/MethodHandle" ∧ yX4_coinBit.cls ≠ "java/lang/invoke/VarHandle" ∧ (parseMethodDescriptor yX4_coinBit.desc).map (fun d => d.parameters.length) = some 1 := by decide +kernel
theorem hdS_X4_trueAnswer : yX4_trueAnswer.cls ≠ "java/lang/invoke/MethodHandle" ∧ yX4_trueAnswer.cls ≠ "java/lang/invoke/VarHandle" ∧ (parseMethodDescriptor yX4_trueAnswer.desc).map (fun d => d.parameters.length) = some 3 := by decide +kernel
theorem hdV_X4_trueAnswer : yX4_trueAnswer.cls = RX4 ∧ yX4_trueAnswer.cls ≠ "java/lang/invoke/MethodHandle" ∧ yX4_trueAnswer.cls ≠ "java/lang/invoke/VarHandle" ∧ (parseMethodDescriptor yX4_trueAnswer.desc).map (fun d => d.parameters.length) = some 3 := by decide +kernel
theorem hdS_X4_volume : yX4_volume.cls ≠ "java/lang/invoke/MethodHandle" ∧ yX4_volume.cls ≠ "java/lang/invoke/VarHandle" ∧ (parseMethodDescriptor yX4_volume.desc).map (fun d => d.parameters.length) = some 2 := by decide +kernel
theorem hdV_X4_volume : yX4_volume.cls = RX4 ∧ yX4_volume.cls ≠ "java/lang/invoke/MethodHandle" ∧ yX4_volume.cls ≠ "java/lang/invoke/VarHandle" ∧ (parseMethodDescriptor yX4_volume.desc).map (fun d => d.parameters.length) = some 2 := by decide +kernel
theorem hdS_X4_copyRow : yX4_copyRow.cls ≠ "java/lang/invoke/MethodHandle" ∧ yX4_copyRow.cls ≠ "java/lang/invoke/VarHandle" ∧ (parseMethodDescriptor yX4_copyRow.desc).map (fun d => d.parameters.length) = some 2 := by decide +kernel
theorem hdV_X4_copyRow : yX4_copyRow.cls = RX4 ∧ yX4_copyRow.cls ≠ "java/lang/invoke/MethodHandle" ∧ yX4_copyRow.cls ≠ "java/lang/invoke/VarHandle" ∧ (parseMethodDescriptor yX4_copyRow.desc).map (fun d => d.parameters.length) = some 2 := by decide +kernel
theorem inX3_write_3 : ∀ w ∈ u_ws RX3 TX3 4, w ∈ wsX3_write := by decide +kernel
theorem hdS_X3_write : yX3_write.cls ≠ "java/lang/invoke/MethodHandle" ∧ yX3_write.cls ≠ "java/lang/invoke/VarHandle" ∧ (parseMethodDescriptor yX3_write.desc).map (fun d => d.parameters.length) = some 3 := by decide +kernel
theorem hdV_X3_write : yX3_write.cls = RX3 ∧ yX3_write.cls ≠ "java/lang/invoke/MethodHandle" ∧ yX3_write.cls ≠ "java/lang/invoke/VarHandle" ∧ (parseMethodDescriptor yX3_write.desc).map (fun d => d.parameters.length) = some 3 := by decide +kernel
theorem inX3_copyFrom_3 : ∀ w ∈ u_ws RX3 TX3 4, w ∈ wsX3_copyFrom := by decide +kernel
theorem hdS_X3_copyFrom : yX3_copyFrom.cls ≠ "java/lang/invoke/MethodHandle" ∧ yX3_copyFrom.cls ≠ "java/lang/invoke/VarHandle" ∧ (parseMethodDescriptor yX3_copyFrom.desc).map (fun d => d.parameters.length) = some 1 := by decide +kernel
theorem hdV_X3_copyFrom : yX3_copyFrom.cls = RX3 ∧ yX3_copyFrom.cls ≠ "java/lang/invoke/MethodHandle" ∧ yX3_copyFrom.cls ≠ "java/lang/invoke/VarHandle" ∧ (parseMethodDescriptor yX3_copyFrom.desc).map (fun d => d.parameters.length) = some 1 := by decide +kernel
set_option maxHeartbeats 4000000 in
set_option maxRecDepth 100000 in
theorem c_J6_bitCount_0f7a4 (l : Launch) (D : va_G) (T : Nat → ClassId) (v0 : Int32) (r : Int32) (h : F_J6_bitCount_0f7a4 v0 = some r) : Met l yJ6_bitCount_0f7a4 wsJ6_bitCount_0f7a4 ({ frames := 0, cells := 0, slots := 0, locals := 0 } : Room) (va_Pc [.int v0] (PB D T (([] : va_W)))) (QRi r) 0 0 (fun _ => False) := by
  refine met_of (cc := cJ6_bitCount_0f7a4) (maxL := 1) (ret := (some .int)) (lv := [(0, .int v0)]) (by decide) rfl (Nat.le_of_ble_eq_true rfl) rfl ?_
  intro p e s m args below meth c ls C0 hl hB
  obtain ⟨hx, hb, hr, hml, hown, hts, hlocks, hname⟩ := C0
  obtain ⟨hP, hK⟩ := hB
  unfold F_J6_bitCount_0f7a4 at h
  refine lv_iload_n hx hb dJ6_bitCount_0f7a4_0 rfl (lv_at hl 0 rfl) ?_
  refine lv_iload_n hx hb dJ6_bitCount_0f7a4_1 rfl (lv_at hl 0 rfl) ?_
  refine lv_iconst (v := 1) hx hb dJ6_bitCount_0f7a4_2 (by decide) ?_
  refine lv_iushr (v := (v0.toUInt32 >>> ((1 : Int32).toUInt32 &&& Int32.toUInt32 31)).toInt32) hx hb dJ6_bitCount_0f7a4_3 rfl ?_
  refine lv_ldcw hx hb hown (hts (.constant RJ6 265 (1431655765)) (List.mem_of_getElem? (i := 1) rfl)) dJ6_bitCount_0f7a4_4 ?_
  refine lv_iand hx hb dJ6_bitCount_0f7a4_7 ?_
  refine lv_isub hx hb dJ6_bitCount_0f7a4_8 ?_
  replace h := bd h
  obtain ⟨t1, et1, h⟩ := h
  refine eqi (Option.some.inj et1) ?_
  refine lv_istore_n (lv' := [(0, .int t1)]) hx hb dJ6_bitCount_0f7a4_9 rfl hl (by decide) rfl (fun ls hl => ?_)
  refine lv_iload_n hx hb dJ6_bitCount_0f7a4_10 rfl (lv_at hl 0 rfl) ?_
  refine lv_ldcw hx hb hown (hts (.constant RJ6 266 (858993459)) (List.mem_of_getElem? (i := 2) rfl)) dJ6_bitCount_0f7a4_11 ?_
  refine lv_iand hx hb dJ6_bitCount_0f7a4_14 ?_
  refine lv_iload_n hx hb dJ6_bitCount_0f7a4_15 rfl (lv_at hl 0 rfl) ?_
  refine lv_iconst (v := 2) hx hb dJ6_bitCount_0f7a4_16 (by decide) ?_
  refine lv_iushr (v := (t1.toUInt32 >>> ((2 : Int32).toUInt32 &&& Int32.toUInt32 31)).toInt32) hx hb dJ6_bitCount_0f7a4_17 rfl ?_
  refine lv_ldcw hx hb hown (hts (.constant RJ6 266 (858993459)) (List.mem_of_getElem? (i := 2) rfl)) dJ6_bitCount_0f7a4_18 ?_
  refine lv_iand hx hb dJ6_bitCount_0f7a4_21 ?_
  refine lv_iadd hx hb dJ6_bitCount_0f7a4_22 ?_
  replace h := bd h
  obtain ⟨t2, et2, h⟩ := h
  refine eqi (Option.some.inj et2) ?_
  refine lv_istore_n (lv' := [(0, .int t2)]) hx hb dJ6_bitCount_0f7a4_23 rfl hl (by decide) rfl (fun ls hl => ?_)
  refine lv_iload_n hx hb dJ6_bitCount_0f7a4_24 rfl (lv_at hl 0 rfl) ?_
  refine lv_iload_n hx hb dJ6_bitCount_0f7a4_25 rfl (lv_at hl 0 rfl) ?_
  refine lv_iconst (v := 4) hx hb dJ6_bitCount_0f7a4_26 (by decide) ?_
  refine lv_iushr (v := (t2.toUInt32 >>> ((4 : Int32).toUInt32 &&& Int32.toUInt32 31)).toInt32) hx hb dJ6_bitCount_0f7a4_27 rfl ?_
  refine lv_iadd hx hb dJ6_bitCount_0f7a4_28 ?_
  refine lv_ldcw hx hb hown (hts (.constant RJ6 267 (252645135)) (List.mem_of_getElem? (i := 3) rfl)) dJ6_bitCount_0f7a4_29 ?_
  refine lv_iand hx hb dJ6_bitCount_0f7a4_32 ?_
  replace h := bd h
  obtain ⟨t3, et3, h⟩ := h
  refine eqi (Option.some.inj et3) ?_
  refine lv_istore_n (lv' := [(0, .int t3)]) hx hb dJ6_bitCount_0f7a4_33 rfl hl (by decide) rfl (fun ls hl => ?_)
  refine lv_iload_n hx hb dJ6_bitCount_0f7a4_34 rfl (lv_at hl 0 rfl) ?_
  refine lv_iload_n hx hb dJ6_bitCount_0f7a4_35 rfl (lv_at hl 0 rfl) ?_
  refine lv_bipush (v := 8) hx hb dJ6_bitCount_0f7a4_36 (by decide) ?_
  refine lv_iushr (v := (t3.toUInt32 >>> ((8 : Int32).toUInt32 &&& Int32.toUInt32 31)).toInt32) hx hb dJ6_bitCount_0f7a4_38 rfl ?_
  refine lv_iadd hx hb dJ6_bitCount_0f7a4_39 ?_
  replace h := bd h
  obtain ⟨t4, et4, h⟩ := h
  refine eqi (Option.some.inj et4) ?_
  refine lv_istore_n (lv' := [(0, .int t4)]) hx hb dJ6_bitCount_0f7a4_40 rfl hl (by decide) rfl (fun ls hl => ?_)
  refine lv_iload_n hx hb dJ6_bitCount_0f7a4_41 rfl (lv_at hl 0 rfl) ?_
  refine lv_iload_n hx hb dJ6_bitCount_0f7a4_42 rfl (lv_at hl 0 rfl) ?_
  refine lv_bipush (v := 16) hx hb dJ6_bitCount_0f7a4_43 (by decide) ?_
  refine lv_iushr (v := (t4.toUInt32 >>> ((16 : Int32).toUInt32 &&& Int32.toUInt32 31)).toInt32) hx hb dJ6_bitCount_0f7a4_45 rfl ?_
  refine lv_iadd hx hb dJ6_bitCount_0f7a4_46 ?_
  replace h := bd h
  obtain ⟨t5, et5, h⟩ := h
  refine eqi (Option.some.inj et5) ?_
  refine lv_istore_n (lv' := [(0, .int t5)]) hx hb dJ6_bitCount_0f7a4_47 rfl hl (by decide) rfl (fun ls hl => ?_)
  refine lv_iload_n hx hb dJ6_bitCount_0f7a4_48 rfl (lv_at hl 0 rfl) ?_
  refine lv_bipush (v := 63) hx hb dJ6_bitCount_0f7a4_49 (by decide) ?_
  refine lv_iand hx hb dJ6_bitCount_0f7a4_51 ?_
  exact W.iret hx hb hr (fun t ht hW => ⟨_, rfl, Option.some.inj h, ht⟩) (fun q hq => absurd hq List.not_mem_nil) dJ6_bitCount_0f7a4_52 hlocks
set_option maxHeartbeats 4000000 in
set_option maxRecDepth 100000 in
theorem c_X4_isAnswer (l : Launch) (D : va_G) (T : Nat → ClassId) (v0 : Int32) (r : Int32) (h : F_X4_isAnswer v0 = some r) : Met l yX4_isAnswer wsX4_isAnswer ({ frames := 0, cells := 0, slots := 0, locals := 0 } : Room) (va_Pc [.int v0] (PB D T (([] : va_W)))) (QRi r) 0 0 (fun _ => False) := by
  refine met_of (cc := cX4_isAnswer) (maxL := 1) (ret := (some .boolean)) (lv := [(0, .int v0)]) (by decide) rfl (Nat.le_of_ble_eq_true rfl) rfl ?_
  intro p e s m args below meth c ls C0 hl hB
  obtain ⟨hx, hb, hr, hml, hown, hts, hlocks, hname⟩ := C0
  obtain ⟨hP, hK⟩ := hB
  unfold F_X4_isAnswer at h
  refine lv_iload_n hx hb dX4_isAnswer_0 rfl (lv_at hl 0 rfl) ?_
  refine lv_if_lt (tgt := 13) hx hb dX4_isAnswer_1 (by decide) (fun c1 => ?_) (fun c1 => ?_)
  · replace h := ip c1 h
    refine lv_iconst (v := 0) hx hb dX4_isAnswer_13 (by decide) ?_
    exact W.zret hx hb hr rfl (fun t ht hW => ⟨_, rfl, Option.some.inj h, ht⟩) (fun q hq => absurd hq List.not_mem_nil) dX4_isAnswer_14 hlocks
  replace h := im c1 h
  refine lv_iload_n hx hb dX4_isAnswer_4 rfl (lv_at hl 0 rfl) ?_
  refine lv_iconst (v := 3) hx hb dX4_isAnswer_5 (by decide) ?_
  refine lv_icmp_ge (tgt := 13) hx hb dX4_isAnswer_6 (by decide) (fun c2 => ?_) (fun c2 => ?_)
  · replace h := ip c2 h
    refine lv_iconst (v := 0) hx hb dX4_isAnswer_13 (by decide) ?_
    exact W.zret hx hb hr rfl (fun t ht hW => ⟨_, rfl, Option.some.inj h, ht⟩) (fun q hq => absurd hq List.not_mem_nil) dX4_isAnswer_14 hlocks
  replace h := im c2 h
  refine lv_iconst (v := 1) hx hb dX4_isAnswer_9 (by decide) ?_
  refine lv_goto (tgt := 14) hx hb dX4_isAnswer_10 (by decide) ?_
  exact W.zret hx hb hr rfl (fun t ht hW => ⟨_, rfl, Option.some.inj h, ht⟩) (fun q hq => absurd hq List.not_mem_nil) dX4_isAnswer_14 hlocks
set_option maxHeartbeats 4000000 in
set_option maxRecDepth 100000 in
theorem c_X4_isAhead (l : Launch) (D : va_G) (T : Nat → ClassId) (v0 : Int32) (r : Int32) (h : F_X4_isAhead v0 = some r) : Met l yX4_isAhead wsX4_isAhead ({ frames := 0, cells := 0, slots := 0, locals := 0 } : Room) (va_Pc [.int v0] (PB D T (([] : va_W)))) (QRi r) 0 0 (fun _ => False) := by
  refine met_of (cc := cX4_isAhead) (maxL := 1) (ret := (some .boolean)) (lv := [(0, .int v0)]) (by decide) rfl (Nat.le_of_ble_eq_true rfl) rfl ?_
  intro p e s m args below meth c ls C0 hl hB
  obtain ⟨hx, hb, hr, hml, hown, hts, hlocks, hname⟩ := C0
  obtain ⟨hP, hK⟩ := hB
  unfold F_X4_isAhead at h
  refine lv_iload_n hx hb dX4_isAhead_0 rfl (lv_at hl 0 rfl) ?_
  refine lv_if_lt (tgt := 14) hx hb dX4_isAhead_1 (by decide) (fun c1 => ?_) (fun c1 => ?_)
  · replace h := ip c1 h
    refine lv_iconst (v := 0) hx hb dX4_isAhead_14 (by decide) ?_
    exact W.zret hx hb hr rfl (fun t ht hW => ⟨_, rfl, Option.some.inj h, ht⟩) (fun q hq => absurd hq List.not_mem_nil) dX4_isAhead_15 hlocks
  replace h := im c1 h
  refine lv_iload_n hx hb dX4_isAhead_4 rfl (lv_at hl 0 rfl) ?_
  refine lv_bipush (v := 20) hx hb dX4_isAhead_5 (by decide) ?_
  refine lv_icmp_gt (tgt := 14) hx hb dX4_isAhead_7 (by decide) (fun c2 => ?_) (fun c2 => ?_)
  · replace h := ip c2 h
    refine lv_iconst (v := 0) hx hb dX4_isAhead_14 (by decide) ?_
    exact W.zret hx hb hr rfl (fun t ht hW => ⟨_, rfl, Option.some.inj h, ht⟩) (fun q hq => absurd hq List.not_mem_nil) dX4_isAhead_15 hlocks
  replace h := im c2 h
  refine lv_iconst (v := 1) hx hb dX4_isAhead_10 (by decide) ?_
  refine lv_goto (tgt := 15) hx hb dX4_isAhead_11 (by decide) ?_
  exact W.zret hx hb hr rfl (fun t ht hW => ⟨_, rfl, Option.some.inj h, ht⟩) (fun q hq => absurd hq List.not_mem_nil) dX4_isAhead_15 hlocks
set_option maxHeartbeats 4000000 in
set_option maxRecDepth 100000 in
theorem c_X4_at (l : Launch) (D : va_G) (T : Nat → ClassId) (h0 : Nat) (n0 : Nat) (f0 : Nat → Int32) (v1 : Int32) (hn0 : n0 < 2147483648) (r : Int32) (h : F_X4_at n0 f0 v1 = some r) : Met l yX4_at wsX4_at ({ frames := 0, cells := 0, slots := 0, locals := 0 } : Room) (va_Pc [.ref h0, .int v1] (PB D T (([(h0, .inl (T 0, n0, .inl (f0)))] : va_W)))) (QRi r) 0 0 (fun _ => False) := by
  refine met_of (cc := cX4_at) (maxL := 2) (ret := (some .int)) (lv := [(0, .ref h0), (1, .int v1)]) (by decide) rfl (Nat.le_of_ble_eq_true rfl) rfl ?_
  intro p e s m args below meth c ls C0 hl hB
  obtain ⟨hx, hb, hr, hml, hown, hts, hlocks, hname⟩ := C0
  obtain ⟨hP, hK⟩ := hB
  unfold F_X4_at at h
  refine lv_iload_n hx hb dX4_at_0 rfl (lv_at hl 1 rfl) ?_
  refine lv_if_lt (tgt := 16) hx hb dX4_at_1 (by decide) (fun c1 => ?_) (fun c1 => ?_)
  · replace h := ip c1 h
    refine lv_iconst (v := 0) hx hb dX4_at_16 (by decide) ?_
    exact W.iret hx hb hr (fun t ht hW => ⟨_, rfl, Option.some.inj h, ht⟩) (fun q hq => absurd hq List.not_mem_nil) dX4_at_17 hlocks
  replace h := im c1 h
  refine lv_iload_n hx hb dX4_at_4 rfl (lv_at hl 1 rfl) ?_
  refine lv_aload_n hx hb dX4_at_5 rfl (lv_at hl 0 rfl) ?_
  refine va_alen hx hb hK.1 hP 0 0 rfl rfl (v := nI n0) rfl dX4_at_6 ?_
  refine lv_icmp_ge (tgt := 16) hx hb dX4_at_7 (by decide) (fun c2 => ?_) (fun c2 => ?_)
  · replace h := ip c2 h
    refine lv_iconst (v := 0) hx hb dX4_at_16 (by decide) ?_
    exact W.iret hx hb hr (fun t ht hW => ⟨_, rfl, Option.some.inj h, ht⟩) (fun q hq => absurd hq List.not_mem_nil) dX4_at_17 hlocks
  replace h := im c2 h
  refine lv_aload_n hx hb dX4_at_10 rfl (lv_at hl 0 rfl) ?_
  refine lv_iload_n hx hb dX4_at_11 rfl (lv_at hl 1 rfl) ?_
  refine va_iald hx hb hK.1 hP 0 0 rfl rfl (vin hn0 c1 c2) dX4_at_12 ?_
  refine lv_goto (tgt := 17) hx hb dX4_at_13 (by decide) ?_
  exact W.iret hx hb hr (fun t ht hW => ⟨_, rfl, Option.some.inj h, ht⟩) (fun q hq => absurd hq List.not_mem_nil) dX4_at_17 hlocks
set_option maxHeartbeats 4000000 in
set_option maxRecDepth 100000 in
theorem c_X4_put (l : Launch) (D : va_G) (T : Nat → ClassId) (h0 : Nat) (n0 : Nat) (f0 : Nat → Int32) (v1 : Int32) (v2 : Int32) (sz : Nat) (hn0 : n0 < 2147483648) (r : (Nat → Int32)) (h : F_X4_put n0 f0 v1 v2 = some r) : Met l yX4_put wsX4_put ({ frames := 0, cells := 0, slots := 0, locals := 0 } : Room) (va_Pc [.ref h0, .int v1, .int v2] (PM D T (([(h0, .inl (T 0, n0, .inl (f0)))] : va_W)) sz)) (QMv D (([(h0, .inl (T 0, n0, .inl (r)))] : va_W)) (va_A (([(h0, .inl (T 0, n0, .inl (f0)))] : va_W)) sz)) 0 0 (va_A (([(h0, .inl (T 0, n0, .inl (f0)))] : va_W)) sz) := by
  refine met_of (cc := cX4_put) (maxL := 3) (ret := none) (lv := [(0, .ref h0), (1, .int v1), (2, .int v2)]) (by decide) rfl (Nat.le_of_ble_eq_true rfl) rfl ?_
  intro p e s m args below meth c ls C0 hl hB
  obtain ⟨hx, hb, hr, hml, hown, hts, hlocks, hname⟩ := C0
  obtain ⟨hsz, hP, hK, hD0⟩ := hB
  subst hsz
  have hD := hD0.self (sz := s.heap.size)
  generalize hAe : va_A (([(h0, .inl (T 0, n0, .inl (f0)))] : va_W)) s.heap.size = A at hD ⊢
  have hA : ∀ q : Nat, s.heap.size ≤ q → A q := fun q h => by rw [← hAe]; exact Or.inr h
  obtain ⟨H, hH⟩ : ∃ H, H = s.heap := ⟨_, rfl⟩
  obtain ⟨locs, hlo⟩ : ∃ L : List Loc, L = [] := ⟨_, rfl⟩
  have hS : va_S A s.heap s.heap [] := va_S.rf
  rw [← hH] at hP ⊢
  rw [← hlo]
  replace hS : va_S A s.heap H locs := by rw [hH, hlo]; exact hS
  clear hH hlo
  unfold F_X4_put at h
  refine lv_iload_n hx hb dX4_put_0 rfl (lv_at hl 1 rfl) ?_
  refine lv_if_lt (tgt := 14) hx hb dX4_put_1 (by decide) (fun c1 => ?_) (fun c1 => ?_)
  · replace h := ip c1 h
    obtain rfl := Option.some.inj h
    exact W.vret hx hb hr (fun t ht hW => ⟨⟨(), rfl, trivial, by rw [ht]; exact hP, hD⟩, hS.F ht⟩) hS.2.2 dX4_put_14 hlocks
  replace h := im c1 h
  refine lv_iload_n hx hb dX4_put_4 rfl (lv_at hl 1 rfl) ?_
  refine lv_aload_n hx hb dX4_put_5 rfl (lv_at hl 0 rfl) ?_
  refine va_alen hx hb hK.1 hP 0 0 rfl rfl (v := nI n0) rfl dX4_put_6 ?_
  refine lv_icmp_ge (tgt := 14) hx hb dX4_put_7 (by decide) (fun c2 => ?_) (fun c2 => ?_)
  · replace h := ip c2 h
    obtain rfl := Option.some.inj h
    exact W.vret hx hb hr (fun t ht hW => ⟨⟨(), rfl, trivial, by rw [ht]; exact hP, hD⟩, hS.F ht⟩) hS.2.2 dX4_put_14 hlocks
  replace h := im c2 h
  refine lv_aload_n hx hb dX4_put_10 rfl (lv_at hl 0 rfl) ?_
  refine lv_iload_n hx hb dX4_put_11 rfl (lv_at hl 1 rfl) ?_
  refine lv_iload_n hx hb dX4_put_12 rfl (lv_at hl 2 rfl) ?_
  refine va_iast hx hb hK.1 hP hD hS 0 0 rfl rfl (vin hn0 c1 c2) dX4_put_13 (fun H locs hP hD hS => ?_)
  replace hP : va_P D vwCl (([(h0, .inl (T 0, n0, .inl (upd f0 v1.toNatClampNeg v2)))] : va_W)) H := hP
  replace hD : va_D A (([(h0, .inl (T 0, n0, .inl (upd f0 v1.toNatClampNeg v2)))] : va_W)) := hD
  obtain rfl := Option.some.inj h
  exact W.vret hx hb hr (fun t ht hW => ⟨⟨(), rfl, trivial, by rw [ht]; exact hP, hD⟩, hS.F ht⟩) hS.2.2 dX4_put_14 hlocks
set_option maxHeartbeats 4000000 in
set_option maxRecDepth 100000 in
theorem c_X4_coinBit (l : Launch) (D : va_G) (T : Nat → ClassId) (v0 : Int32) (r : Int32) (h : F_X4_coinBit v0 = some r) : Met l yX4_coinBit wsX4_coinBit ({ frames := 0, cells := 0, slots := 0, locals := 0 } : Room) (va_Pc [.int v0] (PB D T (([] : va_W)))) (QRi r) 0 0 (fun _ => False) := by
  refine met_of (cc := cX4_coinBit) (maxL := 1) (ret := (some .int)) (lv := [(0, .int v0)]) (by decide) rfl (Nat.le_of_ble_eq_true rfl) rfl ?_
  intro p e s m args below meth c ls C0 hl hB
  obtain ⟨hx, hb, hr, hml, hown, hts, hlocks, hname⟩ := C0
  obtain ⟨hP, hK⟩ := hB
  unfold F_X4_coinBit at h
  refine lv_iload_n hx hb dX4_coinBit_0 rfl (lv_at hl 0 rfl) ?_
  refine lv_if_gt (tgt := 8) hx hb dX4_coinBit_1 (by decide) (fun c1 => ?_) (fun c1 => ?_)
  · replace h := ip c1 h
    refine lv_iconst (v := 1) hx hb dX4_coinBit_8 (by decide) ?_
    refine lv_iload_n hx hb dX4_coinBit_9 rfl (lv_at hl 0 rfl) ?_
    refine lv_iconst (v := 1) hx hb dX4_coinBit_10 (by decide) ?_
    refine lv_isub hx hb dX4_coinBit_11 ?_
    refine lv_iconst (v := 2) hx hb dX4_coinBit_12 (by decide) ?_
    refine lv_idiv hx hb dX4_coinBit_13 (by decide) ?_
    refine lv_ishl hx hb dX4_coinBit_14 ?_
    exact W.iret hx hb hr (fun t ht hW => ⟨_, rfl, Option.some.inj h, ht⟩) (fun q hq => absurd hq List.not_mem_nil) dX4_coinBit_15 hlocks
  replace h := im c1 h
  refine lv_iconst (v := 0) hx hb dX4_coinBit_4 (by decide) ?_
  refine lv_goto (tgt := 15) hx hb dX4_coinBit_5 (by decide) ?_
  exact W.iret hx hb hr (fun t ht hW => ⟨_, rfl, Option.some.inj h, ht⟩) (fun q hq => absurd hq List.not_mem_nil) dX4_coinBit_15 hlocks
set_option maxHeartbeats 4000000 in
set_option maxRecDepth 100000 in
theorem c_X4_trueAnswer (l : Launch) (D : va_G) (T : Nat → ClassId) (v0 : Int32) (v1 : Int32) (v2 : Int32) (r : Int32) (h : F_X4_trueAnswer v0 v1 v2 = some r) : Met l yX4_trueAnswer wsX4_trueAnswer ({ frames := 1, cells := 0, slots := 0, locals := 20 } : Room) (va_Pc [.int v0, .int v1, .int v2] (PB D T (([] : va_W)))) (QRi r) 0 0 (fun _ => False) := by
  refine met_of (cc := cX4_trueAnswer) (maxL := 5) (ret := (some .int)) (lv := [(0, .int v0), (1, .int v1), (2, .int v2)]) (by decide) rfl (Nat.le_of_ble_eq_true rfl) rfl ?_
  intro p e s m args below meth c ls C0 hl hB
  obtain ⟨hx, hb, hr, hml, hown, hts, hlocks, hname⟩ := C0
  obtain ⟨hP, hK⟩ := hB
  unfold F_X4_trueAnswer at h
  refine lv_iload_n hx hb dX4_trueAnswer_0 rfl (lv_at hl 0 rfl) ?_
  replace h := bd h
  obtain ⟨t1, et1, h⟩ := h
  refine callRi (v := t1) (va_runS (As := [.int v0]) (rest := []) ⟨hx, hb, hml, hown, hts⟩ (c_X4_coinBit l D T v0 t1 et1) (va_cwS 1 hts gX4_trueAnswer_X4_coinBit rfl rfl rfl hdS_X4_coinBit ⟨Nat.le_of_ble_eq_true rfl, Nat.le_of_ble_eq_true rfl⟩) ⟨PB_blind, PB_at hP hK⟩ rfl rfl hl.1 rfl (lv_room (Nat.le_of_ble_eq_true rfl)) dX4_trueAnswer_1 ⟨Nat.zero_le _, Nat.zero_le _⟩) ?_
  refine lv_istore_n (lv' := [(3, .int t1), (0, .int v0), (1, .int v1), (2, .int v2)]) hx hb dX4_trueAnswer_4 rfl hl (by decide) rfl (fun ls hl => ?_)
  refine lv_iload_n hx hb dX4_trueAnswer_5 rfl (lv_at hl 1 rfl) ?_
  refine lv_iconst (v := 1) hx hb dX4_trueAnswer_6 (by decide) ?_
  refine lv_iand hx hb dX4_trueAnswer_7 ?_
  refine lv_iconst (v := 1) hx hb dX4_trueAnswer_8 (by decide) ?_
  refine lv_icmp_ne (tgt := 16) hx hb dX4_trueAnswer_9 (by decide) (fun c2 => ?_) (fun c2 => ?_)
  · replace h := im c2 h
    refine lv_iconst (v := 0) hx hb dX4_trueAnswer_16 (by decide) ?_
    refine lv_istore (lv' := [(4, .int 0), (3, .int t1), (0, .int v0), (1, .int v1), (2, .int v2)]) hx hb dX4_trueAnswer_17 hl (by decide) rfl (fun ls hl => ?_)
    refine lv_iload_n hx hb dX4_trueAnswer_19 rfl (lv_at hl 3 rfl) ?_
    refine lv_iload_n hx hb dX4_trueAnswer_20 rfl (lv_at hl 1 rfl) ?_
    refine lv_iand hx hb dX4_trueAnswer_21 ?_
    refine lv_if_eq (tgt := 36) hx hb dX4_trueAnswer_22 (by decide) (fun c3 => ?_) (fun c3 => ?_)
    · replace h := ip c3 h
      refine lv_iload_n hx hb dX4_trueAnswer_36 rfl (lv_at hl 4 rfl) ?_
      refine lv_iload_n hx hb dX4_trueAnswer_37 rfl (lv_at hl 1 rfl) ?_
      refine lv_iand hx hb dX4_trueAnswer_38 ?_
      refine lv_if_eq (tgt := 53) hx hb dX4_trueAnswer_39 (by decide) (fun c4 => ?_) (fun c4 => ?_)
      · replace h := ip c4 h
        refine lv_iconst (v := 2) hx hb dX4_trueAnswer_53 (by decide) ?_
        exact W.iret hx hb hr (fun t ht hW => ⟨_, rfl, Option.some.inj h, ht⟩) (fun q hq => absurd hq List.not_mem_nil) dX4_trueAnswer_54 hlocks
      replace h := im c4 h
      refine lv_iload hx hb dX4_trueAnswer_42 (lv_at hl 0 rfl) ?_
      refine lv_if_eq (tgt := 51) hx hb dX4_trueAnswer_44 (by decide) (fun _ => ?_) (fun c => absurd c (by decide))
      refine lv_iconst (v := 0) hx hb dX4_trueAnswer_51 (by decide) ?_
      exact W.iret hx hb hr (fun t ht hW => ⟨_, rfl, Option.some.inj h, ht⟩) (fun q hq => absurd hq List.not_mem_nil) dX4_trueAnswer_52 hlocks
    replace h := im c3 h
    refine lv_iload hx hb dX4_trueAnswer_25 (lv_at hl 0 rfl) ?_
    refine lv_if_eq (tgt := 34) hx hb dX4_trueAnswer_27 (by decide) (fun _ => ?_) (fun c => absurd c (by decide))
    refine lv_iconst (v := 1) hx hb dX4_trueAnswer_34 (by decide) ?_
    exact W.iret hx hb hr (fun t ht hW => ⟨_, rfl, Option.some.inj h, ht⟩) (fun q hq => absurd hq List.not_mem_nil) dX4_trueAnswer_35 hlocks
  replace h := ip c2 h
  refine lv_iconst (v := 1) hx hb dX4_trueAnswer_12 (by decide) ?_
  refine lv_goto (tgt := 17) hx hb dX4_trueAnswer_13 (by decide) ?_
  refine lv_istore (lv' := [(4, .int 1), (3, .int t1), (0, .int v0), (1, .int v1), (2, .int v2)]) hx hb dX4_trueAnswer_17 hl (by decide) rfl (fun ls hl => ?_)
  refine lv_iload_n hx hb dX4_trueAnswer_19 rfl (lv_at hl 3 rfl) ?_
  refine lv_iload_n hx hb dX4_trueAnswer_20 rfl (lv_at hl 1 rfl) ?_
  refine lv_iand hx hb dX4_trueAnswer_21 ?_
  refine lv_if_eq (tgt := 36) hx hb dX4_trueAnswer_22 (by decide) (fun c5 => ?_) (fun c5 => ?_)
  · replace h := ip c5 h
    refine lv_iload_n hx hb dX4_trueAnswer_36 rfl (lv_at hl 4 rfl) ?_
    refine lv_iload_n hx hb dX4_trueAnswer_37 rfl (lv_at hl 1 rfl) ?_
    refine lv_iand hx hb dX4_trueAnswer_38 ?_
    refine lv_if_eq (tgt := 53) hx hb dX4_trueAnswer_39 (by decide) (fun c6 => ?_) (fun c6 => ?_)
    · replace h := ip c6 h
      refine lv_iconst (v := 2) hx hb dX4_trueAnswer_53 (by decide) ?_
      exact W.iret hx hb hr (fun t ht hW => ⟨_, rfl, Option.some.inj h, ht⟩) (fun q hq => absurd hq List.not_mem_nil) dX4_trueAnswer_54 hlocks
    replace h := im c6 h
    refine lv_iload hx hb dX4_trueAnswer_42 (lv_at hl 0 rfl) ?_
    refine lv_if_eq (tgt := 51) hx hb dX4_trueAnswer_44 (by decide) (fun c => absurd c (by decide)) (fun _ => ?_)
    refine lv_iconst (v := 1) hx hb dX4_trueAnswer_47 (by decide) ?_
    refine lv_goto (tgt := 52) hx hb dX4_trueAnswer_48 (by decide) ?_
    exact W.iret hx hb hr (fun t ht hW => ⟨_, rfl, Option.some.inj h, ht⟩) (fun q hq => absurd hq List.not_mem_nil) dX4_trueAnswer_52 hlocks
  replace h := im c5 h
  refine lv_iload hx hb dX4_trueAnswer_25 (lv_at hl 0 rfl) ?_
  refine lv_if_eq (tgt := 34) hx hb dX4_trueAnswer_27 (by decide) (fun c => absurd c (by decide)) (fun _ => ?_)
  refine lv_iconst (v := 0) hx hb dX4_trueAnswer_30 (by decide) ?_
  refine lv_goto (tgt := 35) hx hb dX4_trueAnswer_31 (by decide) ?_
  exact W.iret hx hb hr (fun t ht hW => ⟨_, rfl, Option.some.inj h, ht⟩) (fun q hq => absurd hq List.not_mem_nil) dX4_trueAnswer_35 hlocks
set_option maxHeartbeats 4000000 in
set_option maxRecDepth 100000 in
theorem c_X4_volume (l : Launch) (D : va_G) (T : Nat → ClassId) (v0 : Int32) (v1 : Int32) (r : Int64) (h : F_X4_volume v0 v1 = some r) : Met l yX4_volume wsX4_volume ({ frames := 1, cells := 0, slots := 0, locals := 23 } : Room) (va_Pc [.int v0, .int v1] (PB D T (([] : va_W)))) (QRl r) 0 0 (fun _ => False) := by
  refine met_of (cc := cX4_volume) (maxL := 8) (ret := (some .long)) (lv := [(0, .int v0), (1, .int v1)]) (by decide) rfl (Nat.le_of_ble_eq_true rfl) rfl ?_
  intro p e s m args below meth c ls C0 hl hB
  obtain ⟨hx, hb, hr, hml, hown, hts, hlocks, hname⟩ := C0
  obtain ⟨hP, hK⟩ := hB
  unfold F_X4_volume at h
  refine lv_lconst (v := 1) hx hb dX4_volume_0 (by decide) ?_
  refine lv_lstore_n (lv' := [(2, .long 1), (0, .int v0), (1, .int v1)]) hx hb dX4_volume_1 rfl hl (by decide) rfl (fun ls hl => ?_)
  refine lv_lconst (v := 1) hx hb dX4_volume_2 (by decide) ?_
  refine lv_lstore (lv' := [(4, .long 1), (2, .long 1), (0, .int v0), (1, .int v1)]) hx hb dX4_volume_3 hl (by decide) rfl (fun ls hl => ?_)
  refine lv_iload_n hx hb dX4_volume_5 rfl (lv_at hl 2 rfl) ?_
  refine lv_iload_n hx hb dX4_volume_6 rfl (lv_at hl 3 rfl) ?_
  refine va_mmin hx hb (hml.trans hl.1.symm) hown (hts (.methodLink RX4 253 Lib.Math.min.name) (List.mem_of_getElem? (i := 1) rfl)) (hts (.static Lib.Math.min.name) (List.mem_of_getElem? (i := 2) rfl)) (hts (.initialized "java/lang/Math") (List.mem_of_getElem? (i := 3) rfl)) (hts (.code Lib.Math.min.name Lib.Math.min.code 2 (some .int)) (List.mem_of_getElem? (i := 4) rfl)) (Nat.le_of_ble_eq_true rfl) (Nat.le_of_ble_eq_true rfl) (Nat.zero_le _) (Nat.zero_le _) dX4_volume_7 ?_
  refine lv_istore (lv' := [(6, .int (if v1 < v0 then v1 else v0)), (4, .long 1), (2, .long 1), (0, .int v0), (1, .int v1)]) hx hb dX4_volume_10 hl (by decide) rfl (fun ls hl => ?_)
  refine lv_iconst (v := 1) hx hb dX4_volume_12 (by decide) ?_
  refine lv_istore (lv' := [(7, .int 1), (6, .int (if v1 < v0 then v1 else v0)), (4, .long 1), (2, .long 1), (0, .int v0), (1, .int v1)]) hx hb dX4_volume_13 hl (by decide) rfl (fun ls hl => ?_)
  have K15 : ∀ (n15 : Nat) (i2_15 : Int64) (i4_15 : Int64) (i7_15 : Int32) (ls : Array Slot), fx3 (B_X4_volume_15 v0 v1) n15 i2_15 i4_15 i7_15 = some r → lv_has ls 8 [(0, .int v0), (1, .int v1), (2, .long i2_15), (4, .long i4_15), (6, .int (if v1 < v0 then v1 else v0)), (7, .int i7_15)] → W p l e ({ frames := 1, cells := 0, slots := 0, locals := 23 } : Room) s m args below meth c s.heap [] 0 0 (MQ below (QRl r) args s 0 0 (fun _ => False)) (F0 m 15 ls []) := by
    intro n15
    induction n15 with
    | zero =>
        intro i2_15 i4_15 i7_15 ls h
        cases h
    | succ n15 ih15 =>
        intro i2_15 i4_15 i7_15 ls h hl
        replace h : B_X4_volume_15 v0 v1 (fx3 (B_X4_volume_15 v0 v1) n15) i2_15 i4_15 i7_15 = some r := h
        unfold B_X4_volume_15 at h
        refine lv_iload hx hb dX4_volume_15 (lv_at hl 5 rfl) ?_
        refine lv_iload hx hb dX4_volume_17 (lv_at hl 4 rfl) ?_
        refine lv_icmp_gt (tgt := 51) hx hb dX4_volume_19 (by decide) (fun c1 => ?_) (fun c1 => ?_)
        · replace h := ip c1 h
          refine lv_lload hx hb dX4_volume_51 (lv_at hl 3 rfl) ?_
          exact W.lret hx hb hr (fun t ht hW => ⟨_, rfl, Option.some.inj h, ht⟩) (fun q hq => absurd hq List.not_mem_nil) dX4_volume_53 hlocks
        replace h := im c1 h
        refine lv_lload_n hx hb dX4_volume_22 rfl (lv_at hl 2 rfl) ?_
        refine lv_iload_n hx hb dX4_volume_23 rfl (lv_at hl 0 rfl) ?_
        refine lv_iload hx hb dX4_volume_24 (lv_at hl 5 rfl) ?_
        refine lv_isub hx hb dX4_volume_26 ?_
        refine lv_iconst (v := 1) hx hb dX4_volume_27 (by decide) ?_
        refine lv_iadd hx hb dX4_volume_28 ?_
        refine lv_i2l (v := ((v0 - i7_15) + 1).toInt64) hx hb dX4_volume_29 rfl ?_
        refine lv_lmul hx hb dX4_volume_30 ?_
        refine lv_iload hx hb dX4_volume_31 (lv_at hl 5 rfl) ?_
        refine lv_i2l (v := i7_15.toInt64) hx hb dX4_volume_33 rfl ?_
        replace h := gd h
        obtain ⟨g2, h⟩ := h
        refine lv_ldiv hx hb dX4_volume_34 g2 ?_
        replace h := bd h
        obtain ⟨t3, et3, h⟩ := h
        refine eql (Option.some.inj et3) ?_
        refine lv_lstore_n (lv' := [(2, .long t3), (0, .int v0), (1, .int v1), (4, .long i4_15), (6, .int (if v1 < v0 then v1 else v0)), (7, .int i7_15)]) hx hb dX4_volume_35 rfl hl (by decide) rfl (fun ls hl => ?_)
        refine lv_lload hx hb dX4_volume_36 (lv_at hl 3 rfl) ?_
        refine lv_lload_n hx hb dX4_volume_38 rfl (lv_at hl 0 rfl) ?_
        refine lv_iload hx hb dX4_volume_39 (lv_at hl 5 rfl) ?_
        refine lv_lshl (v := t3 <<< (i7_15.toInt64 &&& 63)) hx hb dX4_volume_41 rfl ?_
        refine lv_ladd hx hb dX4_volume_42 ?_
        refine lv_lstore (lv' := [(4, .long (i4_15 + (t3 <<< (i7_15.toInt64 &&& 63)))), (2, .long t3), (0, .int v0), (1, .int v1), (6, .int (if v1 < v0 then v1 else v0)), (7, .int i7_15)]) hx hb dX4_volume_43 hl (by decide) rfl (fun ls hl => ?_)
        refine lv_iinc (v := i7_15 + 1) (lv' := [(7, .int (i7_15 + 1)), (4, .long (i4_15 + (t3 <<< (i7_15.toInt64 &&& 63)))), (2, .long t3), (0, .int v0), (1, .int v1), (6, .int (if v1 < v0 then v1 else v0))]) hx hb dX4_volume_45 hl (k := 5) rfl rfl (by decide) rfl (fun ls hl => ?_)
        refine lv_goto (tgt := 15) hx hb dX4_volume_48 (by decide) ?_
        exact ih15 t3 (i4_15 + (t3 <<< (i7_15.toInt64 &&& 63))) (i7_15 + 1) ls h (lv_sub hl [3, 4, 2, 1, 5, 0] rfl)
  exact K15 1000 1 1 1 ls h (lv_sub hl [4, 5, 3, 2, 1, 0] rfl)
set_option maxHeartbeats 4000000 in
set_option maxRecDepth 100000 in
theorem c_X4_copyRow (l : Launch) (D : va_G) (T : Nat → ClassId) (h0 : Nat) (n0 : Nat) (f0 : Nat → Int32) (h1 : Nat) (n1 : Nat) (f1 : Nat → Int32) (sz : Nat) (hn0 : n0 < 2147483648) (hn1 : n1 < 2147483648) (r : (Nat → Int32)) (h : F_X4_copyRow n0 f0 n1 f1 = some r) : Met l yX4_copyRow wsX4_copyRow ({ frames := 1, cells := 0, slots := 0, locals := 23 } : Room) (va_Pc [.ref h0, .ref h1] (PM D T (([(h0, .inl (T 0, n0, .inl (f0)))] : va_W) ++ ([(h1, .inl (T 0, n1, .inl (f1)))] : va_W)) sz)) (QMv D (([(h0, .inl (T 0, n0, .inl (f0)))] : va_W) ++ ([(h1, .inl (T 0, n1, .inl (r)))] : va_W)) (va_A (([(h0, .inl (T 0, n0, .inl (f0)))] : va_W) ++ ([(h1, .inl (T 0, n1, .inl (f1)))] : va_W)) sz)) 0 0 (va_A (([(h0, .inl (T 0, n0, .inl (f0)))] : va_W) ++ ([(h1, .inl (T 0, n1, .inl (f1)))] : va_W)) sz) := by
  refine met_of (cc := cX4_copyRow) (maxL := 2) (ret := none) (lv := [(0, .ref h0), (1, .ref h1)]) (by decide) rfl (Nat.le_of_ble_eq_true rfl) rfl ?_
  intro p e s m args below meth c ls C0 hl hB
  obtain ⟨hx, hb, hr, hml, hown, hts, hlocks, hname⟩ := C0
  obtain ⟨hsz, hP, hK, hD0⟩ := hB
  subst hsz
  have hD := hD0.self (sz := s.heap.size)
  generalize hAe : va_A (([(h0, .inl (T 0, n0, .inl (f0)))] : va_W) ++ ([(h1, .inl (T 0, n1, .inl (f1)))] : va_W)) s.heap.size = A at hD ⊢
  have hA : ∀ q : Nat, s.heap.size ≤ q → A q := fun q h => by rw [← hAe]; exact Or.inr h
  obtain ⟨H, hH⟩ : ∃ H, H = s.heap := ⟨_, rfl⟩
  obtain ⟨locs, hlo⟩ : ∃ L : List Loc, L = [] := ⟨_, rfl⟩
  have hS : va_S A s.heap s.heap [] := va_S.rf
  rw [← hH] at hP ⊢
  rw [← hlo]
  replace hS : va_S A s.heap H locs := by rw [hH, hlo]; exact hS
  clear hH hlo
  unfold F_X4_copyRow at h
  refine lv_aload_n hx hb dX4_copyRow_0 rfl (lv_at hl 0 rfl) ?_
  refine lv_iconst (v := 0) hx hb dX4_copyRow_1 (by decide) ?_
  refine lv_aload_n hx hb dX4_copyRow_2 rfl (lv_at hl 1 rfl) ?_
  refine lv_iconst (v := 0) hx hb dX4_copyRow_3 (by decide) ?_
  refine lv_aload_n hx hb dX4_copyRow_4 rfl (lv_at hl 0 rfl) ?_
  refine va_alen hx hb hK.1 hP 0 0 rfl rfl (v := nI n0) rfl dX4_copyRow_5 ?_
  refine lv_aload_n hx hb dX4_copyRow_6 rfl (lv_at hl 1 rfl) ?_
  refine va_alen hx hb hK.1 hP 1 0 rfl rfl (v := nI n1) rfl dX4_copyRow_7 ?_
  replace h := gd h
  obtain ⟨g1, h⟩ := h
  have e1 := Decidable.not_not.mp g1
  subst e1
  refine va_mmin hx hb (hml.trans hl.1.symm) hown (hts (.methodLink RX4 253 Lib.Math.min.name) (List.mem_of_getElem? (i := 1) rfl)) (hts (.static Lib.Math.min.name) (List.mem_of_getElem? (i := 2) rfl)) (hts (.initialized "java/lang/Math") (List.mem_of_getElem? (i := 3) rfl)) (hts (.code Lib.Math.min.name Lib.Math.min.code 2 (some .int)) (List.mem_of_getElem? (i := 4) rfl)) (Nat.le_of_ble_eq_true rfl) (Nat.le_of_ble_eq_true rfl) (Nat.zero_le _) (Nat.zero_le _) dX4_copyRow_8 ?_
  refine eqi (ite_self _) ?_
  refine va_copyi hx hb (hml.trans hl.1.symm) hown (hts (.methodLink RX4 258 arraycopyName) (List.mem_of_getElem? (i := 5) rfl)) (hts (.native arraycopyName) (List.mem_of_getElem? (i := 6) rfl)) (hts (.static arraycopyName) (List.mem_of_getElem? (i := 7) rfl)) (hts (.initialized "java/lang/System") (List.mem_of_getElem? (i := 8) rfl)) hK.1 hP hD hS 0 1 0 0 rfl rfl rfl rfl rfl (by decide) (by decide) (nI_pos hn0) (by rw [nI_clamp hn0]; exact Nat.le_of_eq (Nat.zero_add _)) (by rw [nI_clamp hn0]; exact Nat.le_of_eq (Nat.zero_add _)) (fun i hi => rfl) (Nat.le_of_ble_eq_true rfl) (Nat.le_of_ble_eq_true rfl) dX4_copyRow_11 (fun H locs hP hD hS => ?_)
  rw [nI_clamp hn0] at hP hD
  replace hP : va_P D vwCl (([(h0, .inl (T 0, n0, .inl (f0)))] : va_W) ++ ([(h1, .inl (T 0, n0, .inl (va_cpy f0 f1 0 0 n0)))] : va_W)) H := hP
  replace hD : va_D A (([(h0, .inl (T 0, n0, .inl (f0)))] : va_W) ++ ([(h1, .inl (T 0, n0, .inl (va_cpy f0 f1 0 0 n0)))] : va_W)) := hD
  obtain rfl := Option.some.inj h
  exact W.vret hx hb hr (fun t ht hW => ⟨⟨(), rfl, trivial, by rw [ht]; exact hP, hD⟩, hS.F ht⟩) hS.2.2 dX4_copyRow_14 hlocks
set_option maxHeartbeats 4000000 in
set_option maxRecDepth 100000 in
theorem c_X3_write (l : Launch) (D : va_G) (T : Nat → ClassId) (a0 : Nat → Nat) (n0 : Nat) (x0 : St) (v1 : Int32) (v2 : Int32) (v3 : Int32) (sz : Nat) (hn0 : n0 < 2147483648) (r : St) (h : F_X3_write n0 x0 v1 v2 v3 = some r) : Met l yX3_write wsX3_write ({ frames := 1, cells := 0, slots := 0, locals := 22 } : Room) (va_Pc [.ref (a0 0), .int v1, .int v2, .int v3] (PM D T (wgW T n0 a0 (x0)) sz)) (QMv D (wgW T n0 a0 (r)) (va_A (wgW T n0 a0 (x0)) sz)) 0 0 (va_A (wgW T n0 a0 (x0)) sz) := by
  refine met_of (cc := cX3_write) (maxL := 4) (ret := none) (lv := [(0, .ref (a0 0)), (1, .int v1), (2, .int v2), (3, .int v3)]) (by decide) rfl (Nat.le_of_ble_eq_true rfl) rfl ?_
  intro p e s m args below meth c ls C0 hl hB
  obtain ⟨hx, hb, hr, hml, hown, hts, hlocks, hname⟩ := C0
  obtain ⟨hsz, hP, hK, hD0⟩ := hB
  subst hsz
  have hD := hD0.self (sz := s.heap.size)
  generalize hAe : va_A (wgW T n0 a0 (x0)) s.heap.size = A at hD ⊢
  have hA : ∀ q : Nat, s.heap.size ≤ q → A q := fun q h => by rw [← hAe]; exact Or.inr h
  obtain ⟨H, hH⟩ : ∃ H, H = s.heap := ⟨_, rfl⟩
  obtain ⟨locs, hlo⟩ : ∃ L : List Loc, L = [] := ⟨_, rfl⟩
  have hS : va_S A s.heap s.heap [] := va_S.rf
  rw [← hH] at hP ⊢
  rw [← hlo]
  replace hS : va_S A s.heap H locs := by rw [hH, hlo]; exact hS
  clear hH hlo
  unfold F_X3_write at h
  refine lv_aload_n hx hb dX3_write_0 rfl (lv_at hl 0 rfl) ?_
  refine va_get (D := D) (ci := 3) (v := .int (x0.1 0)) (C := RX3) (T := TX3) (N := 4) hx hb hts inX3_write_3 hown hK.1 hP 0 rfl rfl 3 (by decide) (hts (.fieldLink RX3 31 "LyingScale$Weighings" "count" "I") (List.mem_of_getElem? (i := 1) rfl)) (fun _ h9 => h9) rfl dX3_write_1 ?_
  refine lv_aload_n hx hb dX3_write_4 rfl (lv_at hl 0 rfl) ?_
  refine va_get (D := D) (ci := 3) (v := .ref (a0 1)) (C := RX3) (T := TX3) (N := 4) hx hb hts inX3_write_3 hown hK.1 hP 0 rfl rfl 0 (by decide) (hts (.fieldLink RX3 15 "LyingScale$Weighings" "lefts" "[I") (List.mem_of_getElem? (i := 2) rfl)) (fun _ h9 => h9) rfl dX3_write_5 ?_
  refine va_alen hx hb hK.1 hP 1 0 rfl rfl (v := nI n0) rfl dX3_write_8 ?_
  refine lv_icmp_ge (tgt := 58) hx hb dX3_write_9 (by decide) (fun c1 => ?_) (fun c1 => ?_)
  · replace h := ip c1 h
    obtain rfl := Option.some.inj h
    exact W.vret hx hb hr (fun t ht hW => ⟨⟨(), rfl, trivial, by rw [ht]; exact hP, hD⟩, hS.F ht⟩) hS.2.2 dX3_write_58 hlocks
  replace h := im c1 h
  refine lv_aload_n hx hb dX3_write_12 rfl (lv_at hl 0 rfl) ?_
  refine va_get (D := D) (ci := 3) (v := .ref (a0 1)) (C := RX3) (T := TX3) (N := 4) hx hb hts inX3_write_3 hown hK.1 hP 0 rfl rfl 0 (by decide) (hts (.fieldLink RX3 15 "LyingScale$Weighings" "lefts" "[I") (List.mem_of_getElem? (i := 2) rfl)) (fun _ h9 => h9) rfl dX3_write_13 ?_
  refine lv_aload_n hx hb dX3_write_16 rfl (lv_at hl 0 rfl) ?_
  refine va_get (D := D) (ci := 3) (v := .int (x0.1 0)) (C := RX3) (T := TX3) (N := 4) hx hb hts inX3_write_3 hown hK.1 hP 0 rfl rfl 3 (by decide) (hts (.fieldLink RX3 31 "LyingScale$Weighings" "count" "I") (List.mem_of_getElem? (i := 1) rfl)) (fun _ h9 => h9) rfl dX3_write_17 ?_
  refine lv_iload_n hx hb dX3_write_20 rfl (lv_at hl 1 rfl) ?_
  replace h := bd h
  obtain ⟨t2, et2, h⟩ := h
  refine callMv (wr := [(a0 0, .inr (3, [.ref (a0 1), .ref (a0 2), .ref (a0 3), .int (x0.1 0)])), (a0 2, .inl (T 0, n0, .inl (x0.2 1))), (a0 3, .inl (T 0, n0, .inl (x0.2 2)))]) (ws' := wgW T n0 a0 (sA x0 0 t2)) (va_runSN (As := [.ref (a0 1), .int (x0.1 0), .int v1]) (rest := []) ⟨hx, hb, hml, hown, hts⟩ (c_X4_put l D T (a0 1) n0 (x0.2 0) (x0.1 0) v1 _ hn0 t2 et2) ⟨va_cnB 3 hts gX3_write_X4_put_n35 rfl rfl rfl (hK.2 (.methodLinkNest RX3 35 yX4_put "LyingScale") (List.mem_of_getElem? (i := 14) rfl)) (hts (.initialized RX4) (List.mem_of_getElem? (i := 6) rfl)) hdS_X4_put ⟨Nat.le_of_ble_eq_true rfl, Nat.le_of_ble_eq_true rfl⟩, (hts (.static yX4_put) (List.mem_of_getElem? (i := 5) rfl)), trivial⟩ ⟨PM_blind, PM_at (hP.sub (ws' := ([(a0 1, .inl (T 0, n0, .inl (x0.2 0)))] : va_W)) [1] rfl) (hD.sub (ws' := ([(a0 1, .inl (T 0, n0, .inl (x0.2 0)))] : va_W)) [1] (by decide) rfl) hK⟩ rfl rfl hl.1 rfl (lv_room (Nat.le_of_ble_eq_true rfl)) dX3_write_21 ⟨Nat.zero_le _, Nat.zero_le _⟩) hS hA hP hD [1] [0, 2, 3] rfl rfl (by decide) (by decide) [0, 3, 1, 2] (by decide) rfl (fun H locs hP hD hS => ?_)
  refine lv_aload_n hx hb dX3_write_24 rfl (lv_at hl 0 rfl) ?_
  refine va_get (D := D) (ci := 3) (v := .ref (a0 2)) (C := RX3) (T := TX3) (N := 4) hx hb hts inX3_write_3 hown hK.1 hP 0 rfl rfl 1 (by decide) (hts (.fieldLink RX3 21 "LyingScale$Weighings" "rights" "[I") (List.mem_of_getElem? (i := 3) rfl)) (fun _ h9 => h9) rfl dX3_write_25 ?_
  refine lv_aload_n hx hb dX3_write_28 rfl (lv_at hl 0 rfl) ?_
  refine va_get (D := D) (ci := 3) (v := .int ((sA x0 0 t2).1 0)) (C := RX3) (T := TX3) (N := 4) hx hb hts inX3_write_3 hown hK.1 hP 0 rfl rfl 3 (by decide) (hts (.fieldLink RX3 31 "LyingScale$Weighings" "count" "I") (List.mem_of_getElem? (i := 1) rfl)) (fun _ h9 => h9) rfl dX3_write_29 ?_
  refine lv_iload_n hx hb dX3_write_32 rfl (lv_at hl 2 rfl) ?_
  replace h := bd h
  obtain ⟨t3, et3, h⟩ := h
  refine callMv (wr := [(a0 0, .inr (3, [.ref (a0 1), .ref (a0 2), .ref (a0 3), .int ((sA x0 0 t2).1 0)])), (a0 1, .inl (T 0, n0, .inl ((sA x0 0 t2).2 0))), (a0 3, .inl (T 0, n0, .inl ((sA x0 0 t2).2 2)))]) (ws' := wgW T n0 a0 (sA (sA x0 0 t2) 1 t3)) (va_runSN (As := [.ref (a0 2), .int ((sA x0 0 t2).1 0), .int v2]) (rest := []) ⟨hx, hb, hml, hown, hts⟩ (c_X4_put l D T (a0 2) n0 ((sA x0 0 t2).2 1) ((sA x0 0 t2).1 0) v2 _ hn0 t3 et3) ⟨va_cnB 3 hts gX3_write_X4_put_n35 rfl rfl rfl (hK.2 (.methodLinkNest RX3 35 yX4_put "LyingScale") (List.mem_of_getElem? (i := 14) rfl)) (hts (.initialized RX4) (List.mem_of_getElem? (i := 6) rfl)) hdS_X4_put ⟨Nat.le_of_ble_eq_true rfl, Nat.le_of_ble_eq_true rfl⟩, (hts (.static yX4_put) (List.mem_of_getElem? (i := 5) rfl)), trivial⟩ ⟨PM_blind, PM_at (hP.sub (ws' := ([(a0 2, .inl (T 0, n0, .inl ((sA x0 0 t2).2 1)))] : va_W)) [2] rfl) (hD.sub (ws' := ([(a0 2, .inl (T 0, n0, .inl ((sA x0 0 t2).2 1)))] : va_W)) [2] (by decide) rfl) hK⟩ rfl rfl hl.1 rfl (lv_room (Nat.le_of_ble_eq_true rfl)) dX3_write_33 ⟨Nat.zero_le _, Nat.zero_le _⟩) hS hA hP hD [2] [0, 1, 3] rfl rfl (by decide) (by decide) [0, 1, 3, 2] (by decide) rfl (fun H locs hP hD hS => ?_)
  refine lv_aload_n hx hb dX3_write_36 rfl (lv_at hl 0 rfl) ?_
  refine va_get (D := D) (ci := 3) (v := .ref (a0 3)) (C := RX3) (T := TX3) (N := 4) hx hb hts inX3_write_3 hown hK.1 hP 0 rfl rfl 2 (by decide) (hts (.fieldLink RX3 24 "LyingScale$Weighings" "answers" "[I") (List.mem_of_getElem? (i := 4) rfl)) (fun _ h9 => h9) rfl dX3_write_37 ?_
  refine lv_aload_n hx hb dX3_write_40 rfl (lv_at hl 0 rfl) ?_
  refine va_get (D := D) (ci := 3) (v := .int ((sA (sA x0 0 t2) 1 t3).1 0)) (C := RX3) (T := TX3) (N := 4) hx hb hts inX3_write_3 hown hK.1 hP 0 rfl rfl 3 (by decide) (hts (.fieldLink RX3 31 "LyingScale$Weighings" "count" "I") (List.mem_of_getElem? (i := 1) rfl)) (fun _ h9 => h9) rfl dX3_write_41 ?_
  refine lv_iload_n hx hb dX3_write_44 rfl (lv_at hl 3 rfl) ?_
  replace h := bd h
  obtain ⟨t4, et4, h⟩ := h
  refine callMv (wr := [(a0 0, .inr (3, [.ref (a0 1), .ref (a0 2), .ref (a0 3), .int ((sA (sA x0 0 t2) 1 t3).1 0)])), (a0 1, .inl (T 0, n0, .inl ((sA (sA x0 0 t2) 1 t3).2 0))), (a0 2, .inl (T 0, n0, .inl ((sA (sA x0 0 t2) 1 t3).2 1)))]) (ws' := wgW T n0 a0 (sA (sA (sA x0 0 t2) 1 t3) 2 t4)) (va_runSN (As := [.ref (a0 3), .int ((sA (sA x0 0 t2) 1 t3).1 0), .int v3]) (rest := []) ⟨hx, hb, hml, hown, hts⟩ (c_X4_put l D T (a0 3) n0 ((sA (sA x0 0 t2) 1 t3).2 2) ((sA (sA x0 0 t2) 1 t3).1 0) v3 _ hn0 t4 et4) ⟨va_cnB 3 hts gX3_write_X4_put_n35 rfl rfl rfl (hK.2 (.methodLinkNest RX3 35 yX4_put "LyingScale") (List.mem_of_getElem? (i := 14) rfl)) (hts (.initialized RX4) (List.mem_of_getElem? (i := 6) rfl)) hdS_X4_put ⟨Nat.le_of_ble_eq_true rfl, Nat.le_of_ble_eq_true rfl⟩, (hts (.static yX4_put) (List.mem_of_getElem? (i := 5) rfl)), trivial⟩ ⟨PM_blind, PM_at (hP.sub (ws' := ([(a0 3, .inl (T 0, n0, .inl ((sA (sA x0 0 t2) 1 t3).2 2)))] : va_W)) [3] rfl) (hD.sub (ws' := ([(a0 3, .inl (T 0, n0, .inl ((sA (sA x0 0 t2) 1 t3).2 2)))] : va_W)) [3] (by decide) rfl) hK⟩ rfl rfl hl.1 rfl (lv_room (Nat.le_of_ble_eq_true rfl)) dX3_write_45 ⟨Nat.zero_le _, Nat.zero_le _⟩) hS hA hP hD [3] [0, 1, 2] rfl rfl (by decide) (by decide) [0, 1, 2, 3] (by decide) rfl (fun H locs hP hD hS => ?_)
  refine lv_aload_n hx hb dX3_write_48 rfl (lv_at hl 0 rfl) ?_
  refine lv_dup hx hb dX3_write_49 rfl ?_
  refine va_get (D := D) (ci := 3) (v := .int ((sA (sA (sA x0 0 t2) 1 t3) 2 t4).1 0)) (C := RX3) (T := TX3) (N := 4) hx hb hts inX3_write_3 hown hK.1 hP 0 rfl rfl 3 (by decide) (hts (.fieldLink RX3 31 "LyingScale$Weighings" "count" "I") (List.mem_of_getElem? (i := 1) rfl)) (fun _ h9 => h9) rfl dX3_write_50 ?_
  refine lv_iconst (v := 1) hx hb dX3_write_53 (by decide) ?_
  refine lv_iadd hx hb dX3_write_54 ?_
  refine va_put (D := D) (ci := 3) (v := .int (((sA (sA (sA x0 0 t2) 1 t3) 2 t4).1 0) + 1)) (ty := .int) (C := RX3) (T := TX3) (N := 4) hx hb hts inX3_write_3 tyX3 tyX3_ok nmX3 hown hK.1 hP hD hS 0 rfl rfl 3 (by decide) (hts (.fieldLink RX3 31 "LyingScale$Weighings" "count" "I") (List.mem_of_getElem? (i := 1) rfl)) (fun _ h9 => h9) rfl (by decide +kernel) rfl rfl (Nat.le_of_ble_eq_true rfl) dX3_write_55 (fun H locs hP hD hS => ?_)
  replace hP : va_P D vwCl (wgW T n0 a0 (sI (sA (sA (sA x0 0 t2) 1 t3) 2 t4) 0 (((sA (sA (sA x0 0 t2) 1 t3) 2 t4).1 0) + 1))) H := hP
  replace hD : va_D A (wgW T n0 a0 (sI (sA (sA (sA x0 0 t2) 1 t3) 2 t4) 0 (((sA (sA (sA x0 0 t2) 1 t3) 2 t4).1 0) + 1))) := hD
  replace h := bd h
  obtain ⟨y5, ey5, h⟩ := h
  rw [Option.some.inj ey5] at hP hD
  obtain rfl := Option.some.inj h
  exact W.vret hx hb hr (fun t ht hW => ⟨⟨(), rfl, trivial, by rw [ht]; exact hP, hD⟩, hS.F ht⟩) hS.2.2 dX3_write_58 hlocks
set_option maxHeartbeats 4000000 in
set_option maxRecDepth 100000 in
theorem c_X3_copyFrom (l : Launch) (D : va_G) (T : Nat → ClassId) (a0 : Nat → Nat) (n0 : Nat) (x0 : St) (a1 : Nat → Nat) (n1 : Nat) (x1 : St) (sz : Nat) (hn0 : n0 < 2147483648) (hn1 : n1 < 2147483648) (r : St) (h : F_X3_copyFrom n0 x0 n1 x1 = some r) : Met l yX3_copyFrom wsX3_copyFrom ({ frames := 2, cells := 0, slots := 0, locals := 44 } : Room) (va_Pc [.ref (a0 0), .ref (a1 0)] (PM D T (wgW T n0 a0 (x0) ++ wgW T n1 a1 (x1)) sz)) (QMv D (wgW T n0 a0 (r) ++ wgW T n1 a1 (x1)) (va_A (wgW T n0 a0 (x0) ++ wgW T n1 a1 (x1)) sz)) 0 0 (va_A (wgW T n0 a0 (x0) ++ wgW T n1 a1 (x1)) sz) := by
  refine met_of (cc := cX3_copyFrom) (maxL := 2) (ret := none) (lv := [(0, .ref (a0 0)), (1, .ref (a1 0))]) (by decide) rfl (Nat.le_of_ble_eq_true rfl) rfl ?_
  intro p e s m args below meth c ls C0 hl hB
  obtain ⟨hx, hb, hr, hml, hown, hts, hlocks, hname⟩ := C0
  obtain ⟨hsz, hP, hK, hD0⟩ := hB
  subst hsz
  have hD := hD0.self (sz := s.heap.size)
  generalize hAe : va_A (wgW T n0 a0 (x0) ++ wgW T n1 a1 (x1)) s.heap.size = A at hD ⊢
  have hA : ∀ q : Nat, s.heap.size ≤ q → A q := fun q h => by rw [← hAe]; exact Or.inr h
  obtain ⟨H, hH⟩ : ∃ H, H = s.heap := ⟨_, rfl⟩
  obtain ⟨locs, hlo⟩ : ∃ L : List Loc, L = [] := ⟨_, rfl⟩
  have hS : va_S A s.heap s.heap [] := va_S.rf
  rw [← hH] at hP ⊢
  rw [← hlo]
  replace hS : va_S A s.heap H locs := by rw [hH, hlo]; exact hS
  clear hH hlo
  unfold F_X3_copyFrom at h
  refine lv_aload_n hx hb dX3_copyFrom_0 rfl (lv_at hl 1 rfl) ?_
  refine va_get (D := D) (ci := 3) (v := .ref (a1 1)) (C := RX3) (T := TX3) (N := 4) hx hb hts inX3_copyFrom_3 hown hK.1 hP 4 rfl rfl 0 (by decide) (hts (.fieldLink RX3 15 "LyingScale$Weighings" "lefts" "[I") (List.mem_of_getElem? (i := 1) rfl)) (fun _ h9 => h9) rfl dX3_copyFrom_1 ?_
  refine lv_aload_n hx hb dX3_copyFrom_4 rfl (lv_at hl 0 rfl) ?_
  refine va_get (D := D) (ci := 3) (v := .ref (a0 1)) (C := RX3) (T := TX3) (N := 4) hx hb hts inX3_copyFrom_3 hown hK.1 hP 0 rfl rfl 0 (by decide) (hts (.fieldLink RX3 15 "LyingScale$Weighings" "lefts" "[I") (List.mem_of_getElem? (i := 1) rfl)) (fun _ h9 => h9) rfl dX3_copyFrom_5 ?_
  replace h := bd h
  obtain ⟨t1, et1, h⟩ := h
  refine callMv (wr := [(a0 0, .inr (3, [.ref (a0 1), .ref (a0 2), .ref (a0 3), .int (x0.1 0)])), (a0 2, .inl (T 0, n0, .inl (x0.2 1))), (a0 3, .inl (T 0, n0, .inl (x0.2 2))), (a1 0, .inr (3, [.ref (a1 1), .ref (a1 2), .ref (a1 3), .int (x1.1 0)])), (a1 2, .inl (T 0, n1, .inl (x1.2 1))), (a1 3, .inl (T 0, n1, .inl (x1.2 2)))]) (ws' := wgW T n0 a0 (sA x0 0 t1) ++ wgW T n1 a1 (x1)) (va_runSN (As := [.ref (a1 1), .ref (a0 1)]) (rest := []) ⟨hx, hb, hml, hown, hts⟩ (c_X4_copyRow l D T (a1 1) n1 (x1.2 0) (a0 1) n0 (x0.2 0) _ hn1 hn0 t1 et1) ⟨va_cnB 2 hts gX3_copyFrom_X4_copyRow_n27 rfl rfl rfl (hK.2 (.methodLinkNest RX3 27 yX4_copyRow "LyingScale") (List.mem_of_getElem? (i := 13) rfl)) (hts (.initialized RX4) (List.mem_of_getElem? (i := 6) rfl)) hdS_X4_copyRow ⟨Nat.le_of_ble_eq_true rfl, Nat.le_of_ble_eq_true rfl⟩, (hts (.static yX4_copyRow) (List.mem_of_getElem? (i := 5) rfl)), trivial⟩ ⟨PM_blind, PM_at (hP.sub (ws' := ([(a1 1, .inl (T 0, n1, .inl (x1.2 0)))] : va_W) ++ ([(a0 1, .inl (T 0, n0, .inl (x0.2 0)))] : va_W)) [5, 1] rfl) (hD.sub (ws' := ([(a1 1, .inl (T 0, n1, .inl (x1.2 0)))] : va_W) ++ ([(a0 1, .inl (T 0, n0, .inl (x0.2 0)))] : va_W)) [5, 1] (by decide) rfl) hK⟩ rfl rfl hl.1 rfl (lv_room (Nat.le_of_ble_eq_true rfl)) dX3_copyFrom_8 ⟨Nat.zero_le _, Nat.zero_le _⟩) hS hA hP hD [5, 1] [0, 2, 3, 4, 6, 7] rfl rfl (by decide) (by decide) [0, 7, 1, 2, 3, 6, 4, 5] (by decide) rfl (fun H locs hP hD hS => ?_)
  refine lv_aload_n hx hb dX3_copyFrom_11 rfl (lv_at hl 1 rfl) ?_
  refine va_get (D := D) (ci := 3) (v := .ref (a1 2)) (C := RX3) (T := TX3) (N := 4) hx hb hts inX3_copyFrom_3 hown hK.1 hP 4 rfl rfl 1 (by decide) (hts (.fieldLink RX3 21 "LyingScale$Weighings" "rights" "[I") (List.mem_of_getElem? (i := 2) rfl)) (fun _ h9 => h9) rfl dX3_copyFrom_12 ?_
  refine lv_aload_n hx hb dX3_copyFrom_15 rfl (lv_at hl 0 rfl) ?_
  refine va_get (D := D) (ci := 3) (v := .ref (a0 2)) (C := RX3) (T := TX3) (N := 4) hx hb hts inX3_copyFrom_3 hown hK.1 hP 0 rfl rfl 1 (by decide) (hts (.fieldLink RX3 21 "LyingScale$Weighings" "rights" "[I") (List.mem_of_getElem? (i := 2) rfl)) (fun _ h9 => h9) rfl dX3_copyFrom_16 ?_
  replace h := bd h
  obtain ⟨t2, et2, h⟩ := h
  refine callMv (wr := [(a0 0, .inr (3, [.ref (a0 1), .ref (a0 2), .ref (a0 3), .int ((sA x0 0 t1).1 0)])), (a0 1, .inl (T 0, n0, .inl ((sA x0 0 t1).2 0))), (a0 3, .inl (T 0, n0, .inl ((sA x0 0 t1).2 2))), (a1 0, .inr (3, [.ref (a1 1), .ref (a1 2), .ref (a1 3), .int (x1.1 0)])), (a1 1, .inl (T 0, n1, .inl (x1.2 0))), (a1 3, .inl (T 0, n1, .inl (x1.2 2)))]) (ws' := wgW T n0 a0 (sA (sA x0 0 t1) 1 t2) ++ wgW T n1 a1 (x1)) (va_runSN (As := [.ref (a1 2), .ref (a0 2)]) (rest := []) ⟨hx, hb, hml, hown, hts⟩ (c_X4_copyRow l D T (a1 2) n1 (x1.2 1) (a0 2) n0 ((sA x0 0 t1).2 1) _ hn1 hn0 t2 et2) ⟨va_cnB 2 hts gX3_copyFrom_X4_copyRow_n27 rfl rfl rfl (hK.2 (.methodLinkNest RX3 27 yX4_copyRow "LyingScale") (List.mem_of_getElem? (i := 13) rfl)) (hts (.initialized RX4) (List.mem_of_getElem? (i := 6) rfl)) hdS_X4_copyRow ⟨Nat.le_of_ble_eq_true rfl, Nat.le_of_ble_eq_true rfl⟩, (hts (.static yX4_copyRow) (List.mem_of_getElem? (i := 5) rfl)), trivial⟩ ⟨PM_blind, PM_at (hP.sub (ws' := ([(a1 2, .inl (T 0, n1, .inl (x1.2 1)))] : va_W) ++ ([(a0 2, .inl (T 0, n0, .inl ((sA x0 0 t1).2 1)))] : va_W)) [6, 2] rfl) (hD.sub (ws' := ([(a1 2, .inl (T 0, n1, .inl (x1.2 1)))] : va_W) ++ ([(a0 2, .inl (T 0, n0, .inl ((sA x0 0 t1).2 1)))] : va_W)) [6, 2] (by decide) rfl) hK⟩ rfl rfl hl.1 rfl (lv_room (Nat.le_of_ble_eq_true rfl)) dX3_copyFrom_19 ⟨Nat.zero_le _, Nat.zero_le _⟩) hS hA hP hD [6, 2] [0, 1, 3, 4, 5, 7] rfl rfl (by decide) (by decide) [0, 1, 7, 2, 3, 4, 6, 5] (by decide) rfl (fun H locs hP hD hS => ?_)
  refine lv_aload_n hx hb dX3_copyFrom_22 rfl (lv_at hl 1 rfl) ?_
  refine va_get (D := D) (ci := 3) (v := .ref (a1 3)) (C := RX3) (T := TX3) (N := 4) hx hb hts inX3_copyFrom_3 hown hK.1 hP 4 rfl rfl 2 (by decide) (hts (.fieldLink RX3 24 "LyingScale$Weighings" "answers" "[I") (List.mem_of_getElem? (i := 3) rfl)) (fun _ h9 => h9) rfl dX3_copyFrom_23 ?_
  refine lv_aload_n hx hb dX3_copyFrom_26 rfl (lv_at hl 0 rfl) ?_
  refine va_get (D := D) (ci := 3) (v := .ref (a0 3)) (C := RX3) (T := TX3) (N := 4) hx hb hts inX3_copyFrom_3 hown hK.1 hP 0 rfl rfl 2 (by decide) (hts (.fieldLink RX3 24 "LyingScale$Weighings" "answers" "[I") (List.mem_of_getElem? (i := 3) rfl)) (fun _ h9 => h9) rfl dX3_copyFrom_27 ?_
  replace h := bd h
  obtain ⟨t3, et3, h⟩ := h
  refine callMv (wr := [(a0 0, .inr (3, [.ref (a0 1), .ref (a0 2), .ref (a0 3), .int ((sA (sA x0 0 t1) 1 t2).1 0)])), (a0 1, .inl (T 0, n0, .inl ((sA (sA x0 0 t1) 1 t2).2 0))), (a0 2, .inl (T 0, n0, .inl ((sA (sA x0 0 t1) 1 t2).2 1))), (a1 0, .inr (3, [.ref (a1 1), .ref (a1 2), .ref (a1 3), .int (x1.1 0)])), (a1 1, .inl (T 0, n1, .inl (x1.2 0))), (a1 2, .inl (T 0, n1, .inl (x1.2 1)))]) (ws' := wgW T n0 a0 (sA (sA (sA x0 0 t1) 1 t2) 2 t3) ++ wgW T n1 a1 (x1)) (va_runSN (As := [.ref (a1 3), .ref (a0 3)]) (rest := []) ⟨hx, hb, hml, hown, hts⟩ (c_X4_copyRow l D T (a1 3) n1 (x1.2 2) (a0 3) n0 ((sA (sA x0 0 t1) 1 t2).2 2) _ hn1 hn0 t3 et3) ⟨va_cnB 2 hts gX3_copyFrom_X4_copyRow_n27 rfl rfl rfl (hK.2 (.methodLinkNest RX3 27 yX4_copyRow "LyingScale") (List.mem_of_getElem? (i := 13) rfl)) (hts (.initialized RX4) (List.mem_of_getElem? (i := 6) rfl)) hdS_X4_copyRow ⟨Nat.le_of_ble_eq_true rfl, Nat.le_of_ble_eq_true rfl⟩, (hts (.static yX4_copyRow) (List.mem_of_getElem? (i := 5) rfl)), trivial⟩ ⟨PM_blind, PM_at (hP.sub (ws' := ([(a1 3, .inl (T 0, n1, .inl (x1.2 2)))] : va_W) ++ ([(a0 3, .inl (T 0, n0, .inl ((sA (sA x0 0 t1) 1 t2).2 2)))] : va_W)) [7, 3] rfl) (hD.sub (ws' := ([(a1 3, .inl (T 0, n1, .inl (x1.2 2)))] : va_W) ++ ([(a0 3, .inl (T 0, n0, .inl ((sA (sA x0 0 t1) 1 t2).2 2)))] : va_W)) [7, 3] (by decide) rfl) hK⟩ rfl rfl hl.1 rfl (lv_room (Nat.le_of_ble_eq_true rfl)) dX3_copyFrom_30 ⟨Nat.zero_le _, Nat.zero_le _⟩) hS hA hP hD [7, 3] [0, 1, 2, 4, 5, 6] rfl rfl (by decide) (by decide) [0, 1, 2, 7, 3, 4, 5, 6] (by decide) rfl (fun H locs hP hD hS => ?_)
  refine lv_aload_n hx hb dX3_copyFrom_33 rfl (lv_at hl 0 rfl) ?_
  refine lv_aload_n hx hb dX3_copyFrom_34 rfl (lv_at hl 1 rfl) ?_
  refine va_get (D := D) (ci := 3) (v := .int (x1.1 0)) (C := RX3) (T := TX3) (N := 4) hx hb hts inX3_copyFrom_3 hown hK.1 hP 4 rfl rfl 3 (by decide) (hts (.fieldLink RX3 31 "LyingScale$Weighings" "count" "I") (List.mem_of_getElem? (i := 4) rfl)) (fun _ h9 => h9) rfl dX3_copyFrom_35 ?_
  refine va_put (D := D) (ci := 3) (v := .int (x1.1 0)) (ty := .int) (C := RX3) (T := TX3) (N := 4) hx hb hts inX3_copyFrom_3 tyX3 tyX3_ok nmX3 hown hK.1 hP hD hS 0 rfl rfl 3 (by decide) (hts (.fieldLink RX3 31 "LyingScale$Weighings" "count" "I") (List.mem_of_getElem? (i := 4) rfl)) (fun _ h9 => h9) rfl (by decide +kernel) rfl rfl (Nat.le_of_ble_eq_true rfl) dX3_copyFrom_38 (fun H locs hP hD hS => ?_)
  replace hP : va_P D vwCl (wgW T n0 a0 (sI (sA (sA (sA x0 0 t1) 1 t2) 2 t3) 0 (x1.1 0)) ++ wgW T n1 a1 (x1)) H := hP
  replace hD : va_D A (wgW T n0 a0 (sI (sA (sA (sA x0 0 t1) 1 t2) 2 t3) 0 (x1.1 0)) ++ wgW T n1 a1 (x1)) := hD
  replace h := bd h
  obtain ⟨y4, ey4, h⟩ := h
  rw [Option.some.inj ey4] at hP hD
  obtain rfl := Option.some.inj h
  exact W.vret hx hb hr (fun t ht hW => ⟨⟨(), rfl, trivial, by rw [ht]; exact hP, hD⟩, hS.F ht⟩) hS.2.2 dX3_copyFrom_41 hlocks
