def F_J6_bitCount_0f7a4 (v0 : Int32) : Option (Int32) :=
  (some (v0 - (((v0.toUInt32 >>> ((1 : Int32).toUInt32 &&& Int32.toUInt32 31)).toInt32) &&& 1431655765))).bind fun t1 => (some ((t1 &&& 858993459) + (((t1.toUInt32 >>> ((2 : Int32).toUInt32 &&& Int32.toUInt32 31)).toInt32) &&& 858993459))).bind fun t2 => (some ((t2 + ((t2.toUInt32 >>> ((4 : Int32).toUInt32 &&& Int32.toUInt32 31)).toInt32)) &&& 252645135)).bind fun t3 => (some (t3 + ((t3.toUInt32 >>> ((8 : Int32).toUInt32 &&& Int32.toUInt32 31)).toInt32))).bind fun t4 => (some (t4 + ((t4.toUInt32 >>> ((16 : Int32).toUInt32 &&& Int32.toUInt32 31)).toInt32))).bind fun t5 => some (t5 &&& 63)
def F_X4_isAnswer (v0 : Int32) : Option (Int32) :=
  if v0 < 0 then (some 0) else (if 3 ≤ v0 then (some 0) else (some 1))
def F_X4_isAhead (v0 : Int32) : Option (Int32) :=
  if v0 < 0 then (some 0) else (if 20 < v0 then (some 0) else (some 1))
def F_X4_mix (v0 : Int64) (v1 : Int64) : Option (Int64) :=
  some ((31 * v0) + v1)
def F_X4_at (n0 : Nat) (f0 : Nat → Int32) (v1 : Int32) : Option (Int32) :=
  if v1 < 0 then (some 0) else (if (nI n0) ≤ v1 then (some 0) else (some (f0 v1.toNatClampNeg)))
def F_X4_put (n0 : Nat) (f0 : Nat → Int32) (v1 : Int32) (v2 : Int32) : Option ((Nat → Int32)) :=
  if v1 < 0 then (some f0) else (if (nI n0) ≤ v1 then (some f0) else (some (upd f0 v1.toNatClampNeg v2)))
def F_X4_coinBit (v0 : Int32) : Option (Int32) :=
  if 0 < v0 then (some (1 <<< (((v0 - 1) / 2) &&& 31))) else (some 0)
def F_X4_trueAnswer (v0 : Int32) (v1 : Int32) (v2 : Int32) : Option (Int32) :=
  (F_X4_coinBit v0).bind fun t1 => if (v0 &&& 1) = 1 then (if (v1 &&& t1) = 0 then (if (v2 &&& t1) = 0 then (some 2) else (some 1)) else (some 0)) else (if (v1 &&& t1) = 0 then (if (v2 &&& t1) = 0 then (some 2) else (some 0)) else (some 1))
def B_X4_volume_15 (v0 : Int32) (v1 : Int32) (k15 : Int64 → Int64 → Int32 → Option (Int64)) (i2_15 : Int64) (i4_15 : Int64) (i7_15 : Int32) : Option (Int64) :=
  if (if v1 < v0 then v1 else v0) < i7_15 then (some i4_15) else (if i7_15.toInt64 = 0 then none else (some ((i2_15 * (((v0 - i7_15) + 1).toInt64)) / i7_15.toInt64)).bind fun t3 => k15 t3 (i4_15 + (t3 <<< (i7_15.toInt64 &&& 63))) (i7_15 + 1))
def F_X4_volume (v0 : Int32) (v1 : Int32) : Option (Int64) :=
  fx3 (B_X4_volume_15 v0 v1) 1000 1 1 1
def F_X4_differences (v0 : Int32) (v1 : Int32) : Option (Int32) :=
  (F_J6_bitCount_0f7a4 (((v0 ^^^ v1) ||| ((v0 ^^^ v1) >>> (1 &&& 31))) &&& 21845)).bind fun t1 => some t1
def B_X4_wordOf_6 (k6 : Int32 → Int32 → Int32 → Option (Int32)) (i1_6 : Int32) (i2_6 : Int32) (i3_6 : Int32) : Option (Int32) :=
  if 8 ≤ i3_6 then (some i1_6) else ((some (i1_6 ||| ((i2_6 - i2_6 / 3 * 3) <<< ((2 * i3_6) &&& 31)))).bind fun t2 => k6 t2 (i2_6 / 3) (i3_6 + 1))
def F_X4_wordOf (v0 : Int32) : Option (Int32) :=
  fx3 (B_X4_wordOf_6) 1000 0 v0 0
def F_X4_copyRow (n0 : Nat) (f0 : Nat → Int32) (n1 : Nat) (f1 : Nat → Int32) : Option ((Nat → Int32)) :=
  if ¬ n0 = n1 then none else some (va_cpy f0 f1 0 0 n0)
theorem hdS_J6_bitCount_0f7a4 : yJ6_bitCount_0f7a4.cls ≠ "java/lang/invoke/MethodHandle" ∧ yJ6_bitCount_0f7a4.cls ≠ "java/lang/invoke/VarHandle" ∧ (parseMethodDescriptor yJ6_bitCount_0f7a4.desc).map (fun d => d.parameters.length) = some 1 := by decide +kernel
theorem hdV_J6_bitCount_0f7a4 : yJ6_bitCount_0f7a4.cls = RJ6 ∧ yJ6_bitCount_0f7a4.cls ≠ "java/lang/invoke/MethodHandle" ∧ yJ6_bitCount_0f7a4.cls ≠ "java/lang/invoke/VarHandle" ∧ (parseMethodDescriptor yJ6_bitCount_0f7a4.desc).map (fun d => d.parameters.length) = some 1 := by decide +kernel
theorem hdS_X4_isAnswer : yX4_isAnswer.cls ≠ "java/lang/invoke/MethodHandle" ∧ yX4_isAnswer.cls ≠ "java/lang/invoke/VarHandle" ∧ (parseMethodDescriptor yX4_isAnswer.desc).map (fun d => d.parameters.length) = some 1 := by decide +kernel
theorem hdV_X4_isAnswer : yX4_isAnswer.cls = RX4 ∧ yX4_isAnswer.cls ≠ "java/lang/invoke/MethodHandle" ∧ yX4_isAnswer.cls ≠ "java/lang/invoke/VarHandle" ∧ (parseMethodDescriptor yX4_isAnswer.desc).map (fun d => d.parameters.length) = some 1 := by decide +kernel
theorem hdS_X4_isAhead : yX4_isAhead.cls ≠ "java/lang/invoke/MethodHandle" ∧ yX4_isAhead.cls ≠ "java/lang/invoke/VarHandle" ∧ (parseMethodDescriptor yX4_isAhead.desc).map (fun d => d.parameters.length) = some 1 := by decide +kernel
theorem hdV_X4_isAhead : yX4_isAhead.cls = RX4 ∧ yX4_isAhead.cls ≠ "java/lang/invoke/MethodHandle" ∧ yX4_isAhead.cls ≠ "java/lang/invoke/VarHandle" ∧ (parseMethodDescriptor yX4_isAhead.desc).map (fun d => d.parameters.length) = some 1 := by decide +kernel
theorem hdS_X4_mix : yX4_mix.cls ≠ "java/lang/invoke/MethodHandle" ∧ yX4_mix.cls ≠ "java/lang/invoke/VarHandle" ∧ (parseMethodDescriptor yX4_mix.desc).map (fun d => d.parameters.length) = some 2 := by decide +kernel
theorem hdV_X4_mix : yX4_mix.cls = RX4 ∧ yX4_mix.cls ≠ "java/lang/invoke/MethodHandle" ∧ yX4_mix.cls ≠ "java/lang/invoke/VarHandle" ∧ (parseMethodDescriptor yX4_mix.desc).map (fun d => d.parameters.length) = some 2 := by decide +kernel
theorem hdS_X4_at : yX4_at.cls ≠ "java/lang/invoke/MethodHandle" ∧ yX4_at.cls ≠ "java/lang/invoke/VarHandle" ∧ (parseMethodDescriptor yX4_at.desc).map (fun d => d.parameters.length) = some 2 := by decide +kernel
theorem hdV_X4_at : yX4_at.cls = RX4 ∧ yX4_at.cls ≠ "java/lang/invoke/MethodHandle" ∧ yX4_at.cls ≠ "java/lang/invoke/VarHandle" ∧ (parseMethodDescriptor yX4_at.desc).map (fun d => d.parameters.length) = some 2 := by decide +kernel
theorem hdS_X4_put : yX4_put.cls ≠ "java/lang/invoke/MethodHandle" ∧ yX4_put.cls ≠ "java/lang/invoke/VarHandle" ∧ (parseMethodDescriptor yX4_put.desc).map (fun d => d.parameters.length) = some 3 := by decide +kernel
theorem hdV_X4_put : yX4_put.cls = RX4 ∧ yX4_put.cls ≠ "java/lang/invoke/MethodHandle" ∧ yX4_put.cls ≠ "java/lang/invoke/VarHandle" ∧ (parseMethodDescriptor yX4_put.desc).map (fun d => d.parameters.length) = some 3 := by decide +kernel
theorem hdS_X4_coinBit : yX4_coinBit.cls ≠ "java/lang/invoke/MethodHandle" ∧ yX4_coinBit.cls ≠ "java/lang/invoke/VarHandle" ∧ (parseMethodDescriptor yX4_coinBit.desc).map (fun d => d.parameters.length) = some 1 := by decide +kernel
theorem hdV_X4_coinBit : yX4_coinBit.cls = RX4 ∧ yX4_coinBit.cls ≠ "java/lang/invoke/MethodHandle" ∧ yX4_coinBit.cls ≠ "java/lang/invoke/VarHandle" ∧ (parseMethodDescriptor yX4_coinBit.desc).map (fun d => d.parameters.length) = some 1 := by decide +kernel
theorem hdS_X4_trueAnswer : yX4_trueAnswer.cls ≠ "java/lang/invoke/MethodHandle" ∧ yX4_trueAnswer.cls ≠ "java/lang/invoke/VarHandle" ∧ (parseMethodDescriptor yX4_trueAnswer.desc).map (fun d => d.parameters.length) = some 3 := by decide +kernel
theorem hdV_X4_trueAnswer : yX4_trueAnswer.cls = RX4 ∧ yX4_trueAnswer.cls ≠ "java/lang/invoke/MethodHandle" ∧ yX4_trueAnswer.cls ≠ "java/lang/invoke/VarHandle" ∧ (parseMethodDescriptor yX4_trueAnswer.desc).map (fun d => d.parameters.length) = some 3 := by decide +kernel
theorem hdS_X4_volume : yX4_volume.cls ≠ "java/lang/invoke/MethodHandle" ∧ yX4_volume.cls ≠ "java/lang/invoke/VarHandle" ∧ (parseMethodDescriptor yX4_volume.desc).map (fun d => d.parameters.length) = some 2 := by decide +kernel
theorem hdV_X4_volume : yX4_volume.cls = RX4 ∧ yX4_volume.cls ≠ "java/lang/invoke/MethodHandle" ∧ yX4_volume.cls ≠ "java/lang/invoke/VarHandle" ∧ (parseMethodDescriptor yX4_volume.desc).map (fun d => d.parameters.length) = some 2 := by decide +kernel
theorem hdS_X4_differences : yX4_differences.cls ≠ "java/lang/invoke/MethodHandle" ∧ yX4_differences.cls ≠ "java/lang/invoke/VarHandle" ∧ (parseMethodDescriptor yX4_differences.desc).map (fun d => d.parameters.length) = some 2 := by decide +kernel
theorem hdV_X4_differences : yX4_differences.cls = RX4 ∧ yX4_differences.cls ≠ "java/lang/invoke/MethodHandle" ∧ yX4_differences.cls ≠ "java/lang/invoke/VarHandle" ∧ (parseMethodDescriptor yX4_differences.desc).map (fun d => d.parameters.length) = some 2 := by decide +kernel
theorem hdS_X4_wordOf : yX4_wordOf.cls ≠ "java/lang/invoke/MethodHandle" ∧ yX4_wordOf.cls ≠ "java/lang/invoke/VarHandle" ∧ (parseMethodDescriptor yX4_wordOf.desc).map (fun d => d.parameters.length) = some 1 := by decide +kernel
theorem hdV_X4_wordOf : yX4_wordOf.cls = RX4 ∧ yX4_wordOf.cls ≠ "java/lang/invoke/MethodHandle" ∧ yX4_wordOf.cls ≠ "java/lang/invoke/VarHandle" ∧ (parseMethodDescriptor yX4_wordOf.desc).map (fun d => d.parameters.length) = some 1 := by decide +kernel
theorem hdS_X4_copyRow : yX4_copyRow.cls ≠ "java/lang/invoke/MethodHandle" ∧ yX4_copyRow.cls ≠ "java/lang/invoke/VarHandle" ∧ (parseMethodDescriptor yX4_copyRow.desc).map (fun d => d.parameters.length) = some 2 := by decide +kernel
theorem hdV_X4_copyRow : yX4_copyRow.cls = RX4 ∧ yX4_copyRow.cls ≠ "java/lang/invoke/MethodHandle" ∧ yX4_copyRow.cls ≠ "java/lang/invoke/VarHandle" ∧ (parseMethodDescriptor yX4_copyRow.desc).map (fun d => d.parameters.length) = some 2 := by decide +kernel
set_option maxHeartbeats 4000000 in
set_option maxRecDepth 100000 in
theorem c_J6_bitCount_0f7a4 (l : Launch) (D : va_G) (T : Nat → ClassId) (v0 : Int32) (r : Int32) (h : F_J6_bitCount_0f7a4 v0 = some r) : Met l yJ6_bitCount_0f7a4 wsJ6_bitCount_0f7a4 ({ frames := 0, cells := 0, slots := 0, locals := 0 } : Room) (va_Pc [.int v0] (PB D T (([] : va_W)))) (QRi r) 0 0 (fun _ => False) := by
  refine met_of (cc := cJ6_bitCount_0f7a4) (maxL := 1) (ret := (some .int)) (lv := [(0, .int v0)]) (by decide) rfl (Nat.le_of_ble_eq_true rfl) rfl ?_
  intro p e s m args below meth c ls C0 hl hB
  obtain ⟨hx, hb, hr, hml, hown, hts, hlocks, hname⟩ := C0
  obtain ⟨hP, hK⟩ := hB
  unfold F_J6_bitCount_0f7a4 at h
  refine lv_iload_n hx hb dJ6_bitCount_0f7a4_0 rfl (lv_at hl 0 rfl) ?_
  refine lv_iload_n hx hb dJ6_bitCount_0f7a4_1 rfl (lv_at hl 0 rfl) ?_
  refine lv_iconst (v := 1) hx hb dJ6_bitCount_0f7a4_2 (by decide) ?_
  refine lv_iushr (v := (v0.toUInt32 >>> ((1 : Int32).toUInt32 &&& Int32.toUInt32 31)).toInt32) hx hb dJ6_bitCount_0f7a4_3 rfl ?_
  refine lv_ldcw hx hb hown (hts (.constant RJ6 265 (1431655765)) (List.mem_of_getElem? (i := 1) rfl)) dJ6_bitCount_0f7a4_4 ?_
  refine lv_iand hx hb dJ6_bitCount_0f7a4_7 ?_
  refine lv_isub hx hb dJ6_bitCount_0f7a4_8 ?_
  replace h := bd h
  obtain ⟨t1, et1, h⟩ := h
  refine eqi (Option.some.inj et1) ?_
  refine lv_istore_n (lv' := [(0, .int t1)]) hx hb dJ6_bitCount_0f7a4_9 rfl hl (by decide) rfl (fun ls hl => ?_)
  refine lv_iload_n hx hb dJ6_bitCount_0f7a4_10 rfl (lv_at hl 0 rfl) ?_
  refine lv_ldcw hx hb hown (hts (.constant RJ6 266 (858993459)) (List.mem_of_getElem? (i := 2) rfl)) dJ6_bitCount_0f7a4_11 ?_
  refine lv_iand hx hb dJ6_bitCount_0f7a4_14 ?_
  refine lv_iload_n hx hb dJ6_bitCount_0f7a4_15 rfl (lv_at hl 0 rfl) ?_
  refine lv_iconst (v := 2) hx hb dJ6_bitCount_0f7a4_16 (by decide) ?_
  refine lv_iushr (v := (t1.toUInt32 >>> ((2 : Int32).toUInt32 &&& Int32.toUInt32 31)).toInt32) hx hb dJ6_bitCount_0f7a4_17 rfl ?_
  refine lv_ldcw hx hb hown (hts (.constant RJ6 266 (858993459)) (List.mem_of_getElem? (i := 2) rfl)) dJ6_bitCount_0f7a4_18 ?_
  refine lv_iand hx hb dJ6_bitCount_0f7a4_21 ?_
  refine lv_iadd hx hb dJ6_bitCount_0f7a4_22 ?_
  replace h := bd h
  obtain ⟨t2, et2, h⟩ := h
  refine eqi (Option.some.inj et2) ?_
  refine lv_istore_n (lv' := [(0, .int t2)]) hx hb dJ6_bitCount_0f7a4_23 rfl hl (by decide) rfl (fun ls hl => ?_)
  refine lv_iload_n hx hb dJ6_bitCount_0f7a4_24 rfl (lv_at hl 0 rfl) ?_
  refine lv_iload_n hx hb dJ6_bitCount_0f7a4_25 rfl (lv_at hl 0 rfl) ?_
  refine lv_iconst (v := 4) hx hb dJ6_bitCount_0f7a4_26 (by decide) ?_
  refine lv_iushr (v := (t2.toUInt32 >>> ((4 : Int32).toUInt32 &&& Int32.toUInt32 31)).toInt32) hx hb dJ6_bitCount_0f7a4_27 rfl ?_
  refine lv_iadd hx hb dJ6_bitCount_0f7a4_28 ?_
  refine lv_ldcw hx hb hown (hts (.constant RJ6 267 (252645135)) (List.mem_of_getElem? (i := 3) rfl)) dJ6_bitCount_0f7a4_29 ?_
  refine lv_iand hx hb dJ6_bitCount_0f7a4_32 ?_
  replace h := bd h
  obtain ⟨t3, et3, h⟩ := h
  refine eqi (Option.some.inj et3) ?_
  refine lv_istore_n (lv' := [(0, .int t3)]) hx hb dJ6_bitCount_0f7a4_33 rfl hl (by decide) rfl (fun ls hl => ?_)
  refine lv_iload_n hx hb dJ6_bitCount_0f7a4_34 rfl (lv_at hl 0 rfl) ?_
  refine lv_iload_n hx hb dJ6_bitCount_0f7a4_35 rfl (lv_at hl 0 rfl) ?_
  refine lv_bipush (v := 8) hx hb dJ6_bitCount_0f7a4_36 (by decide) ?_
  refine lv_iushr (v := (t3.toUInt32 >>> ((8 : Int32).toUInt32 &&& Int32.toUInt32 31)).toInt32) hx hb dJ6_bitCount_0f7a4_38 rfl ?_
  refine lv_iadd hx hb dJ6_bitCount_0f7a4_39 ?_
  replace h := bd h
  obtain ⟨t4, et4, h⟩ := h
  refine eqi (Option.some.inj et4) ?_
  refine lv_istore_n (lv' := [(0, .int t4)]) hx hb dJ6_bitCount_0f7a4_40 rfl hl (by decide) rfl (fun ls hl => ?_)
  refine lv_iload_n hx hb dJ6_bitCount_0f7a4_41 rfl (lv_at hl 0 rfl) ?_
  refine lv_iload_n hx hb dJ6_bitCount_0f7a4_42 rfl (lv_at hl 0 rfl) ?_
  refine lv_bipush (v := 16) hx hb dJ6_bitCount_0f7a4_43 (by decide) ?_
  refine lv_iushr (v := (t4.toUInt32 >>> ((16 : Int32).toUInt32 &&& Int32.toUInt32 31)).toInt32) hx hb dJ6_bitCount_0f7a4_45 rfl ?_
  refine lv_iadd hx hb dJ6_bitCount_0f7a4_46 ?_
  replace h := bd h
  obtain ⟨t5, et5, h⟩ := h
  refine eqi (Option.some.inj et5) ?_
  refine lv_istore_n (lv' := [(0, .int t5)]) hx hb dJ6_bitCount_0f7a4_47 rfl hl (by decide) rfl (fun ls hl => ?_)
  refine lv_iload_n hx hb dJ6_bitCount_0f7a4_48 rfl (lv_at hl 0 rfl) ?_
  refine lv_bipush (v := 63) hx hb dJ6_bitCount_0f7a4_49 (by decide) ?_
  refine lv_iand hx hb dJ6_bitCount_0f7a4_51 ?_
  exact W.iret hx hb hr (fun t ht hW => ⟨_, rfl, Option.some.inj h, ht⟩) (fun q hq => absurd hq List.not_mem_nil) dJ6_bitCount_0f7a4_52 hlocks
set_option maxHeartbeats 4000000 in
set_option maxRecDepth 100000 in
theorem c_X4_isAnswer (l : Launch) (D : va_G) (T : Nat → ClassId) (v0 : Int32) (r : Int32) (h : F_X4_isAnswer v0 = some r) : Met l yX4_isAnswer wsX4_isAnswer ({ frames := 0, cells := 0, slots := 0, locals := 0 } : Room) (va_Pc [.int v0] (PB D T (([] : va_W)))) (QRi r) 0 0 (fun _ => False) := by
  refine met_of (cc := cX4_isAnswer) (maxL := 1) (ret := (some .boolean)) (lv := [(0, .int v0)]) (by decide) rfl (Nat.le_of_ble_eq_true rfl) rfl ?_
  intro p e s m args below meth c ls C0 hl hB
  obtain ⟨hx, hb, hr, hml, hown, hts, hlocks, hname⟩ := C0
  obtain ⟨hP, hK⟩ := hB
  unfold F_X4_isAnswer at h
  refine lv_iload_n hx hb dX4_isAnswer_0 rfl (lv_at hl 0 rfl) ?_
  refine lv_if_lt (tgt := 13) hx hb dX4_isAnswer_1 (by decide) (fun c1 => ?_) (fun c1 => ?_)
  · replace h := ip c1 h
    refine lv_iconst (v := 0) hx hb dX4_isAnswer_13 (by decide) ?_
    exact W.zret hx hb hr rfl (fun t ht hW => ⟨_, rfl, Option.some.inj h, ht⟩) (fun q hq => absurd hq List.not_mem_nil) dX4_isAnswer_14 hlocks
  replace h := im c1 h
  refine lv_iload_n hx hb dX4_isAnswer_4 rfl (lv_at hl 0 rfl) ?_
  refine lv_iconst (v := 3) hx hb dX4_isAnswer_5 (by decide) ?_
  refine lv_icmp_ge (tgt := 13) hx hb dX4_isAnswer_6 (by decide) (fun c2 => ?_) (fun c2 => ?_)
  · replace h := ip c2 h
    refine lv_iconst (v := 0) hx hb dX4_isAnswer_13 (by decide) ?_
    exact W.zret hx hb hr rfl (fun t ht hW => ⟨_, rfl, Option.some.inj h, ht⟩) (fun q hq => absurd hq List.not_mem_nil) dX4_isAnswer_14 hlocks
  replace h := im c2 h
  refine lv_iconst (v := 1) hx hb dX4_isAnswer_9 (by decide) ?_
  refine lv_goto (tgt := 14) hx hb dX4_isAnswer_10 (by decide) ?_
  exact W.zret hx hb hr rfl (fun t ht hW => ⟨_, rfl, Option.some.inj h, ht⟩) (fun q hq => absurd hq List.not_mem_nil) dX4_isAnswer_14 hlocks
set_option maxHeartbeats 4000000 in
set_option maxRecDepth 100000 in
theorem c_X4_isAhead (l : Launch) (D : va_G) (T : Nat → ClassId) (v0 : Int32) (r : Int32) (h : F_X4_isAhead v0 = some r) : Met l yX4_isAhead wsX4_isAhead ({ frames := 0, cells := 0, slots := 0, locals := 0 } : Room) (va_Pc [.int v0] (PB D T (([] : va_W)))) (QRi r) 0 0 (fun _ => False) := by
  refine met_of (cc := cX4_isAhead) (maxL := 1) (ret := (some .boolean)) (lv := [(0, .int v0)]) (by decide) rfl (Nat.le_of_ble_eq_true rfl) rfl ?_
  intro p e s m args below meth c ls C0 hl hB
  obtain ⟨hx, hb, hr, hml, hown, hts, hlocks, hname⟩ := C0
  obtain ⟨hP, hK⟩ := hB
  unfold F_X4_isAhead at h
  refine lv_iload_n hx hb dX4_isAhead_0 rfl (lv_at hl 0 rfl) ?_
  refine lv_if_lt (tgt := 14) hx hb dX4_isAhead_1 (by decide) (fun c1 => ?_) (fun c1 => ?_)
  · replace h := ip c1 h
    refine lv_iconst (v := 0) hx hb dX4_isAhead_14 (by decide) ?_
    exact W.zret hx hb hr rfl (fun t ht hW => ⟨_, rfl, Option.some.inj h, ht⟩) (fun q hq => absurd hq List.not_mem_nil) dX4_isAhead_15 hlocks
  replace h := im c1 h
  refine lv_iload_n hx hb dX4_isAhead_4 rfl (lv_at hl 0 rfl) ?_
  refine lv_bipush (v := 20) hx hb dX4_isAhead_5 (by decide) ?_
  refine lv_icmp_gt (tgt := 14) hx hb dX4_isAhead_7 (by decide) (fun c2 => ?_) (fun c2 => ?_)
  · replace h := ip c2 h
    refine lv_iconst (v := 0) hx hb dX4_isAhead_14 (by decide) ?_
    exact W.zret hx hb hr rfl (fun t ht hW => ⟨_, rfl, Option.some.inj h, ht⟩) (fun q hq => absurd hq List.not_mem_nil) dX4_isAhead_15 hlocks
  replace h := im c2 h
  refine lv_iconst (v := 1) hx hb dX4_isAhead_10 (by decide) ?_
  refine lv_goto (tgt := 15) hx hb dX4_isAhead_11 (by decide) ?_
  exact W.zret hx hb hr rfl (fun t ht hW => ⟨_, rfl, Option.some.inj h, ht⟩) (fun q hq => absurd hq List.not_mem_nil) dX4_isAhead_15 hlocks
set_option maxHeartbeats 4000000 in
set_option maxRecDepth 100000 in
theorem c_X4_mix (l : Launch) (D : va_G) (T : Nat → ClassId) (v0 : Int64) (v1 : Int64) (r : Int64) (h : F_X4_mix v0 v1 = some r) : Met l yX4_mix wsX4_mix ({ frames := 0, cells := 0, slots := 0, locals := 0 } : Room) (va_Pc [.long v0, .long v1] (PB D T (([] : va_W)))) (QRl r) 0 0 (fun _ => False) := by
  refine met_of (cc := cX4_mix) (maxL := 4) (ret := (some .long)) (lv := [(0, .long v0), (2, .long v1)]) (by decide) rfl (Nat.le_of_ble_eq_true rfl) rfl ?_
  intro p e s m args below meth c ls C0 hl hB
  obtain ⟨hx, hb, hr, hml, hown, hts, hlocks, hname⟩ := C0
  obtain ⟨hP, hK⟩ := hB
  unfold F_X4_mix at h
  refine lv_ldc2 hx hb hown (hts (.constantLong RX4 251 (31)) (List.mem_of_getElem? (i := 1) rfl)) dX4_mix_0 ?_
  refine lv_lload_n hx hb dX4_mix_3 rfl (lv_at hl 0 rfl) ?_
  refine lv_lmul hx hb dX4_mix_4 ?_
  refine lv_lload_n hx hb dX4_mix_5 rfl (lv_at hl 1 rfl) ?_
  refine lv_ladd hx hb dX4_mix_6 ?_
  exact W.lret hx hb hr (fun t ht hW => ⟨_, rfl, Option.some.inj h, ht⟩) (fun q hq => absurd hq List.not_mem_nil) dX4_mix_7 hlocks
set_option maxHeartbeats 4000000 in
set_option maxRecDepth 100000 in
theorem c_X4_at (l : Launch) (D : va_G) (T : Nat → ClassId) (h0 : Nat) (n0 : Nat) (f0 : Nat → Int32) (v1 : Int32) (hn0 : n0 < 2147483648) (r : Int32) (h : F_X4_at n0 f0 v1 = some r) : Met l yX4_at wsX4_at ({ frames := 0, cells := 0, slots := 0, locals := 0 } : Room) (va_Pc [.ref h0, .int v1] (PB D T (([(h0, .inl (T 0, n0, .inl (f0)))] : va_W)))) (QRi r) 0 0 (fun _ => False) := by
  refine met_of (cc := cX4_at) (maxL := 2) (ret := (some .int)) (lv := [(0, .ref h0), (1, .int v1)]) (by decide) rfl (Nat.le_of_ble_eq_true rfl) rfl ?_
  intro p e s m args below meth c ls C0 hl hB
  obtain ⟨hx, hb, hr, hml, hown, hts, hlocks, hname⟩ := C0
  obtain ⟨hP, hK⟩ := hB
  unfold F_X4_at at h
  refine lv_iload_n hx hb dX4_at_0 rfl (lv_at hl 1 rfl) ?_
  refine lv_if_lt (tgt := 16) hx hb dX4_at_1 (by decide) (fun c1 => ?_) (fun c1 => ?_)
  · replace h := ip c1 h
    refine lv_iconst (v := 0) hx hb dX4_at_16 (by decide) ?_
    exact W.iret hx hb hr (fun t ht hW => ⟨_, rfl, Option.some.inj h, ht⟩) (fun q hq => absurd hq List.not_mem_nil) dX4_at_17 hlocks
  replace h := im c1 h
  refine lv_iload_n hx hb dX4_at_4 rfl (lv_at hl 1 rfl) ?_
  refine lv_aload_n hx hb dX4_at_5 rfl (lv_at hl 0 rfl) ?_
  refine va_alen hx hb hK.1 hP 0 0 rfl rfl (v := nI n0) rfl dX4_at_6 ?_
  refine lv_icmp_ge (tgt := 16) hx hb dX4_at_7 (by decide) (fun c2 => ?_) (fun c2 => ?_)
  · replace h := ip c2 h
    refine lv_iconst (v := 0) hx hb dX4_at_16 (by decide) ?_
    exact W.iret hx hb hr (fun t ht hW => ⟨_, rfl, Option.some.inj h, ht⟩) (fun q hq => absurd hq List.not_mem_nil) dX4_at_17 hlocks
  replace h := im c2 h
  refine lv_aload_n hx hb dX4_at_10 rfl (lv_at hl 0 rfl) ?_
  refine lv_iload_n hx hb dX4_at_11 rfl (lv_at hl 1 rfl) ?_
  refine va_iald hx hb hK.1 hP 0 0 rfl rfl (vin hn0 c1 c2) dX4_at_12 ?_
  refine lv_goto (tgt := 17) hx hb dX4_at_13 (by decide) ?_
  exact W.iret hx hb hr (fun t ht hW => ⟨_, rfl, Option.some.inj h, ht⟩) (fun q hq => absurd hq List.not_mem_nil) dX4_at_17 hlocks
set_option maxHeartbeats 4000000 in
set_option maxRecDepth 100000 in
theorem c_X4_put (l : Launch) (D : va_G) (T : Nat → ClassId) (h0 : Nat) (n0 : Nat) (f0 : Nat → Int32) (v1 : Int32) (v2 : Int32) (sz : Nat) (hn0 : n0 < 2147483648) (r : (Nat → Int32)) (h : F_X4_put n0 f0 v1 v2 = some r) : Met l yX4_put wsX4_put ({ frames := 0, cells := 0, slots := 0, locals := 0 } : Room) (va_Pc [.ref h0, .int v1, .int v2] (PM D T (([(h0, .inl (T 0, n0, .inl (f0)))] : va_W)) sz)) (QMv D (([(h0, .inl (T 0, n0, .inl (r)))] : va_W)) (va_A (([(h0, .inl (T 0, n0, .inl (f0)))] : va_W)) sz)) 0 0 (va_A (([(h0, .inl (T 0, n0, .inl (f0)))] : va_W)) sz) := by
  refine met_of (cc := cX4_put) (maxL := 3) (ret := none) (lv := [(0, .ref h0), (1, .int v1), (2, .int v2)]) (by decide) rfl (Nat.le_of_ble_eq_true rfl) rfl ?_
  intro p e s m args below meth c ls C0 hl hB
  obtain ⟨hx, hb, hr, hml, hown, hts, hlocks, hname⟩ := C0
  obtain ⟨hsz, hP, hK, hD0⟩ := hB
  subst hsz
  have hD := hD0.self (sz := s.heap.size)
  generalize hAe : va_A (([(h0, .inl (T 0, n0, .inl (f0)))] : va_W)) s.heap.size = A at hD ⊢
  have hA : ∀ q : Nat, s.heap.size ≤ q → A q := fun q h => by rw [← hAe]; exact Or.inr h
  obtain ⟨H, hH⟩ : ∃ H, H = s.heap := ⟨_, rfl⟩
  obtain ⟨locs, hlo⟩ : ∃ L : List Loc, L = [] := ⟨_, rfl⟩
  have hS : va_S A s.heap s.heap [] := va_S.rf
  rw [← hH] at hP ⊢
  rw [← hlo]
  replace hS : va_S A s.heap H locs := by rw [hH, hlo]; exact hS
  clear hH hlo
  unfold F_X4_put at h
  refine lv_iload_n hx hb dX4_put_0 rfl (lv_at hl 1 rfl) ?_
  refine lv_if_lt (tgt := 14) hx hb dX4_put_1 (by decide) (fun c1 => ?_) (fun c1 => ?_)
  · replace h := ip c1 h
    obtain rfl := Option.some.inj h
    exact W.vret hx hb hr (fun t ht hW => ⟨⟨(), rfl, trivial, by rw [ht]; exact hP, hD⟩, hS.F ht⟩) hS.2.2 dX4_put_14 hlocks
  replace h := im c1 h
  refine lv_iload_n hx hb dX4_put_4 rfl (lv_at hl 1 rfl) ?_
  refine lv_aload_n hx hb dX4_put_5 rfl (lv_at hl 0 rfl) ?_
  refine va_alen hx hb hK.1 hP 0 0 rfl rfl (v := nI n0) rfl dX4_put_6 ?_
  refine lv_icmp_ge (tgt := 14) hx hb dX4_put_7 (by decide) (fun c2 => ?_) (fun c2 => ?_)
  · replace h := ip c2 h
    obtain rfl := Option.some.inj h
    exact W.vret hx hb hr (fun t ht hW => ⟨⟨(), rfl, trivial, by rw [ht]; exact hP, hD⟩, hS.F ht⟩) hS.2.2 dX4_put_14 hlocks
  replace h := im c2 h
  refine lv_aload_n hx hb dX4_put_10 rfl (lv_at hl 0 rfl) ?_
  refine lv_iload_n hx hb dX4_put_11 rfl (lv_at hl 1 rfl) ?_
  refine lv_iload_n hx hb dX4_put_12 rfl (lv_at hl 2 rfl) ?_
  refine va_iast hx hb hK.1 hP hD hS 0 0 rfl rfl (vin hn0 c1 c2) dX4_put_13 (fun H locs hP hD hS => ?_)
  replace hP : va_P D vwCl (([(h0, .inl (T 0, n0, .inl (upd f0 v1.toNatClampNeg v2)))] : va_W)) H := hP
  replace hD : va_D A (([(h0, .inl (T 0, n0, .inl (upd f0 v1.toNatClampNeg v2)))] : va_W)) := hD
  obtain rfl := Option.some.inj h
  exact W.vret hx hb hr (fun t ht hW => ⟨⟨(), rfl, trivial, by rw [ht]; exact hP, hD⟩, hS.F ht⟩) hS.2.2 dX4_put_14 hlocks
set_option maxHeartbeats 4000000 in
set_option maxRecDepth 100000 in
theorem c_X4_coinBit (l : Launch) (D : va_G) (T : Nat → ClassId) (v0 : Int32) (r : Int32) (h : F_X4_coinBit v0 = some r) : Met l yX4_coinBit wsX4_coinBit ({ frames := 0, cells := 0, slots := 0, locals := 0 } : Room) (va_Pc [.int v0] (PB D T (([] : va_W)))) (QRi r) 0 0 (fun _ => False) := by
  refine met_of (cc := cX4_coinBit) (maxL := 1) (ret := (some .int)) (lv := [(0, .int v0)]) (by decide) rfl (Nat.le_of_ble_eq_true rfl) rfl ?_
  intro p e s m args below meth c ls C0 hl hB
  obtain ⟨hx, hb, hr, hml, hown, hts, hlocks, hname⟩ := C0
  obtain ⟨hP, hK⟩ := hB
  unfold F_X4_coinBit at h
  refine lv_iload_n hx hb dX4_coinBit_0 rfl (lv_at hl 0 rfl) ?_
  refine lv_if_gt (tgt := 8) hx hb dX4_coinBit_1 (by decide) (fun c1 => ?_) (fun c1 => ?_)
  · replace h := ip c1 h
    refine lv_iconst (v := 1) hx hb dX4_coinBit_8 (by decide) ?_
    refine lv_iload_n hx hb dX4_coinBit_9 rfl (lv_at hl 0 rfl) ?_
    refine lv_iconst (v := 1) hx hb dX4_coinBit_10 (by decide) ?_
    refine lv_isub hx hb dX4_coinBit_11 ?_
    refine lv_iconst (v := 2) hx hb dX4_coinBit_12 (by decide) ?_
    refine lv_idiv hx hb dX4_coinBit_13 (by decide) ?_
    refine lv_ishl hx hb dX4_coinBit_14 ?_
    exact W.iret hx hb hr (fun t ht hW => ⟨_, rfl, Option.some.inj h, ht⟩) (fun q hq => absurd hq List.not_mem_nil) dX4_coinBit_15 hlocks
  replace h := im c1 h
  refine lv_iconst (v := 0) hx hb dX4_coinBit_4 (by decide) ?_
  refine lv_goto (tgt := 15) hx hb dX4_coinBit_5 (by decide) ?_
  exact W.iret hx hb hr (fun t ht hW => ⟨_, rfl, Option.some.inj h, ht⟩) (fun q hq => absurd hq List.not_mem_nil) dX4_coinBit_15 hlocks
set_option maxHeartbeats 4000000 in
set_option maxRecDepth 100000 in
theorem c_X4_trueAnswer (l : Launch) (D : va_G) (T : Nat → ClassId) (v0 : Int32) (v1 : Int32) (v2 : Int32) (r : Int32) (h : F_X4_trueAnswer v0 v1 v2 = some r) : Met l yX4_trueAnswer wsX4_trueAnswer ({ frames := 1, cells := 0, slots := 0, locals := 20 } : Room) (va_Pc [.int v0, .int v1, .int v2] (PB D T (([] : va_W)))) (QRi r) 0 0 (fun _ => False) := by
  refine met_of (cc := cX4_trueAnswer) (maxL := 5) (ret := (some .int)) (lv := [(0, .int v0), (1, .int v1), (2, .int v2)]) (by decide) rfl (Nat.le_of_ble_eq_true rfl) rfl ?_
  intro p e s m args below meth c ls C0 hl hB
  obtain ⟨hx, hb, hr, hml, hown, hts, hlocks, hname⟩ := C0
  obtain ⟨hP, hK⟩ := hB
  unfold F_X4_trueAnswer at h
  refine lv_iload_n hx hb dX4_trueAnswer_0 rfl (lv_at hl 0 rfl) ?_
  replace h := bd h
  obtain ⟨t1, et1, h⟩ := h
  refine callRi (v := t1) (va_runS (As := [.int v0]) (rest := []) ⟨hx, hb, hml, hown, hts⟩ (c_X4_coinBit l D T v0 t1 et1) (va_cwS 1 hts gX4_trueAnswer_X4_coinBit rfl rfl rfl hdS_X4_coinBit ⟨Nat.le_of_ble_eq_true rfl, Nat.le_of_ble_eq_true rfl⟩) ⟨PB_blind, PB_at hP hK⟩ rfl rfl hl.1 rfl (lv_room (Nat.le_of_ble_eq_true rfl)) dX4_trueAnswer_1 ⟨Nat.zero_le _, Nat.zero_le _⟩) ?_
  refine lv_istore_n (lv' := [(3, .int t1), (0, .int v0), (1, .int v1), (2, .int v2)]) hx hb dX4_trueAnswer_4 rfl hl (by decide) rfl (fun ls hl => ?_)
  refine lv_iload_n hx hb dX4_trueAnswer_5 rfl (lv_at hl 1 rfl) ?_
  refine lv_iconst (v := 1) hx hb dX4_trueAnswer_6 (by decide) ?_
  refine lv_iand hx hb dX4_trueAnswer_7 ?_
  refine lv_iconst (v := 1) hx hb dX4_trueAnswer_8 (by decide) ?_
  refine lv_icmp_ne (tgt := 16) hx hb dX4_trueAnswer_9 (by decide) (fun c2 => ?_) (fun c2 => ?_)
  · replace h := im c2 h
    refine lv_iconst (v := 0) hx hb dX4_trueAnswer_16 (by decide) ?_
    refine lv_istore (lv' := [(4, .int 0), (3, .int t1), (0, .int v0), (1, .int v1), (2, .int v2)]) hx hb dX4_trueAnswer_17 hl (by decide) rfl (fun ls hl => ?_)
    refine lv_iload_n hx hb dX4_trueAnswer_19 rfl (lv_at hl 3 rfl) ?_
    refine lv_iload_n hx hb dX4_trueAnswer_20 rfl (lv_at hl 1 rfl) ?_
    refine lv_iand hx hb dX4_trueAnswer_21 ?_
    refine lv_if_eq (tgt := 36) hx hb dX4_trueAnswer_22 (by decide) (fun c3 => ?_) (fun c3 => ?_)
    · replace h := ip c3 h
      refine lv_iload_n hx hb dX4_trueAnswer_36 rfl (lv_at hl 4 rfl) ?_
      refine lv_iload_n hx hb dX4_trueAnswer_37 rfl (lv_at hl 1 rfl) ?_
      refine lv_iand hx hb dX4_trueAnswer_38 ?_
      refine lv_if_eq (tgt := 53) hx hb dX4_trueAnswer_39 (by decide) (fun c4 => ?_) (fun c4 => ?_)
      · replace h := ip c4 h
        refine lv_iconst (v := 2) hx hb dX4_trueAnswer_53 (by decide) ?_
        exact W.iret hx hb hr (fun t ht hW => ⟨_, rfl, Option.some.inj h, ht⟩) (fun q hq => absurd hq List.not_mem_nil) dX4_trueAnswer_54 hlocks
      replace h := im c4 h
      refine lv_iload hx hb dX4_trueAnswer_42 (lv_at hl 0 rfl) ?_
      refine lv_if_eq (tgt := 51) hx hb dX4_trueAnswer_44 (by decide) (fun _ => ?_) (fun c => absurd c (by decide))
      refine lv_iconst (v := 0) hx hb dX4_trueAnswer_51 (by decide) ?_
      exact W.iret hx hb hr (fun t ht hW => ⟨_, rfl, Option.some.inj h, ht⟩) (fun q hq => absurd hq List.not_mem_nil) dX4_trueAnswer_52 hlocks
    replace h := im c3 h
    refine lv_iload hx hb dX4_trueAnswer_25 (lv_at hl 0 rfl) ?_
    refine lv_if_eq (tgt := 34) hx hb dX4_trueAnswer_27 (by decide) (fun _ => ?_) (fun c => absurd c (by decide))
    refine lv_iconst (v := 1) hx hb dX4_trueAnswer_34 (by decide) ?_
    exact W.iret hx hb hr (fun t ht hW => ⟨_, rfl, Option.some.inj h, ht⟩) (fun q hq => absurd hq List.not_mem_nil) dX4_trueAnswer_35 hlocks
  replace h := ip c2 h
  refine lv_iconst (v := 1) hx hb dX4_trueAnswer_12 (by decide) ?_
  refine lv_goto (tgt := 17) hx hb dX4_trueAnswer_13 (by decide) ?_
  refine lv_istore (lv' := [(4, .int 1), (3, .int t1), (0, .int v0), (1, .int v1), (2, .int v2)]) hx hb dX4_trueAnswer_17 hl (by decide) rfl (fun ls hl => ?_)
  refine lv_iload_n hx hb dX4_trueAnswer_19 rfl (lv_at hl 3 rfl) ?_
  refine lv_iload_n hx hb dX4_trueAnswer_20 rfl (lv_at hl 1 rfl) ?_
  refine lv_iand hx hb dX4_trueAnswer_21 ?_
  refine lv_if_eq (tgt := 36) hx hb dX4_trueAnswer_22 (by decide) (fun c5 => ?_) (fun c5 => ?_)
  · replace h := ip c5 h
    refine lv_iload_n hx hb dX4_trueAnswer_36 rfl (lv_at hl 4 rfl) ?_
    refine lv_iload_n hx hb dX4_trueAnswer_37 rfl (lv_at hl 1 rfl) ?_
    refine lv_iand hx hb dX4_trueAnswer_38 ?_
    refine lv_if_eq (tgt := 53) hx hb dX4_trueAnswer_39 (by decide) (fun c6 => ?_) (fun c6 => ?_)
    · replace h := ip c6 h
      refine lv_iconst (v := 2) hx hb dX4_trueAnswer_53 (by decide) ?_
      exact W.iret hx hb hr (fun t ht hW => ⟨_, rfl, Option.some.inj h, ht⟩) (fun q hq => absurd hq List.not_mem_nil) dX4_trueAnswer_54 hlocks
    replace h := im c6 h
    refine lv_iload hx hb dX4_trueAnswer_42 (lv_at hl 0 rfl) ?_
    refine lv_if_eq (tgt := 51) hx hb dX4_trueAnswer_44 (by decide) (fun c => absurd c (by decide)) (fun _ => ?_)
    refine lv_iconst (v := 1) hx hb dX4_trueAnswer_47 (by decide) ?_
    refine lv_goto (tgt := 52) hx hb dX4_trueAnswer_48 (by decide) ?_
    exact W.iret hx hb hr (fun t ht hW => ⟨_, rfl, Option.some.inj h, ht⟩) (fun q hq => absurd hq List.not_mem_nil) dX4_trueAnswer_52 hlocks
  replace h := im c5 h
  refine lv_iload hx hb dX4_trueAnswer_25 (lv_at hl 0 rfl) ?_
  refine lv_if_eq (tgt := 34) hx hb dX4_trueAnswer_27 (by decide) (fun c => absurd c (by decide)) (fun _ => ?_)
  refine lv_iconst (v := 0) hx hb dX4_trueAnswer_30 (by decide) ?_
  refine lv_goto (tgt := 35) hx hb dX4_trueAnswer_31 (by decide) ?_
  exact W.iret hx hb hr (fun t ht hW => ⟨_, rfl, Option.some.inj h, ht⟩) (fun q hq => absurd hq List.not_mem_nil) dX4_trueAnswer_35 hlocks
set_option maxHeartbeats 4000000 in
set_option maxRecDepth 100000 in
theorem c_X4_volume (l : Launch) (D : va_G) (T : Nat → ClassId) (v0 : Int32) (v1 : Int32) (r : Int64) (h : F_X4_volume v0 v1 = some r) : Met l yX4_volume wsX4_volume ({ frames := 1, cells := 0, slots := 0, locals := 23 } : Room) (va_Pc [.int v0, .int v1] (PB D T (([] : va_W)))) (QRl r) 0 0 (fun _ => False) := by
  refine met_of (cc := cX4_volume) (maxL := 8) (ret := (some .long)) (lv := [(0, .int v0), (1, .int v1)]) (by decide) rfl (Nat.le_of_ble_eq_true rfl) rfl ?_
  intro p e s m args below meth c ls C0 hl hB
  obtain ⟨hx, hb, hr, hml, hown, hts, hlocks, hname⟩ := C0
  obtain ⟨hP, hK⟩ := hB
  unfold F_X4_volume at h
  refine lv_lconst (v := 1) hx hb dX4_volume_0 (by decide) ?_
  refine lv_lstore_n (lv' := [(2, .long 1), (0, .int v0), (1, .int v1)]) hx hb dX4_volume_1 rfl hl (by decide) rfl (fun ls hl => ?_)
  refine lv_lconst (v := 1) hx hb dX4_volume_2 (by decide) ?_
  refine lv_lstore (lv' := [(4, .long 1), (2, .long 1), (0, .int v0), (1, .int v1)]) hx hb dX4_volume_3 hl (by decide) rfl (fun ls hl => ?_)
  refine lv_iload_n hx hb dX4_volume_5 rfl (lv_at hl 2 rfl) ?_
  refine lv_iload_n hx hb dX4_volume_6 rfl (lv_at hl 3 rfl) ?_
  refine va_mmin hx hb (hml.trans hl.1.symm) hown (hts (.methodLink RX4 253 Lib.Math.min.name) (List.mem_of_getElem? (i := 1) rfl)) (hts (.static Lib.Math.min.name) (List.mem_of_getElem? (i := 2) rfl)) (hts (.initialized "java/lang/Math") (List.mem_of_getElem? (i := 3) rfl)) (hts (.code Lib.Math.min.name Lib.Math.min.code 2 (some .int)) (List.mem_of_getElem? (i := 4) rfl)) (Nat.le_of_ble_eq_true rfl) (Nat.le_of_ble_eq_true rfl) (Nat.zero_le _) (Nat.zero_le _) dX4_volume_7 ?_
  refine lv_istore (lv' := [(6, .int (if v1 < v0 then v1 else v0)), (4, .long 1), (2, .long 1), (0, .int v0), (1, .int v1)]) hx hb dX4_volume_10 hl (by decide) rfl (fun ls hl => ?_)
  refine lv_iconst (v := 1) hx hb dX4_volume_12 (by decide) ?_
  refine lv_istore (lv' := [(7, .int 1), (6, .int (if v1 < v0 then v1 else v0)), (4, .long 1), (2, .long 1), (0, .int v0), (1, .int v1)]) hx hb dX4_volume_13 hl (by decide) rfl (fun ls hl => ?_)
  have K15 : ∀ (n15 : Nat) (i2_15 : Int64) (i4_15 : Int64) (i7_15 : Int32) (ls : Array Slot), fx3 (B_X4_volume_15 v0 v1) n15 i2_15 i4_15 i7_15 = some r → lv_has ls 8 [(0, .int v0), (1, .int v1), (2, .long i2_15), (4, .long i4_15), (6, .int (if v1 < v0 then v1 else v0)), (7, .int i7_15)] → W p l e ({ frames := 1, cells := 0, slots := 0, locals := 23 } : Room) s m args below meth c s.heap [] 0 0 (MQ below (QRl r) args s 0 0 (fun _ => False)) (F0 m 15 ls []) := by
    intro n15
    induction n15 with
    | zero =>
        intro i2_15 i4_15 i7_15 ls h
        cases h
    | succ n15 ih15 =>
        intro i2_15 i4_15 i7_15 ls h hl
        replace h : B_X4_volume_15 v0 v1 (fx3 (B_X4_volume_15 v0 v1) n15) i2_15 i4_15 i7_15 = some r := h
        unfold B_X4_volume_15 at h
        refine lv_iload hx hb dX4_volume_15 (lv_at hl 5 rfl) ?_
        refine lv_iload hx hb dX4_volume_17 (lv_at hl 4 rfl) ?_
        refine lv_icmp_gt (tgt := 51) hx hb dX4_volume_19 (by decide) (fun c1 => ?_) (fun c1 => ?_)
        · replace h := ip c1 h
          refine lv_lload hx hb dX4_volume_51 (lv_at hl 3 rfl) ?_
          exact W.lret hx hb hr (fun t ht hW => ⟨_, rfl, Option.some.inj h, ht⟩) (fun q hq => absurd hq List.not_mem_nil) dX4_volume_53 hlocks
        replace h := im c1 h
        refine lv_lload_n hx hb dX4_volume_22 rfl (lv_at hl 2 rfl) ?_
        refine lv_iload_n hx hb dX4_volume_23 rfl (lv_at hl 0 rfl) ?_
        refine lv_iload hx hb dX4_volume_24 (lv_at hl 5 rfl) ?_
        refine lv_isub hx hb dX4_volume_26 ?_
        refine lv_iconst (v := 1) hx hb dX4_volume_27 (by decide) ?_
        refine lv_iadd hx hb dX4_volume_28 ?_
        refine lv_i2l (v := ((v0 - i7_15) + 1).toInt64) hx hb dX4_volume_29 rfl ?_
        refine lv_lmul hx hb dX4_volume_30 ?_
        refine lv_iload hx hb dX4_volume_31 (lv_at hl 5 rfl) ?_
        refine lv_i2l (v := i7_15.toInt64) hx hb dX4_volume_33 rfl ?_
        replace h := gd h
        obtain ⟨g2, h⟩ := h
        refine lv_ldiv hx hb dX4_volume_34 g2 ?_
        replace h := bd h
        obtain ⟨t3, et3, h⟩ := h
        refine eql (Option.some.inj et3) ?_
        refine lv_lstore_n (lv' := [(2, .long t3), (0, .int v0), (1, .int v1), (4, .long i4_15), (6, .int (if v1 < v0 then v1 else v0)), (7, .int i7_15)]) hx hb dX4_volume_35 rfl hl (by decide) rfl (fun ls hl => ?_)
        refine lv_lload hx hb dX4_volume_36 (lv_at hl 3 rfl) ?_
        refine lv_lload_n hx hb dX4_volume_38 rfl (lv_at hl 0 rfl) ?_
        refine lv_iload hx hb dX4_volume_39 (lv_at hl 5 rfl) ?_
        refine lv_lshl (v := t3 <<< (i7_15.toInt64 &&& 63)) hx hb dX4_volume_41 rfl ?_
        refine lv_ladd hx hb dX4_volume_42 ?_
        refine lv_lstore (lv' := [(4, .long (i4_15 + (t3 <<< (i7_15.toInt64 &&& 63)))), (2, .long t3), (0, .int v0), (1, .int v1), (6, .int (if v1 < v0 then v1 else v0)), (7, .int i7_15)]) hx hb dX4_volume_43 hl (by decide) rfl (fun ls hl => ?_)
        refine lv_iinc (v := i7_15 + 1) (lv' := [(7, .int (i7_15 + 1)), (4, .long (i4_15 + (t3 <<< (i7_15.toInt64 &&& 63)))), (2, .long t3), (0, .int v0), (1, .int v1), (6, .int (if v1 < v0 then v1 else v0))]) hx hb dX4_volume_45 hl (k := 5) rfl rfl (by decide) rfl (fun ls hl => ?_)
        refine lv_goto (tgt := 15) hx hb dX4_volume_48 (by decide) ?_
        exact ih15 t3 (i4_15 + (t3 <<< (i7_15.toInt64 &&& 63))) (i7_15 + 1) ls h (lv_sub hl [3, 4, 2, 1, 5, 0] rfl)
  exact K15 1000 1 1 1 ls h (lv_sub hl [4, 5, 3, 2, 1, 0] rfl)
set_option maxHeartbeats 4000000 in
set_option maxRecDepth 100000 in
theorem c_X4_differences (l : Launch) (D : va_G) (T : Nat → ClassId) (v0 : Int32) (v1 : Int32) (r : Int32) (h : F_X4_differences v0 v1 = some r) : Met l yX4_differences wsX4_differences ({ frames := 1, cells := 0, slots := 0, locals := 20 } : Room) (va_Pc [.int v0, .int v1] (PB D T (([] : va_W)))) (QRi r) 0 0 (fun _ => False) := by
  refine met_of (cc := cX4_differences) (maxL := 3) (ret := (some .int)) (lv := [(0, .int v0), (1, .int v1)]) (by decide) rfl (Nat.le_of_ble_eq_true rfl) rfl ?_
  intro p e s m args below meth c ls C0 hl hB
  obtain ⟨hx, hb, hr, hml, hown, hts, hlocks, hname⟩ := C0
  obtain ⟨hP, hK⟩ := hB
  unfold F_X4_differences at h
  refine lv_iload_n hx hb dX4_differences_0 rfl (lv_at hl 0 rfl) ?_
  refine lv_iload_n hx hb dX4_differences_1 rfl (lv_at hl 1 rfl) ?_
  refine lv_ixor hx hb dX4_differences_2 ?_
  refine lv_istore_n (lv' := [(2, .int (v0 ^^^ v1)), (0, .int v0), (1, .int v1)]) hx hb dX4_differences_3 rfl hl (by decide) rfl (fun ls hl => ?_)
  refine lv_iload_n hx hb dX4_differences_4 rfl (lv_at hl 0 rfl) ?_
  refine lv_iload_n hx hb dX4_differences_5 rfl (lv_at hl 0 rfl) ?_
  refine lv_iconst (v := 1) hx hb dX4_differences_6 (by decide) ?_
  refine lv_ishr hx hb dX4_differences_7 ?_
  refine lv_ior hx hb dX4_differences_8 ?_
  refine lv_sipush (v := 21845) hx hb dX4_differences_9 (by decide) ?_
  refine lv_iand hx hb dX4_differences_12 ?_
  replace h := bd h
  obtain ⟨t1, et1, h⟩ := h
  refine callRi (v := t1) (va_runS (As := [.int (((v0 ^^^ v1) ||| ((v0 ^^^ v1) >>> (1 &&& 31))) &&& 21845)]) (rest := []) ⟨hx, hb, hml, hown, hts⟩ (c_J6_bitCount_0f7a4 l D T (((v0 ^^^ v1) ||| ((v0 ^^^ v1) >>> (1 &&& 31))) &&& 21845) t1 et1) (va_cwS 1 hts gX4_differences_J6_bitCount_0f7a4 rfl rfl rfl hdS_J6_bitCount_0f7a4 ⟨Nat.le_of_ble_eq_true rfl, Nat.le_of_ble_eq_true rfl⟩) ⟨PB_blind, PB_at hP hK⟩ rfl rfl hl.1 rfl (lv_room (Nat.le_of_ble_eq_true rfl)) dX4_differences_13 ⟨Nat.zero_le _, Nat.zero_le _⟩) ?_
  exact W.iret hx hb hr (fun t ht hW => ⟨_, rfl, Option.some.inj h, ht⟩) (fun q hq => absurd hq List.not_mem_nil) dX4_differences_16 hlocks
set_option maxHeartbeats 4000000 in
set_option maxRecDepth 100000 in
theorem c_X4_wordOf (l : Launch) (D : va_G) (T : Nat → ClassId) (v0 : Int32) (r : Int32) (h : F_X4_wordOf v0 = some r) : Met l yX4_wordOf wsX4_wordOf ({ frames := 0, cells := 0, slots := 0, locals := 0 } : Room) (va_Pc [.int v0] (PB D T (([] : va_W)))) (QRi r) 0 0 (fun _ => False) := by
  refine met_of (cc := cX4_wordOf) (maxL := 4) (ret := (some .int)) (lv := [(0, .int v0)]) (by decide) rfl (Nat.le_of_ble_eq_true rfl) rfl ?_
  intro p e s m args below meth c ls C0 hl hB
  obtain ⟨hx, hb, hr, hml, hown, hts, hlocks, hname⟩ := C0
  obtain ⟨hP, hK⟩ := hB
  unfold F_X4_wordOf at h
  refine lv_iconst (v := 0) hx hb dX4_wordOf_0 (by decide) ?_
  refine lv_istore_n (lv' := [(1, .int 0), (0, .int v0)]) hx hb dX4_wordOf_1 rfl hl (by decide) rfl (fun ls hl => ?_)
  refine lv_iload_n hx hb dX4_wordOf_2 rfl (lv_at hl 1 rfl) ?_
  refine lv_istore_n (lv' := [(2, .int v0), (1, .int 0), (0, .int v0)]) hx hb dX4_wordOf_3 rfl hl (by decide) rfl (fun ls hl => ?_)
  refine lv_iconst (v := 0) hx hb dX4_wordOf_4 (by decide) ?_
  refine lv_istore_n (lv' := [(3, .int 0), (2, .int v0), (1, .int 0), (0, .int v0)]) hx hb dX4_wordOf_5 rfl hl (by decide) rfl (fun ls hl => ?_)
  have K6 : ∀ (n6 : Nat) (i1_6 : Int32) (i2_6 : Int32) (i3_6 : Int32) (ls : Array Slot), fx3 (B_X4_wordOf_6) n6 i1_6 i2_6 i3_6 = some r → lv_has ls 4 [(0, .int v0), (1, .int i1_6), (2, .int i2_6), (3, .int i3_6)] → W p l e ({ frames := 0, cells := 0, slots := 0, locals := 0 } : Room) s m args below meth c s.heap [] 0 0 (MQ below (QRi r) args s 0 0 (fun _ => False)) (F0 m 6 ls []) := by
    intro n6
    induction n6 with
    | zero =>
        intro i1_6 i2_6 i3_6 ls h
        cases h
    | succ n6 ih6 =>
        intro i1_6 i2_6 i3_6 ls h hl
        replace h : B_X4_wordOf_6 (fx3 (B_X4_wordOf_6) n6) i1_6 i2_6 i3_6 = some r := h
        unfold B_X4_wordOf_6 at h
        refine lv_iload_n hx hb dX4_wordOf_6 rfl (lv_at hl 3 rfl) ?_
        refine lv_bipush (v := 8) hx hb dX4_wordOf_7 (by decide) ?_
        refine lv_icmp_ge (tgt := 32) hx hb dX4_wordOf_9 (by decide) (fun c1 => ?_) (fun c1 => ?_)
        · replace h := ip c1 h
          refine lv_iload_n hx hb dX4_wordOf_32 rfl (lv_at hl 1 rfl) ?_
          exact W.iret hx hb hr (fun t ht hW => ⟨_, rfl, Option.some.inj h, ht⟩) (fun q hq => absurd hq List.not_mem_nil) dX4_wordOf_33 hlocks
        replace h := im c1 h
        refine lv_iload_n hx hb dX4_wordOf_12 rfl (lv_at hl 1 rfl) ?_
        refine lv_iload_n hx hb dX4_wordOf_13 rfl (lv_at hl 2 rfl) ?_
        refine lv_iconst (v := 3) hx hb dX4_wordOf_14 (by decide) ?_
        refine lv_irem hx hb dX4_wordOf_15 (by decide) ?_
        refine lv_iconst (v := 2) hx hb dX4_wordOf_16 (by decide) ?_
        refine lv_iload_n hx hb dX4_wordOf_17 rfl (lv_at hl 3 rfl) ?_
        refine lv_imul hx hb dX4_wordOf_18 ?_
        refine lv_ishl hx hb dX4_wordOf_19 ?_
        refine lv_ior hx hb dX4_wordOf_20 ?_
        replace h := bd h
        obtain ⟨t2, et2, h⟩ := h
        refine eqi (Option.some.inj et2) ?_
        refine lv_istore_n (lv' := [(1, .int t2), (0, .int v0), (2, .int i2_6), (3, .int i3_6)]) hx hb dX4_wordOf_21 rfl hl (by decide) rfl (fun ls hl => ?_)
        refine lv_iload_n hx hb dX4_wordOf_22 rfl (lv_at hl 2 rfl) ?_
        refine lv_iconst (v := 3) hx hb dX4_wordOf_23 (by decide) ?_
        refine lv_idiv hx hb dX4_wordOf_24 (by decide) ?_
        refine lv_istore_n (lv' := [(2, .int (i2_6 / 3)), (1, .int t2), (0, .int v0), (3, .int i3_6)]) hx hb dX4_wordOf_25 rfl hl (by decide) rfl (fun ls hl => ?_)
        refine lv_iinc (v := i3_6 + 1) (lv' := [(3, .int (i3_6 + 1)), (2, .int (i2_6 / 3)), (1, .int t2), (0, .int v0)]) hx hb dX4_wordOf_26 hl (k := 3) rfl rfl (by decide) rfl (fun ls hl => ?_)
        refine lv_goto (tgt := 6) hx hb dX4_wordOf_29 (by decide) ?_
        exact ih6 t2 (i2_6 / 3) (i3_6 + 1) ls h (lv_sub hl [3, 2, 1, 0] rfl)
  exact K6 1000 0 v0 0 ls h (lv_sub hl [3, 2, 1, 0] rfl)
set_option maxHeartbeats 4000000 in
set_option maxRecDepth 100000 in
theorem c_X4_copyRow (l : Launch) (D : va_G) (T : Nat → ClassId) (h0 : Nat) (n0 : Nat) (f0 : Nat → Int32) (h1 : Nat) (n1 : Nat) (f1 : Nat → Int32) (sz : Nat) (hn0 : n0 < 2147483648) (hn1 : n1 < 2147483648) (r : (Nat → Int32)) (h : F_X4_copyRow n0 f0 n1 f1 = some r) : Met l yX4_copyRow wsX4_copyRow ({ frames := 1, cells := 0, slots := 0, locals := 23 } : Room) (va_Pc [.ref h0, .ref h1] (PM D T (([(h0, .inl (T 0, n0, .inl (f0)))] : va_W) ++ ([(h1, .inl (T 0, n1, .inl (f1)))] : va_W)) sz)) (QMv D (([(h0, .inl (T 0, n0, .inl (f0)))] : va_W) ++ ([(h1, .inl (T 0, n1, .inl (r)))] : va_W)) (va_A (([(h0, .inl (T 0, n0, .inl (f0)))] : va_W) ++ ([(h1, .inl (T 0, n1, .inl (f1)))] : va_W)) sz)) 0 0 (va_A (([(h0, .inl (T 0, n0, .inl (f0)))] : va_W) ++ ([(h1, .inl (T 0, n1, .inl (f1)))] : va_W)) sz) := by
  refine met_of (cc := cX4_copyRow) (maxL := 2) (ret := none) (lv := [(0, .ref h0), (1, .ref h1)]) (by decide) rfl (Nat.le_of_ble_eq_true rfl) rfl ?_
  intro p e s m args below meth c ls C0 hl hB
  obtain ⟨hx, hb, hr, hml, hown, hts, hlocks, hname⟩ := C0
  obtain ⟨hsz, hP, hK, hD0⟩ := hB
  subst hsz
  have hD := hD0.self (sz := s.heap.size)
  generalize hAe : va_A (([(h0, .inl (T 0, n0, .inl (f0)))] : va_W) ++ ([(h1, .inl (T 0, n1, .inl (f1)))] : va_W)) s.heap.size = A at hD ⊢
  have hA : ∀ q : Nat, s.heap.size ≤ q → A q := fun q h => by rw [← hAe]; exact Or.inr h
  obtain ⟨H, hH⟩ : ∃ H, H = s.heap := ⟨_, rfl⟩
  obtain ⟨locs, hlo⟩ : ∃ L : List Loc, L = [] := ⟨_, rfl⟩
  have hS : va_S A s.heap s.heap [] := va_S.rf
  rw [← hH] at hP ⊢
  rw [← hlo]
  replace hS : va_S A s.heap H locs := by rw [hH, hlo]; exact hS
  clear hH hlo
  unfold F_X4_copyRow at h
  refine lv_aload_n hx hb dX4_copyRow_0 rfl (lv_at hl 0 rfl) ?_
  refine lv_iconst (v := 0) hx hb dX4_copyRow_1 (by decide) ?_
  refine lv_aload_n hx hb dX4_copyRow_2 rfl (lv_at hl 1 rfl) ?_
  refine lv_iconst (v := 0) hx hb dX4_copyRow_3 (by decide) ?_
  refine lv_aload_n hx hb dX4_copyRow_4 rfl (lv_at hl 0 rfl) ?_
  refine va_alen hx hb hK.1 hP 0 0 rfl rfl (v := nI n0) rfl dX4_copyRow_5 ?_
  refine lv_aload_n hx hb dX4_copyRow_6 rfl (lv_at hl 1 rfl) ?_
  refine va_alen hx hb hK.1 hP 1 0 rfl rfl (v := nI n1) rfl dX4_copyRow_7 ?_
  replace h := gd h
  obtain ⟨g1, h⟩ := h
  have e1 := Decidable.not_not.mp g1
  subst e1
  refine va_mmin hx hb (hml.trans hl.1.symm) hown (hts (.methodLink RX4 253 Lib.Math.min.name) (List.mem_of_getElem? (i := 1) rfl)) (hts (.static Lib.Math.min.name) (List.mem_of_getElem? (i := 2) rfl)) (hts (.initialized "java/lang/Math") (List.mem_of_getElem? (i := 3) rfl)) (hts (.code Lib.Math.min.name Lib.Math.min.code 2 (some .int)) (List.mem_of_getElem? (i := 4) rfl)) (Nat.le_of_ble_eq_true rfl) (Nat.le_of_ble_eq_true rfl) (Nat.zero_le _) (Nat.zero_le _) dX4_copyRow_8 ?_
  refine eqi (ite_self _) ?_
  refine va_copyi hx hb (hml.trans hl.1.symm) hown (hts (.methodLink RX4 258 arraycopyName) (List.mem_of_getElem? (i := 5) rfl)) (hts (.native arraycopyName) (List.mem_of_getElem? (i := 6) rfl)) (hts (.static arraycopyName) (List.mem_of_getElem? (i := 7) rfl)) (hts (.initialized "java/lang/System") (List.mem_of_getElem? (i := 8) rfl)) hK.1 hP hD hS 0 1 0 0 rfl rfl rfl rfl rfl (by decide) (by decide) (nI_pos hn0) (by rw [nI_clamp hn0]; exact Nat.le_of_eq (Nat.zero_add _)) (by rw [nI_clamp hn0]; exact Nat.le_of_eq (Nat.zero_add _)) (fun i hi => rfl) (Nat.le_of_ble_eq_true rfl) (Nat.le_of_ble_eq_true rfl) dX4_copyRow_11 (fun H locs hP hD hS => ?_)
  rw [nI_clamp hn0] at hP hD
  replace hP : va_P D vwCl (([(h0, .inl (T 0, n0, .inl (f0)))] : va_W) ++ ([(h1, .inl (T 0, n0, .inl (va_cpy f0 f1 0 0 n0)))] : va_W)) H := hP
  replace hD : va_D A (([(h0, .inl (T 0, n0, .inl (f0)))] : va_W) ++ ([(h1, .inl (T 0, n0, .inl (va_cpy f0 f1 0 0 n0)))] : va_W)) := hD
  obtain rfl := Option.some.inj h
  exact W.vret hx hb hr (fun t ht hW => ⟨⟨(), rfl, trivial, by rw [ht]; exact hP, hD⟩, hS.F ht⟩) hS.2.2 dX4_copyRow_14 hlocks
