def F_X2_cases (x0 : St) : Option (Int32) :=
  some ((2 * (x0.1 0)) + 1)
def F_X2_isCase (x0 : St) (v1 : Int32) : Option (Int32) :=
  if v1 < 0 then (some 0) else ((F_X2_cases x0).bind fun t2 => if t2 ≤ v1 then (some 0) else (some 1))
def F_X2_isWeighing (x0 : St) (v1 : Int32) (v2 : Int32) : Option (Int32) :=
  if v1 = 0 then (some 0) else (if (v1 &&& v2) = 0 then (if (((v1 ||| v2).toUInt32 >>> ((x0.1 0).toUInt32 &&& Int32.toUInt32 31)).toInt32) = 0 then ((F_J6_bitCount_0f7a4 v1).bind fun t4 => (F_J6_bitCount_0f7a4 v2).bind fun t5 => if t4 = t5 then (some 1) else (some 0)) else (some 0)) else (some 0))
def F_X2_canLearn (x0 : St) : Option (Int32) :=
  if 40 ≤ (x0.1 5) then (some 0) else (some 1)
def F_X2_liesIfTold (x0 : St) (v1 : Int32) (v2 : Int32) (v3 : Int32) (v4 : Int32) : Option (Int32) :=
  (F_X4_at 33 (x0.2 6) v1).bind fun t1 => (F_X4_trueAnswer v1 v2 v3).bind fun t2 => if t2 = v4 then (some t1) else (some (t1 + 1))
def B_X2_learn_13 (v1 : Int32) (v2 : Int32) (v3 : Int32) (k13 : Int32 → St → Option (St)) (i4_13 : Int32) (x0_13 : St) : Option (St) :=
  (F_X2_cases x0_13).bind fun t2 => if t2 ≤ i4_13 then (some x0_13) else ((F_X2_liesIfTold x0_13 i4_13 v1 v2 v3).bind fun t4 => (F_X4_put 33 (x0_13.2 6) i4_13 t4).bind fun t5 => k13 (i4_13 + 1) (sA x0_13 6 t5))
def F_X2_learn (x0 : St) (v1 : Int32) (v2 : Int32) (v3 : Int32) : Option (St) :=
  (F_X3_write 40 (tdS x0) v1 v2 v3).bind fun t1 => fx2 (B_X2_learn_13 v1 v2 v3) 1000 0 (tdU x0 t1)
def B_X2_forgetTold_10 (k10 : Int32 → St → Option (St)) (i1_10 : Int32) (x0_10 : St) : Option (St) :=
  if 33 ≤ i1_10 then (some x0_10) else ((F_X4_put 33 (x0_10.2 6) i1_10 0).bind fun t2 => k10 (i1_10 + 1) (sA x0_10 6 t2))
def F_X2_forgetTold (x0 : St) : Option (St) :=
  fx2 (B_X2_forgetTold_10) 1000 0 (sI x0 5 0)
def F_X2_hideCase (x0 : St) (v1 : Int32) (v2 : Int32) : Option (St) :=
  some (sI (sI (sI x0 2 v1) 3 v2) 4 0)
def F_X2_start (x0 : St) (v1 : Int32) : Option (St) :=
  (F_X2_hideCase (sI (sI (sI x0 0 v1) 1 1) 6 0) ((-1)) 0).bind fun t1 => (F_X2_forgetTold t1).bind fun t2 => some t2
def F_X2_canReply (x0 : St) : Option (Int32) :=
  if (x0.1 2) = ((-1)) then (some 0) else ((F_X2_canLearn x0).bind fun t2 => if t2 = 0 then (some 0) else (if 30 ≤ (x0.1 4) then (some 0) else (some 1)))
def F_X2_reply (x0 : St) (v1 : Int32) (v2 : Int32) : Option (Int32 × St) :=
  (F_X4_trueAnswer (x0.1 2) v1 v2).bind fun t1 => if ((((x0.1 3).toUInt32 >>> ((x0.1 4).toUInt32 &&& Int32.toUInt32 31)).toInt32) &&& 1) = 1 then (if t1 = 2 then ((F_X2_learn (sI x0 4 ((x0.1 4) + 1)) v1 v2 0).bind fun t6 => some (0, t6)) else ((F_X2_learn (sI x0 4 ((x0.1 4) + 1)) v1 v2 (t1 + 1)).bind fun t5 => some (t1 + 1, t5))) else ((F_X2_learn (sI x0 4 ((x0.1 4) + 1)) v1 v2 t1).bind fun t3 => some (t1, t3))
theorem inX2_cases_2 : ∀ w ∈ u_ws RX2 TX2 9, w ∈ wsX2_cases := by decide +kernel
theorem hdS_X2_cases : yX2_cases.cls ≠ "java/lang/invoke/MethodHandle" ∧ yX2_cases.cls ≠ "java/lang/invoke/VarHandle" ∧ (parseMethodDescriptor yX2_cases.desc).map (fun d => d.parameters.length) = some 0 := by decide +kernel
theorem hdV_X2_cases : yX2_cases.cls = RX2 ∧ yX2_cases.cls ≠ "java/lang/invoke/MethodHandle" ∧ yX2_cases.cls ≠ "java/lang/invoke/VarHandle" ∧ (parseMethodDescriptor yX2_cases.desc).map (fun d => d.parameters.length) = some 0 := by decide +kernel
theorem hdS_X2_isCase : yX2_isCase.cls ≠ "java/lang/invoke/MethodHandle" ∧ yX2_isCase.cls ≠ "java/lang/invoke/VarHandle" ∧ (parseMethodDescriptor yX2_isCase.desc).map (fun d => d.parameters.length) = some 1 := by decide +kernel
theorem hdV_X2_isCase : yX2_isCase.cls = RX2 ∧ yX2_isCase.cls ≠ "java/lang/invoke/MethodHandle" ∧ yX2_isCase.cls ≠ "java/lang/invoke/VarHandle" ∧ (parseMethodDescriptor yX2_isCase.desc).map (fun d => d.parameters.length) = some 1 := by decide +kernel
theorem inX2_isWeighing_2 : ∀ w ∈ u_ws RX2 TX2 9, w ∈ wsX2_isWeighing := by decide +kernel
theorem hdS_X2_isWeighing : yX2_isWeighing.cls ≠ "java/lang/invoke/MethodHandle" ∧ yX2_isWeighing.cls ≠ "java/lang/invoke/VarHandle" ∧ (parseMethodDescriptor yX2_isWeighing.desc).map (fun d => d.parameters.length) = some 2 := by decide +kernel
theorem hdV_X2_isWeighing : yX2_isWeighing.cls = RX2 ∧ yX2_isWeighing.cls ≠ "java/lang/invoke/MethodHandle" ∧ yX2_isWeighing.cls ≠ "java/lang/invoke/VarHandle" ∧ (parseMethodDescriptor yX2_isWeighing.desc).map (fun d => d.parameters.length) = some 2 := by decide +kernel
theorem inX2_canLearn_2 : ∀ w ∈ u_ws RX2 TX2 9, w ∈ wsX2_canLearn := by decide +kernel
theorem inX2_canLearn_3 : ∀ w ∈ u_ws RX3 TX3 4, w ∈ wsX2_canLearn := by decide +kernel
theorem hdS_X2_canLearn : yX2_canLearn.cls ≠ "java/lang/invoke/MethodHandle" ∧ yX2_canLearn.cls ≠ "java/lang/invoke/VarHandle" ∧ (parseMethodDescriptor yX2_canLearn.desc).map (fun d => d.parameters.length) = some 0 := by decide +kernel
theorem hdV_X2_canLearn : yX2_canLearn.cls = RX2 ∧ yX2_canLearn.cls ≠ "java/lang/invoke/MethodHandle" ∧ yX2_canLearn.cls ≠ "java/lang/invoke/VarHandle" ∧ (parseMethodDescriptor yX2_canLearn.desc).map (fun d => d.parameters.length) = some 0 := by decide +kernel
theorem inX2_liesIfTold_2 : ∀ w ∈ u_ws RX2 TX2 9, w ∈ wsX2_liesIfTold := by decide +kernel
theorem hdS_X2_liesIfTold : yX2_liesIfTold.cls ≠ "java/lang/invoke/MethodHandle" ∧ yX2_liesIfTold.cls ≠ "java/lang/invoke/VarHandle" ∧ (parseMethodDescriptor yX2_liesIfTold.desc).map (fun d => d.parameters.length) = some 4 := by decide +kernel
theorem hdV_X2_liesIfTold : yX2_liesIfTold.cls = RX2 ∧ yX2_liesIfTold.cls ≠ "java/lang/invoke/MethodHandle" ∧ yX2_liesIfTold.cls ≠ "java/lang/invoke/VarHandle" ∧ (parseMethodDescriptor yX2_liesIfTold.desc).map (fun d => d.parameters.length) = some 4 := by decide +kernel
theorem inX2_learn_2 : ∀ w ∈ u_ws RX2 TX2 9, w ∈ wsX2_learn := by decide +kernel
theorem hdS_X2_learn : yX2_learn.cls ≠ "java/lang/invoke/MethodHandle" ∧ yX2_learn.cls ≠ "java/lang/invoke/VarHandle" ∧ (parseMethodDescriptor yX2_learn.desc).map (fun d => d.parameters.length) = some 3 := by decide +kernel
theorem hdV_X2_learn : yX2_learn.cls = RX2 ∧ yX2_learn.cls ≠ "java/lang/invoke/MethodHandle" ∧ yX2_learn.cls ≠ "java/lang/invoke/VarHandle" ∧ (parseMethodDescriptor yX2_learn.desc).map (fun d => d.parameters.length) = some 3 := by decide +kernel
theorem inX2_forgetTold_2 : ∀ w ∈ u_ws RX2 TX2 9, w ∈ wsX2_forgetTold := by decide +kernel
theorem inX2_forgetTold_3 : ∀ w ∈ u_ws RX3 TX3 4, w ∈ wsX2_forgetTold := by decide +kernel
theorem hdS_X2_forgetTold : yX2_forgetTold.cls ≠ "java/lang/invoke/MethodHandle" ∧ yX2_forgetTold.cls ≠ "java/lang/invoke/VarHandle" ∧ (parseMethodDescriptor yX2_forgetTold.desc).map (fun d => d.parameters.length) = some 0 := by decide +kernel
theorem hdV_X2_forgetTold : yX2_forgetTold.cls = RX2 ∧ yX2_forgetTold.cls ≠ "java/lang/invoke/MethodHandle" ∧ yX2_forgetTold.cls ≠ "java/lang/invoke/VarHandle" ∧ (parseMethodDescriptor yX2_forgetTold.desc).map (fun d => d.parameters.length) = some 0 := by decide +kernel
theorem inX2_hideCase_2 : ∀ w ∈ u_ws RX2 TX2 9, w ∈ wsX2_hideCase := by decide +kernel
theorem hdS_X2_hideCase : yX2_hideCase.cls ≠ "java/lang/invoke/MethodHandle" ∧ yX2_hideCase.cls ≠ "java/lang/invoke/VarHandle" ∧ (parseMethodDescriptor yX2_hideCase.desc).map (fun d => d.parameters.length) = some 2 := by decide +kernel
theorem hdV_X2_hideCase : yX2_hideCase.cls = RX2 ∧ yX2_hideCase.cls ≠ "java/lang/invoke/MethodHandle" ∧ yX2_hideCase.cls ≠ "java/lang/invoke/VarHandle" ∧ (parseMethodDescriptor yX2_hideCase.desc).map (fun d => d.parameters.length) = some 2 := by decide +kernel
theorem inX2_start_2 : ∀ w ∈ u_ws RX2 TX2 9, w ∈ wsX2_start := by decide +kernel
theorem inX2_start_3 : ∀ w ∈ u_ws RX3 TX3 4, w ∈ wsX2_start := by decide +kernel
theorem hdS_X2_start : yX2_start.cls ≠ "java/lang/invoke/MethodHandle" ∧ yX2_start.cls ≠ "java/lang/invoke/VarHandle" ∧ (parseMethodDescriptor yX2_start.desc).map (fun d => d.parameters.length) = some 1 := by decide +kernel
theorem hdV_X2_start : yX2_start.cls = RX2 ∧ yX2_start.cls ≠ "java/lang/invoke/MethodHandle" ∧ yX2_start.cls ≠ "java/lang/invoke/VarHandle" ∧ (parseMethodDescriptor yX2_start.desc).map (fun d => d.parameters.length) = some 1 := by decide +kernel
theorem inX2_canReply_2 : ∀ w ∈ u_ws RX2 TX2 9, w ∈ wsX2_canReply := by decide +kernel
theorem hdS_X2_canReply : yX2_canReply.cls ≠ "java/lang/invoke/MethodHandle" ∧ yX2_canReply.cls ≠ "java/lang/invoke/VarHandle" ∧ (parseMethodDescriptor yX2_canReply.desc).map (fun d => d.parameters.length) = some 0 := by decide +kernel
theorem hdV_X2_canReply : yX2_canReply.cls = RX2 ∧ yX2_canReply.cls ≠ "java/lang/invoke/MethodHandle" ∧ yX2_canReply.cls ≠ "java/lang/invoke/VarHandle" ∧ (parseMethodDescriptor yX2_canReply.desc).map (fun d => d.parameters.length) = some 0 := by decide +kernel
theorem inX2_reply_2 : ∀ w ∈ u_ws RX2 TX2 9, w ∈ wsX2_reply := by decide +kernel
theorem hdS_X2_reply : yX2_reply.cls ≠ "java/lang/invoke/MethodHandle" ∧ yX2_reply.cls ≠ "java/lang/invoke/VarHandle" ∧ (parseMethodDescriptor yX2_reply.desc).map (fun d => d.parameters.length) = some 2 := by decide +kernel
theorem hdV_X2_reply : yX2_reply.cls = RX2 ∧ yX2_reply.cls ≠ "java/lang/invoke/MethodHandle" ∧ yX2_reply.cls ≠ "java/lang/invoke/VarHandle" ∧ (parseMethodDescriptor yX2_reply.desc).map (fun d => d.parameters.length) = some 2 := by decide +kernel
set_option maxHeartbeats 4000000 in
set_option maxRecDepth 100000 in
theorem c_X2_cases (l : Launch) (D : va_G) (T : Nat → ClassId) (a0 : Nat → Nat) (x0 : St) (r : Int32) (h : F_X2_cases x0 = some r) : Met l yX2_cases wsX2_cases ({ frames := 0, cells := 0, slots := 0, locals := 0 } : Room) (va_Pc [.ref (a0 0)] (PB D T (stW T a0 (x0)))) (QRi r) 0 0 (fun _ => False) := by
  refine met_of (cc := cX2_cases) (maxL := 1) (ret := (some .int)) (lv := [(0, .ref (a0 0))]) (by decide) rfl (Nat.le_of_ble_eq_true rfl) rfl ?_
  intro p e s m args below meth c ls C0 hl hB
  obtain ⟨hx, hb, hr, hml, hown, hts, hlocks, hname⟩ := C0
  obtain ⟨hP, hK⟩ := hB
  unfold F_X2_cases at h
  refine lv_iconst (v := 2) hx hb dX2_cases_0 (by decide) ?_
  refine lv_aload_n hx hb dX2_cases_1 rfl (lv_at hl 0 rfl) ?_
  refine va_get (D := D) (ci := 2) (v := .int (x0.1 0)) (C := RX2) (T := TX2) (N := 9) hx hb hts inX2_cases_2 hown hK.1 hP 0 rfl rfl 4 (by decide) (hts (.fieldLink RX2 33 "LyingScale$State" "coins" "I") (List.mem_of_getElem? (i := 1) rfl)) (fun _ h9 => h9) rfl dX2_cases_2 ?_
  refine lv_imul hx hb dX2_cases_5 ?_
  refine lv_iconst (v := 1) hx hb dX2_cases_6 (by decide) ?_
  refine lv_iadd hx hb dX2_cases_7 ?_
  exact W.iret hx hb hr (fun t ht hW => ⟨_, rfl, Option.some.inj h, ht⟩) (fun q hq => absurd hq List.not_mem_nil) dX2_cases_8 hlocks
set_option maxHeartbeats 4000000 in
set_option maxRecDepth 100000 in
theorem c_X2_isCase (l : Launch) (D : va_G) (T : Nat → ClassId) (a0 : Nat → Nat) (x0 : St) (v1 : Int32) (r : Int32) (h : F_X2_isCase x0 v1 = some r) : Met l yX2_isCase wsX2_isCase ({ frames := 1, cells := 0, slots := 0, locals := 20 } : Room) (va_Pc [.ref (a0 0), .int v1] (PB D T (stW T a0 (x0)))) (QRi r) 0 0 (fun _ => False) := by
  refine met_of (cc := cX2_isCase) (maxL := 2) (ret := (some .boolean)) (lv := [(0, .ref (a0 0)), (1, .int v1)]) (by decide) rfl (Nat.le_of_ble_eq_true rfl) rfl ?_
  intro p e s m args below meth c ls C0 hl hB
  obtain ⟨hx, hb, hr, hml, hown, hts, hlocks, hname⟩ := C0
  obtain ⟨hP, hK⟩ := hB
  unfold F_X2_isCase at h
  refine lv_iload_n hx hb dX2_isCase_0 rfl (lv_at hl 1 rfl) ?_
  refine lv_if_lt (tgt := 16) hx hb dX2_isCase_1 (by decide) (fun c1 => ?_) (fun c1 => ?_)
  · replace h := ip c1 h
    refine lv_iconst (v := 0) hx hb dX2_isCase_16 (by decide) ?_
    exact W.zret hx hb hr rfl (fun t ht hW => ⟨_, rfl, Option.some.inj h, ht⟩) (fun q hq => absurd hq List.not_mem_nil) dX2_isCase_17 hlocks
  replace h := im c1 h
  refine lv_iload_n hx hb dX2_isCase_4 rfl (lv_at hl 1 rfl) ?_
  refine lv_aload_n hx hb dX2_isCase_5 rfl (lv_at hl 0 rfl) ?_
  replace h := bd h
  obtain ⟨t2, et2, h⟩ := h
  refine callRi (v := t2) (va_runV (As := []) (rest := [.int v1]) ⟨hx, hb, hml, hown, hts⟩ (c_X2_cases l D T a0 x0 t2 et2) (cwV 0 hts gX2_isCase_X2_cases rfl rfl rfl hdV_X2_cases ⟨Nat.le_of_ble_eq_true rfl, Nat.le_of_ble_eq_true rfl⟩) ⟨PB_blind, va_recv hK.1 hP (ci := 2) (q0 := 0) rfl rfl, PB_at hP hK⟩ rfl rfl hl.1 rfl (lv_room (Nat.le_of_ble_eq_true rfl)) dX2_isCase_6 ⟨Nat.zero_le _, Nat.zero_le _⟩) ?_
  refine lv_icmp_ge (tgt := 16) hx hb dX2_isCase_9 (by decide) (fun c3 => ?_) (fun c3 => ?_)
  · replace h := ip c3 h
    refine lv_iconst (v := 0) hx hb dX2_isCase_16 (by decide) ?_
    exact W.zret hx hb hr rfl (fun t ht hW => ⟨_, rfl, Option.some.inj h, ht⟩) (fun q hq => absurd hq List.not_mem_nil) dX2_isCase_17 hlocks
  replace h := im c3 h
  refine lv_iconst (v := 1) hx hb dX2_isCase_12 (by decide) ?_
  refine lv_goto (tgt := 17) hx hb dX2_isCase_13 (by decide) ?_
  exact W.zret hx hb hr rfl (fun t ht hW => ⟨_, rfl, Option.some.inj h, ht⟩) (fun q hq => absurd hq List.not_mem_nil) dX2_isCase_17 hlocks
set_option maxHeartbeats 4000000 in
set_option maxRecDepth 100000 in
theorem c_X2_isWeighing (l : Launch) (D : va_G) (T : Nat → ClassId) (a0 : Nat → Nat) (x0 : St) (v1 : Int32) (v2 : Int32) (r : Int32) (h : F_X2_isWeighing x0 v1 v2 = some r) : Met l yX2_isWeighing wsX2_isWeighing ({ frames := 1, cells := 0, slots := 0, locals := 20 } : Room) (va_Pc [.ref (a0 0), .int v1, .int v2] (PB D T (stW T a0 (x0)))) (QRi r) 0 0 (fun _ => False) := by
  refine met_of (cc := cX2_isWeighing) (maxL := 3) (ret := (some .boolean)) (lv := [(0, .ref (a0 0)), (1, .int v1), (2, .int v2)]) (by decide) rfl (Nat.le_of_ble_eq_true rfl) rfl ?_
  intro p e s m args below meth c ls C0 hl hB
  obtain ⟨hx, hb, hr, hml, hown, hts, hlocks, hname⟩ := C0
  obtain ⟨hP, hK⟩ := hB
  unfold F_X2_isWeighing at h
  refine lv_iload_n hx hb dX2_isWeighing_0 rfl (lv_at hl 1 rfl) ?_
  refine lv_if_eq (tgt := 36) hx hb dX2_isWeighing_1 (by decide) (fun c1 => ?_) (fun c1 => ?_)
  · replace h := ip c1 h
    refine lv_iconst (v := 0) hx hb dX2_isWeighing_36 (by decide) ?_
    exact W.zret hx hb hr rfl (fun t ht hW => ⟨_, rfl, Option.some.inj h, ht⟩) (fun q hq => absurd hq List.not_mem_nil) dX2_isWeighing_37 hlocks
  replace h := im c1 h
  refine lv_iload_n hx hb dX2_isWeighing_4 rfl (lv_at hl 1 rfl) ?_
  refine lv_iload_n hx hb dX2_isWeighing_5 rfl (lv_at hl 2 rfl) ?_
  refine lv_iand hx hb dX2_isWeighing_6 ?_
  refine lv_if_ne (tgt := 36) hx hb dX2_isWeighing_7 (by decide) (fun c2 => ?_) (fun c2 => ?_)
  · replace h := im c2 h
    refine lv_iconst (v := 0) hx hb dX2_isWeighing_36 (by decide) ?_
    exact W.zret hx hb hr rfl (fun t ht hW => ⟨_, rfl, Option.some.inj h, ht⟩) (fun q hq => absurd hq List.not_mem_nil) dX2_isWeighing_37 hlocks
  replace h := ip c2 h
  refine lv_iload_n hx hb dX2_isWeighing_10 rfl (lv_at hl 1 rfl) ?_
  refine lv_iload_n hx hb dX2_isWeighing_11 rfl (lv_at hl 2 rfl) ?_
  refine lv_ior hx hb dX2_isWeighing_12 ?_
  refine lv_aload_n hx hb dX2_isWeighing_13 rfl (lv_at hl 0 rfl) ?_
  refine va_get (D := D) (ci := 2) (v := .int (x0.1 0)) (C := RX2) (T := TX2) (N := 9) hx hb hts inX2_isWeighing_2 hown hK.1 hP 0 rfl rfl 4 (by decide) (hts (.fieldLink RX2 33 "LyingScale$State" "coins" "I") (List.mem_of_getElem? (i := 1) rfl)) (fun _ h9 => h9) rfl dX2_isWeighing_14 ?_
  refine lv_iushr (v := ((v1 ||| v2).toUInt32 >>> ((x0.1 0).toUInt32 &&& Int32.toUInt32 31)).toInt32) hx hb dX2_isWeighing_17 rfl ?_
  refine lv_if_ne (tgt := 36) hx hb dX2_isWeighing_18 (by decide) (fun c3 => ?_) (fun c3 => ?_)
  · replace h := im c3 h
    refine lv_iconst (v := 0) hx hb dX2_isWeighing_36 (by decide) ?_
    exact W.zret hx hb hr rfl (fun t ht hW => ⟨_, rfl, Option.some.inj h, ht⟩) (fun q hq => absurd hq List.not_mem_nil) dX2_isWeighing_37 hlocks
  replace h := ip c3 h
  refine lv_iload_n hx hb dX2_isWeighing_21 rfl (lv_at hl 1 rfl) ?_
  replace h := bd h
  obtain ⟨t4, et4, h⟩ := h
  refine callRi (v := t4) (va_runS (As := [.int v1]) (rest := []) ⟨hx, hb, hml, hown, hts⟩ (c_J6_bitCount_0f7a4 l D T v1 t4 et4) (va_cwS 1 hts gX2_isWeighing_J6_bitCount_0f7a4 rfl rfl rfl hdS_J6_bitCount_0f7a4 ⟨Nat.le_of_ble_eq_true rfl, Nat.le_of_ble_eq_true rfl⟩) ⟨PB_blind, PB_at (hP.sub (ws' := ([] : va_W)) [] rfl) hK⟩ rfl rfl hl.1 rfl (lv_room (Nat.le_of_ble_eq_true rfl)) dX2_isWeighing_22 ⟨Nat.zero_le _, Nat.zero_le _⟩) ?_
  refine lv_iload_n hx hb dX2_isWeighing_25 rfl (lv_at hl 2 rfl) ?_
  replace h := bd h
  obtain ⟨t5, et5, h⟩ := h
  refine callRi (v := t5) (va_runS (As := [.int v2]) (rest := [.int t4]) ⟨hx, hb, hml, hown, hts⟩ (c_J6_bitCount_0f7a4 l D T v2 t5 et5) (va_cwS 1 hts gX2_isWeighing_J6_bitCount_0f7a4 rfl rfl rfl hdS_J6_bitCount_0f7a4 ⟨Nat.le_of_ble_eq_true rfl, Nat.le_of_ble_eq_true rfl⟩) ⟨PB_blind, PB_at (hP.sub (ws' := ([] : va_W)) [] rfl) hK⟩ rfl rfl hl.1 rfl (lv_room (Nat.le_of_ble_eq_true rfl)) dX2_isWeighing_26 ⟨Nat.zero_le _, Nat.zero_le _⟩) ?_
  refine lv_icmp_ne (tgt := 36) hx hb dX2_isWeighing_29 (by decide) (fun c6 => ?_) (fun c6 => ?_)
  · replace h := im c6 h
    refine lv_iconst (v := 0) hx hb dX2_isWeighing_36 (by decide) ?_
    exact W.zret hx hb hr rfl (fun t ht hW => ⟨_, rfl, Option.some.inj h, ht⟩) (fun q hq => absurd hq List.not_mem_nil) dX2_isWeighing_37 hlocks
  replace h := ip c6 h
  refine lv_iconst (v := 1) hx hb dX2_isWeighing_32 (by decide) ?_
  refine lv_goto (tgt := 37) hx hb dX2_isWeighing_33 (by decide) ?_
  exact W.zret hx hb hr rfl (fun t ht hW => ⟨_, rfl, Option.some.inj h, ht⟩) (fun q hq => absurd hq List.not_mem_nil) dX2_isWeighing_37 hlocks
set_option maxHeartbeats 4000000 in
set_option maxRecDepth 100000 in
theorem c_X2_canLearn (l : Launch) (D : va_G) (T : Nat → ClassId) (a0 : Nat → Nat) (x0 : St) (r : Int32) (h : F_X2_canLearn x0 = some r) : Met l yX2_canLearn wsX2_canLearn ({ frames := 0, cells := 0, slots := 0, locals := 0 } : Room) (va_Pc [.ref (a0 0)] (PB D T (stW T a0 (x0)))) (QRi r) 0 0 (fun _ => False) := by
  refine met_of (cc := cX2_canLearn) (maxL := 1) (ret := (some .boolean)) (lv := [(0, .ref (a0 0))]) (by decide) rfl (Nat.le_of_ble_eq_true rfl) rfl ?_
  intro p e s m args below meth c ls C0 hl hB
  obtain ⟨hx, hb, hr, hml, hown, hts, hlocks, hname⟩ := C0
  obtain ⟨hP, hK⟩ := hB
  unfold F_X2_canLearn at h
  refine lv_aload_n hx hb dX2_canLearn_0 rfl (lv_at hl 0 rfl) ?_
  refine va_get (D := D) (ci := 2) (v := .ref (a0 1)) (C := RX2) (T := TX2) (N := 9) hx hb hts inX2_canLearn_2 hown hK.1 hP 0 rfl rfl 0 (by decide) (hts (.fieldLink RX2 14 "LyingScale$State" "told" "LLyingScale$Weighings;") (List.mem_of_getElem? (i := 1) rfl)) (fun _ h9 => h9) rfl dX2_canLearn_1 ?_
  refine va_getN (D := D) (ci := 3) (v := .int (x0.1 5)) (C := RX3) (T := TX3) (N := 4) hx hb hts inX2_canLearn_3 hown hK.1 hP 1 rfl rfl 3 (by decide) (va_Nw.use rfl (hK.2 (.fieldLinkNest RX2 40 "LyingScale$Weighings" "count" "I" "LyingScale") (List.mem_of_getElem? (i := 6) rfl))) (fun _ h9 => h9) rfl dX2_canLearn_4 ?_
  refine lv_bipush (v := 40) hx hb dX2_canLearn_7 (by decide) ?_
  refine lv_icmp_ge (tgt := 16) hx hb dX2_canLearn_9 (by decide) (fun c1 => ?_) (fun c1 => ?_)
  · replace h := ip c1 h
    refine lv_iconst (v := 0) hx hb dX2_canLearn_16 (by decide) ?_
    exact W.zret hx hb hr rfl (fun t ht hW => ⟨_, rfl, Option.some.inj h, ht⟩) (fun q hq => absurd hq List.not_mem_nil) dX2_canLearn_17 hlocks
  replace h := im c1 h
  refine lv_iconst (v := 1) hx hb dX2_canLearn_12 (by decide) ?_
  refine lv_goto (tgt := 17) hx hb dX2_canLearn_13 (by decide) ?_
  exact W.zret hx hb hr rfl (fun t ht hW => ⟨_, rfl, Option.some.inj h, ht⟩) (fun q hq => absurd hq List.not_mem_nil) dX2_canLearn_17 hlocks
set_option maxHeartbeats 4000000 in
set_option maxRecDepth 100000 in
theorem c_X2_liesIfTold (l : Launch) (D : va_G) (T : Nat → ClassId) (a0 : Nat → Nat) (x0 : St) (v1 : Int32) (v2 : Int32) (v3 : Int32) (v4 : Int32) (r : Int32) (h : F_X2_liesIfTold x0 v1 v2 v3 v4 = some r) : Met l yX2_liesIfTold wsX2_liesIfTold ({ frames := 2, cells := 0, slots := 0, locals := 44 } : Room) (va_Pc [.ref (a0 0), .int v1, .int v2, .int v3, .int v4] (PB D T (stW T a0 (x0)))) (QRi r) 0 0 (fun _ => False) := by
  refine met_of (cc := cX2_liesIfTold) (maxL := 6) (ret := (some .int)) (lv := [(0, .ref (a0 0)), (1, .int v1), (2, .int v2), (3, .int v3), (4, .int v4)]) (by decide) rfl (Nat.le_of_ble_eq_true rfl) rfl ?_
  intro p e s m args below meth c ls C0 hl hB
  obtain ⟨hx, hb, hr, hml, hown, hts, hlocks, hname⟩ := C0
  obtain ⟨hP, hK⟩ := hB
  unfold F_X2_liesIfTold at h
  refine lv_aload_n hx hb dX2_liesIfTold_0 rfl (lv_at hl 0 rfl) ?_
  refine va_get (D := D) (ci := 2) (v := .ref (a0 3)) (C := RX2) (T := TX2) (N := 9) hx hb hts inX2_liesIfTold_2 hown hK.1 hP 0 rfl rfl 2 (by decide) (hts (.fieldLink RX2 23 "LyingScale$State" "liesOf" "[I") (List.mem_of_getElem? (i := 1) rfl)) (fun _ h9 => h9) rfl dX2_liesIfTold_1 ?_
  refine lv_iload_n hx hb dX2_liesIfTold_4 rfl (lv_at hl 1 rfl) ?_
  replace h := bd h
  obtain ⟨t1, et1, h⟩ := h
  refine callRi (v := t1) (va_runSN (As := [.ref (a0 3), .int v1]) (rest := []) ⟨hx, hb, hml, hown, hts⟩ (c_X4_at l D T (a0 3) 33 (x0.2 6) v1 (Nat.le_of_ble_eq_true rfl) t1 et1) ⟨va_cnB 2 hts gX2_liesIfTold_X4_at_n89 rfl rfl rfl (hK.2 (.methodLinkNest RX2 89 yX4_at "LyingScale") (List.mem_of_getElem? (i := 11) rfl)) (hts (.initialized RX4) (List.mem_of_getElem? (i := 3) rfl)) hdS_X4_at ⟨Nat.le_of_ble_eq_true rfl, Nat.le_of_ble_eq_true rfl⟩, (hts (.static yX4_at) (List.mem_of_getElem? (i := 2) rfl)), trivial⟩ ⟨PB_blind, PB_at (hP.sub (ws' := ([(a0 3, .inl (T 0, 33, .inl (x0.2 6)))] : va_W)) [3] rfl) hK⟩ rfl rfl hl.1 rfl (lv_room (Nat.le_of_ble_eq_true rfl)) dX2_liesIfTold_5 ⟨Nat.zero_le _, Nat.zero_le _⟩) ?_
  refine lv_istore (lv' := [(5, .int t1), (0, .ref (a0 0)), (1, .int v1), (2, .int v2), (3, .int v3), (4, .int v4)]) hx hb dX2_liesIfTold_8 hl (by decide) rfl (fun ls hl => ?_)
  refine lv_iload_n hx hb dX2_liesIfTold_10 rfl (lv_at hl 2 rfl) ?_
  refine lv_iload_n hx hb dX2_liesIfTold_11 rfl (lv_at hl 3 rfl) ?_
  refine lv_iload_n hx hb dX2_liesIfTold_12 rfl (lv_at hl 4 rfl) ?_
  replace h := bd h
  obtain ⟨t2, et2, h⟩ := h
  refine callRi (v := t2) (va_runSN (As := [.int v1, .int v2, .int v3]) (rest := []) ⟨hx, hb, hml, hown, hts⟩ (c_X4_trueAnswer l D T v1 v2 v3 t2 et2) ⟨va_cnB 3 hts gX2_liesIfTold_X4_trueAnswer_n93 rfl rfl rfl (hK.2 (.methodLinkNest RX2 93 yX4_trueAnswer "LyingScale") (List.mem_of_getElem? (i := 12) rfl)) (hts (.initialized RX4) (List.mem_of_getElem? (i := 3) rfl)) hdS_X4_trueAnswer ⟨Nat.le_of_ble_eq_true rfl, Nat.le_of_ble_eq_true rfl⟩, (hts (.static yX4_trueAnswer) (List.mem_of_getElem? (i := 5) rfl)), trivial⟩ ⟨PB_blind, PB_at (hP.sub (ws' := ([] : va_W)) [] rfl) hK⟩ rfl rfl hl.1 rfl (lv_room (Nat.le_of_ble_eq_true rfl)) dX2_liesIfTold_13 ⟨Nat.zero_le _, Nat.zero_le _⟩) ?_
  refine lv_iload hx hb dX2_liesIfTold_16 (lv_at hl 5 rfl) ?_
  refine lv_icmp_ne (tgt := 26) hx hb dX2_liesIfTold_18 (by decide) (fun c3 => ?_) (fun c3 => ?_)
  · replace h := im c3 h
    refine lv_iload hx hb dX2_liesIfTold_26 (lv_at hl 0 rfl) ?_
    refine lv_iconst (v := 1) hx hb dX2_liesIfTold_28 (by decide) ?_
    refine lv_iadd hx hb dX2_liesIfTold_29 ?_
    exact W.iret hx hb hr (fun t ht hW => ⟨_, rfl, Option.some.inj h, ht⟩) (fun q hq => absurd hq List.not_mem_nil) dX2_liesIfTold_30 hlocks
  replace h := ip c3 h
  refine lv_iload hx hb dX2_liesIfTold_21 (lv_at hl 0 rfl) ?_
  refine lv_goto (tgt := 30) hx hb dX2_liesIfTold_23 (by decide) ?_
  exact W.iret hx hb hr (fun t ht hW => ⟨_, rfl, Option.some.inj h, ht⟩) (fun q hq => absurd hq List.not_mem_nil) dX2_liesIfTold_30 hlocks
set_option maxHeartbeats 4000000 in
set_option maxRecDepth 100000 in
theorem c_X2_learn (l : Launch) (D : va_G) (T : Nat → ClassId) (a0 : Nat → Nat) (x0 : St) (v1 : Int32) (v2 : Int32) (v3 : Int32) (sz : Nat) (r : St) (h : F_X2_learn x0 v1 v2 v3 = some r) : Met l yX2_learn wsX2_learn ({ frames := 3, cells := 0, slots := 0, locals := 69 } : Room) (va_Pc [.ref (a0 0), .int v1, .int v2, .int v3] (PM D T (stW T a0 (x0)) sz)) (QMv D (stW T a0 (r)) (va_A (stW T a0 (x0)) sz)) 0 0 (va_A (stW T a0 (x0)) sz) := by
  refine met_of (cc := cX2_learn) (maxL := 5) (ret := none) (lv := [(0, .ref (a0 0)), (1, .int v1), (2, .int v2), (3, .int v3)]) (by decide) rfl (Nat.le_of_ble_eq_true rfl) rfl ?_
  intro p e s m args below meth c ls C0 hl hB
  obtain ⟨hx, hb, hr, hml, hown, hts, hlocks, hname⟩ := C0
  obtain ⟨hsz, hP, hK, hD0⟩ := hB
  subst hsz
  have hD := hD0.self (sz := s.heap.size)
  generalize hAe : va_A (stW T a0 (x0)) s.heap.size = A at hD ⊢
  have hA : ∀ q : Nat, s.heap.size ≤ q → A q := fun q h => by rw [← hAe]; exact Or.inr h
  obtain ⟨H, hH⟩ : ∃ H, H = s.heap := ⟨_, rfl⟩
  obtain ⟨locs, hlo⟩ : ∃ L : List Loc, L = [] := ⟨_, rfl⟩
  have hS : va_S A s.heap s.heap [] := va_S.rf
  rw [← hH] at hP ⊢
  rw [← hlo]
  replace hS : va_S A s.heap H locs := by rw [hH, hlo]; exact hS
  clear hH hlo
  unfold F_X2_learn at h
  refine lv_aload_n hx hb dX2_learn_0 rfl (lv_at hl 0 rfl) ?_
  refine va_get (D := D) (ci := 2) (v := .ref (a0 1)) (C := RX2) (T := TX2) (N := 9) hx hb hts inX2_learn_2 hown hK.1 hP 0 rfl rfl 0 (by decide) (hts (.fieldLink RX2 14 "LyingScale$State" "told" "LLyingScale$Weighings;") (List.mem_of_getElem? (i := 1) rfl)) (fun _ h9 => h9) rfl dX2_learn_1 ?_
  refine lv_iload_n hx hb dX2_learn_4 rfl (lv_at hl 1 rfl) ?_
  refine lv_iload_n hx hb dX2_learn_5 rfl (lv_at hl 2 rfl) ?_
  refine lv_iload_n hx hb dX2_learn_6 rfl (lv_at hl 3 rfl) ?_
  replace h := bd h
  obtain ⟨t1, et1, h⟩ := h
  refine callMv (wr := [(a0 0, .inr (2, [.ref (a0 1), .ref (a0 2), .ref (a0 3), .ref (a0 4), .int (x0.1 0), .int (x0.1 1), .int (x0.1 2), .int (x0.1 3), .int (x0.1 4)])), (a0 2, .inr (3, [.ref (a0 8), .ref (a0 9), .ref (a0 10), .int (x0.1 6)])), (a0 3, .inl (T 0, 33, .inl (x0.2 6))), (a0 4, .inl (T 0, 33, .inl (x0.2 7))), (a0 8, .inl (T 0, 8, .inl (x0.2 3))), (a0 9, .inl (T 0, 8, .inl (x0.2 4))), (a0 10, .inl (T 0, 8, .inl (x0.2 5)))]) (ws' := stW T a0 (tdU x0 t1)) (va_runV (As := [.int v1, .int v2, .int v3]) (rest := []) ⟨hx, hb, hml, hown, hts⟩ (c_X3_write l D T (tdA a0) 40 (tdS x0) v1 v2 v3 _ (Nat.le_of_ble_eq_true rfl) t1 et1) (cwV 3 hts gX2_learn_X3_write rfl rfl rfl hdV_X3_write ⟨Nat.le_of_ble_eq_true rfl, Nat.le_of_ble_eq_true rfl⟩) ⟨PM_blind, va_recv hK.1 hP (ci := 3) (q0 := 1) rfl rfl, PM_at (hP.sub (ws' := wgW T 40 (tdA a0) (tdS x0)) [1, 5, 6, 7] rfl) (hD.sub (ws' := wgW T 40 (tdA a0) (tdS x0)) [1, 5, 6, 7] (by decide) rfl) hK⟩ rfl rfl hl.1 rfl (lv_room (Nat.le_of_ble_eq_true rfl)) dX2_learn_7 ⟨Nat.zero_le _, Nat.zero_le _⟩) hS hA hP hD [1, 5, 6, 7] [0, 2, 3, 4, 8, 9, 10] rfl rfl (by decide) (by decide) [0, 7, 1, 2, 3, 8, 9, 10, 4, 5, 6] (by decide) rfl (fun H locs hP hD hS => ?_)
  refine lv_iconst (v := 0) hx hb dX2_learn_10 (by decide) ?_
  refine lv_istore (lv' := [(4, .int 0), (0, .ref (a0 0)), (1, .int v1), (2, .int v2), (3, .int v3)]) hx hb dX2_learn_11 hl (by decide) rfl (fun ls hl => ?_)
  have K13 : ∀ (n13 : Nat) (i4_13 : Int32) (x0_13 : St) (H : Heap) (locs : List Loc) (ls : Array Slot), fx2 (B_X2_learn_13 v1 v2 v3) n13 i4_13 x0_13 = some r → va_P D vwCl (stW T a0 (x0_13)) H → va_D A (stW T a0 (x0_13)) → va_S A s.heap H locs → lv_has ls 5 [(0, .ref (a0 0)), (1, .int v1), (2, .int v2), (3, .int v3), (4, .int i4_13)] → W p l e ({ frames := 3, cells := 0, slots := 0, locals := 69 } : Room) s m args below meth c H locs 0 0 (MQ below (QMv D (stW T a0 (r)) A) args s 0 0 (A)) (F0 m 13 ls []) := by
    intro n13
    induction n13 with
    | zero =>
        intro i4_13 x0_13 H locs ls h
        cases h
    | succ n13 ih13 =>
        intro i4_13 x0_13 H locs ls h hP hD hS hl
        replace h : B_X2_learn_13 v1 v2 v3 (fx2 (B_X2_learn_13 v1 v2 v3) n13) i4_13 x0_13 = some r := h
        unfold B_X2_learn_13 at h
        refine lv_iload hx hb dX2_learn_13 (lv_at hl 4 rfl) ?_
        refine lv_aload_n hx hb dX2_learn_15 rfl (lv_at hl 0 rfl) ?_
        replace h := bd h
        obtain ⟨t2, et2, h⟩ := h
        refine callRi (v := t2) (va_runV (As := []) (rest := [.int i4_13]) ⟨hx, hb, hml, hown, hts⟩ (c_X2_cases l D T a0 x0_13 t2 et2) (cwV 0 hts gX2_learn_X2_cases rfl rfl rfl hdV_X2_cases ⟨Nat.le_of_ble_eq_true rfl, Nat.le_of_ble_eq_true rfl⟩) ⟨PB_blind, va_recv hK.1 hP (ci := 2) (q0 := 0) rfl rfl, PB_at hP hK⟩ rfl rfl hl.1 rfl (lv_room (Nat.le_of_ble_eq_true rfl)) dX2_learn_16 ⟨Nat.zero_le _, Nat.zero_le _⟩) ?_
        refine lv_icmp_ge (tgt := 46) hx hb dX2_learn_19 (by decide) (fun c3 => ?_) (fun c3 => ?_)
        · replace h := ip c3 h
          obtain rfl := Option.some.inj h
          exact W.vret hx hb hr (fun t ht hW => ⟨⟨(), rfl, trivial, by rw [ht]; exact hP, hD⟩, hS.F ht⟩) hS.2.2 dX2_learn_46 hlocks
        replace h := im c3 h
        refine lv_aload_n hx hb dX2_learn_22 rfl (lv_at hl 0 rfl) ?_
        refine va_get (D := D) (ci := 2) (v := .ref (a0 3)) (C := RX2) (T := TX2) (N := 9) hx hb hts inX2_learn_2 hown hK.1 hP 0 rfl rfl 2 (by decide) (hts (.fieldLink RX2 23 "LyingScale$State" "liesOf" "[I") (List.mem_of_getElem? (i := 2) rfl)) (fun _ h9 => h9) rfl dX2_learn_23 ?_
        refine lv_iload hx hb dX2_learn_26 (lv_at hl 4 rfl) ?_
        refine lv_aload_n hx hb dX2_learn_28 rfl (lv_at hl 0 rfl) ?_
        refine lv_iload hx hb dX2_learn_29 (lv_at hl 4 rfl) ?_
        refine lv_iload_n hx hb dX2_learn_31 rfl (lv_at hl 1 rfl) ?_
        refine lv_iload_n hx hb dX2_learn_32 rfl (lv_at hl 2 rfl) ?_
        refine lv_iload_n hx hb dX2_learn_33 rfl (lv_at hl 3 rfl) ?_
        replace h := bd h
        obtain ⟨t4, et4, h⟩ := h
        refine callRi (v := t4) (va_runV (As := [.int i4_13, .int v1, .int v2, .int v3]) (rest := [.int i4_13, .ref (a0 3)]) ⟨hx, hb, hml, hown, hts⟩ (c_X2_liesIfTold l D T a0 x0_13 i4_13 v1 v2 v3 t4 et4) (cwV 4 hts gX2_learn_X2_liesIfTold rfl rfl rfl hdV_X2_liesIfTold ⟨Nat.le_of_ble_eq_true rfl, Nat.le_of_ble_eq_true rfl⟩) ⟨PB_blind, va_recv hK.1 hP (ci := 2) (q0 := 0) rfl rfl, PB_at hP hK⟩ rfl rfl hl.1 rfl (lv_room (Nat.le_of_ble_eq_true rfl)) dX2_learn_34 ⟨Nat.zero_le _, Nat.zero_le _⟩) ?_
        replace h := bd h
        obtain ⟨t5, et5, h⟩ := h
        refine callMv (wr := [(a0 0, .inr (2, [.ref (a0 1), .ref (a0 2), .ref (a0 3), .ref (a0 4), .int (x0_13.1 0), .int (x0_13.1 1), .int (x0_13.1 2), .int (x0_13.1 3), .int (x0_13.1 4)])), (a0 1, .inr (3, [.ref (a0 5), .ref (a0 6), .ref (a0 7), .int (x0_13.1 5)])), (a0 2, .inr (3, [.ref (a0 8), .ref (a0 9), .ref (a0 10), .int (x0_13.1 6)])), (a0 4, .inl (T 0, 33, .inl (x0_13.2 7))), (a0 5, .inl (T 0, 40, .inl (x0_13.2 0))), (a0 6, .inl (T 0, 40, .inl (x0_13.2 1))), (a0 7, .inl (T 0, 40, .inl (x0_13.2 2))), (a0 8, .inl (T 0, 8, .inl (x0_13.2 3))), (a0 9, .inl (T 0, 8, .inl (x0_13.2 4))), (a0 10, .inl (T 0, 8, .inl (x0_13.2 5)))]) (ws' := stW T a0 (sA x0_13 6 t5)) (va_runSN (As := [.ref (a0 3), .int i4_13, .int t4]) (rest := []) ⟨hx, hb, hml, hown, hts⟩ (c_X4_put l D T (a0 3) 33 (x0_13.2 6) i4_13 t4 _ (Nat.le_of_ble_eq_true rfl) t5 et5) ⟨va_cnB 3 hts gX2_learn_X4_put_n85 rfl rfl rfl (hK.2 (.methodLinkNest RX2 85 yX4_put "LyingScale") (List.mem_of_getElem? (i := 10) rfl)) (hts (.initialized RX4) (List.mem_of_getElem? (i := 13) rfl)) hdS_X4_put ⟨Nat.le_of_ble_eq_true rfl, Nat.le_of_ble_eq_true rfl⟩, (hts (.static yX4_put) (List.mem_of_getElem? (i := 12) rfl)), trivial⟩ ⟨PM_blind, PM_at (hP.sub (ws' := ([(a0 3, .inl (T 0, 33, .inl (x0_13.2 6)))] : va_W)) [3] rfl) (hD.sub (ws' := ([(a0 3, .inl (T 0, 33, .inl (x0_13.2 6)))] : va_W)) [3] (by decide) rfl) hK⟩ rfl rfl hl.1 rfl (lv_room (Nat.le_of_ble_eq_true rfl)) dX2_learn_37 ⟨Nat.zero_le _, Nat.zero_le _⟩) hS hA hP hD [3] [0, 1, 2, 4, 5, 6, 7, 8, 9, 10] rfl rfl (by decide) (by decide) [0, 1, 2, 10, 3, 4, 5, 6, 7, 8, 9] (by decide) rfl (fun H locs hP hD hS => ?_)
        refine lv_iinc (v := i4_13 + 1) (lv' := [(4, .int (i4_13 + 1)), (0, .ref (a0 0)), (1, .int v1), (2, .int v2), (3, .int v3)]) hx hb dX2_learn_40 hl (k := 4) rfl rfl (by decide) rfl (fun ls hl => ?_)
        refine lv_goto (tgt := 13) hx hb dX2_learn_43 (by decide) ?_
        exact ih13 (i4_13 + 1) (sA x0_13 6 t5) _ _ ls h hP hD hS (lv_sub hl [1, 2, 3, 4, 0] rfl)
  exact K13 1000 0 (tdU x0 t1) _ _ ls h hP hD hS (lv_sub hl [1, 2, 3, 4, 0] rfl)
set_option maxHeartbeats 4000000 in
set_option maxRecDepth 100000 in
theorem c_X2_forgetTold (l : Launch) (D : va_G) (T : Nat → ClassId) (a0 : Nat → Nat) (x0 : St) (sz : Nat) (r : St) (h : F_X2_forgetTold x0 = some r) : Met l yX2_forgetTold wsX2_forgetTold ({ frames := 1, cells := 0, slots := 0, locals := 22 } : Room) (va_Pc [.ref (a0 0)] (PM D T (stW T a0 (x0)) sz)) (QMv D (stW T a0 (r)) (va_A (stW T a0 (x0)) sz)) 0 0 (va_A (stW T a0 (x0)) sz) := by
  refine met_of (cc := cX2_forgetTold) (maxL := 2) (ret := none) (lv := [(0, .ref (a0 0))]) (by decide) rfl (Nat.le_of_ble_eq_true rfl) rfl ?_
  intro p e s m args below meth c ls C0 hl hB
  obtain ⟨hx, hb, hr, hml, hown, hts, hlocks, hname⟩ := C0
  obtain ⟨hsz, hP, hK, hD0⟩ := hB
  subst hsz
  have hD := hD0.self (sz := s.heap.size)
  generalize hAe : va_A (stW T a0 (x0)) s.heap.size = A at hD ⊢
  have hA : ∀ q : Nat, s.heap.size ≤ q → A q := fun q h => by rw [← hAe]; exact Or.inr h
  obtain ⟨H, hH⟩ : ∃ H, H = s.heap := ⟨_, rfl⟩
  obtain ⟨locs, hlo⟩ : ∃ L : List Loc, L = [] := ⟨_, rfl⟩
  have hS : va_S A s.heap s.heap [] := va_S.rf
  rw [← hH] at hP ⊢
  rw [← hlo]
  replace hS : va_S A s.heap H locs := by rw [hH, hlo]; exact hS
  clear hH hlo
  unfold F_X2_forgetTold at h
  refine lv_aload_n hx hb dX2_forgetTold_0 rfl (lv_at hl 0 rfl) ?_
  refine va_get (D := D) (ci := 2) (v := .ref (a0 1)) (C := RX2) (T := TX2) (N := 9) hx hb hts inX2_forgetTold_2 hown hK.1 hP 0 rfl rfl 0 (by decide) (hts (.fieldLink RX2 14 "LyingScale$State" "told" "LLyingScale$Weighings;") (List.mem_of_getElem? (i := 1) rfl)) (fun _ h9 => h9) rfl dX2_forgetTold_1 ?_
  refine lv_iconst (v := 0) hx hb dX2_forgetTold_4 (by decide) ?_
  refine va_putN (D := D) (ci := 3) (v := .int 0) (ty := .int) (C := RX3) (T := TX3) (N := 4) hx hb hts inX2_forgetTold_3 tyX3 tyX3_ok nmX3 hown hK.1 hP hD hS 1 rfl rfl 3 (by decide) (va_Nw.use rfl (hK.2 (.fieldLinkNest RX2 40 "LyingScale$Weighings" "count" "I" "LyingScale") (List.mem_of_getElem? (i := 6) rfl))) (fun _ h9 => h9) rfl (by decide +kernel) rfl rfl (Nat.le_of_ble_eq_true rfl) dX2_forgetTold_5 (fun H locs hP hD hS => ?_)
  replace hP : va_P D vwCl (stW T a0 (sI x0 5 0)) H := hP
  replace hD : va_D A (stW T a0 (sI x0 5 0)) := hD
  refine lv_iconst (v := 0) hx hb dX2_forgetTold_8 (by decide) ?_
  refine lv_istore_n (lv' := [(1, .int 0), (0, .ref (a0 0))]) hx hb dX2_forgetTold_9 rfl hl (by decide) rfl (fun ls hl => ?_)
  have K10 : ∀ (n10 : Nat) (i1_10 : Int32) (x0_10 : St) (H : Heap) (locs : List Loc) (ls : Array Slot), fx2 (B_X2_forgetTold_10) n10 i1_10 x0_10 = some r → va_P D vwCl (stW T a0 (x0_10)) H → va_D A (stW T a0 (x0_10)) → va_S A s.heap H locs → lv_has ls 2 [(0, .ref (a0 0)), (1, .int i1_10)] → W p l e ({ frames := 1, cells := 0, slots := 0, locals := 22 } : Room) s m args below meth c H locs 0 0 (MQ below (QMv D (stW T a0 (r)) A) args s 0 0 (A)) (F0 m 10 ls []) := by
    intro n10
    induction n10 with
    | zero =>
        intro i1_10 x0_10 H locs ls h
        cases h
    | succ n10 ih10 =>
        intro i1_10 x0_10 H locs ls h hP hD hS hl
        replace h : B_X2_forgetTold_10 (fx2 (B_X2_forgetTold_10) n10) i1_10 x0_10 = some r := h
        unfold B_X2_forgetTold_10 at h
        refine lv_iload_n hx hb dX2_forgetTold_10 rfl (lv_at hl 1 rfl) ?_
        refine lv_bipush (v := 33) hx hb dX2_forgetTold_11 (by decide) ?_
        refine lv_icmp_ge (tgt := 31) hx hb dX2_forgetTold_13 (by decide) (fun c1 => ?_) (fun c1 => ?_)
        · replace h := ip c1 h
          obtain rfl := Option.some.inj h
          exact W.vret hx hb hr (fun t ht hW => ⟨⟨(), rfl, trivial, by rw [ht]; exact hP, hD⟩, hS.F ht⟩) hS.2.2 dX2_forgetTold_31 hlocks
        replace h := im c1 h
        refine lv_aload_n hx hb dX2_forgetTold_16 rfl (lv_at hl 0 rfl) ?_
        refine va_get (D := D) (ci := 2) (v := .ref (a0 3)) (C := RX2) (T := TX2) (N := 9) hx hb hts inX2_forgetTold_2 hown hK.1 hP 0 rfl rfl 2 (by decide) (hts (.fieldLink RX2 23 "LyingScale$State" "liesOf" "[I") (List.mem_of_getElem? (i := 2) rfl)) (fun _ h9 => h9) rfl dX2_forgetTold_17 ?_
        refine lv_iload_n hx hb dX2_forgetTold_20 rfl (lv_at hl 1 rfl) ?_
        refine lv_iconst (v := 0) hx hb dX2_forgetTold_21 (by decide) ?_
        replace h := bd h
        obtain ⟨t2, et2, h⟩ := h
        refine callMv (wr := [(a0 0, .inr (2, [.ref (a0 1), .ref (a0 2), .ref (a0 3), .ref (a0 4), .int (x0_10.1 0), .int (x0_10.1 1), .int (x0_10.1 2), .int (x0_10.1 3), .int (x0_10.1 4)])), (a0 1, .inr (3, [.ref (a0 5), .ref (a0 6), .ref (a0 7), .int (x0_10.1 5)])), (a0 2, .inr (3, [.ref (a0 8), .ref (a0 9), .ref (a0 10), .int (x0_10.1 6)])), (a0 4, .inl (T 0, 33, .inl (x0_10.2 7))), (a0 5, .inl (T 0, 40, .inl (x0_10.2 0))), (a0 6, .inl (T 0, 40, .inl (x0_10.2 1))), (a0 7, .inl (T 0, 40, .inl (x0_10.2 2))), (a0 8, .inl (T 0, 8, .inl (x0_10.2 3))), (a0 9, .inl (T 0, 8, .inl (x0_10.2 4))), (a0 10, .inl (T 0, 8, .inl (x0_10.2 5)))]) (ws' := stW T a0 (sA x0_10 6 t2)) (va_runSN (As := [.ref (a0 3), .int i1_10, .int 0]) (rest := []) ⟨hx, hb, hml, hown, hts⟩ (c_X4_put l D T (a0 3) 33 (x0_10.2 6) i1_10 0 _ (Nat.le_of_ble_eq_true rfl) t2 et2) ⟨va_cnB 3 hts gX2_forgetTold_X4_put_n85 rfl rfl rfl (hK.2 (.methodLinkNest RX2 85 yX4_put "LyingScale") (List.mem_of_getElem? (i := 10) rfl)) (hts (.initialized RX4) (List.mem_of_getElem? (i := 4) rfl)) hdS_X4_put ⟨Nat.le_of_ble_eq_true rfl, Nat.le_of_ble_eq_true rfl⟩, (hts (.static yX4_put) (List.mem_of_getElem? (i := 3) rfl)), trivial⟩ ⟨PM_blind, PM_at (hP.sub (ws' := ([(a0 3, .inl (T 0, 33, .inl (x0_10.2 6)))] : va_W)) [3] rfl) (hD.sub (ws' := ([(a0 3, .inl (T 0, 33, .inl (x0_10.2 6)))] : va_W)) [3] (by decide) rfl) hK⟩ rfl rfl hl.1 rfl (lv_room (Nat.le_of_ble_eq_true rfl)) dX2_forgetTold_22 ⟨Nat.zero_le _, Nat.zero_le _⟩) hS hA hP hD [3] [0, 1, 2, 4, 5, 6, 7, 8, 9, 10] rfl rfl (by decide) (by decide) [0, 1, 2, 10, 3, 4, 5, 6, 7, 8, 9] (by decide) rfl (fun H locs hP hD hS => ?_)
        refine lv_iinc (v := i1_10 + 1) (lv' := [(1, .int (i1_10 + 1)), (0, .ref (a0 0))]) hx hb dX2_forgetTold_25 hl (k := 1) rfl rfl (by decide) rfl (fun ls hl => ?_)
        refine lv_goto (tgt := 10) hx hb dX2_forgetTold_28 (by decide) ?_
        exact ih10 (i1_10 + 1) (sA x0_10 6 t2) _ _ ls h hP hD hS (lv_sub hl [1, 0] rfl)
  exact K10 1000 0 (sI x0 5 0) _ _ ls h hP hD hS (lv_sub hl [1, 0] rfl)
set_option maxHeartbeats 4000000 in
set_option maxRecDepth 100000 in
theorem c_X2_hideCase (l : Launch) (D : va_G) (T : Nat → ClassId) (a0 : Nat → Nat) (x0 : St) (v1 : Int32) (v2 : Int32) (sz : Nat) (r : St) (h : F_X2_hideCase x0 v1 v2 = some r) : Met l yX2_hideCase wsX2_hideCase ({ frames := 0, cells := 0, slots := 0, locals := 0 } : Room) (va_Pc [.ref (a0 0), .int v1, .int v2] (PM D T (stW T a0 (x0)) sz)) (QMv D (stW T a0 (r)) (va_A (stW T a0 (x0)) sz)) 0 0 (va_A (stW T a0 (x0)) sz) := by
  refine met_of (cc := cX2_hideCase) (maxL := 3) (ret := none) (lv := [(0, .ref (a0 0)), (1, .int v1), (2, .int v2)]) (by decide) rfl (Nat.le_of_ble_eq_true rfl) rfl ?_
  intro p e s m args below meth c ls C0 hl hB
  obtain ⟨hx, hb, hr, hml, hown, hts, hlocks, hname⟩ := C0
  obtain ⟨hsz, hP, hK, hD0⟩ := hB
  subst hsz
  have hD := hD0.self (sz := s.heap.size)
  generalize hAe : va_A (stW T a0 (x0)) s.heap.size = A at hD ⊢
  have hA : ∀ q : Nat, s.heap.size ≤ q → A q := fun q h => by rw [← hAe]; exact Or.inr h
  obtain ⟨H, hH⟩ : ∃ H, H = s.heap := ⟨_, rfl⟩
  obtain ⟨locs, hlo⟩ : ∃ L : List Loc, L = [] := ⟨_, rfl⟩
  have hS : va_S A s.heap s.heap [] := va_S.rf
  rw [← hH] at hP ⊢
  rw [← hlo]
  replace hS : va_S A s.heap H locs := by rw [hH, hlo]; exact hS
  clear hH hlo
  unfold F_X2_hideCase at h
  refine lv_aload_n hx hb dX2_hideCase_0 rfl (lv_at hl 0 rfl) ?_
  refine lv_iload_n hx hb dX2_hideCase_1 rfl (lv_at hl 1 rfl) ?_
  refine va_put (D := D) (ci := 2) (v := .int v1) (ty := .int) (C := RX2) (T := TX2) (N := 9) hx hb hts inX2_hideCase_2 tyX2 tyX2_ok nmX2 hown hK.1 hP hD hS 0 rfl rfl 6 (by decide) (hts (.fieldLink RX2 58 "LyingScale$State" "hidden" "I") (List.mem_of_getElem? (i := 1) rfl)) (fun _ h9 => h9) rfl (by decide +kernel) rfl rfl (Nat.le_of_ble_eq_true rfl) dX2_hideCase_2 (fun H locs hP hD hS => ?_)
  replace hP : va_P D vwCl (stW T a0 (sI x0 2 v1)) H := hP
  replace hD : va_D A (stW T a0 (sI x0 2 v1)) := hD
  refine lv_aload_n hx hb dX2_hideCase_5 rfl (lv_at hl 0 rfl) ?_
  refine lv_iload_n hx hb dX2_hideCase_6 rfl (lv_at hl 2 rfl) ?_
  refine va_put (D := D) (ci := 2) (v := .int v2) (ty := .int) (C := RX2) (T := TX2) (N := 9) hx hb hts inX2_hideCase_2 tyX2 tyX2_ok nmX2 hown hK.1 hP hD hS 0 rfl rfl 7 (by decide) (hts (.fieldLink RX2 61 "LyingScale$State" "lieSet" "I") (List.mem_of_getElem? (i := 2) rfl)) (fun _ h9 => h9) rfl (by decide +kernel) rfl rfl (Nat.le_of_ble_eq_true rfl) dX2_hideCase_7 (fun H locs hP hD hS => ?_)
  replace hP : va_P D vwCl (stW T a0 (sI (sI x0 2 v1) 3 v2)) H := hP
  replace hD : va_D A (stW T a0 (sI (sI x0 2 v1) 3 v2)) := hD
  refine lv_aload_n hx hb dX2_hideCase_10 rfl (lv_at hl 0 rfl) ?_
  refine lv_iconst (v := 0) hx hb dX2_hideCase_11 (by decide) ?_
  refine va_put (D := D) (ci := 2) (v := .int 0) (ty := .int) (C := RX2) (T := TX2) (N := 9) hx hb hts inX2_hideCase_2 tyX2 tyX2_ok nmX2 hown hK.1 hP hD hS 0 rfl rfl 8 (by decide) (hts (.fieldLink RX2 64 "LyingScale$State" "answered" "I") (List.mem_of_getElem? (i := 3) rfl)) (fun _ h9 => h9) rfl (by decide +kernel) rfl rfl (Nat.le_of_ble_eq_true rfl) dX2_hideCase_12 (fun H locs hP hD hS => ?_)
  replace hP : va_P D vwCl (stW T a0 (sI (sI (sI x0 2 v1) 3 v2) 4 0)) H := hP
  replace hD : va_D A (stW T a0 (sI (sI (sI x0 2 v1) 3 v2) 4 0)) := hD
  obtain rfl := Option.some.inj h
  exact W.vret hx hb hr (fun t ht hW => ⟨⟨(), rfl, trivial, by rw [ht]; exact hP, hD⟩, hS.F ht⟩) hS.2.2 dX2_hideCase_15 hlocks
set_option maxHeartbeats 4000000 in
set_option maxRecDepth 100000 in
theorem c_X2_start (l : Launch) (D : va_G) (T : Nat → ClassId) (a0 : Nat → Nat) (x0 : St) (v1 : Int32) (sz : Nat) (r : St) (h : F_X2_start x0 v1 = some r) : Met l yX2_start wsX2_start ({ frames := 2, cells := 0, slots := 0, locals := 43 } : Room) (va_Pc [.ref (a0 0), .int v1] (PM D T (stW T a0 (x0)) sz)) (QMv D (stW T a0 (r)) (va_A (stW T a0 (x0)) sz)) 0 0 (va_A (stW T a0 (x0)) sz) := by
  refine met_of (cc := cX2_start) (maxL := 2) (ret := none) (lv := [(0, .ref (a0 0)), (1, .int v1)]) (by decide) rfl (Nat.le_of_ble_eq_true rfl) rfl ?_
  intro p e s m args below meth c ls C0 hl hB
  obtain ⟨hx, hb, hr, hml, hown, hts, hlocks, hname⟩ := C0
  obtain ⟨hsz, hP, hK, hD0⟩ := hB
  subst hsz
  have hD := hD0.self (sz := s.heap.size)
  generalize hAe : va_A (stW T a0 (x0)) s.heap.size = A at hD ⊢
  have hA : ∀ q : Nat, s.heap.size ≤ q → A q := fun q h => by rw [← hAe]; exact Or.inr h
  obtain ⟨H, hH⟩ : ∃ H, H = s.heap := ⟨_, rfl⟩
  obtain ⟨locs, hlo⟩ : ∃ L : List Loc, L = [] := ⟨_, rfl⟩
  have hS : va_S A s.heap s.heap [] := va_S.rf
  rw [← hH] at hP ⊢
  rw [← hlo]
  replace hS : va_S A s.heap H locs := by rw [hH, hlo]; exact hS
  clear hH hlo
  unfold F_X2_start at h
  refine lv_aload_n hx hb dX2_start_0 rfl (lv_at hl 0 rfl) ?_
  refine lv_iload_n hx hb dX2_start_1 rfl (lv_at hl 1 rfl) ?_
  refine va_put (D := D) (ci := 2) (v := .int v1) (ty := .int) (C := RX2) (T := TX2) (N := 9) hx hb hts inX2_start_2 tyX2 tyX2_ok nmX2 hown hK.1 hP hD hS 0 rfl rfl 4 (by decide) (hts (.fieldLink RX2 33 "LyingScale$State" "coins" "I") (List.mem_of_getElem? (i := 1) rfl)) (fun _ h9 => h9) rfl (by decide +kernel) rfl rfl (Nat.le_of_ble_eq_true rfl) dX2_start_2 (fun H locs hP hD hS => ?_)
  replace hP : va_P D vwCl (stW T a0 (sI x0 0 v1)) H := hP
  replace hD : va_D A (stW T a0 (sI x0 0 v1)) := hD
  refine lv_aload_n hx hb dX2_start_5 rfl (lv_at hl 0 rfl) ?_
  refine lv_iconst (v := 1) hx hb dX2_start_6 (by decide) ?_
  refine va_put (D := D) (ci := 2) (v := .int 1) (ty := .int) (C := RX2) (T := TX2) (N := 9) hx hb hts inX2_start_2 tyX2 tyX2_ok nmX2 hown hK.1 hP hD hS 0 rfl rfl 5 (by decide) (hts (.fieldLink RX2 37 "LyingScale$State" "limit" "I") (List.mem_of_getElem? (i := 2) rfl)) (fun _ h9 => h9) rfl (by decide +kernel) rfl rfl (Nat.le_of_ble_eq_true rfl) dX2_start_7 (fun H locs hP hD hS => ?_)
  replace hP : va_P D vwCl (stW T a0 (sI (sI x0 0 v1) 1 1)) H := hP
  replace hD : va_D A (stW T a0 (sI (sI x0 0 v1) 1 1)) := hD
  refine lv_aload_n hx hb dX2_start_10 rfl (lv_at hl 0 rfl) ?_
  refine va_get (D := D) (ci := 2) (v := .ref (a0 2)) (C := RX2) (T := TX2) (N := 9) hx hb hts inX2_start_2 hown hK.1 hP 0 rfl rfl 1 (by decide) (hts (.fieldLink RX2 20 "LyingScale$State" "plan" "LLyingScale$Weighings;") (List.mem_of_getElem? (i := 3) rfl)) (fun _ h9 => h9) rfl dX2_start_11 ?_
  refine lv_iconst (v := 0) hx hb dX2_start_14 (by decide) ?_
  refine va_putN (D := D) (ci := 3) (v := .int 0) (ty := .int) (C := RX3) (T := TX3) (N := 4) hx hb hts inX2_start_3 tyX3 tyX3_ok nmX3 hown hK.1 hP hD hS 2 rfl rfl 3 (by decide) (va_Nw.use rfl (hK.2 (.fieldLinkNest RX2 40 "LyingScale$Weighings" "count" "I" "LyingScale") (List.mem_of_getElem? (i := 6) rfl))) (fun _ h9 => h9) rfl (by decide +kernel) rfl rfl (Nat.le_of_ble_eq_true rfl) dX2_start_15 (fun H locs hP hD hS => ?_)
  replace hP : va_P D vwCl (stW T a0 (sI (sI (sI x0 0 v1) 1 1) 6 0)) H := hP
  replace hD : va_D A (stW T a0 (sI (sI (sI x0 0 v1) 1 1) 6 0)) := hD
  refine lv_aload_n hx hb dX2_start_18 rfl (lv_at hl 0 rfl) ?_
  refine lv_iconst (v := (-1)) hx hb dX2_start_19 (by decide) ?_
  refine lv_iconst (v := 0) hx hb dX2_start_20 (by decide) ?_
  replace h := bd h
  obtain ⟨t1, et1, h⟩ := h
  refine callMv (wr := []) (ws' := stW T a0 (t1)) (va_runV (As := [.int ((-1)), .int 0]) (rest := []) ⟨hx, hb, hml, hown, hts⟩ (c_X2_hideCase l D T a0 (sI (sI (sI x0 0 v1) 1 1) 6 0) ((-1)) 0 _ t1 et1) (cwV 2 hts gX2_start_X2_hideCase rfl rfl rfl hdV_X2_hideCase ⟨Nat.le_of_ble_eq_true rfl, Nat.le_of_ble_eq_true rfl⟩) ⟨PM_blind, va_recv hK.1 hP (ci := 2) (q0 := 0) rfl rfl, PM_at hP hD hK⟩ rfl rfl hl.1 rfl (lv_room (Nat.le_of_ble_eq_true rfl)) dX2_start_21 ⟨Nat.zero_le _, Nat.zero_le _⟩) hS hA hP hD [0, 1, 2, 3, 4, 5, 6, 7, 8, 9, 10] [] rfl rfl (by decide) (by decide) [0, 1, 2, 3, 4, 5, 6, 7, 8, 9, 10] (by decide) rfl (fun H locs hP hD hS => ?_)
  refine lv_aload_n hx hb dX2_start_24 rfl (lv_at hl 0 rfl) ?_
  replace h := bd h
  obtain ⟨t2, et2, h⟩ := h
  refine callMv (wr := []) (ws' := stW T a0 (t2)) (va_runV (As := []) (rest := []) ⟨hx, hb, hml, hown, hts⟩ (c_X2_forgetTold l D T a0 t1 _ t2 et2) (cwV 0 hts gX2_start_X2_forgetTold rfl rfl rfl hdV_X2_forgetTold ⟨Nat.le_of_ble_eq_true rfl, Nat.le_of_ble_eq_true rfl⟩) ⟨PM_blind, va_recv hK.1 hP (ci := 2) (q0 := 0) rfl rfl, PM_at hP hD hK⟩ rfl rfl hl.1 rfl (lv_room (Nat.le_of_ble_eq_true rfl)) dX2_start_25 ⟨Nat.zero_le _, Nat.zero_le _⟩) hS hA hP hD [0, 1, 2, 3, 4, 5, 6, 7, 8, 9, 10] [] rfl rfl (by decide) (by decide) [0, 1, 2, 3, 4, 5, 6, 7, 8, 9, 10] (by decide) rfl (fun H locs hP hD hS => ?_)
  obtain rfl := Option.some.inj h
  exact W.vret hx hb hr (fun t ht hW => ⟨⟨(), rfl, trivial, by rw [ht]; exact hP, hD⟩, hS.F ht⟩) hS.2.2 dX2_start_28 hlocks
set_option maxHeartbeats 4000000 in
set_option maxRecDepth 100000 in
theorem c_X2_canReply (l : Launch) (D : va_G) (T : Nat → ClassId) (a0 : Nat → Nat) (x0 : St) (r : Int32) (h : F_X2_canReply x0 = some r) : Met l yX2_canReply wsX2_canReply ({ frames := 1, cells := 0, slots := 0, locals := 20 } : Room) (va_Pc [.ref (a0 0)] (PB D T (stW T a0 (x0)))) (QRi r) 0 0 (fun _ => False) := by
  refine met_of (cc := cX2_canReply) (maxL := 1) (ret := (some .boolean)) (lv := [(0, .ref (a0 0))]) (by decide) rfl (Nat.le_of_ble_eq_true rfl) rfl ?_
  intro p e s m args below meth c ls C0 hl hB
  obtain ⟨hx, hb, hr, hml, hown, hts, hlocks, hname⟩ := C0
  obtain ⟨hP, hK⟩ := hB
  unfold F_X2_canReply at h
  refine lv_aload_n hx hb dX2_canReply_0 rfl (lv_at hl 0 rfl) ?_
  refine va_get (D := D) (ci := 2) (v := .int (x0.1 2)) (C := RX2) (T := TX2) (N := 9) hx hb hts inX2_canReply_2 hown hK.1 hP 0 rfl rfl 6 (by decide) (hts (.fieldLink RX2 58 "LyingScale$State" "hidden" "I") (List.mem_of_getElem? (i := 1) rfl)) (fun _ h9 => h9) rfl dX2_canReply_1 ?_
  refine lv_iconst (v := (-1)) hx hb dX2_canReply_4 (by decide) ?_
  refine lv_icmp_eq (tgt := 28) hx hb dX2_canReply_5 (by decide) (fun c1 => ?_) (fun c1 => ?_)
  · replace h := ip c1 h
    refine lv_iconst (v := 0) hx hb dX2_canReply_28 (by decide) ?_
    exact W.zret hx hb hr rfl (fun t ht hW => ⟨_, rfl, Option.some.inj h, ht⟩) (fun q hq => absurd hq List.not_mem_nil) dX2_canReply_29 hlocks
  replace h := im c1 h
  refine lv_aload_n hx hb dX2_canReply_8 rfl (lv_at hl 0 rfl) ?_
  replace h := bd h
  obtain ⟨t2, et2, h⟩ := h
  refine callRi (v := t2) (va_runV (As := []) (rest := []) ⟨hx, hb, hml, hown, hts⟩ (c_X2_canLearn l D T a0 x0 t2 et2) (cwV 0 hts gX2_canReply_X2_canLearn rfl rfl rfl hdV_X2_canLearn ⟨Nat.le_of_ble_eq_true rfl, Nat.le_of_ble_eq_true rfl⟩) ⟨PB_blind, va_recv hK.1 hP (ci := 2) (q0 := 0) rfl rfl, PB_at hP hK⟩ rfl rfl hl.1 rfl (lv_room (Nat.le_of_ble_eq_true rfl)) dX2_canReply_9 ⟨Nat.zero_le _, Nat.zero_le _⟩) ?_
  refine lv_if_eq (tgt := 28) hx hb dX2_canReply_12 (by decide) (fun c3 => ?_) (fun c3 => ?_)
  · replace h := ip c3 h
    refine lv_iconst (v := 0) hx hb dX2_canReply_28 (by decide) ?_
    exact W.zret hx hb hr rfl (fun t ht hW => ⟨_, rfl, Option.some.inj h, ht⟩) (fun q hq => absurd hq List.not_mem_nil) dX2_canReply_29 hlocks
  replace h := im c3 h
  refine lv_aload_n hx hb dX2_canReply_15 rfl (lv_at hl 0 rfl) ?_
  refine va_get (D := D) (ci := 2) (v := .int (x0.1 4)) (C := RX2) (T := TX2) (N := 9) hx hb hts inX2_canReply_2 hown hK.1 hP 0 rfl rfl 8 (by decide) (hts (.fieldLink RX2 64 "LyingScale$State" "answered" "I") (List.mem_of_getElem? (i := 2) rfl)) (fun _ h9 => h9) rfl dX2_canReply_16 ?_
  refine lv_bipush (v := 30) hx hb dX2_canReply_19 (by decide) ?_
  refine lv_icmp_ge (tgt := 28) hx hb dX2_canReply_21 (by decide) (fun c4 => ?_) (fun c4 => ?_)
  · replace h := ip c4 h
    refine lv_iconst (v := 0) hx hb dX2_canReply_28 (by decide) ?_
    exact W.zret hx hb hr rfl (fun t ht hW => ⟨_, rfl, Option.some.inj h, ht⟩) (fun q hq => absurd hq List.not_mem_nil) dX2_canReply_29 hlocks
  replace h := im c4 h
  refine lv_iconst (v := 1) hx hb dX2_canReply_24 (by decide) ?_
  refine lv_goto (tgt := 29) hx hb dX2_canReply_25 (by decide) ?_
  exact W.zret hx hb hr rfl (fun t ht hW => ⟨_, rfl, Option.some.inj h, ht⟩) (fun q hq => absurd hq List.not_mem_nil) dX2_canReply_29 hlocks
set_option maxHeartbeats 4000000 in
set_option maxRecDepth 100000 in
theorem c_X2_reply (l : Launch) (D : va_G) (T : Nat → ClassId) (a0 : Nat → Nat) (x0 : St) (v1 : Int32) (v2 : Int32) (sz : Nat) (r : Int32 × St) (h : F_X2_reply x0 v1 v2 = some r) : Met l yX2_reply wsX2_reply ({ frames := 4, cells := 0, slots := 0, locals := 93 } : Room) (va_Pc [.ref (a0 0), .int v1, .int v2] (PM D T (stW T a0 (x0)) sz)) (QMi D (stW T a0 (r.2)) r.1 (va_A (stW T a0 (x0)) sz)) 0 0 (va_A (stW T a0 (x0)) sz) := by
  refine met_of (cc := cX2_reply) (maxL := 4) (ret := (some .int)) (lv := [(0, .ref (a0 0)), (1, .int v1), (2, .int v2)]) (by decide) rfl (Nat.le_of_ble_eq_true rfl) rfl ?_
  intro p e s m args below meth c ls C0 hl hB
  obtain ⟨hx, hb, hr, hml, hown, hts, hlocks, hname⟩ := C0
  obtain ⟨hsz, hP, hK, hD0⟩ := hB
  subst hsz
  have hD := hD0.self (sz := s.heap.size)
  generalize hAe : va_A (stW T a0 (x0)) s.heap.size = A at hD ⊢
  have hA : ∀ q : Nat, s.heap.size ≤ q → A q := fun q h => by rw [← hAe]; exact Or.inr h
  obtain ⟨H, hH⟩ : ∃ H, H = s.heap := ⟨_, rfl⟩
  obtain ⟨locs, hlo⟩ : ∃ L : List Loc, L = [] := ⟨_, rfl⟩
  have hS : va_S A s.heap s.heap [] := va_S.rf
  rw [← hH] at hP ⊢
  rw [← hlo]
  replace hS : va_S A s.heap H locs := by rw [hH, hlo]; exact hS
  clear hH hlo
  unfold F_X2_reply at h
  refine lv_aload_n hx hb dX2_reply_0 rfl (lv_at hl 0 rfl) ?_
  refine va_get (D := D) (ci := 2) (v := .int (x0.1 2)) (C := RX2) (T := TX2) (N := 9) hx hb hts inX2_reply_2 hown hK.1 hP 0 rfl rfl 6 (by decide) (hts (.fieldLink RX2 58 "LyingScale$State" "hidden" "I") (List.mem_of_getElem? (i := 1) rfl)) (fun _ h9 => h9) rfl dX2_reply_1 ?_
  refine lv_iload_n hx hb dX2_reply_4 rfl (lv_at hl 1 rfl) ?_
  refine lv_iload_n hx hb dX2_reply_5 rfl (lv_at hl 2 rfl) ?_
  replace h := bd h
  obtain ⟨t1, et1, h⟩ := h
  refine callRi (v := t1) (va_runSN (As := [.int (x0.1 2), .int v1, .int v2]) (rest := []) ⟨hx, hb, hml, hown, hts⟩ (c_X4_trueAnswer l D T (x0.1 2) v1 v2 t1 et1) ⟨va_cnB 3 hts gX2_reply_X4_trueAnswer_n93 rfl rfl rfl (hK.2 (.methodLinkNest RX2 93 yX4_trueAnswer "LyingScale") (List.mem_of_getElem? (i := 12) rfl)) (hts (.initialized RX4) (List.mem_of_getElem? (i := 5) rfl)) hdS_X4_trueAnswer ⟨Nat.le_of_ble_eq_true rfl, Nat.le_of_ble_eq_true rfl⟩, (hts (.static yX4_trueAnswer) (List.mem_of_getElem? (i := 4) rfl)), trivial⟩ ⟨PB_blind, PB_at (hP.sub (ws' := ([] : va_W)) [] rfl) hK⟩ rfl rfl hl.1 rfl (lv_room (Nat.le_of_ble_eq_true rfl)) dX2_reply_6 ⟨Nat.zero_le _, Nat.zero_le _⟩) ?_
  refine lv_istore_n (lv' := [(3, .int t1), (0, .ref (a0 0)), (1, .int v1), (2, .int v2)]) hx hb dX2_reply_9 rfl hl (by decide) rfl (fun ls hl => ?_)
  refine lv_aload_n hx hb dX2_reply_10 rfl (lv_at hl 1 rfl) ?_
  refine va_get (D := D) (ci := 2) (v := .int (x0.1 3)) (C := RX2) (T := TX2) (N := 9) hx hb hts inX2_reply_2 hown hK.1 hP 0 rfl rfl 7 (by decide) (hts (.fieldLink RX2 61 "LyingScale$State" "lieSet" "I") (List.mem_of_getElem? (i := 2) rfl)) (fun _ h9 => h9) rfl dX2_reply_11 ?_
  refine lv_aload_n hx hb dX2_reply_14 rfl (lv_at hl 1 rfl) ?_
  refine va_get (D := D) (ci := 2) (v := .int (x0.1 4)) (C := RX2) (T := TX2) (N := 9) hx hb hts inX2_reply_2 hown hK.1 hP 0 rfl rfl 8 (by decide) (hts (.fieldLink RX2 64 "LyingScale$State" "answered" "I") (List.mem_of_getElem? (i := 3) rfl)) (fun _ h9 => h9) rfl dX2_reply_15 ?_
  refine lv_iushr (v := ((x0.1 3).toUInt32 >>> ((x0.1 4).toUInt32 &&& Int32.toUInt32 31)).toInt32) hx hb dX2_reply_18 rfl ?_
  refine lv_iconst (v := 1) hx hb dX2_reply_19 (by decide) ?_
  refine lv_iand hx hb dX2_reply_20 ?_
  refine lv_iconst (v := 1) hx hb dX2_reply_21 (by decide) ?_
  refine lv_icmp_ne (tgt := 38) hx hb dX2_reply_22 (by decide) (fun c2 => ?_) (fun c2 => ?_)
  · replace h := im c2 h
    refine lv_aload_n hx hb dX2_reply_38 rfl (lv_at hl 1 rfl) ?_
    refine lv_dup hx hb dX2_reply_39 rfl ?_
    refine va_get (D := D) (ci := 2) (v := .int (x0.1 4)) (C := RX2) (T := TX2) (N := 9) hx hb hts inX2_reply_2 hown hK.1 hP 0 rfl rfl 8 (by decide) (hts (.fieldLink RX2 64 "LyingScale$State" "answered" "I") (List.mem_of_getElem? (i := 3) rfl)) (fun _ h9 => h9) rfl dX2_reply_40 ?_
    refine lv_iconst (v := 1) hx hb dX2_reply_43 (by decide) ?_
    refine lv_iadd hx hb dX2_reply_44 ?_
    refine va_put (D := D) (ci := 2) (v := .int ((x0.1 4) + 1)) (ty := .int) (C := RX2) (T := TX2) (N := 9) hx hb hts inX2_reply_2 tyX2 tyX2_ok nmX2 hown hK.1 hP hD hS 0 rfl rfl 8 (by decide) (hts (.fieldLink RX2 64 "LyingScale$State" "answered" "I") (List.mem_of_getElem? (i := 3) rfl)) (fun _ h9 => h9) rfl (by decide +kernel) rfl rfl (Nat.le_of_ble_eq_true rfl) dX2_reply_45 (fun H locs hP hD hS => ?_)
    replace hP : va_P D vwCl (stW T a0 (sI x0 4 ((x0.1 4) + 1))) H := hP
    replace hD : va_D A (stW T a0 (sI x0 4 ((x0.1 4) + 1))) := hD
    refine lv_aload_n hx hb dX2_reply_48 rfl (lv_at hl 1 rfl) ?_
    refine lv_iload_n hx hb dX2_reply_49 rfl (lv_at hl 2 rfl) ?_
    refine lv_iload_n hx hb dX2_reply_50 rfl (lv_at hl 3 rfl) ?_
    refine lv_iload_n hx hb dX2_reply_51 rfl (lv_at hl 0 rfl) ?_
    replace h := bd h
    obtain ⟨t3, et3, h⟩ := h
    refine callMv (wr := []) (ws' := stW T a0 (t3)) (va_runV (As := [.int v1, .int v2, .int t1]) (rest := []) ⟨hx, hb, hml, hown, hts⟩ (c_X2_learn l D T a0 (sI x0 4 ((x0.1 4) + 1)) v1 v2 t1 _ t3 et3) (cwV 3 hts gX2_reply_X2_learn rfl rfl rfl hdV_X2_learn ⟨Nat.le_of_ble_eq_true rfl, Nat.le_of_ble_eq_true rfl⟩) ⟨PM_blind, va_recv hK.1 hP (ci := 2) (q0 := 0) rfl rfl, PM_at hP hD hK⟩ rfl rfl hl.1 rfl (lv_room (Nat.le_of_ble_eq_true rfl)) dX2_reply_52 ⟨Nat.zero_le _, Nat.zero_le _⟩) hS hA hP hD [0, 1, 2, 3, 4, 5, 6, 7, 8, 9, 10] [] rfl rfl (by decide) (by decide) [0, 1, 2, 3, 4, 5, 6, 7, 8, 9, 10] (by decide) rfl (fun H locs hP hD hS => ?_)
    refine lv_iload_n hx hb dX2_reply_55 rfl (lv_at hl 0 rfl) ?_
    obtain rfl := Option.some.inj h
    exact W.iret hx hb hr (fun t ht hW => ⟨⟨_, (), rfl, rfl, by rw [ht]; exact hP, hD⟩, hS.F ht⟩) hS.2.2 dX2_reply_56 hlocks
  replace h := ip c2 h
  refine lv_iload_n hx hb dX2_reply_25 rfl (lv_at hl 0 rfl) ?_
  refine lv_iconst (v := 2) hx hb dX2_reply_26 (by decide) ?_
  refine lv_icmp_ne (tgt := 34) hx hb dX2_reply_27 (by decide) (fun c4 => ?_) (fun c4 => ?_)
  · replace h := im c4 h
    refine lv_iload_n hx hb dX2_reply_34 rfl (lv_at hl 0 rfl) ?_
    refine lv_iconst (v := 1) hx hb dX2_reply_35 (by decide) ?_
    refine lv_iadd hx hb dX2_reply_36 ?_
    refine lv_istore_n (lv' := [(3, .int (t1 + 1)), (0, .ref (a0 0)), (1, .int v1), (2, .int v2)]) hx hb dX2_reply_37 rfl hl (by decide) rfl (fun ls hl => ?_)
    refine lv_aload_n hx hb dX2_reply_38 rfl (lv_at hl 1 rfl) ?_
    refine lv_dup hx hb dX2_reply_39 rfl ?_
    refine va_get (D := D) (ci := 2) (v := .int (x0.1 4)) (C := RX2) (T := TX2) (N := 9) hx hb hts inX2_reply_2 hown hK.1 hP 0 rfl rfl 8 (by decide) (hts (.fieldLink RX2 64 "LyingScale$State" "answered" "I") (List.mem_of_getElem? (i := 3) rfl)) (fun _ h9 => h9) rfl dX2_reply_40 ?_
    refine lv_iconst (v := 1) hx hb dX2_reply_43 (by decide) ?_
    refine lv_iadd hx hb dX2_reply_44 ?_
    refine va_put (D := D) (ci := 2) (v := .int ((x0.1 4) + 1)) (ty := .int) (C := RX2) (T := TX2) (N := 9) hx hb hts inX2_reply_2 tyX2 tyX2_ok nmX2 hown hK.1 hP hD hS 0 rfl rfl 8 (by decide) (hts (.fieldLink RX2 64 "LyingScale$State" "answered" "I") (List.mem_of_getElem? (i := 3) rfl)) (fun _ h9 => h9) rfl (by decide +kernel) rfl rfl (Nat.le_of_ble_eq_true rfl) dX2_reply_45 (fun H locs hP hD hS => ?_)
    replace hP : va_P D vwCl (stW T a0 (sI x0 4 ((x0.1 4) + 1))) H := hP
    replace hD : va_D A (stW T a0 (sI x0 4 ((x0.1 4) + 1))) := hD
    refine lv_aload_n hx hb dX2_reply_48 rfl (lv_at hl 1 rfl) ?_
    refine lv_iload_n hx hb dX2_reply_49 rfl (lv_at hl 2 rfl) ?_
    refine lv_iload_n hx hb dX2_reply_50 rfl (lv_at hl 3 rfl) ?_
    refine lv_iload_n hx hb dX2_reply_51 rfl (lv_at hl 0 rfl) ?_
    replace h := bd h
    obtain ⟨t5, et5, h⟩ := h
    refine callMv (wr := []) (ws' := stW T a0 (t5)) (va_runV (As := [.int v1, .int v2, .int (t1 + 1)]) (rest := []) ⟨hx, hb, hml, hown, hts⟩ (c_X2_learn l D T a0 (sI x0 4 ((x0.1 4) + 1)) v1 v2 (t1 + 1) _ t5 et5) (cwV 3 hts gX2_reply_X2_learn rfl rfl rfl hdV_X2_learn ⟨Nat.le_of_ble_eq_true rfl, Nat.le_of_ble_eq_true rfl⟩) ⟨PM_blind, va_recv hK.1 hP (ci := 2) (q0 := 0) rfl rfl, PM_at hP hD hK⟩ rfl rfl hl.1 rfl (lv_room (Nat.le_of_ble_eq_true rfl)) dX2_reply_52 ⟨Nat.zero_le _, Nat.zero_le _⟩) hS hA hP hD [0, 1, 2, 3, 4, 5, 6, 7, 8, 9, 10] [] rfl rfl (by decide) (by decide) [0, 1, 2, 3, 4, 5, 6, 7, 8, 9, 10] (by decide) rfl (fun H locs hP hD hS => ?_)
    refine lv_iload_n hx hb dX2_reply_55 rfl (lv_at hl 0 rfl) ?_
    obtain rfl := Option.some.inj h
    exact W.iret hx hb hr (fun t ht hW => ⟨⟨_, (), rfl, rfl, by rw [ht]; exact hP, hD⟩, hS.F ht⟩) hS.2.2 dX2_reply_56 hlocks
  replace h := ip c4 h
  refine lv_iconst (v := 0) hx hb dX2_reply_30 (by decide) ?_
  refine lv_goto (tgt := 37) hx hb dX2_reply_31 (by decide) ?_
  refine lv_istore_n (lv' := [(3, .int 0), (0, .ref (a0 0)), (1, .int v1), (2, .int v2)]) hx hb dX2_reply_37 rfl hl (by decide) rfl (fun ls hl => ?_)
  refine lv_aload_n hx hb dX2_reply_38 rfl (lv_at hl 1 rfl) ?_
  refine lv_dup hx hb dX2_reply_39 rfl ?_
  refine va_get (D := D) (ci := 2) (v := .int (x0.1 4)) (C := RX2) (T := TX2) (N := 9) hx hb hts inX2_reply_2 hown hK.1 hP 0 rfl rfl 8 (by decide) (hts (.fieldLink RX2 64 "LyingScale$State" "answered" "I") (List.mem_of_getElem? (i := 3) rfl)) (fun _ h9 => h9) rfl dX2_reply_40 ?_
  refine lv_iconst (v := 1) hx hb dX2_reply_43 (by decide) ?_
  refine lv_iadd hx hb dX2_reply_44 ?_
  refine va_put (D := D) (ci := 2) (v := .int ((x0.1 4) + 1)) (ty := .int) (C := RX2) (T := TX2) (N := 9) hx hb hts inX2_reply_2 tyX2 tyX2_ok nmX2 hown hK.1 hP hD hS 0 rfl rfl 8 (by decide) (hts (.fieldLink RX2 64 "LyingScale$State" "answered" "I") (List.mem_of_getElem? (i := 3) rfl)) (fun _ h9 => h9) rfl (by decide +kernel) rfl rfl (Nat.le_of_ble_eq_true rfl) dX2_reply_45 (fun H locs hP hD hS => ?_)
  replace hP : va_P D vwCl (stW T a0 (sI x0 4 ((x0.1 4) + 1))) H := hP
  replace hD : va_D A (stW T a0 (sI x0 4 ((x0.1 4) + 1))) := hD
  refine lv_aload_n hx hb dX2_reply_48 rfl (lv_at hl 1 rfl) ?_
  refine lv_iload_n hx hb dX2_reply_49 rfl (lv_at hl 2 rfl) ?_
  refine lv_iload_n hx hb dX2_reply_50 rfl (lv_at hl 3 rfl) ?_
  refine lv_iload_n hx hb dX2_reply_51 rfl (lv_at hl 0 rfl) ?_
  replace h := bd h
  obtain ⟨t6, et6, h⟩ := h
  refine callMv (wr := []) (ws' := stW T a0 (t6)) (va_runV (As := [.int v1, .int v2, .int 0]) (rest := []) ⟨hx, hb, hml, hown, hts⟩ (c_X2_learn l D T a0 (sI x0 4 ((x0.1 4) + 1)) v1 v2 0 _ t6 et6) (cwV 3 hts gX2_reply_X2_learn rfl rfl rfl hdV_X2_learn ⟨Nat.le_of_ble_eq_true rfl, Nat.le_of_ble_eq_true rfl⟩) ⟨PM_blind, va_recv hK.1 hP (ci := 2) (q0 := 0) rfl rfl, PM_at hP hD hK⟩ rfl rfl hl.1 rfl (lv_room (Nat.le_of_ble_eq_true rfl)) dX2_reply_52 ⟨Nat.zero_le _, Nat.zero_le _⟩) hS hA hP hD [0, 1, 2, 3, 4, 5, 6, 7, 8, 9, 10] [] rfl rfl (by decide) (by decide) [0, 1, 2, 3, 4, 5, 6, 7, 8, 9, 10] (by decide) rfl (fun H locs hP hD hS => ?_)
  refine lv_iload_n hx hb dX2_reply_55 rfl (lv_at hl 0 rfl) ?_
  obtain rfl := Option.some.inj h
  exact W.iret hx hb hr (fun t ht hW => ⟨⟨_, (), rfl, rfl, by rw [ht]; exact hP, hD⟩, hS.F ht⟩) hS.2.2 dX2_reply_56 hlocks
