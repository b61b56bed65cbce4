def F_X4_begin (Z0 : Nat → St) (v1 : Int32) : Option (Int32 × (Nat → St)) :=
  if v1 < 2 then (none) else (if v1 ≤ 16 then ((F_X0_save Z0).bind fun t3 => (F_X2_start (t3 0) v1).bind fun t5 => some ((t3 0).1 5, zU t3 0 t5)) else (none))
def F_X4_setLimit (Z0 : Nat → St) (v1 : Int32) : Option (Int32 × (Nat → St)) :=
  if v1 < 0 then (none) else (if v1 ≤ 2 then ((F_X0_save Z0).bind fun t3 => (F_X2_countLeft ((zU t3 0 (sI (t3 0) 1 v1)) 0)).bind fun t5 => some (t5, zU t3 0 (sI (t3 0) 1 v1))) else (none))
def F_X4_forget (Z0 : Nat → St) : Option (Int32 × (Nat → St)) :=
  (F_X0_save Z0).bind fun t1 => (F_X2_forgetTold (t1 0)).bind fun t3 => some ((t1 0).1 5, zU t1 0 t3)
def F_X4_hide (Z0 : Nat → St) (v1 : Int32) (v2 : Int32) : Option (Int32 × (Nat → St)) :=
  (F_X2_isCase (Z0 0) v1).bind fun t1 => if t1 = 0 then (none) else (if v2 < 0 then (none) else (if v2 ≤ 1073741823 then ((F_X0_save Z0).bind fun t5 => (F_X2_hideCase (t5 0) v1 v2).bind fun t7 => some ((t5 0).1 2, zU t5 0 t7)) else (none)))
def F_X4_ask (Z0 : Nat → St) (v1 : Int32) (v2 : Int32) : Option (Int32 × (Nat → St)) :=
  (F_X2_isWeighing (Z0 0) v1 v2).bind fun t1 => if t1 = 0 then (none) else ((F_X2_canReply (Z0 0)).bind fun t3 => if t3 = 0 then (none) else ((F_X0_save Z0).bind fun t5 => (F_X2_reply (t5 0) v1 v2).bind fun t7 => some (t7.1, zU t5 0 t7.2)))
def F_X4_lies (Z0 : Nat → St) (v1 : Int32) : Option (Int32 × (Nat → St)) :=
  (F_X2_isCase (Z0 0) v1).bind fun t1 => if t1 = 0 then (none) else ((F_X4_at 33 ((Z0 0).2 6) v1).bind fun t3 => some (t3, Z0))
def F_X4_value (Z0 : Nat → St) (v1 : Int32) : Option (Int32 × (Nat → St)) :=
  if v1 < 0 then (none) else (if v1 < 9 then ((F_X2_number (Z0 0) v1).bind fun t3 => some (t3, Z0)) else (none))
def F_X4_weight (Z0 : Nat → St) (v1 : Int32) : Option (Int64 × (Nat → St)) :=
  (F_X4_isAhead v1).bind fun t1 => if t1 = 0 then (none) else ((F_X2_weightAhead (Z0 0) v1).bind fun t3 => some (t3, Z0))
def B_X4_bound_4 (Z0 : Nat → St) (k4 : Int64 → Int32 → Option (Int32 × (Nat → St))) (i1_4 : Int64) (i3_4 : Int32) : Option (Int32 × (Nat → St)) :=
  if 20 < i3_4 then (some ((-1), Z0)) else ((F_X2_weightAhead (Z0 0) i3_4).bind fun t2 => if 0 < (lg_cmp t2 i1_4) then (k4 (i1_4 * 3) (i3_4 + 1)) else (some (i3_4, Z0)))
def F_X4_bound (Z0 : Nat → St) : Option (Int32 × (Nat → St)) :=
  fx2 (B_X4_bound_4 Z0) 1000 1 0
def F_X4_weightBehind (Z0 : Nat → St) (v1 : Int32) (v2 : Int32) (v3 : Int32) (v4 : Int32) : Option (Int64 × (Nat → St)) :=
  (F_X2_isWeighing (Z0 0) v1 v2).bind fun t1 => if t1 = 0 then (none) else ((F_X4_isAnswer v3).bind fun t3 => if t3 = 0 then (none) else ((F_X4_isAhead v4).bind fun t5 => if t5 = 0 then (none) else ((F_X2_weightIfTold (Z0 0) v1 v2 v3 v4).bind fun t7 => some (t7, Z0))))
def F_X4_undo (Z0 : Nat → St) : Option (Int32 × (Nat → St)) :=
  if ((Z0 6).1 0) = 0 then (none) else ((F_X0_restore Z0).bind fun t2 => some ((t2 6).1 0, t2))
theorem inX4_begin_2 : ∀ w ∈ u_ws RX2 TX2 9, w ∈ wsX4_begin := by decide +kernel
theorem inX4_begin_3 : ∀ w ∈ u_ws RX3 TX3 4, w ∈ wsX4_begin := by decide +kernel
theorem inX4_begin_4 : ∀ w ∈ u_ws RX4 TX4 3, w ∈ wsX4_begin := by decide +kernel
theorem hdS_X4_begin : yX4_begin.cls ≠ "java/lang/invoke/MethodHandle" ∧ yX4_begin.cls ≠ "java/lang/invoke/VarHandle" ∧ (parseMethodDescriptor yX4_begin.desc).map (fun d => d.parameters.length) = some 1 := by decide +kernel
theorem hdV_X4_begin : yX4_begin.cls = RX4 ∧ yX4_begin.cls ≠ "java/lang/invoke/MethodHandle" ∧ yX4_begin.cls ≠ "java/lang/invoke/VarHandle" ∧ (parseMethodDescriptor yX4_begin.desc).map (fun d => d.parameters.length) = some 1 := by decide +kernel
theorem inX4_setLimit_2 : ∀ w ∈ u_ws RX2 TX2 9, w ∈ wsX4_setLimit := by decide +kernel
theorem inX4_setLimit_4 : ∀ w ∈ u_ws RX4 TX4 3, w ∈ wsX4_setLimit := by decide +kernel
theorem hdS_X4_setLimit : yX4_setLimit.cls ≠ "java/lang/invoke/MethodHandle" ∧ yX4_setLimit.cls ≠ "java/lang/invoke/VarHandle" ∧ (parseMethodDescriptor yX4_setLimit.desc).map (fun d => d.parameters.length) = some 1 := by decide +kernel
theorem hdV_X4_setLimit : yX4_setLimit.cls = RX4 ∧ yX4_setLimit.cls ≠ "java/lang/invoke/MethodHandle" ∧ yX4_setLimit.cls ≠ "java/lang/invoke/VarHandle" ∧ (parseMethodDescriptor yX4_setLimit.desc).map (fun d => d.parameters.length) = some 1 := by decide +kernel
theorem inX4_forget_2 : ∀ w ∈ u_ws RX2 TX2 9, w ∈ wsX4_forget := by decide +kernel
theorem inX4_forget_3 : ∀ w ∈ u_ws RX3 TX3 4, w ∈ wsX4_forget := by decide +kernel
theorem inX4_forget_4 : ∀ w ∈ u_ws RX4 TX4 3, w ∈ wsX4_forget := by decide +kernel
theorem hdS_X4_forget : yX4_forget.cls ≠ "java/lang/invoke/MethodHandle" ∧ yX4_forget.cls ≠ "java/lang/invoke/VarHandle" ∧ (parseMethodDescriptor yX4_forget.desc).map (fun d => d.parameters.length) = some 0 := by decide +kernel
theorem hdV_X4_forget : yX4_forget.cls = RX4 ∧ yX4_forget.cls ≠ "java/lang/invoke/MethodHandle" ∧ yX4_forget.cls ≠ "java/lang/invoke/VarHandle" ∧ (parseMethodDescriptor yX4_forget.desc).map (fun d => d.parameters.length) = some 0 := by decide +kernel
theorem inX4_hide_2 : ∀ w ∈ u_ws RX2 TX2 9, w ∈ wsX4_hide := by decide +kernel
theorem inX4_hide_4 : ∀ w ∈ u_ws RX4 TX4 3, w ∈ wsX4_hide := by decide +kernel
theorem hdS_X4_hide : yX4_hide.cls ≠ "java/lang/invoke/MethodHandle" ∧ yX4_hide.cls ≠ "java/lang/invoke/VarHandle" ∧ (parseMethodDescriptor yX4_hide.desc).map (fun d => d.parameters.length) = some 2 := by decide +kernel
theorem hdV_X4_hide : yX4_hide.cls = RX4 ∧ yX4_hide.cls ≠ "java/lang/invoke/MethodHandle" ∧ yX4_hide.cls ≠ "java/lang/invoke/VarHandle" ∧ (parseMethodDescriptor yX4_hide.desc).map (fun d => d.parameters.length) = some 2 := by decide +kernel
theorem inX4_ask_4 : ∀ w ∈ u_ws RX4 TX4 3, w ∈ wsX4_ask := by decide +kernel
theorem hdS_X4_ask : yX4_ask.cls ≠ "java/lang/invoke/MethodHandle" ∧ yX4_ask.cls ≠ "java/lang/invoke/VarHandle" ∧ (parseMethodDescriptor yX4_ask.desc).map (fun d => d.parameters.length) = some 2 := by decide +kernel
theorem hdV_X4_ask : yX4_ask.cls = RX4 ∧ yX4_ask.cls ≠ "java/lang/invoke/MethodHandle" ∧ yX4_ask.cls ≠ "java/lang/invoke/VarHandle" ∧ (parseMethodDescriptor yX4_ask.desc).map (fun d => d.parameters.length) = some 2 := by decide +kernel
theorem inX4_lies_2 : ∀ w ∈ u_ws RX2 TX2 9, w ∈ wsX4_lies := by decide +kernel
theorem inX4_lies_4 : ∀ w ∈ u_ws RX4 TX4 3, w ∈ wsX4_lies := by decide +kernel
theorem hdS_X4_lies : yX4_lies.cls ≠ "java/lang/invoke/MethodHandle" ∧ yX4_lies.cls ≠ "java/lang/invoke/VarHandle" ∧ (parseMethodDescriptor yX4_lies.desc).map (fun d => d.parameters.length) = some 1 := by decide +kernel
theorem hdV_X4_lies : yX4_lies.cls = RX4 ∧ yX4_lies.cls ≠ "java/lang/invoke/MethodHandle" ∧ yX4_lies.cls ≠ "java/lang/invoke/VarHandle" ∧ (parseMethodDescriptor yX4_lies.desc).map (fun d => d.parameters.length) = some 1 := by decide +kernel
theorem inX4_value_4 : ∀ w ∈ u_ws RX4 TX4 3, w ∈ wsX4_value := by decide +kernel
theorem hdS_X4_value : yX4_value.cls ≠ "java/lang/invoke/MethodHandle" ∧ yX4_value.cls ≠ "java/lang/invoke/VarHandle" ∧ (parseMethodDescriptor yX4_value.desc).map (fun d => d.parameters.length) = some 1 := by decide +kernel
theorem hdV_X4_value : yX4_value.cls = RX4 ∧ yX4_value.cls ≠ "java/lang/invoke/MethodHandle" ∧ yX4_value.cls ≠ "java/lang/invoke/VarHandle" ∧ (parseMethodDescriptor yX4_value.desc).map (fun d => d.parameters.length) = some 1 := by decide +kernel
theorem inX4_weight_4 : ∀ w ∈ u_ws RX4 TX4 3, w ∈ wsX4_weight := by decide +kernel
theorem hdS_X4_weight : yX4_weight.cls ≠ "java/lang/invoke/MethodHandle" ∧ yX4_weight.cls ≠ "java/lang/invoke/VarHandle" ∧ (parseMethodDescriptor yX4_weight.desc).map (fun d => d.parameters.length) = some 1 := by decide +kernel
theorem hdV_X4_weight : yX4_weight.cls = RX4 ∧ yX4_weight.cls ≠ "java/lang/invoke/MethodHandle" ∧ yX4_weight.cls ≠ "java/lang/invoke/VarHandle" ∧ (parseMethodDescriptor yX4_weight.desc).map (fun d => d.parameters.length) = some 1 := by decide +kernel
theorem inX4_bound_4 : ∀ w ∈ u_ws RX4 TX4 3, w ∈ wsX4_bound := by decide +kernel
theorem hdS_X4_bound : yX4_bound.cls ≠ "java/lang/invoke/MethodHandle" ∧ yX4_bound.cls ≠ "java/lang/invoke/VarHandle" ∧ (parseMethodDescriptor yX4_bound.desc).map (fun d => d.parameters.length) = some 0 := by decide +kernel
theorem hdV_X4_bound : yX4_bound.cls = RX4 ∧ yX4_bound.cls ≠ "java/lang/invoke/MethodHandle" ∧ yX4_bound.cls ≠ "java/lang/invoke/VarHandle" ∧ (parseMethodDescriptor yX4_bound.desc).map (fun d => d.parameters.length) = some 0 := by decide +kernel
theorem inX4_weightBehind_4 : ∀ w ∈ u_ws RX4 TX4 3, w ∈ wsX4_weightBehind := by decide +kernel
theorem hdS_X4_weightBehind : yX4_weightBehind.cls ≠ "java/lang/invoke/MethodHandle" ∧ yX4_weightBehind.cls ≠ "java/lang/invoke/VarHandle" ∧ (parseMethodDescriptor yX4_weightBehind.desc).map (fun d => d.parameters.length) = some 4 := by decide +kernel
theorem hdV_X4_weightBehind : yX4_weightBehind.cls = RX4 ∧ yX4_weightBehind.cls ≠ "java/lang/invoke/MethodHandle" ∧ yX4_weightBehind.cls ≠ "java/lang/invoke/VarHandle" ∧ (parseMethodDescriptor yX4_weightBehind.desc).map (fun d => d.parameters.length) = some 4 := by decide +kernel
theorem inX4_undo_0 : ∀ w ∈ u_ws RX0 TX0 2, w ∈ wsX4_undo := by decide +kernel
theorem inX4_undo_4 : ∀ w ∈ u_ws RX4 TX4 3, w ∈ wsX4_undo := by decide +kernel
theorem hdS_X4_undo : yX4_undo.cls ≠ "java/lang/invoke/MethodHandle" ∧ yX4_undo.cls ≠ "java/lang/invoke/VarHandle" ∧ (parseMethodDescriptor yX4_undo.desc).map (fun d => d.parameters.length) = some 0 := by decide +kernel
theorem hdV_X4_undo : yX4_undo.cls = RX4 ∧ yX4_undo.cls ≠ "java/lang/invoke/MethodHandle" ∧ yX4_undo.cls ≠ "java/lang/invoke/VarHandle" ∧ (parseMethodDescriptor yX4_undo.desc).map (fun d => d.parameters.length) = some 0 := by decide +kernel
set_option maxHeartbeats 4000000 in
set_option maxRecDepth 100000 in
theorem c_X4_begin (l : Launch) (D : va_G) (T : Nat → ClassId) (h0 : Nat) (A0 : Nat → Nat → Nat) (Z0 : Nat → St) (v1 : Int32) (sz : Nat) (r : Int32 × (Nat → St)) (h : F_X4_begin Z0 v1 = some r) : Met l yX4_begin wsX4_begin ({ frames := 6, cells := 0, slots := 0, locals := 108 } : Room) (va_Pc [.ref h0, .int v1] (PM D T (scW T h0 A0 (Z0)) sz)) (QEi D (scW T h0) r.1 r.2 (va_A (scW T h0 A0 (Z0)) sz)) 0 0 (va_A (scW T h0 A0 (Z0)) sz) := by
  refine met_of (cc := cX4_begin) (maxL := 3) (ret := (some .int)) (lv := [(0, .ref h0), (1, .int v1)]) (by decide) rfl (Nat.le_of_ble_eq_true rfl) rfl ?_
  intro p e s m args below meth c ls C0 hl hB
  obtain ⟨hx, hb, hr, hml, hown, hts, hlocks, hname⟩ := C0
  obtain ⟨hsz, hP, hK, hD0⟩ := hB
  subst hsz
  have hD := hD0.self (sz := s.heap.size)
  generalize hAe : va_A (scW T h0 A0 (Z0)) s.heap.size = A at hD ⊢
  have hA : ∀ q : Nat, s.heap.size ≤ q → A q := fun q h => by rw [← hAe]; exact Or.inr h
  have hS : va_S A s.heap s.heap [] := va_S.rf
  unfold F_X4_begin at h
  refine lv_iload_n hx hb dX4_begin_0 rfl (lv_at hl 1 rfl) ?_
  refine lv_iconst (v := 2) hx hb dX4_begin_1 (by decide) ?_
  refine lv_icmp_lt (tgt := 11) hx hb dX4_begin_2 (by decide) (fun c1 => ?_) (fun c1 => ?_)
  · replace h := ip c1 h
    cases h
  replace h := im c1 h
  refine lv_iload_n hx hb dX4_begin_5 rfl (lv_at hl 1 rfl) ?_
  refine lv_bipush (v := 16) hx hb dX4_begin_6 (by decide) ?_
  refine lv_icmp_le (tgt := 21) hx hb dX4_begin_8 (by decide) (fun c2 => ?_) (fun c2 => ?_)
  · replace h := ip c2 h
    refine lv_aload_n hx hb dX4_begin_21 rfl (lv_at hl 0 rfl) ?_
    refine va_get (D := D) (ci := 4) (v := .ref (A0 6 1)) (C := RX4) (T := TX4) (N := 3) hx hb hts inX4_begin_4 hown hK.1 hP 0 rfl rfl 1 (by decide) (hts (.fieldLink RX4 19 "LyingScale" "history" "LLyingScale$History;") (List.mem_of_getElem? (i := 3) rfl)) (fun _ h9 => h9) rfl dX4_begin_22 ?_
    refine lv_aload_n hx hb dX4_begin_25 rfl (lv_at hl 0 rfl) ?_
    refine va_get (D := D) (ci := 4) (v := .ref (A0 0 0)) (C := RX4) (T := TX4) (N := 3) hx hb hts inX4_begin_4 hown hK.1 hP 0 rfl rfl 0 (by decide) (hts (.fieldLink RX4 12 "LyingScale" "now" "LLyingScale$State;") (List.mem_of_getElem? (i := 4) rfl)) (fun _ h9 => h9) rfl dX4_begin_26 ?_
    replace h := bd h
    obtain ⟨t3, et3, h⟩ := h
    refine callEv (va_runV (As := [.ref (A0 0 0)]) (rest := []) ⟨hx, hb, hml, hown, hts⟩ (c_X0_save l D T h0 A0 Z0 _ t3 et3) (cwV 1 hts gX4_begin_X0_save rfl rfl rfl hdV_X0_save ⟨Nat.le_of_ble_eq_true rfl, Nat.le_of_ble_eq_true rfl⟩) ⟨PM_blind, va_recv hK.1 hP (ci := 0) (q0 := 1) rfl rfl, PM_at hP hD hK⟩ rfl rfl hl.1 rfl (lv_room (Nat.le_of_ble_eq_true rfl)) dX4_begin_29 ⟨Nat.zero_le _, Nat.zero_le _⟩) hS hA hP hD (fun u4 H locs hP hD hS => ?_)
    refine lv_aload_n hx hb dX4_begin_32 rfl (lv_at hl 0 rfl) ?_
    refine va_get (D := D) (ci := 4) (v := .ref (u4 0 0)) (C := RX4) (T := TX4) (N := 3) hx hb hts inX4_begin_4 hown hK.1 hP 0 rfl rfl 0 (by decide) (hts (.fieldLink RX4 12 "LyingScale" "now" "LLyingScale$State;") (List.mem_of_getElem? (i := 4) rfl)) (fun _ h9 => h9) rfl dX4_begin_33 ?_
    refine va_getN (D := D) (ci := 2) (v := .ref (u4 0 1)) (C := RX2) (T := TX2) (N := 9) hx hb hts inX4_begin_2 hown hK.1 hP 3 rfl rfl 0 (by decide) (va_Nw.use rfl (hK.2 (.fieldLinkNest RX4 41 "LyingScale$State" "told" "LLyingScale$Weighings;" "LyingScale") (List.mem_of_getElem? (i := 2) rfl))) (fun _ h9 => h9) rfl dX4_begin_36 ?_
    refine va_getN (D := D) (ci := 3) (v := .int ((t3 0).1 5)) (C := RX3) (T := TX3) (N := 4) hx hb hts inX4_begin_3 hown hK.1 hP 4 rfl rfl 3 (by decide) (va_Nw.use rfl (hK.2 (.fieldLinkNest RX4 45 "LyingScale$Weighings" "count" "I" "LyingScale") (List.mem_of_getElem? (i := 3) rfl))) (fun _ h9 => h9) rfl dX4_begin_39 ?_
    refine lv_istore_n (lv' := [(2, .int ((t3 0).1 5)), (0, .ref h0), (1, .int v1)]) hx hb dX4_begin_42 rfl hl (by decide) rfl (fun ls hl => ?_)
    refine lv_aload_n hx hb dX4_begin_43 rfl (lv_at hl 1 rfl) ?_
    refine va_get (D := D) (ci := 4) (v := .ref (u4 0 0)) (C := RX4) (T := TX4) (N := 3) hx hb hts inX4_begin_4 hown hK.1 hP 0 rfl rfl 0 (by decide) (hts (.fieldLink RX4 12 "LyingScale" "now" "LLyingScale$State;") (List.mem_of_getElem? (i := 4) rfl)) (fun _ h9 => h9) rfl dX4_begin_44 ?_
    refine lv_iload_n hx hb dX4_begin_47 rfl (lv_at hl 2 rfl) ?_
    replace h := bd h
    obtain ⟨t5, et5, h⟩ := h
    refine callMv (wr := [(h0, .inr (4, [.ref (u4 0 0), .ref (u4 6 1), .ref (u4 5 0)])), (u4 6 1, .inr (0, [.ref (u4 6 2), .int ((t3 6).1 0)])), (u4 6 2, .inl (T 3, 4, .inr (.inr (.inr (.inr (hsQ u4)))))), (u4 1 0, .inr (2, [.ref (u4 1 1), .ref (u4 1 2), .ref (u4 1 3), .ref (u4 1 4), .int ((t3 1).1 0), .int ((t3 1).1 1), .int ((t3 1).1 2), .int ((t3 1).1 3), .int ((t3 1).1 4)])), (u4 1 1, .inr (3, [.ref (u4 1 5), .ref (u4 1 6), .ref (u4 1 7), .int ((t3 1).1 5)])), (u4 1 2, .inr (3, [.ref (u4 1 8), .ref (u4 1 9), .ref (u4 1 10), .int ((t3 1).1 6)])), (u4 1 3, .inl (T 0, 33, .inl ((t3 1).2 6))), (u4 1 4, .inl (T 0, 33, .inl ((t3 1).2 7))), (u4 1 5, .inl (T 0, 40, .inl ((t3 1).2 0))), (u4 1 6, .inl (T 0, 40, .inl ((t3 1).2 1))), (u4 1 7, .inl (T 0, 40, .inl ((t3 1).2 2))), (u4 1 8, .inl (T 0, 8, .inl ((t3 1).2 3))), (u4 1 9, .inl (T 0, 8, .inl ((t3 1).2 4))), (u4 1 10, .inl (T 0, 8, .inl ((t3 1).2 5))), (u4 2 0, .inr (2, [.ref (u4 2 1), .ref (u4 2 2), .ref (u4 2 3), .ref (u4 2 4), .int ((t3 2).1 0), .int ((t3 2).1 1), .int ((t3 2).1 2), .int ((t3 2).1 3), .int ((t3 2).1 4)])), (u4 2 1, .inr (3, [.ref (u4 2 5), .ref (u4 2 6), .ref (u4 2 7), .int ((t3 2).1 5)])), (u4 2 2, .inr (3, [.ref (u4 2 8), .ref (u4 2 9), .ref (u4 2 10), .int ((t3 2).1 6)])), (u4 2 3, .inl (T 0, 33, .inl ((t3 2).2 6))), (u4 2 4, .inl (T 0, 33, .inl ((t3 2).2 7))), (u4 2 5, .inl (T 0, 40, .inl ((t3 2).2 0))), (u4 2 6, .inl (T 0, 40, .inl ((t3 2).2 1))), (u4 2 7, .inl (T 0, 40, .inl ((t3 2).2 2))), (u4 2 8, .inl (T 0, 8, .inl ((t3 2).2 3))), (u4 2 9, .inl (T 0, 8, .inl ((t3 2).2 4))), (u4 2 10, .inl (T 0, 8, .inl ((t3 2).2 5))), (u4 3 0, .inr (2, [.ref (u4 3 1), .ref (u4 3 2), .ref (u4 3 3), .ref (u4 3 4), .int ((t3 3).1 0), .int ((t3 3).1 1), .int ((t3 3).1 2), .int ((t3 3).1 3), .int ((t3 3).1 4)])), (u4 3 1, .inr (3, [.ref (u4 3 5), .ref (u4 3 6), .ref (u4 3 7), .int ((t3 3).1 5)])), (u4 3 2, .inr (3, [.ref (u4 3 8), .ref (u4 3 9), .ref (u4 3 10), .int ((t3 3).1 6)])), (u4 3 3, .inl (T 0, 33, .inl ((t3 3).2 6))), (u4 3 4, .inl (T 0, 33, .inl ((t3 3).2 7))), (u4 3 5, .inl (T 0, 40, .inl ((t3 3).2 0))), (u4 3 6, .inl (T 0, 40, .inl ((t3 3).2 1))), (u4 3 7, .inl (T 0, 40, .inl ((t3 3).2 2))), (u4 3 8, .inl (T 0, 8, .inl ((t3 3).2 3))), (u4 3 9, .inl (T 0, 8, .inl ((t3 3).2 4))), (u4 3 10, .inl (T 0, 8, .inl ((t3 3).2 5))), (u4 4 0, .inr (2, [.ref (u4 4 1), .ref (u4 4 2), .ref (u4 4 3), .ref (u4 4 4), .int ((t3 4).1 0), .int ((t3 4).1 1), .int ((t3 4).1 2), .int ((t3 4).1 3), .int ((t3 4).1 4)])), (u4 4 1, .inr (3, [.ref (u4 4 5), .ref (u4 4 6), .ref (u4 4 7), .int ((t3 4).1 5)])), (u4 4 2, .inr (3, [.ref (u4 4 8), .ref (u4 4 9), .ref (u4 4 10), .int ((t3 4).1 6)])), (u4 4 3, .inl (T 0, 33, .inl ((t3 4).2 6))), (u4 4 4, .inl (T 0, 33, .inl ((t3 4).2 7))), (u4 4 5, .inl (T 0, 40, .inl ((t3 4).2 0))), (u4 4 6, .inl (T 0, 40, .inl ((t3 4).2 1))), (u4 4 7, .inl (T 0, 40, .inl ((t3 4).2 2))), (u4 4 8, .inl (T 0, 8, .inl ((t3 4).2 3))), (u4 4 9, .inl (T 0, 8, .inl ((t3 4).2 4))), (u4 4 10, .inl (T 0, 8, .inl ((t3 4).2 5))), (u4 5 0, .inr (1, [.ref (u4 5 1), .ref (u4 5 2), .ref (u4 5 3), .ref (u4 5 4), .int ((t3 5).1 0), .int ((t3 5).1 1), .int ((t3 5).1 2), .int ((t3 5).1 3), .int ((t3 5).1 4)])), (u4 5 1, .inl (T 0, 100, .inl ((t3 5).2 0))), (u4 5 2, .inl (T 0, 20, .inl ((t3 5).2 1))), (u4 5 3, .inl (T 0, 20, .inl ((t3 5).2 2))), (u4 5 4, .inl (T 0, 20, .inl ((t3 5).2 3)))]) (ws' := scW T h0 u4 (zU t3 0 t5)) (va_runV (As := [.int v1]) (rest := []) ⟨hx, hb, hml, hown, hts⟩ (c_X2_start l D T (u4 0) (t3 0) v1 _ t5 et5) (cwV 1 hts gX4_begin_X2_start rfl rfl rfl hdV_X2_start ⟨Nat.le_of_ble_eq_true rfl, Nat.le_of_ble_eq_true rfl⟩) ⟨PM_blind, va_recv hK.1 hP (ci := 2) (q0 := 3) rfl rfl, PM_at (hP.sub (ws' := stW T (u4 0) (t3 0)) [3, 4, 5, 6, 7, 8, 9, 10, 11, 12, 13] rfl) (hD.sub (ws' := stW T (u4 0) (t3 0)) [3, 4, 5, 6, 7, 8, 9, 10, 11, 12, 13] (by decide) rfl) hK⟩ rfl rfl hl.1 rfl (lv_room (Nat.le_of_ble_eq_true rfl)) dX4_begin_48 ⟨Nat.zero_le _, Nat.zero_le _⟩) hS hA hP hD [3, 4, 5, 6, 7, 8, 9, 10, 11, 12, 13] [0, 1, 2, 14, 15, 16, 17, 18, 19, 20, 21, 22, 23, 24, 25, 26, 27, 28, 29, 30, 31, 32, 33, 34, 35, 36, 37, 38, 39, 40, 41, 42, 43, 44, 45, 46, 47, 48, 49, 50, 51, 52, 53, 54, 55, 56, 57, 58, 59, 60, 61, 62] rfl rfl (by decide) (by decide) [0, 1, 2, 52, 53, 54, 55, 56, 57, 58, 59, 60, 61, 62, 3, 4, 5, 6, 7, 8, 9, 10, 11, 12, 13, 14, 15, 16, 17, 18, 19, 20, 21, 22, 23, 24, 25, 26, 27, 28, 29, 30, 31, 32, 33, 34, 35, 36, 37, 38, 39, 40, 41, 42, 43, 44, 45, 46, 47, 48, 49, 50, 51] (by decide) rfl (fun H locs hP hD hS => ?_)
    refine lv_iload_n hx hb dX4_begin_51 rfl (lv_at hl 0 rfl) ?_
    obtain rfl := Option.some.inj h
    exact W.iret hx hb hr (fun t ht hW => ⟨⟨_, u4, rfl, rfl, by rw [ht]; exact hP, hD⟩, hS.F ht⟩) hS.2.2 dX4_begin_52 hlocks
  replace h := im c2 h
  cases h
set_option maxHeartbeats 4000000 in
set_option maxRecDepth 100000 in
theorem c_X4_setLimit (l : Launch) (D : va_G) (T : Nat → ClassId) (h0 : Nat) (A0 : Nat → Nat → Nat) (Z0 : Nat → St) (v1 : Int32) (sz : Nat) (r : Int32 × (Nat → St)) (h : F_X4_setLimit Z0 v1 = some r) : Met l yX4_setLimit wsX4_setLimit ({ frames := 6, cells := 0, slots := 0, locals := 108 } : Room) (va_Pc [.ref h0, .int v1] (PM D T (scW T h0 A0 (Z0)) sz)) (QEi D (scW T h0) r.1 r.2 (va_A (scW T h0 A0 (Z0)) sz)) 0 0 (va_A (scW T h0 A0 (Z0)) sz) := by
  refine met_of (cc := cX4_setLimit) (maxL := 2) (ret := (some .int)) (lv := [(0, .ref h0), (1, .int v1)]) (by decide) rfl (Nat.le_of_ble_eq_true rfl) rfl ?_
  intro p e s m args below meth c ls C0 hl hB
  obtain ⟨hx, hb, hr, hml, hown, hts, hlocks, hname⟩ := C0
  obtain ⟨hsz, hP, hK, hD0⟩ := hB
  subst hsz
  have hD := hD0.self (sz := s.heap.size)
  generalize hAe : va_A (scW T h0 A0 (Z0)) s.heap.size = A at hD ⊢
  have hA : ∀ q : Nat, s.heap.size ≤ q → A q := fun q h => by rw [← hAe]; exact Or.inr h
  have hS : va_S A s.heap s.heap [] := va_S.rf
  unfold F_X4_setLimit at h
  refine lv_iload_n hx hb dX4_setLimit_0 rfl (lv_at hl 1 rfl) ?_
  refine lv_if_lt (tgt := 9) hx hb dX4_setLimit_1 (by decide) (fun c1 => ?_) (fun c1 => ?_)
  · replace h := ip c1 h
    cases h
  replace h := im c1 h
  refine lv_iload_n hx hb dX4_setLimit_4 rfl (lv_at hl 1 rfl) ?_
  refine lv_iconst (v := 2) hx hb dX4_setLimit_5 (by decide) ?_
  refine lv_icmp_le (tgt := 19) hx hb dX4_setLimit_6 (by decide) (fun c2 => ?_) (fun c2 => ?_)
  · replace h := ip c2 h
    refine lv_aload_n hx hb dX4_setLimit_19 rfl (lv_at hl 0 rfl) ?_
    refine va_get (D := D) (ci := 4) (v := .ref (A0 6 1)) (C := RX4) (T := TX4) (N := 3) hx hb hts inX4_setLimit_4 hown hK.1 hP 0 rfl rfl 1 (by decide) (hts (.fieldLink RX4 19 "LyingScale" "history" "LLyingScale$History;") (List.mem_of_getElem? (i := 3) rfl)) (fun _ h9 => h9) rfl dX4_setLimit_20 ?_
    refine lv_aload_n hx hb dX4_setLimit_23 rfl (lv_at hl 0 rfl) ?_
    refine va_get (D := D) (ci := 4) (v := .ref (A0 0 0)) (C := RX4) (T := TX4) (N := 3) hx hb hts inX4_setLimit_4 hown hK.1 hP 0 rfl rfl 0 (by decide) (hts (.fieldLink RX4 12 "LyingScale" "now" "LLyingScale$State;") (List.mem_of_getElem? (i := 4) rfl)) (fun _ h9 => h9) rfl dX4_setLimit_24 ?_
    replace h := bd h
    obtain ⟨t3, et3, h⟩ := h
    refine callEv (va_runV (As := [.ref (A0 0 0)]) (rest := []) ⟨hx, hb, hml, hown, hts⟩ (c_X0_save l D T h0 A0 Z0 _ t3 et3) (cwV 1 hts gX4_setLimit_X0_save rfl rfl rfl hdV_X0_save ⟨Nat.le_of_ble_eq_true rfl, Nat.le_of_ble_eq_true rfl⟩) ⟨PM_blind, va_recv hK.1 hP (ci := 0) (q0 := 1) rfl rfl, PM_at hP hD hK⟩ rfl rfl hl.1 rfl (lv_room (Nat.le_of_ble_eq_true rfl)) dX4_setLimit_27 ⟨Nat.zero_le _, Nat.zero_le _⟩) hS hA hP hD (fun u4 H locs hP hD hS => ?_)
    refine lv_aload_n hx hb dX4_setLimit_30 rfl (lv_at hl 0 rfl) ?_
    refine va_get (D := D) (ci := 4) (v := .ref (u4 0 0)) (C := RX4) (T := TX4) (N := 3) hx hb hts inX4_setLimit_4 hown hK.1 hP 0 rfl rfl 0 (by decide) (hts (.fieldLink RX4 12 "LyingScale" "now" "LLyingScale$State;") (List.mem_of_getElem? (i := 4) rfl)) (fun _ h9 => h9) rfl dX4_setLimit_31 ?_
    refine lv_iload_n hx hb dX4_setLimit_34 rfl (lv_at hl 1 rfl) ?_
    refine va_putN (D := D) (ci := 2) (v := .int v1) (ty := .int) (C := RX2) (T := TX2) (N := 9) hx hb hts inX4_setLimit_2 tyX2 tyX2_ok nmX2 hown hK.1 hP hD hS 3 rfl rfl 5 (by decide) (va_Nw.use rfl (hK.2 (.fieldLinkNest RX4 57 "LyingScale$State" "limit" "I" "LyingScale") (List.mem_of_getElem? (i := 4) rfl))) (fun _ h9 => h9) rfl (by decide +kernel) rfl rfl (Nat.le_of_ble_eq_true rfl) dX4_setLimit_35 (fun H locs hP hD hS => ?_)
    replace hP : va_P D vwCl (scW T h0 u4 (zU t3 0 (sI (t3 0) 1 v1))) H := hP
    replace hD : va_D A (scW T h0 u4 (zU t3 0 (sI (t3 0) 1 v1))) := hD
    refine lv_aload_n hx hb dX4_setLimit_38 rfl (lv_at hl 0 rfl) ?_
    refine va_get (D := D) (ci := 4) (v := .ref (u4 0 0)) (C := RX4) (T := TX4) (N := 3) hx hb hts inX4_setLimit_4 hown hK.1 hP 0 rfl rfl 0 (by decide) (hts (.fieldLink RX4 12 "LyingScale" "now" "LLyingScale$State;") (List.mem_of_getElem? (i := 4) rfl)) (fun _ h9 => h9) rfl dX4_setLimit_39 ?_
    replace h := bd h
    obtain ⟨t5, et5, h⟩ := h
    refine callRi (v := t5) (va_runV (As := []) (rest := []) ⟨hx, hb, hml, hown, hts⟩ (c_X2_countLeft l D T (u4 0) ((zU t3 0 (sI (t3 0) 1 v1)) 0) t5 et5) (cwV 0 hts gX4_setLimit_X2_countLeft rfl rfl rfl hdV_X2_countLeft ⟨Nat.le_of_ble_eq_true rfl, Nat.le_of_ble_eq_true rfl⟩) ⟨PB_blind, va_recv hK.1 hP (ci := 2) (q0 := 3) rfl rfl, PB_at (hP.sub (ws' := stW T (u4 0) ((zU t3 0 (sI (t3 0) 1 v1)) 0)) [3, 4, 5, 6, 7, 8, 9, 10, 11, 12, 13] rfl) hK⟩ rfl rfl hl.1 rfl (lv_room (Nat.le_of_ble_eq_true rfl)) dX4_setLimit_42 ⟨Nat.zero_le _, Nat.zero_le _⟩) ?_
    obtain rfl := Option.some.inj h
    exact W.iret hx hb hr (fun t ht hW => ⟨⟨_, u4, rfl, rfl, by rw [ht]; exact hP, hD⟩, hS.F ht⟩) hS.2.2 dX4_setLimit_45 hlocks
  replace h := im c2 h
  cases h
set_option maxHeartbeats 4000000 in
set_option maxRecDepth 100000 in
theorem c_X4_forget (l : Launch) (D : va_G) (T : Nat → ClassId) (h0 : Nat) (A0 : Nat → Nat → Nat) (Z0 : Nat → St) (sz : Nat) (r : Int32 × (Nat → St)) (h : F_X4_forget Z0 = some r) : Met l yX4_forget wsX4_forget ({ frames := 5, cells := 0, slots := 0, locals := 108 } : Room) (va_Pc [.ref h0] (PM D T (scW T h0 A0 (Z0)) sz)) (QEi D (scW T h0) r.1 r.2 (va_A (scW T h0 A0 (Z0)) sz)) 0 0 (va_A (scW T h0 A0 (Z0)) sz) := by
  refine met_of (cc := cX4_forget) (maxL := 2) (ret := (some .int)) (lv := [(0, .ref h0)]) (by decide) rfl (Nat.le_of_ble_eq_true rfl) rfl ?_
  intro p e s m args below meth c ls C0 hl hB
  obtain ⟨hx, hb, hr, hml, hown, hts, hlocks, hname⟩ := C0
  obtain ⟨hsz, hP, hK, hD0⟩ := hB
  subst hsz
  have hD := hD0.self (sz := s.heap.size)
  generalize hAe : va_A (scW T h0 A0 (Z0)) s.heap.size = A at hD ⊢
  have hA : ∀ q : Nat, s.heap.size ≤ q → A q := fun q h => by rw [← hAe]; exact Or.inr h
  have hS : va_S A s.heap s.heap [] := va_S.rf
  unfold F_X4_forget at h
  refine lv_aload_n hx hb dX4_forget_0 rfl (lv_at hl 0 rfl) ?_
  refine va_get (D := D) (ci := 4) (v := .ref (A0 6 1)) (C := RX4) (T := TX4) (N := 3) hx hb hts inX4_forget_4 hown hK.1 hP 0 rfl rfl 1 (by decide) (hts (.fieldLink RX4 19 "LyingScale" "history" "LLyingScale$History;") (List.mem_of_getElem? (i := 1) rfl)) (fun _ h9 => h9) rfl dX4_forget_1 ?_
  refine lv_aload_n hx hb dX4_forget_4 rfl (lv_at hl 0 rfl) ?_
  refine va_get (D := D) (ci := 4) (v := .ref (A0 0 0)) (C := RX4) (T := TX4) (N := 3) hx hb hts inX4_forget_4 hown hK.1 hP 0 rfl rfl 0 (by decide) (hts (.fieldLink RX4 12 "LyingScale" "now" "LLyingScale$State;") (List.mem_of_getElem? (i := 2) rfl)) (fun _ h9 => h9) rfl dX4_forget_5 ?_
  replace h := bd h
  obtain ⟨t1, et1, h⟩ := h
  refine callEv (va_runV (As := [.ref (A0 0 0)]) (rest := []) ⟨hx, hb, hml, hown, hts⟩ (c_X0_save l D T h0 A0 Z0 _ t1 et1) (cwV 1 hts gX4_forget_X0_save rfl rfl rfl hdV_X0_save ⟨Nat.le_of_ble_eq_true rfl, Nat.le_of_ble_eq_true rfl⟩) ⟨PM_blind, va_recv hK.1 hP (ci := 0) (q0 := 1) rfl rfl, PM_at hP hD hK⟩ rfl rfl hl.1 rfl (lv_room (Nat.le_of_ble_eq_true rfl)) dX4_forget_8 ⟨Nat.zero_le _, Nat.zero_le _⟩) hS hA hP hD (fun u2 H locs hP hD hS => ?_)
  refine lv_aload_n hx hb dX4_forget_11 rfl (lv_at hl 0 rfl) ?_
  refine va_get (D := D) (ci := 4) (v := .ref (u2 0 0)) (C := RX4) (T := TX4) (N := 3) hx hb hts inX4_forget_4 hown hK.1 hP 0 rfl rfl 0 (by decide) (hts (.fieldLink RX4 12 "LyingScale" "now" "LLyingScale$State;") (List.mem_of_getElem? (i := 2) rfl)) (fun _ h9 => h9) rfl dX4_forget_12 ?_
  refine va_getN (D := D) (ci := 2) (v := .ref (u2 0 1)) (C := RX2) (T := TX2) (N := 9) hx hb hts inX4_forget_2 hown hK.1 hP 3 rfl rfl 0 (by decide) (va_Nw.use rfl (hK.2 (.fieldLinkNest RX4 41 "LyingScale$State" "told" "LLyingScale$Weighings;" "LyingScale") (List.mem_of_getElem? (i := 2) rfl))) (fun _ h9 => h9) rfl dX4_forget_15 ?_
  refine va_getN (D := D) (ci := 3) (v := .int ((t1 0).1 5)) (C := RX3) (T := TX3) (N := 4) hx hb hts inX4_forget_3 hown hK.1 hP 4 rfl rfl 3 (by decide) (va_Nw.use rfl (hK.2 (.fieldLinkNest RX4 45 "LyingScale$Weighings" "count" "I" "LyingScale") (List.mem_of_getElem? (i := 3) rfl))) (fun _ h9 => h9) rfl dX4_forget_18 ?_
  refine lv_istore_n (lv' := [(1, .int ((t1 0).1 5)), (0, .ref h0)]) hx hb dX4_forget_21 rfl hl (by decide) rfl (fun ls hl => ?_)
  refine lv_aload_n hx hb dX4_forget_22 rfl (lv_at hl 1 rfl) ?_
  refine va_get (D := D) (ci := 4) (v := .ref (u2 0 0)) (C := RX4) (T := TX4) (N := 3) hx hb hts inX4_forget_4 hown hK.1 hP 0 rfl rfl 0 (by decide) (hts (.fieldLink RX4 12 "LyingScale" "now" "LLyingScale$State;") (List.mem_of_getElem? (i := 2) rfl)) (fun _ h9 => h9) rfl dX4_forget_23 ?_
  replace h := bd h
  obtain ⟨t3, et3, h⟩ := h
  refine callMv (wr := [(h0, .inr (4, [.ref (u2 0 0), .ref (u2 6 1), .ref (u2 5 0)])), (u2 6 1, .inr (0, [.ref (u2 6 2), .int ((t1 6).1 0)])), (u2 6 2, .inl (T 3, 4, .inr (.inr (.inr (.inr (hsQ u2)))))), (u2 1 0, .inr (2, [.ref (u2 1 1), .ref (u2 1 2), .ref (u2 1 3), .ref (u2 1 4), .int ((t1 1).1 0), .int ((t1 1).1 1), .int ((t1 1).1 2), .int ((t1 1).1 3), .int ((t1 1).1 4)])), (u2 1 1, .inr (3, [.ref (u2 1 5), .ref (u2 1 6), .ref (u2 1 7), .int ((t1 1).1 5)])), (u2 1 2, .inr (3, [.ref (u2 1 8), .ref (u2 1 9), .ref (u2 1 10), .int ((t1 1).1 6)])), (u2 1 3, .inl (T 0, 33, .inl ((t1 1).2 6))), (u2 1 4, .inl (T 0, 33, .inl ((t1 1).2 7))), (u2 1 5, .inl (T 0, 40, .inl ((t1 1).2 0))), (u2 1 6, .inl (T 0, 40, .inl ((t1 1).2 1))), (u2 1 7, .inl (T 0, 40, .inl ((t1 1).2 2))), (u2 1 8, .inl (T 0, 8, .inl ((t1 1).2 3))), (u2 1 9, .inl (T 0, 8, .inl ((t1 1).2 4))), (u2 1 10, .inl (T 0, 8, .inl ((t1 1).2 5))), (u2 2 0, .inr (2, [.ref (u2 2 1), .ref (u2 2 2), .ref (u2 2 3), .ref (u2 2 4), .int ((t1 2).1 0), .int ((t1 2).1 1), .int ((t1 2).1 2), .int ((t1 2).1 3), .int ((t1 2).1 4)])), (u2 2 1, .inr (3, [.ref (u2 2 5), .ref (u2 2 6), .ref (u2 2 7), .int ((t1 2).1 5)])), (u2 2 2, .inr (3, [.ref (u2 2 8), .ref (u2 2 9), .ref (u2 2 10), .int ((t1 2).1 6)])), (u2 2 3, .inl (T 0, 33, .inl ((t1 2).2 6))), (u2 2 4, .inl (T 0, 33, .inl ((t1 2).2 7))), (u2 2 5, .inl (T 0, 40, .inl ((t1 2).2 0))), (u2 2 6, .inl (T 0, 40, .inl ((t1 2).2 1))), (u2 2 7, .inl (T 0, 40, .inl ((t1 2).2 2))), (u2 2 8, .inl (T 0, 8, .inl ((t1 2).2 3))), (u2 2 9, .inl (T 0, 8, .inl ((t1 2).2 4))), (u2 2 10, .inl (T 0, 8, .inl ((t1 2).2 5))), (u2 3 0, .inr (2, [.ref (u2 3 1), .ref (u2 3 2), .ref (u2 3 3), .ref (u2 3 4), .int ((t1 3).1 0), .int ((t1 3).1 1), .int ((t1 3).1 2), .int ((t1 3).1 3), .int ((t1 3).1 4)])), (u2 3 1, .inr (3, [.ref (u2 3 5), .ref (u2 3 6), .ref (u2 3 7), .int ((t1 3).1 5)])), (u2 3 2, .inr (3, [.ref (u2 3 8), .ref (u2 3 9), .ref (u2 3 10), .int ((t1 3).1 6)])), (u2 3 3, .inl (T 0, 33, .inl ((t1 3).2 6))), (u2 3 4, .inl (T 0, 33, .inl ((t1 3).2 7))), (u2 3 5, .inl (T 0, 40, .inl ((t1 3).2 0))), (u2 3 6, .inl (T 0, 40, .inl ((t1 3).2 1))), (u2 3 7, .inl (T 0, 40, .inl ((t1 3).2 2))), (u2 3 8, .inl (T 0, 8, .inl ((t1 3).2 3))), (u2 3 9, .inl (T 0, 8, .inl ((t1 3).2 4))), (u2 3 10, .inl (T 0, 8, .inl ((t1 3).2 5))), (u2 4 0, .inr (2, [.ref (u2 4 1), .ref (u2 4 2), .ref (u2 4 3), .ref (u2 4 4), .int ((t1 4).1 0), .int ((t1 4).1 1), .int ((t1 4).1 2), .int ((t1 4).1 3), .int ((t1 4).1 4)])), (u2 4 1, .inr (3, [.ref (u2 4 5), .ref (u2 4 6), .ref (u2 4 7), .int ((t1 4).1 5)])), (u2 4 2, .inr (3, [.ref (u2 4 8), .ref (u2 4 9), .ref (u2 4 10), .int ((t1 4).1 6)])), (u2 4 3, .inl (T 0, 33, .inl ((t1 4).2 6))), (u2 4 4, .inl (T 0, 33, .inl ((t1 4).2 7))), (u2 4 5, .inl (T 0, 40, .inl ((t1 4).2 0))), (u2 4 6, .inl (T 0, 40, .inl ((t1 4).2 1))), (u2 4 7, .inl (T 0, 40, .inl ((t1 4).2 2))), (u2 4 8, .inl (T 0, 8, .inl ((t1 4).2 3))), (u2 4 9, .inl (T 0, 8, .inl ((t1 4).2 4))), (u2 4 10, .inl (T 0, 8, .inl ((t1 4).2 5))), (u2 5 0, .inr (1, [.ref (u2 5 1), .ref (u2 5 2), .ref (u2 5 3), .ref (u2 5 4), .int ((t1 5).1 0), .int ((t1 5).1 1), .int ((t1 5).1 2), .int ((t1 5).1 3), .int ((t1 5).1 4)])), (u2 5 1, .inl (T 0, 100, .inl ((t1 5).2 0))), (u2 5 2, .inl (T 0, 20, .inl ((t1 5).2 1))), (u2 5 3, .inl (T 0, 20, .inl ((t1 5).2 2))), (u2 5 4, .inl (T 0, 20, .inl ((t1 5).2 3)))]) (ws' := scW T h0 u2 (zU t1 0 t3)) (va_runV (As := []) (rest := []) ⟨hx, hb, hml, hown, hts⟩ (c_X2_forgetTold l D T (u2 0) (t1 0) _ t3 et3) (cwV 0 hts gX4_forget_X2_forgetTold rfl rfl rfl hdV_X2_forgetTold ⟨Nat.le_of_ble_eq_true rfl, Nat.le_of_ble_eq_true rfl⟩) ⟨PM_blind, va_recv hK.1 hP (ci := 2) (q0 := 3) rfl rfl, PM_at (hP.sub (ws' := stW T (u2 0) (t1 0)) [3, 4, 5, 6, 7, 8, 9, 10, 11, 12, 13] rfl) (hD.sub (ws' := stW T (u2 0) (t1 0)) [3, 4, 5, 6, 7, 8, 9, 10, 11, 12, 13] (by decide) rfl) hK⟩ rfl rfl hl.1 rfl (lv_room (Nat.le_of_ble_eq_true rfl)) dX4_forget_26 ⟨Nat.zero_le _, Nat.zero_le _⟩) hS hA hP hD [3, 4, 5, 6, 7, 8, 9, 10, 11, 12, 13] [0, 1, 2, 14, 15, 16, 17, 18, 19, 20, 21, 22, 23, 24, 25, 26, 27, 28, 29, 30, 31, 32, 33, 34, 35, 36, 37, 38, 39, 40, 41, 42, 43, 44, 45, 46, 47, 48, 49, 50, 51, 52, 53, 54, 55, 56, 57, 58, 59, 60, 61, 62] rfl rfl (by decide) (by decide) [0, 1, 2, 52, 53, 54, 55, 56, 57, 58, 59, 60, 61, 62, 3, 4, 5, 6, 7, 8, 9, 10, 11, 12, 13, 14, 15, 16, 17, 18, 19, 20, 21, 22, 23, 24, 25, 26, 27, 28, 29, 30, 31, 32, 33, 34, 35, 36, 37, 38, 39, 40, 41, 42, 43, 44, 45, 46, 47, 48, 49, 50, 51] (by decide) rfl (fun H locs hP hD hS => ?_)
  refine lv_iload_n hx hb dX4_forget_29 rfl (lv_at hl 0 rfl) ?_
  obtain rfl := Option.some.inj h
  exact W.iret hx hb hr (fun t ht hW => ⟨⟨_, u2, rfl, rfl, by rw [ht]; exact hP, hD⟩, hS.F ht⟩) hS.2.2 dX4_forget_30 hlocks
set_option maxHeartbeats 4000000 in
set_option maxRecDepth 100000 in
theorem c_X4_hide (l : Launch) (D : va_G) (T : Nat → ClassId) (h0 : Nat) (A0 : Nat → Nat → Nat) (Z0 : Nat → St) (v1 : Int32) (v2 : Int32) (sz : Nat) (r : Int32 × (Nat → St)) (h : F_X4_hide Z0 v1 v2 = some r) : Met l yX4_hide wsX4_hide ({ frames := 6, cells := 0, slots := 0, locals := 108 } : Room) (va_Pc [.ref h0, .int v1, .int v2] (PM D T (scW T h0 A0 (Z0)) sz)) (QEi D (scW T h0) r.1 r.2 (va_A (scW T h0 A0 (Z0)) sz)) 0 0 (va_A (scW T h0 A0 (Z0)) sz) := by
  refine met_of (cc := cX4_hide) (maxL := 4) (ret := (some .int)) (lv := [(0, .ref h0), (1, .int v1), (2, .int v2)]) (by decide) rfl (Nat.le_of_ble_eq_true rfl) rfl ?_
  intro p e s m args below meth c ls C0 hl hB
  obtain ⟨hx, hb, hr, hml, hown, hts, hlocks, hname⟩ := C0
  obtain ⟨hsz, hP, hK, hD0⟩ := hB
  subst hsz
  have hD := hD0.self (sz := s.heap.size)
  generalize hAe : va_A (scW T h0 A0 (Z0)) s.heap.size = A at hD ⊢
  have hA : ∀ q : Nat, s.heap.size ≤ q → A q := fun q h => by rw [← hAe]; exact Or.inr h
  have hS : va_S A s.heap s.heap [] := va_S.rf
  unfold F_X4_hide at h
  refine lv_aload_n hx hb dX4_hide_0 rfl (lv_at hl 0 rfl) ?_
  refine va_get (D := D) (ci := 4) (v := .ref (A0 0 0)) (C := RX4) (T := TX4) (N := 3) hx hb hts inX4_hide_4 hown hK.1 hP 0 rfl rfl 0 (by decide) (hts (.fieldLink RX4 12 "LyingScale" "now" "LLyingScale$State;") (List.mem_of_getElem? (i := 5) rfl)) (fun _ h9 => h9) rfl dX4_hide_1 ?_
  refine lv_iload_n hx hb dX4_hide_4 rfl (lv_at hl 1 rfl) ?_
  replace h := bd h
  obtain ⟨t1, et1, h⟩ := h
  refine callRi (v := t1) (va_runV (As := [.int v1]) (rest := []) ⟨hx, hb, hml, hown, hts⟩ (c_X2_isCase l D T (A0 0) (Z0 0) v1 t1 et1) (cwV 1 hts gX4_hide_X2_isCase rfl rfl rfl hdV_X2_isCase ⟨Nat.le_of_ble_eq_true rfl, Nat.le_of_ble_eq_true rfl⟩) ⟨PB_blind, va_recv hK.1 hP (ci := 2) (q0 := 3) rfl rfl, PB_at (hP.sub (ws' := stW T (A0 0) (Z0 0)) [3, 4, 5, 6, 7, 8, 9, 10, 11, 12, 13] rfl) hK⟩ rfl rfl hl.1 rfl (lv_room (Nat.le_of_ble_eq_true rfl)) dX4_hide_5 ⟨Nat.zero_le _, Nat.zero_le _⟩) ?_
  refine lv_if_ne (tgt := 21) hx hb dX4_hide_8 (by decide) (fun c2 => ?_) (fun c2 => ?_)
  · replace h := im c2 h
    refine lv_iload_n hx hb dX4_hide_21 rfl (lv_at hl 2 rfl) ?_
    refine lv_if_lt (tgt := 31) hx hb dX4_hide_22 (by decide) (fun c3 => ?_) (fun c3 => ?_)
    · replace h := ip c3 h
      cases h
    replace h := im c3 h
    refine lv_iload_n hx hb dX4_hide_25 rfl (lv_at hl 2 rfl) ?_
    refine lv_ldc hx hb hown (hts (.constant RX4 98 (1073741823)) (List.mem_of_getElem? (i := 6) rfl)) dX4_hide_26 ?_
    refine lv_icmp_le (tgt := 41) hx hb dX4_hide_28 (by decide) (fun c4 => ?_) (fun c4 => ?_)
    · replace h := ip c4 h
      refine lv_aload_n hx hb dX4_hide_41 rfl (lv_at hl 0 rfl) ?_
      refine va_get (D := D) (ci := 4) (v := .ref (A0 6 1)) (C := RX4) (T := TX4) (N := 3) hx hb hts inX4_hide_4 hown hK.1 hP 0 rfl rfl 1 (by decide) (hts (.fieldLink RX4 19 "LyingScale" "history" "LLyingScale$History;") (List.mem_of_getElem? (i := 7) rfl)) (fun _ h9 => h9) rfl dX4_hide_42 ?_
      refine lv_aload_n hx hb dX4_hide_45 rfl (lv_at hl 0 rfl) ?_
      refine va_get (D := D) (ci := 4) (v := .ref (A0 0 0)) (C := RX4) (T := TX4) (N := 3) hx hb hts inX4_hide_4 hown hK.1 hP 0 rfl rfl 0 (by decide) (hts (.fieldLink RX4 12 "LyingScale" "now" "LLyingScale$State;") (List.mem_of_getElem? (i := 5) rfl)) (fun _ h9 => h9) rfl dX4_hide_46 ?_
      replace h := bd h
      obtain ⟨t5, et5, h⟩ := h
      refine callEv (va_runV (As := [.ref (A0 0 0)]) (rest := []) ⟨hx, hb, hml, hown, hts⟩ (c_X0_save l D T h0 A0 Z0 _ t5 et5) (cwV 1 hts gX4_hide_X0_save rfl rfl rfl hdV_X0_save ⟨Nat.le_of_ble_eq_true rfl, Nat.le_of_ble_eq_true rfl⟩) ⟨PM_blind, va_recv hK.1 hP (ci := 0) (q0 := 1) rfl rfl, PM_at hP hD hK⟩ rfl rfl hl.1 rfl (lv_room (Nat.le_of_ble_eq_true rfl)) dX4_hide_49 ⟨Nat.zero_le _, Nat.zero_le _⟩) hS hA hP hD (fun u6 H locs hP hD hS => ?_)
      refine lv_aload_n hx hb dX4_hide_52 rfl (lv_at hl 0 rfl) ?_
      refine va_get (D := D) (ci := 4) (v := .ref (u6 0 0)) (C := RX4) (T := TX4) (N := 3) hx hb hts inX4_hide_4 hown hK.1 hP 0 rfl rfl 0 (by decide) (hts (.fieldLink RX4 12 "LyingScale" "now" "LLyingScale$State;") (List.mem_of_getElem? (i := 5) rfl)) (fun _ h9 => h9) rfl dX4_hide_53 ?_
      refine va_getN (D := D) (ci := 2) (v := .int ((t5 0).1 2)) (C := RX2) (T := TX2) (N := 9) hx hb hts inX4_hide_2 hown hK.1 hP 3 rfl rfl 6 (by decide) (va_Nw.use rfl (hK.2 (.fieldLinkNest RX4 99 "LyingScale$State" "hidden" "I" "LyingScale") (List.mem_of_getElem? (i := 5) rfl))) (fun _ h9 => h9) rfl dX4_hide_56 ?_
      refine lv_istore_n (lv' := [(3, .int ((t5 0).1 2)), (0, .ref h0), (1, .int v1), (2, .int v2)]) hx hb dX4_hide_59 rfl hl (by decide) rfl (fun ls hl => ?_)
      refine lv_aload_n hx hb dX4_hide_60 rfl (lv_at hl 1 rfl) ?_
      refine va_get (D := D) (ci := 4) (v := .ref (u6 0 0)) (C := RX4) (T := TX4) (N := 3) hx hb hts inX4_hide_4 hown hK.1 hP 0 rfl rfl 0 (by decide) (hts (.fieldLink RX4 12 "LyingScale" "now" "LLyingScale$State;") (List.mem_of_getElem? (i := 5) rfl)) (fun _ h9 => h9) rfl dX4_hide_61 ?_
      refine lv_iload_n hx hb dX4_hide_64 rfl (lv_at hl 2 rfl) ?_
      refine lv_iload_n hx hb dX4_hide_65 rfl (lv_at hl 3 rfl) ?_
      replace h := bd h
      obtain ⟨t7, et7, h⟩ := h
      refine callMv (wr := [(h0, .inr (4, [.ref (u6 0 0), .ref (u6 6 1), .ref (u6 5 0)])), (u6 6 1, .inr (0, [.ref (u6 6 2), .int ((t5 6).1 0)])), (u6 6 2, .inl (T 3, 4, .inr (.inr (.inr (.inr (hsQ u6)))))), (u6 1 0, .inr (2, [.ref (u6 1 1), .ref (u6 1 2), .ref (u6 1 3), .ref (u6 1 4), .int ((t5 1).1 0), .int ((t5 1).1 1), .int ((t5 1).1 2), .int ((t5 1).1 3), .int ((t5 1).1 4)])), (u6 1 1, .inr (3, [.ref (u6 1 5), .ref (u6 1 6), .ref (u6 1 7), .int ((t5 1).1 5)])), (u6 1 2, .inr (3, [.ref (u6 1 8), .ref (u6 1 9), .ref (u6 1 10), .int ((t5 1).1 6)])), (u6 1 3, .inl (T 0, 33, .inl ((t5 1).2 6))), (u6 1 4, .inl (T 0, 33, .inl ((t5 1).2 7))), (u6 1 5, .inl (T 0, 40, .inl ((t5 1).2 0))), (u6 1 6, .inl (T 0, 40, .inl ((t5 1).2 1))), (u6 1 7, .inl (T 0, 40, .inl ((t5 1).2 2))), (u6 1 8, .inl (T 0, 8, .inl ((t5 1).2 3))), (u6 1 9, .inl (T 0, 8, .inl ((t5 1).2 4))), (u6 1 10, .inl (T 0, 8, .inl ((t5 1).2 5))), (u6 2 0, .inr (2, [.ref (u6 2 1), .ref (u6 2 2), .ref (u6 2 3), .ref (u6 2 4), .int ((t5 2).1 0), .int ((t5 2).1 1), .int ((t5 2).1 2), .int ((t5 2).1 3), .int ((t5 2).1 4)])), (u6 2 1, .inr (3, [.ref (u6 2 5), .ref (u6 2 6), .ref (u6 2 7), .int ((t5 2).1 5)])), (u6 2 2, .inr (3, [.ref (u6 2 8), .ref (u6 2 9), .ref (u6 2 10), .int ((t5 2).1 6)])), (u6 2 3, .inl (T 0, 33, .inl ((t5 2).2 6))), (u6 2 4, .inl (T 0, 33, .inl ((t5 2).2 7))), (u6 2 5, .inl (T 0, 40, .inl ((t5 2).2 0))), (u6 2 6, .inl (T 0, 40, .inl ((t5 2).2 1))), (u6 2 7, .inl (T 0, 40, .inl ((t5 2).2 2))), (u6 2 8, .inl (T 0, 8, .inl ((t5 2).2 3))), (u6 2 9, .inl (T 0, 8, .inl ((t5 2).2 4))), (u6 2 10, .inl (T 0, 8, .inl ((t5 2).2 5))), (u6 3 0, .inr (2, [.ref (u6 3 1), .ref (u6 3 2), .ref (u6 3 3), .ref (u6 3 4), .int ((t5 3).1 0), .int ((t5 3).1 1), .int ((t5 3).1 2), .int ((t5 3).1 3), .int ((t5 3).1 4)])), (u6 3 1, .inr (3, [.ref (u6 3 5), .ref (u6 3 6), .ref (u6 3 7), .int ((t5 3).1 5)])), (u6 3 2, .inr (3, [.ref (u6 3 8), .ref (u6 3 9), .ref (u6 3 10), .int ((t5 3).1 6)])), (u6 3 3, .inl (T 0, 33, .inl ((t5 3).2 6))), (u6 3 4, .inl (T 0, 33, .inl ((t5 3).2 7))), (u6 3 5, .inl (T 0, 40, .inl ((t5 3).2 0))), (u6 3 6, .inl (T 0, 40, .inl ((t5 3).2 1))), (u6 3 7, .inl (T 0, 40, .inl ((t5 3).2 2))), (u6 3 8, .inl (T 0, 8, .inl ((t5 3).2 3))), (u6 3 9, .inl (T 0, 8, .inl ((t5 3).2 4))), (u6 3 10, .inl (T 0, 8, .inl ((t5 3).2 5))), (u6 4 0, .inr (2, [.ref (u6 4 1), .ref (u6 4 2), .ref (u6 4 3), .ref (u6 4 4), .int ((t5 4).1 0), .int ((t5 4).1 1), .int ((t5 4).1 2), .int ((t5 4).1 3), .int ((t5 4).1 4)])), (u6 4 1, .inr (3, [.ref (u6 4 5), .ref (u6 4 6), .ref (u6 4 7), .int ((t5 4).1 5)])), (u6 4 2, .inr (3, [.ref (u6 4 8), .ref (u6 4 9), .ref (u6 4 10), .int ((t5 4).1 6)])), (u6 4 3, .inl (T 0, 33, .inl ((t5 4).2 6))), (u6 4 4, .inl (T 0, 33, .inl ((t5 4).2 7))), (u6 4 5, .inl (T 0, 40, .inl ((t5 4).2 0))), (u6 4 6, .inl (T 0, 40, .inl ((t5 4).2 1))), (u6 4 7, .inl (T 0, 40, .inl ((t5 4).2 2))), (u6 4 8, .inl (T 0, 8, .inl ((t5 4).2 3))), (u6 4 9, .inl (T 0, 8, .inl ((t5 4).2 4))), (u6 4 10, .inl (T 0, 8, .inl ((t5 4).2 5))), (u6 5 0, .inr (1, [.ref (u6 5 1), .ref (u6 5 2), .ref (u6 5 3), .ref (u6 5 4), .int ((t5 5).1 0), .int ((t5 5).1 1), .int ((t5 5).1 2), .int ((t5 5).1 3), .int ((t5 5).1 4)])), (u6 5 1, .inl (T 0, 100, .inl ((t5 5).2 0))), (u6 5 2, .inl (T 0, 20, .inl ((t5 5).2 1))), (u6 5 3, .inl (T 0, 20, .inl ((t5 5).2 2))), (u6 5 4, .inl (T 0, 20, .inl ((t5 5).2 3)))]) (ws' := scW T h0 u6 (zU t5 0 t7)) (va_runV (As := [.int v1, .int v2]) (rest := []) ⟨hx, hb, hml, hown, hts⟩ (c_X2_hideCase l D T (u6 0) (t5 0) v1 v2 _ t7 et7) (cwV 2 hts gX4_hide_X2_hideCase rfl rfl rfl hdV_X2_hideCase ⟨Nat.le_of_ble_eq_true rfl, Nat.le_of_ble_eq_true rfl⟩) ⟨PM_blind, va_recv hK.1 hP (ci := 2) (q0 := 3) rfl rfl, PM_at (hP.sub (ws' := stW T (u6 0) (t5 0)) [3, 4, 5, 6, 7, 8, 9, 10, 11, 12, 13] rfl) (hD.sub (ws' := stW T (u6 0) (t5 0)) [3, 4, 5, 6, 7, 8, 9, 10, 11, 12, 13] (by decide) rfl) hK⟩ rfl rfl hl.1 rfl (lv_room (Nat.le_of_ble_eq_true rfl)) dX4_hide_66 ⟨Nat.zero_le _, Nat.zero_le _⟩) hS hA hP hD [3, 4, 5, 6, 7, 8, 9, 10, 11, 12, 13] [0, 1, 2, 14, 15, 16, 17, 18, 19, 20, 21, 22, 23, 24, 25, 26, 27, 28, 29, 30, 31, 32, 33, 34, 35, 36, 37, 38, 39, 40, 41, 42, 43, 44, 45, 46, 47, 48, 49, 50, 51, 52, 53, 54, 55, 56, 57, 58, 59, 60, 61, 62] rfl rfl (by decide) (by decide) [0, 1, 2, 52, 53, 54, 55, 56, 57, 58, 59, 60, 61, 62, 3, 4, 5, 6, 7, 8, 9, 10, 11, 12, 13, 14, 15, 16, 17, 18, 19, 20, 21, 22, 23, 24, 25, 26, 27, 28, 29, 30, 31, 32, 33, 34, 35, 36, 37, 38, 39, 40, 41, 42, 43, 44, 45, 46, 47, 48, 49, 50, 51] (by decide) rfl (fun H locs hP hD hS => ?_)
      refine lv_iload_n hx hb dX4_hide_69 rfl (lv_at hl 0 rfl) ?_
      obtain rfl := Option.some.inj h
      exact W.iret hx hb hr (fun t ht hW => ⟨⟨_, u6, rfl, rfl, by rw [ht]; exact hP, hD⟩, hS.F ht⟩) hS.2.2 dX4_hide_70 hlocks
    replace h := im c4 h
    cases h
  replace h := ip c2 h
  cases h
set_option maxHeartbeats 4000000 in
set_option maxRecDepth 100000 in
theorem c_X4_ask (l : Launch) (D : va_G) (T : Nat → ClassId) (h0 : Nat) (A0 : Nat → Nat → Nat) (Z0 : Nat → St) (v1 : Int32) (v2 : Int32) (sz : Nat) (r : Int32 × (Nat → St)) (h : F_X4_ask Z0 v1 v2 = some r) : Met l yX4_ask wsX4_ask ({ frames := 6, cells := 0, slots := 0, locals := 116 } : Room) (va_Pc [.ref h0, .int v1, .int v2] (PM D T (scW T h0 A0 (Z0)) sz)) (QEi D (scW T h0) r.1 r.2 (va_A (scW T h0 A0 (Z0)) sz)) 0 0 (va_A (scW T h0 A0 (Z0)) sz) := by
  refine met_of (cc := cX4_ask) (maxL := 3) (ret := (some .int)) (lv := [(0, .ref h0), (1, .int v1), (2, .int v2)]) (by decide) rfl (Nat.le_of_ble_eq_true rfl) rfl ?_
  intro p e s m args below meth c ls C0 hl hB
  obtain ⟨hx, hb, hr, hml, hown, hts, hlocks, hname⟩ := C0
  obtain ⟨hsz, hP, hK, hD0⟩ := hB
  subst hsz
  have hD := hD0.self (sz := s.heap.size)
  generalize hAe : va_A (scW T h0 A0 (Z0)) s.heap.size = A at hD ⊢
  have hA : ∀ q : Nat, s.heap.size ≤ q → A q := fun q h => by rw [← hAe]; exact Or.inr h
  have hS : va_S A s.heap s.heap [] := va_S.rf
  unfold F_X4_ask at h
  refine lv_aload_n hx hb dX4_ask_0 rfl (lv_at hl 0 rfl) ?_
  refine va_get (D := D) (ci := 4) (v := .ref (A0 0 0)) (C := RX4) (T := TX4) (N := 3) hx hb hts inX4_ask_4 hown hK.1 hP 0 rfl rfl 0 (by decide) (hts (.fieldLink RX4 12 "LyingScale" "now" "LLyingScale$State;") (List.mem_of_getElem? (i := 5) rfl)) (fun _ h9 => h9) rfl dX4_ask_1 ?_
  refine lv_iload_n hx hb dX4_ask_4 rfl (lv_at hl 1 rfl) ?_
  refine lv_iload_n hx hb dX4_ask_5 rfl (lv_at hl 2 rfl) ?_
  replace h := bd h
  obtain ⟨t1, et1, h⟩ := h
  refine callRi (v := t1) (va_runV (As := [.int v1, .int v2]) (rest := []) ⟨hx, hb, hml, hown, hts⟩ (c_X2_isWeighing l D T (A0 0) (Z0 0) v1 v2 t1 et1) (cwV 2 hts gX4_ask_X2_isWeighing rfl rfl rfl hdV_X2_isWeighing ⟨Nat.le_of_ble_eq_true rfl, Nat.le_of_ble_eq_true rfl⟩) ⟨PB_blind, va_recv hK.1 hP (ci := 2) (q0 := 3) rfl rfl, PB_at (hP.sub (ws' := stW T (A0 0) (Z0 0)) [3, 4, 5, 6, 7, 8, 9, 10, 11, 12, 13] rfl) hK⟩ rfl rfl hl.1 rfl (lv_room (Nat.le_of_ble_eq_true rfl)) dX4_ask_6 ⟨Nat.zero_le _, Nat.zero_le _⟩) ?_
  refine lv_if_ne (tgt := 22) hx hb dX4_ask_9 (by decide) (fun c2 => ?_) (fun c2 => ?_)
  · replace h := im c2 h
    refine lv_aload_n hx hb dX4_ask_22 rfl (lv_at hl 0 rfl) ?_
    refine va_get (D := D) (ci := 4) (v := .ref (A0 0 0)) (C := RX4) (T := TX4) (N := 3) hx hb hts inX4_ask_4 hown hK.1 hP 0 rfl rfl 0 (by decide) (hts (.fieldLink RX4 12 "LyingScale" "now" "LLyingScale$State;") (List.mem_of_getElem? (i := 5) rfl)) (fun _ h9 => h9) rfl dX4_ask_23 ?_
    replace h := bd h
    obtain ⟨t3, et3, h⟩ := h
    refine callRi (v := t3) (va_runV (As := []) (rest := []) ⟨hx, hb, hml, hown, hts⟩ (c_X2_canReply l D T (A0 0) (Z0 0) t3 et3) (cwV 0 hts gX4_ask_X2_canReply rfl rfl rfl hdV_X2_canReply ⟨Nat.le_of_ble_eq_true rfl, Nat.le_of_ble_eq_true rfl⟩) ⟨PB_blind, va_recv hK.1 hP (ci := 2) (q0 := 3) rfl rfl, PB_at (hP.sub (ws' := stW T (A0 0) (Z0 0)) [3, 4, 5, 6, 7, 8, 9, 10, 11, 12, 13] rfl) hK⟩ rfl rfl hl.1 rfl (lv_room (Nat.le_of_ble_eq_true rfl)) dX4_ask_26 ⟨Nat.zero_le _, Nat.zero_le _⟩) ?_
    refine lv_if_ne (tgt := 42) hx hb dX4_ask_29 (by decide) (fun c4 => ?_) (fun c4 => ?_)
    · replace h := im c4 h
      refine lv_aload_n hx hb dX4_ask_42 rfl (lv_at hl 0 rfl) ?_
      refine va_get (D := D) (ci := 4) (v := .ref (A0 6 1)) (C := RX4) (T := TX4) (N := 3) hx hb hts inX4_ask_4 hown hK.1 hP 0 rfl rfl 1 (by decide) (hts (.fieldLink RX4 19 "LyingScale" "history" "LLyingScale$History;") (List.mem_of_getElem? (i := 6) rfl)) (fun _ h9 => h9) rfl dX4_ask_43 ?_
      refine lv_aload_n hx hb dX4_ask_46 rfl (lv_at hl 0 rfl) ?_
      refine va_get (D := D) (ci := 4) (v := .ref (A0 0 0)) (C := RX4) (T := TX4) (N := 3) hx hb hts inX4_ask_4 hown hK.1 hP 0 rfl rfl 0 (by decide) (hts (.fieldLink RX4 12 "LyingScale" "now" "LLyingScale$State;") (List.mem_of_getElem? (i := 5) rfl)) (fun _ h9 => h9) rfl dX4_ask_47 ?_
      replace h := bd h
      obtain ⟨t5, et5, h⟩ := h
      refine callEv (va_runV (As := [.ref (A0 0 0)]) (rest := []) ⟨hx, hb, hml, hown, hts⟩ (c_X0_save l D T h0 A0 Z0 _ t5 et5) (cwV 1 hts gX4_ask_X0_save rfl rfl rfl hdV_X0_save ⟨Nat.le_of_ble_eq_true rfl, Nat.le_of_ble_eq_true rfl⟩) ⟨PM_blind, va_recv hK.1 hP (ci := 0) (q0 := 1) rfl rfl, PM_at hP hD hK⟩ rfl rfl hl.1 rfl (lv_room (Nat.le_of_ble_eq_true rfl)) dX4_ask_50 ⟨Nat.zero_le _, Nat.zero_le _⟩) hS hA hP hD (fun u6 H locs hP hD hS => ?_)
      refine lv_aload_n hx hb dX4_ask_53 rfl (lv_at hl 0 rfl) ?_
      refine va_get (D := D) (ci := 4) (v := .ref (u6 0 0)) (C := RX4) (T := TX4) (N := 3) hx hb hts inX4_ask_4 hown hK.1 hP 0 rfl rfl 0 (by decide) (hts (.fieldLink RX4 12 "LyingScale" "now" "LLyingScale$State;") (List.mem_of_getElem? (i := 5) rfl)) (fun _ h9 => h9) rfl dX4_ask_54 ?_
      refine lv_iload_n hx hb dX4_ask_57 rfl (lv_at hl 1 rfl) ?_
      refine lv_iload_n hx hb dX4_ask_58 rfl (lv_at hl 2 rfl) ?_
      replace h := bd h
      obtain ⟨t7, et7, h⟩ := h
      refine callMi (wr := [(h0, .inr (4, [.ref (u6 0 0), .ref (u6 6 1), .ref (u6 5 0)])), (u6 6 1, .inr (0, [.ref (u6 6 2), .int ((t5 6).1 0)])), (u6 6 2, .inl (T 3, 4, .inr (.inr (.inr (.inr (hsQ u6)))))), (u6 1 0, .inr (2, [.ref (u6 1 1), .ref (u6 1 2), .ref (u6 1 3), .ref (u6 1 4), .int ((t5 1).1 0), .int ((t5 1).1 1), .int ((t5 1).1 2), .int ((t5 1).1 3), .int ((t5 1).1 4)])), (u6 1 1, .inr (3, [.ref (u6 1 5), .ref (u6 1 6), .ref (u6 1 7), .int ((t5 1).1 5)])), (u6 1 2, .inr (3, [.ref (u6 1 8), .ref (u6 1 9), .ref (u6 1 10), .int ((t5 1).1 6)])), (u6 1 3, .inl (T 0, 33, .inl ((t5 1).2 6))), (u6 1 4, .inl (T 0, 33, .inl ((t5 1).2 7))), (u6 1 5, .inl (T 0, 40, .inl ((t5 1).2 0))), (u6 1 6, .inl (T 0, 40, .inl ((t5 1).2 1))), (u6 1 7, .inl (T 0, 40, .inl ((t5 1).2 2))), (u6 1 8, .inl (T 0, 8, .inl ((t5 1).2 3))), (u6 1 9, .inl (T 0, 8, .inl ((t5 1).2 4))), (u6 1 10, .inl (T 0, 8, .inl ((t5 1).2 5))), (u6 2 0, .inr (2, [.ref (u6 2 1), .ref (u6 2 2), .ref (u6 2 3), .ref (u6 2 4), .int ((t5 2).1 0), .int ((t5 2).1 1), .int ((t5 2).1 2), .int ((t5 2).1 3), .int ((t5 2).1 4)])), (u6 2 1, .inr (3, [.ref (u6 2 5), .ref (u6 2 6), .ref (u6 2 7), .int ((t5 2).1 5)])), (u6 2 2, .inr (3, [.ref (u6 2 8), .ref (u6 2 9), .ref (u6 2 10), .int ((t5 2).1 6)])), (u6 2 3, .inl (T 0, 33, .inl ((t5 2).2 6))), (u6 2 4, .inl (T 0, 33, .inl ((t5 2).2 7))), (u6 2 5, .inl (T 0, 40, .inl ((t5 2).2 0))), (u6 2 6, .inl (T 0, 40, .inl ((t5 2).2 1))), (u6 2 7, .inl (T 0, 40, .inl ((t5 2).2 2))), (u6 2 8, .inl (T 0, 8, .inl ((t5 2).2 3))), (u6 2 9, .inl (T 0, 8, .inl ((t5 2).2 4))), (u6 2 10, .inl (T 0, 8, .inl ((t5 2).2 5))), (u6 3 0, .inr (2, [.ref (u6 3 1), .ref (u6 3 2), .ref (u6 3 3), .ref (u6 3 4), .int ((t5 3).1 0), .int ((t5 3).1 1), .int ((t5 3).1 2), .int ((t5 3).1 3), .int ((t5 3).1 4)])), (u6 3 1, .inr (3, [.ref (u6 3 5), .ref (u6 3 6), .ref (u6 3 7), .int ((t5 3).1 5)])), (u6 3 2, .inr (3, [.ref (u6 3 8), .ref (u6 3 9), .ref (u6 3 10), .int ((t5 3).1 6)])), (u6 3 3, .inl (T 0, 33, .inl ((t5 3).2 6))), (u6 3 4, .inl (T 0, 33, .inl ((t5 3).2 7))), (u6 3 5, .inl (T 0, 40, .inl ((t5 3).2 0))), (u6 3 6, .inl (T 0, 40, .inl ((t5 3).2 1))), (u6 3 7, .inl (T 0, 40, .inl ((t5 3).2 2))), (u6 3 8, .inl (T 0, 8, .inl ((t5 3).2 3))), (u6 3 9, .inl (T 0, 8, .inl ((t5 3).2 4))), (u6 3 10, .inl (T 0, 8, .inl ((t5 3).2 5))), (u6 4 0, .inr (2, [.ref (u6 4 1), .ref (u6 4 2), .ref (u6 4 3), .ref (u6 4 4), .int ((t5 4).1 0), .int ((t5 4).1 1), .int ((t5 4).1 2), .int ((t5 4).1 3), .int ((t5 4).1 4)])), (u6 4 1, .inr (3, [.ref (u6 4 5), .ref (u6 4 6), .ref (u6 4 7), .int ((t5 4).1 5)])), (u6 4 2, .inr (3, [.ref (u6 4 8), .ref (u6 4 9), .ref (u6 4 10), .int ((t5 4).1 6)])), (u6 4 3, .inl (T 0, 33, .inl ((t5 4).2 6))), (u6 4 4, .inl (T 0, 33, .inl ((t5 4).2 7))), (u6 4 5, .inl (T 0, 40, .inl ((t5 4).2 0))), (u6 4 6, .inl (T 0, 40, .inl ((t5 4).2 1))), (u6 4 7, .inl (T 0, 40, .inl ((t5 4).2 2))), (u6 4 8, .inl (T 0, 8, .inl ((t5 4).2 3))), (u6 4 9, .inl (T 0, 8, .inl ((t5 4).2 4))), (u6 4 10, .inl (T 0, 8, .inl ((t5 4).2 5))), (u6 5 0, .inr (1, [.ref (u6 5 1), .ref (u6 5 2), .ref (u6 5 3), .ref (u6 5 4), .int ((t5 5).1 0), .int ((t5 5).1 1), .int ((t5 5).1 2), .int ((t5 5).1 3), .int ((t5 5).1 4)])), (u6 5 1, .inl (T 0, 100, .inl ((t5 5).2 0))), (u6 5 2, .inl (T 0, 20, .inl ((t5 5).2 1))), (u6 5 3, .inl (T 0, 20, .inl ((t5 5).2 2))), (u6 5 4, .inl (T 0, 20, .inl ((t5 5).2 3)))]) (ws' := scW T h0 u6 (zU t5 0 t7.2)) (va_runV (As := [.int v1, .int v2]) (rest := []) ⟨hx, hb, hml, hown, hts⟩ (c_X2_reply l D T (u6 0) (t5 0) v1 v2 _ t7 et7) (cwV 2 hts gX4_ask_X2_reply rfl rfl rfl hdV_X2_reply ⟨Nat.le_of_ble_eq_true rfl, Nat.le_of_ble_eq_true rfl⟩) ⟨PM_blind, va_recv hK.1 hP (ci := 2) (q0 := 3) rfl rfl, PM_at (hP.sub (ws' := stW T (u6 0) (t5 0)) [3, 4, 5, 6, 7, 8, 9, 10, 11, 12, 13] rfl) (hD.sub (ws' := stW T (u6 0) (t5 0)) [3, 4, 5, 6, 7, 8, 9, 10, 11, 12, 13] (by decide) rfl) hK⟩ rfl rfl hl.1 rfl (lv_room (Nat.le_of_ble_eq_true rfl)) dX4_ask_59 ⟨Nat.zero_le _, Nat.zero_le _⟩) hS hA hP hD [3, 4, 5, 6, 7, 8, 9, 10, 11, 12, 13] [0, 1, 2, 14, 15, 16, 17, 18, 19, 20, 21, 22, 23, 24, 25, 26, 27, 28, 29, 30, 31, 32, 33, 34, 35, 36, 37, 38, 39, 40, 41, 42, 43, 44, 45, 46, 47, 48, 49, 50, 51, 52, 53, 54, 55, 56, 57, 58, 59, 60, 61, 62] rfl rfl (by decide) (by decide) [0, 1, 2, 52, 53, 54, 55, 56, 57, 58, 59, 60, 61, 62, 3, 4, 5, 6, 7, 8, 9, 10, 11, 12, 13, 14, 15, 16, 17, 18, 19, 20, 21, 22, 23, 24, 25, 26, 27, 28, 29, 30, 31, 32, 33, 34, 35, 36, 37, 38, 39, 40, 41, 42, 43, 44, 45, 46, 47, 48, 49, 50, 51] (by decide) rfl (fun H locs hP hD hS => ?_)
      obtain rfl := Option.some.inj h
      exact W.iret hx hb hr (fun t ht hW => ⟨⟨_, u6, rfl, rfl, by rw [ht]; exact hP, hD⟩, hS.F ht⟩) hS.2.2 dX4_ask_62 hlocks
    replace h := ip c4 h
    cases h
  replace h := ip c2 h
  cases h
set_option maxHeartbeats 4000000 in
set_option maxRecDepth 100000 in
theorem c_X4_lies (l : Launch) (D : va_G) (T : Nat → ClassId) (h0 : Nat) (A0 : Nat → Nat → Nat) (Z0 : Nat → St) (v1 : Int32) (sz : Nat) (r : Int32 × (Nat → St)) (h : F_X4_lies Z0 v1 = some r) : Met l yX4_lies wsX4_lies ({ frames := 6, cells := 0, slots := 0, locals := 82 } : Room) (va_Pc [.ref h0, .int v1] (PM D T (scW T h0 A0 (Z0)) sz)) (QEi D (scW T h0) r.1 r.2 (va_A (scW T h0 A0 (Z0)) sz)) 0 0 (va_A (scW T h0 A0 (Z0)) sz) := by
  refine met_of (cc := cX4_lies) (maxL := 2) (ret := (some .int)) (lv := [(0, .ref h0), (1, .int v1)]) (by decide) rfl (Nat.le_of_ble_eq_true rfl) rfl ?_
  intro p e s m args below meth c ls C0 hl hB
  obtain ⟨hx, hb, hr, hml, hown, hts, hlocks, hname⟩ := C0
  obtain ⟨hsz, hP, hK, hD0⟩ := hB
  subst hsz
  have hD := hD0.self (sz := s.heap.size)
  generalize hAe : va_A (scW T h0 A0 (Z0)) s.heap.size = A at hD ⊢
  have hA : ∀ q : Nat, s.heap.size ≤ q → A q := fun q h => by rw [← hAe]; exact Or.inr h
  have hS : va_S A s.heap s.heap [] := va_S.rf
  unfold F_X4_lies at h
  refine lv_aload_n hx hb dX4_lies_0 rfl (lv_at hl 0 rfl) ?_
  refine va_get (D := D) (ci := 4) (v := .ref (A0 0 0)) (C := RX4) (T := TX4) (N := 3) hx hb hts inX4_lies_4 hown hK.1 hP 0 rfl rfl 0 (by decide) (hts (.fieldLink RX4 12 "LyingScale" "now" "LLyingScale$State;") (List.mem_of_getElem? (i := 3) rfl)) (fun _ h9 => h9) rfl dX4_lies_1 ?_
  refine lv_iload_n hx hb dX4_lies_4 rfl (lv_at hl 1 rfl) ?_
  replace h := bd h
  obtain ⟨t1, et1, h⟩ := h
  refine callRi (v := t1) (va_runV (As := [.int v1]) (rest := []) ⟨hx, hb, hml, hown, hts⟩ (c_X2_isCase l D T (A0 0) (Z0 0) v1 t1 et1) (cwV 1 hts gX4_lies_X2_isCase rfl rfl rfl hdV_X2_isCase ⟨Nat.le_of_ble_eq_true rfl, Nat.le_of_ble_eq_true rfl⟩) ⟨PB_blind, va_recv hK.1 hP (ci := 2) (q0 := 3) rfl rfl, PB_at (hP.sub (ws' := stW T (A0 0) (Z0 0)) [3, 4, 5, 6, 7, 8, 9, 10, 11, 12, 13] rfl) hK⟩ rfl rfl hl.1 rfl (lv_room (Nat.le_of_ble_eq_true rfl)) dX4_lies_5 ⟨Nat.zero_le _, Nat.zero_le _⟩) ?_
  refine lv_if_ne (tgt := 21) hx hb dX4_lies_8 (by decide) (fun c2 => ?_) (fun c2 => ?_)
  · replace h := im c2 h
    refine lv_aload_n hx hb dX4_lies_21 rfl (lv_at hl 0 rfl) ?_
    refine va_get (D := D) (ci := 4) (v := .ref (A0 0 0)) (C := RX4) (T := TX4) (N := 3) hx hb hts inX4_lies_4 hown hK.1 hP 0 rfl rfl 0 (by decide) (hts (.fieldLink RX4 12 "LyingScale" "now" "LLyingScale$State;") (List.mem_of_getElem? (i := 3) rfl)) (fun _ h9 => h9) rfl dX4_lies_22 ?_
    refine va_getN (D := D) (ci := 2) (v := .ref (A0 0 3)) (C := RX2) (T := TX2) (N := 9) hx hb hts inX4_lies_2 hown hK.1 hP 3 rfl rfl 2 (by decide) (va_Nw.use rfl (hK.2 (.fieldLinkNest RX4 133 "LyingScale$State" "liesOf" "[I" "LyingScale") (List.mem_of_getElem? (i := 0) rfl))) (fun _ h9 => h9) rfl dX4_lies_25 ?_
    refine lv_iload_n hx hb dX4_lies_28 rfl (lv_at hl 1 rfl) ?_
    replace h := bd h
    obtain ⟨t3, et3, h⟩ := h
    refine callRi (v := t3) (va_runS (As := [.ref (A0 0 3), .int v1]) (rest := []) ⟨hx, hb, hml, hown, hts⟩ (c_X4_at l D T (A0 0 3) 33 ((Z0 0).2 6) v1 (Nat.le_of_ble_eq_true rfl) t3 et3) (va_cwS 2 hts gX4_lies_X4_at rfl rfl rfl hdS_X4_at ⟨Nat.le_of_ble_eq_true rfl, Nat.le_of_ble_eq_true rfl⟩) ⟨PB_blind, PB_at (hP.sub (ws' := ([(A0 0 3, .inl (T 0, 33, .inl ((Z0 0).2 6)))] : va_W)) [6] rfl) hK⟩ rfl rfl hl.1 rfl (lv_room (Nat.le_of_ble_eq_true rfl)) dX4_lies_29 ⟨Nat.zero_le _, Nat.zero_le _⟩) ?_
    obtain rfl := Option.some.inj h
    exact W.iret hx hb hr (fun t ht hW => ⟨⟨_, A0, rfl, rfl, by rw [ht]; exact hP, hD⟩, hS.F ht⟩) hS.2.2 dX4_lies_32 hlocks
  replace h := ip c2 h
  cases h
set_option maxHeartbeats 4000000 in
set_option maxRecDepth 100000 in
theorem c_X4_value (l : Launch) (D : va_G) (T : Nat → ClassId) (h0 : Nat) (A0 : Nat → Nat → Nat) (Z0 : Nat → St) (v1 : Int32) (sz : Nat) (r : Int32 × (Nat → St)) (h : F_X4_value Z0 v1 = some r) : Met l yX4_value wsX4_value ({ frames := 6, cells := 0, slots := 0, locals := 85 } : Room) (va_Pc [.ref h0, .int v1] (PM D T (scW T h0 A0 (Z0)) sz)) (QEi D (scW T h0) r.1 r.2 (va_A (scW T h0 A0 (Z0)) sz)) 0 0 (va_A (scW T h0 A0 (Z0)) sz) := by
  refine met_of (cc := cX4_value) (maxL := 2) (ret := (some .int)) (lv := [(0, .ref h0), (1, .int v1)]) (by decide) rfl (Nat.le_of_ble_eq_true rfl) rfl ?_
  intro p e s m args below meth c ls C0 hl hB
  obtain ⟨hx, hb, hr, hml, hown, hts, hlocks, hname⟩ := C0
  obtain ⟨hsz, hP, hK, hD0⟩ := hB
  subst hsz
  have hD := hD0.self (sz := s.heap.size)
  generalize hAe : va_A (scW T h0 A0 (Z0)) s.heap.size = A at hD ⊢
  have hA : ∀ q : Nat, s.heap.size ≤ q → A q := fun q h => by rw [← hAe]; exact Or.inr h
  have hS : va_S A s.heap s.heap [] := va_S.rf
  unfold F_X4_value at h
  refine lv_iload_n hx hb dX4_value_0 rfl (lv_at hl 1 rfl) ?_
  refine lv_if_lt (tgt := 10) hx hb dX4_value_1 (by decide) (fun c1 => ?_) (fun c1 => ?_)
  · replace h := ip c1 h
    cases h
  replace h := im c1 h
  refine lv_iload_n hx hb dX4_value_4 rfl (lv_at hl 1 rfl) ?_
  refine lv_bipush (v := 9) hx hb dX4_value_5 (by decide) ?_
  refine lv_icmp_lt (tgt := 20) hx hb dX4_value_7 (by decide) (fun c2 => ?_) (fun c2 => ?_)
  · replace h := ip c2 h
    refine lv_aload_n hx hb dX4_value_20 rfl (lv_at hl 0 rfl) ?_
    refine va_get (D := D) (ci := 4) (v := .ref (A0 0 0)) (C := RX4) (T := TX4) (N := 3) hx hb hts inX4_value_4 hown hK.1 hP 0 rfl rfl 0 (by decide) (hts (.fieldLink RX4 12 "LyingScale" "now" "LLyingScale$State;") (List.mem_of_getElem? (i := 3) rfl)) (fun _ h9 => h9) rfl dX4_value_21 ?_
    refine lv_iload_n hx hb dX4_value_24 rfl (lv_at hl 1 rfl) ?_
    replace h := bd h
    obtain ⟨t3, et3, h⟩ := h
    refine callRi (v := t3) (va_runV (As := [.int v1]) (rest := []) ⟨hx, hb, hml, hown, hts⟩ (c_X2_number l D T (A0 0) (Z0 0) v1 t3 et3) (cwV 1 hts gX4_value_X2_number rfl rfl rfl hdV_X2_number ⟨Nat.le_of_ble_eq_true rfl, Nat.le_of_ble_eq_true rfl⟩) ⟨PB_blind, va_recv hK.1 hP (ci := 2) (q0 := 3) rfl rfl, PB_at (hP.sub (ws' := stW T (A0 0) (Z0 0)) [3, 4, 5, 6, 7, 8, 9, 10, 11, 12, 13] rfl) hK⟩ rfl rfl hl.1 rfl (lv_room (Nat.le_of_ble_eq_true rfl)) dX4_value_25 ⟨Nat.zero_le _, Nat.zero_le _⟩) ?_
    obtain rfl := Option.some.inj h
    exact W.iret hx hb hr (fun t ht hW => ⟨⟨_, A0, rfl, rfl, by rw [ht]; exact hP, hD⟩, hS.F ht⟩) hS.2.2 dX4_value_28 hlocks
  replace h := im c2 h
  cases h
set_option maxHeartbeats 4000000 in
set_option maxRecDepth 100000 in
theorem c_X4_weight (l : Launch) (D : va_G) (T : Nat → ClassId) (h0 : Nat) (A0 : Nat → Nat → Nat) (Z0 : Nat → St) (v1 : Int32) (sz : Nat) (r : Int64 × (Nat → St)) (h : F_X4_weight Z0 v1 = some r) : Met l yX4_weight wsX4_weight ({ frames := 6, cells := 0, slots := 0, locals := 96 } : Room) (va_Pc [.ref h0, .int v1] (PM D T (scW T h0 A0 (Z0)) sz)) (QEl D (scW T h0) r.1 r.2 (va_A (scW T h0 A0 (Z0)) sz)) 0 0 (va_A (scW T h0 A0 (Z0)) sz) := by
  refine met_of (cc := cX4_weight) (maxL := 2) (ret := (some .long)) (lv := [(0, .ref h0), (1, .int v1)]) (by decide) rfl (Nat.le_of_ble_eq_true rfl) rfl ?_
  intro p e s m args below meth c ls C0 hl hB
  obtain ⟨hx, hb, hr, hml, hown, hts, hlocks, hname⟩ := C0
  obtain ⟨hsz, hP, hK, hD0⟩ := hB
  subst hsz
  have hD := hD0.self (sz := s.heap.size)
  generalize hAe : va_A (scW T h0 A0 (Z0)) s.heap.size = A at hD ⊢
  have hA : ∀ q : Nat, s.heap.size ≤ q → A q := fun q h => by rw [← hAe]; exact Or.inr h
  have hS : va_S A s.heap s.heap [] := va_S.rf
  unfold F_X4_weight at h
  refine lv_iload_n hx hb dX4_weight_0 rfl (lv_at hl 1 rfl) ?_
  replace h := bd h
  obtain ⟨t1, et1, h⟩ := h
  refine callRi (v := t1) (va_runS (As := [.int v1]) (rest := []) ⟨hx, hb, hml, hown, hts⟩ (c_X4_isAhead l D T v1 t1 et1) (va_cwS 1 hts gX4_weight_X4_isAhead rfl rfl rfl hdS_X4_isAhead ⟨Nat.le_of_ble_eq_true rfl, Nat.le_of_ble_eq_true rfl⟩) ⟨PB_blind, PB_at (hP.sub (ws' := ([] : va_W)) [] rfl) hK⟩ rfl rfl hl.1 rfl (lv_room (Nat.le_of_ble_eq_true rfl)) dX4_weight_1 ⟨Nat.zero_le _, Nat.zero_le _⟩) ?_
  refine lv_if_ne (tgt := 17) hx hb dX4_weight_4 (by decide) (fun c2 => ?_) (fun c2 => ?_)
  · replace h := im c2 h
    refine lv_aload_n hx hb dX4_weight_17 rfl (lv_at hl 0 rfl) ?_
    refine va_get (D := D) (ci := 4) (v := .ref (A0 0 0)) (C := RX4) (T := TX4) (N := 3) hx hb hts inX4_weight_4 hown hK.1 hP 0 rfl rfl 0 (by decide) (hts (.fieldLink RX4 12 "LyingScale" "now" "LLyingScale$State;") (List.mem_of_getElem? (i := 3) rfl)) (fun _ h9 => h9) rfl dX4_weight_18 ?_
    refine lv_iload_n hx hb dX4_weight_21 rfl (lv_at hl 1 rfl) ?_
    replace h := bd h
    obtain ⟨t3, et3, h⟩ := h
    refine callRl (v := t3) (va_runV (As := [.int v1]) (rest := []) ⟨hx, hb, hml, hown, hts⟩ (c_X2_weightAhead l D T (A0 0) (Z0 0) v1 t3 et3) (cwV 1 hts gX4_weight_X2_weightAhead rfl rfl rfl hdV_X2_weightAhead ⟨Nat.le_of_ble_eq_true rfl, Nat.le_of_ble_eq_true rfl⟩) ⟨PB_blind, va_recv hK.1 hP (ci := 2) (q0 := 3) rfl rfl, PB_at (hP.sub (ws' := stW T (A0 0) (Z0 0)) [3, 4, 5, 6, 7, 8, 9, 10, 11, 12, 13] rfl) hK⟩ rfl rfl hl.1 rfl (lv_room (Nat.le_of_ble_eq_true rfl)) dX4_weight_22 ⟨Nat.zero_le _, Nat.zero_le _⟩) ?_
    obtain rfl := Option.some.inj h
    exact W.lret hx hb hr (fun t ht hW => ⟨⟨_, A0, rfl, rfl, by rw [ht]; exact hP, hD⟩, hS.F ht⟩) hS.2.2 dX4_weight_25 hlocks
  replace h := ip c2 h
  cases h
set_option maxHeartbeats 4000000 in
set_option maxRecDepth 100000 in
theorem c_X4_bound (l : Launch) (D : va_G) (T : Nat → ClassId) (h0 : Nat) (A0 : Nat → Nat → Nat) (Z0 : Nat → St) (sz : Nat) (r : Int32 × (Nat → St)) (h : F_X4_bound Z0 = some r) : Met l yX4_bound wsX4_bound ({ frames := 4, cells := 0, slots := 0, locals := 96 } : Room) (va_Pc [.ref h0] (PM D T (scW T h0 A0 (Z0)) sz)) (QEi D (scW T h0) r.1 r.2 (va_A (scW T h0 A0 (Z0)) sz)) 0 0 (va_A (scW T h0 A0 (Z0)) sz) := by
  refine met_of (cc := cX4_bound) (maxL := 4) (ret := (some .int)) (lv := [(0, .ref h0)]) (by decide) rfl (Nat.le_of_ble_eq_true rfl) rfl ?_
  intro p e s m args below meth c ls C0 hl hB
  obtain ⟨hx, hb, hr, hml, hown, hts, hlocks, hname⟩ := C0
  obtain ⟨hsz, hP, hK, hD0⟩ := hB
  subst hsz
  have hD := hD0.self (sz := s.heap.size)
  generalize hAe : va_A (scW T h0 A0 (Z0)) s.heap.size = A at hD ⊢
  have hA : ∀ q : Nat, s.heap.size ≤ q → A q := fun q h => by rw [← hAe]; exact Or.inr h
  have hS : va_S A s.heap s.heap [] := va_S.rf
  unfold F_X4_bound at h
  refine lv_lconst (v := 1) hx hb dX4_bound_0 (by decide) ?_
  refine lv_lstore_n (lv' := [(1, .long 1), (0, .ref h0)]) hx hb dX4_bound_1 rfl hl (by decide) rfl (fun ls hl => ?_)
  refine lv_iconst (v := 0) hx hb dX4_bound_2 (by decide) ?_
  refine lv_istore_n (lv' := [(3, .int 0), (1, .long 1), (0, .ref h0)]) hx hb dX4_bound_3 rfl hl (by decide) rfl (fun ls hl => ?_)
  have K4 : ∀ (n4 : Nat) (i1_4 : Int64) (i3_4 : Int32) (H : Heap) (locs : List Loc) (ls : Array Slot), fx2 (B_X4_bound_4 Z0) n4 i1_4 i3_4 = some r → va_P D vwCl (scW T h0 A0 (Z0)) H → va_D A (scW T h0 A0 (Z0)) → va_S A s.heap H locs → lv_has ls 4 [(0, .ref h0), (1, .long i1_4), (3, .int i3_4)] → W p l e ({ frames := 4, cells := 0, slots := 0, locals := 96 } : Room) s m args below meth c H locs 0 0 (MQ below (QEi D (scW T h0) r.1 r.2 A) args s 0 0 A) (F0 m 4 ls []) := by
    intro n4
    induction n4 with
    | zero =>
        intro i1_4 i3_4 H locs ls h
        cases h
    | succ n4 ih4 =>
        intro i1_4 i3_4 H locs ls h hP hD hS hl
        replace h : B_X4_bound_4 Z0 (fx2 (B_X4_bound_4 Z0) n4) i1_4 i3_4 = some r := h
        unfold B_X4_bound_4 at h
        refine lv_iload_n hx hb dX4_bound_4 rfl (lv_at hl 2 rfl) ?_
        refine lv_bipush (v := 20) hx hb dX4_bound_5 (by decide) ?_
        refine lv_icmp_gt (tgt := 37) hx hb dX4_bound_7 (by decide) (fun c1 => ?_) (fun c1 => ?_)
        · replace h := ip c1 h
          refine lv_iconst (v := (-1)) hx hb dX4_bound_37 (by decide) ?_
          obtain rfl := Option.some.inj h
          exact W.iret hx hb hr (fun t ht hW => ⟨⟨_, A0, rfl, rfl, by rw [ht]; exact hP, hD⟩, hS.F ht⟩) hS.2.2 dX4_bound_38 hlocks
        replace h := im c1 h
        refine lv_aload_n hx hb dX4_bound_10 rfl (lv_at hl 0 rfl) ?_
        refine va_get (D := D) (ci := 4) (v := .ref (A0 0 0)) (C := RX4) (T := TX4) (N := 3) hx hb hts inX4_bound_4 hown hK.1 hP 0 rfl rfl 0 (by decide) (hts (.fieldLink RX4 12 "LyingScale" "now" "LLyingScale$State;") (List.mem_of_getElem? (i := 1) rfl)) (fun _ h9 => h9) rfl dX4_bound_11 ?_
        refine lv_iload_n hx hb dX4_bound_14 rfl (lv_at hl 2 rfl) ?_
        replace h := bd h
        obtain ⟨t2, et2, h⟩ := h
        refine callRl (v := t2) (va_runV (As := [.int i3_4]) (rest := []) ⟨hx, hb, hml, hown, hts⟩ (c_X2_weightAhead l D T (A0 0) (Z0 0) i3_4 t2 et2) (cwV 1 hts gX4_bound_X2_weightAhead rfl rfl rfl hdV_X2_weightAhead ⟨Nat.le_of_ble_eq_true rfl, Nat.le_of_ble_eq_true rfl⟩) ⟨PB_blind, va_recv hK.1 hP (ci := 2) (q0 := 3) rfl rfl, PB_at (hP.sub (ws' := stW T (A0 0) (Z0 0)) [3, 4, 5, 6, 7, 8, 9, 10, 11, 12, 13] rfl) hK⟩ rfl rfl hl.1 rfl (lv_room (Nat.le_of_ble_eq_true rfl)) dX4_bound_15 ⟨Nat.zero_le _, Nat.zero_le _⟩) ?_
        refine lv_lload_n hx hb dX4_bound_18 rfl (lv_at hl 1 rfl) ?_
        refine W.lcmp hx hb dX4_bound_19 ?_
        refine lv_if_gt (tgt := 25) hx hb dX4_bound_20 (by decide) (fun c3 => ?_) (fun c3 => ?_)
        · replace h := ip c3 h
          refine lv_lload_n hx hb dX4_bound_25 rfl (lv_at hl 1 rfl) ?_
          refine lv_ldc2 hx hb hown (hts (.constantLong RX4 170 (3)) (List.mem_of_getElem? (i := 2) rfl)) dX4_bound_26 ?_
          refine lv_lmul hx hb dX4_bound_29 ?_
          refine lv_lstore_n (lv' := [(1, .long (i1_4 * 3)), (0, .ref h0), (3, .int i3_4)]) hx hb dX4_bound_30 rfl hl (by decide) rfl (fun ls hl => ?_)
          refine lv_iinc (v := i3_4 + 1) (lv' := [(3, .int (i3_4 + 1)), (1, .long (i1_4 * 3)), (0, .ref h0)]) hx hb dX4_bound_31 hl (k := 2) rfl rfl (by decide) rfl (fun ls hl => ?_)
          refine lv_goto (tgt := 4) hx hb dX4_bound_34 (by decide) ?_
          exact ih4 (i1_4 * 3) (i3_4 + 1) _ _ ls h hP hD hS (lv_sub hl [2, 1, 0] rfl)
        replace h := im c3 h
        refine lv_iload_n hx hb dX4_bound_23 rfl (lv_at hl 2 rfl) ?_
        obtain rfl := Option.some.inj h
        exact W.iret hx hb hr (fun t ht hW => ⟨⟨_, A0, rfl, rfl, by rw [ht]; exact hP, hD⟩, hS.F ht⟩) hS.2.2 dX4_bound_24 hlocks
  exact K4 1000 1 0 _ _ ls h hP hD hS (lv_sub hl [2, 1, 0] rfl)
set_option maxHeartbeats 4000000 in
set_option maxRecDepth 100000 in
theorem c_X4_weightBehind (l : Launch) (D : va_G) (T : Nat → ClassId) (h0 : Nat) (A0 : Nat → Nat → Nat) (Z0 : Nat → St) (v1 : Int32) (v2 : Int32) (v3 : Int32) (v4 : Int32) (sz : Nat) (r : Int64 × (Nat → St)) (h : F_X4_weightBehind Z0 v1 v2 v3 v4 = some r) : Met l yX4_weightBehind wsX4_weightBehind ({ frames := 6, cells := 0, slots := 0, locals := 99 } : Room) (va_Pc [.ref h0, .int v1, .int v2, .int v3, .int v4] (PM D T (scW T h0 A0 (Z0)) sz)) (QEl D (scW T h0) r.1 r.2 (va_A (scW T h0 A0 (Z0)) sz)) 0 0 (va_A (scW T h0 A0 (Z0)) sz) := by
  refine met_of (cc := cX4_weightBehind) (maxL := 5) (ret := (some .long)) (lv := [(0, .ref h0), (1, .int v1), (2, .int v2), (3, .int v3), (4, .int v4)]) (by decide) rfl (Nat.le_of_ble_eq_true rfl) rfl ?_
  intro p e s m args below meth c ls C0 hl hB
  obtain ⟨hx, hb, hr, hml, hown, hts, hlocks, hname⟩ := C0
  obtain ⟨hsz, hP, hK, hD0⟩ := hB
  subst hsz
  have hD := hD0.self (sz := s.heap.size)
  generalize hAe : va_A (scW T h0 A0 (Z0)) s.heap.size = A at hD ⊢
  have hA : ∀ q : Nat, s.heap.size ≤ q → A q := fun q h => by rw [← hAe]; exact Or.inr h
  have hS : va_S A s.heap s.heap [] := va_S.rf
  unfold F_X4_weightBehind at h
  refine lv_aload_n hx hb dX4_weightBehind_0 rfl (lv_at hl 0 rfl) ?_
  refine va_get (D := D) (ci := 4) (v := .ref (A0 0 0)) (C := RX4) (T := TX4) (N := 3) hx hb hts inX4_weightBehind_4 hown hK.1 hP 0 rfl rfl 0 (by decide) (hts (.fieldLink RX4 12 "LyingScale" "now" "LLyingScale$State;") (List.mem_of_getElem? (i := 3) rfl)) (fun _ h9 => h9) rfl dX4_weightBehind_1 ?_
  refine lv_iload_n hx hb dX4_weightBehind_4 rfl (lv_at hl 1 rfl) ?_
  refine lv_iload_n hx hb dX4_weightBehind_5 rfl (lv_at hl 2 rfl) ?_
  replace h := bd h
  obtain ⟨t1, et1, h⟩ := h
  refine callRi (v := t1) (va_runV (As := [.int v1, .int v2]) (rest := []) ⟨hx, hb, hml, hown, hts⟩ (c_X2_isWeighing l D T (A0 0) (Z0 0) v1 v2 t1 et1) (cwV 2 hts gX4_weightBehind_X2_isWeighing rfl rfl rfl hdV_X2_isWeighing ⟨Nat.le_of_ble_eq_true rfl, Nat.le_of_ble_eq_true rfl⟩) ⟨PB_blind, va_recv hK.1 hP (ci := 2) (q0 := 3) rfl rfl, PB_at (hP.sub (ws' := stW T (A0 0) (Z0 0)) [3, 4, 5, 6, 7, 8, 9, 10, 11, 12, 13] rfl) hK⟩ rfl rfl hl.1 rfl (lv_room (Nat.le_of_ble_eq_true rfl)) dX4_weightBehind_6 ⟨Nat.zero_le _, Nat.zero_le _⟩) ?_
  refine lv_if_eq (tgt := 27) hx hb dX4_weightBehind_9 (by decide) (fun c2 => ?_) (fun c2 => ?_)
  · replace h := ip c2 h
    cases h
  replace h := im c2 h
  refine lv_iload_n hx hb dX4_weightBehind_12 rfl (lv_at hl 3 rfl) ?_
  replace h := bd h
  obtain ⟨t3, et3, h⟩ := h
  refine callRi (v := t3) (va_runS (As := [.int v3]) (rest := []) ⟨hx, hb, hml, hown, hts⟩ (c_X4_isAnswer l D T v3 t3 et3) (va_cwS 1 hts gX4_weightBehind_X4_isAnswer rfl rfl rfl hdS_X4_isAnswer ⟨Nat.le_of_ble_eq_true rfl, Nat.le_of_ble_eq_true rfl⟩) ⟨PB_blind, PB_at (hP.sub (ws' := ([] : va_W)) [] rfl) hK⟩ rfl rfl hl.1 rfl (lv_room (Nat.le_of_ble_eq_true rfl)) dX4_weightBehind_13 ⟨Nat.zero_le _, Nat.zero_le _⟩) ?_
  refine lv_if_eq (tgt := 27) hx hb dX4_weightBehind_16 (by decide) (fun c4 => ?_) (fun c4 => ?_)
  · replace h := ip c4 h
    cases h
  replace h := im c4 h
  refine lv_iload hx hb dX4_weightBehind_19 (lv_at hl 4 rfl) ?_
  replace h := bd h
  obtain ⟨t5, et5, h⟩ := h
  refine callRi (v := t5) (va_runS (As := [.int v4]) (rest := []) ⟨hx, hb, hml, hown, hts⟩ (c_X4_isAhead l D T v4 t5 et5) (va_cwS 1 hts gX4_weightBehind_X4_isAhead rfl rfl rfl hdS_X4_isAhead ⟨Nat.le_of_ble_eq_true rfl, Nat.le_of_ble_eq_true rfl⟩) ⟨PB_blind, PB_at (hP.sub (ws' := ([] : va_W)) [] rfl) hK⟩ rfl rfl hl.1 rfl (lv_room (Nat.le_of_ble_eq_true rfl)) dX4_weightBehind_21 ⟨Nat.zero_le _, Nat.zero_le _⟩) ?_
  refine lv_if_ne (tgt := 37) hx hb dX4_weightBehind_24 (by decide) (fun c6 => ?_) (fun c6 => ?_)
  · replace h := im c6 h
    refine lv_aload_n hx hb dX4_weightBehind_37 rfl (lv_at hl 0 rfl) ?_
    refine va_get (D := D) (ci := 4) (v := .ref (A0 0 0)) (C := RX4) (T := TX4) (N := 3) hx hb hts inX4_weightBehind_4 hown hK.1 hP 0 rfl rfl 0 (by decide) (hts (.fieldLink RX4 12 "LyingScale" "now" "LLyingScale$State;") (List.mem_of_getElem? (i := 3) rfl)) (fun _ h9 => h9) rfl dX4_weightBehind_38 ?_
    refine lv_iload_n hx hb dX4_weightBehind_41 rfl (lv_at hl 1 rfl) ?_
    refine lv_iload_n hx hb dX4_weightBehind_42 rfl (lv_at hl 2 rfl) ?_
    refine lv_iload_n hx hb dX4_weightBehind_43 rfl (lv_at hl 3 rfl) ?_
    refine lv_iload hx hb dX4_weightBehind_44 (lv_at hl 4 rfl) ?_
    replace h := bd h
    obtain ⟨t7, et7, h⟩ := h
    refine callRl (v := t7) (va_runV (As := [.int v1, .int v2, .int v3, .int v4]) (rest := []) ⟨hx, hb, hml, hown, hts⟩ (c_X2_weightIfTold l D T (A0 0) (Z0 0) v1 v2 v3 v4 t7 et7) (cwV 4 hts gX4_weightBehind_X2_weightIfTold rfl rfl rfl hdV_X2_weightIfTold ⟨Nat.le_of_ble_eq_true rfl, Nat.le_of_ble_eq_true rfl⟩) ⟨PB_blind, va_recv hK.1 hP (ci := 2) (q0 := 3) rfl rfl, PB_at (hP.sub (ws' := stW T (A0 0) (Z0 0)) [3, 4, 5, 6, 7, 8, 9, 10, 11, 12, 13] rfl) hK⟩ rfl rfl hl.1 rfl (lv_room (Nat.le_of_ble_eq_true rfl)) dX4_weightBehind_46 ⟨Nat.zero_le _, Nat.zero_le _⟩) ?_
    obtain rfl := Option.some.inj h
    exact W.lret hx hb hr (fun t ht hW => ⟨⟨_, A0, rfl, rfl, by rw [ht]; exact hP, hD⟩, hS.F ht⟩) hS.2.2 dX4_weightBehind_49 hlocks
  replace h := ip c6 h
  cases h
set_option maxHeartbeats 4000000 in
set_option maxRecDepth 100000 in
theorem c_X4_undo (l : Launch) (D : va_G) (T : Nat → ClassId) (h0 : Nat) (A0 : Nat → Nat → Nat) (Z0 : Nat → St) (sz : Nat) (r : Int32 × (Nat → St)) (h : F_X4_undo Z0 = some r) : Met l yX4_undo wsX4_undo ({ frames := 6, cells := 0, slots := 0, locals := 108 } : Room) (va_Pc [.ref h0] (PM D T (scW T h0 A0 (Z0)) sz)) (QEi D (scW T h0) r.1 r.2 (va_A (scW T h0 A0 (Z0)) sz)) 0 0 (va_A (scW T h0 A0 (Z0)) sz) := by
  refine met_of (cc := cX4_undo) (maxL := 1) (ret := (some .int)) (lv := [(0, .ref h0)]) (by decide) rfl (Nat.le_of_ble_eq_true rfl) rfl ?_
  intro p e s m args below meth c ls C0 hl hB
  obtain ⟨hx, hb, hr, hml, hown, hts, hlocks, hname⟩ := C0
  obtain ⟨hsz, hP, hK, hD0⟩ := hB
  subst hsz
  have hD := hD0.self (sz := s.heap.size)
  generalize hAe : va_A (scW T h0 A0 (Z0)) s.heap.size = A at hD ⊢
  have hA : ∀ q : Nat, s.heap.size ≤ q → A q := fun q h => by rw [← hAe]; exact Or.inr h
  have hS : va_S A s.heap s.heap [] := va_S.rf
  unfold F_X4_undo at h
  refine lv_aload_n hx hb dX4_undo_0 rfl (lv_at hl 0 rfl) ?_
  refine va_get (D := D) (ci := 4) (v := .ref (A0 6 1)) (C := RX4) (T := TX4) (N := 3) hx hb hts inX4_undo_4 hown hK.1 hP 0 rfl rfl 1 (by decide) (hts (.fieldLink RX4 19 "LyingScale" "history" "LLyingScale$History;") (List.mem_of_getElem? (i := 3) rfl)) (fun _ h9 => h9) rfl dX4_undo_1 ?_
  refine va_getN (D := D) (ci := 0) (v := .int ((Z0 6).1 0)) (C := RX0) (T := TX0) (N := 2) hx hb hts inX4_undo_0 hown hK.1 hP 1 rfl rfl 1 (by decide) (va_Nw.use rfl (hK.2 (.fieldLinkNest RX4 234 "LyingScale$History" "count" "I" "LyingScale") (List.mem_of_getElem? (i := 1) rfl))) (fun _ h9 => h9) rfl dX4_undo_4 ?_
  refine lv_if_ne (tgt := 20) hx hb dX4_undo_7 (by decide) (fun c1 => ?_) (fun c1 => ?_)
  · replace h := im c1 h
    refine lv_aload_n hx hb dX4_undo_20 rfl (lv_at hl 0 rfl) ?_
    refine va_get (D := D) (ci := 4) (v := .ref (A0 6 1)) (C := RX4) (T := TX4) (N := 3) hx hb hts inX4_undo_4 hown hK.1 hP 0 rfl rfl 1 (by decide) (hts (.fieldLink RX4 19 "LyingScale" "history" "LLyingScale$History;") (List.mem_of_getElem? (i := 3) rfl)) (fun _ h9 => h9) rfl dX4_undo_21 ?_
    refine lv_aload_n hx hb dX4_undo_24 rfl (lv_at hl 0 rfl) ?_
    refine va_get (D := D) (ci := 4) (v := .ref (A0 0 0)) (C := RX4) (T := TX4) (N := 3) hx hb hts inX4_undo_4 hown hK.1 hP 0 rfl rfl 0 (by decide) (hts (.fieldLink RX4 12 "LyingScale" "now" "LLyingScale$State;") (List.mem_of_getElem? (i := 4) rfl)) (fun _ h9 => h9) rfl dX4_undo_25 ?_
    replace h := bd h
    obtain ⟨t2, et2, h⟩ := h
    refine callEv (va_runV (As := [.ref (A0 0 0)]) (rest := []) ⟨hx, hb, hml, hown, hts⟩ (c_X0_restore l D T h0 A0 Z0 _ t2 et2) (cwV 1 hts gX4_undo_X0_restore rfl rfl rfl hdV_X0_restore ⟨Nat.le_of_ble_eq_true rfl, Nat.le_of_ble_eq_true rfl⟩) ⟨PM_blind, va_recv hK.1 hP (ci := 0) (q0 := 1) rfl rfl, PM_at hP hD hK⟩ rfl rfl hl.1 rfl (lv_room (Nat.le_of_ble_eq_true rfl)) dX4_undo_28 ⟨Nat.zero_le _, Nat.zero_le _⟩) hS hA hP hD (fun u3 H locs hP hD hS => ?_)
    refine lv_aload_n hx hb dX4_undo_31 rfl (lv_at hl 0 rfl) ?_
    refine va_get (D := D) (ci := 4) (v := .ref (u3 6 1)) (C := RX4) (T := TX4) (N := 3) hx hb hts inX4_undo_4 hown hK.1 hP 0 rfl rfl 1 (by decide) (hts (.fieldLink RX4 19 "LyingScale" "history" "LLyingScale$History;") (List.mem_of_getElem? (i := 3) rfl)) (fun _ h9 => h9) rfl dX4_undo_32 ?_
    refine va_getN (D := D) (ci := 0) (v := .int ((t2 6).1 0)) (C := RX0) (T := TX0) (N := 2) hx hb hts inX4_undo_0 hown hK.1 hP 1 rfl rfl 1 (by decide) (va_Nw.use rfl (hK.2 (.fieldLinkNest RX4 234 "LyingScale$History" "count" "I" "LyingScale") (List.mem_of_getElem? (i := 1) rfl))) (fun _ h9 => h9) rfl dX4_undo_35 ?_
    obtain rfl := Option.some.inj h
    exact W.iret hx hb hr (fun t ht hW => ⟨⟨_, u3, rfl, rfl, by rw [ht]; exact hP, hD⟩, hS.F ht⟩) hS.2.2 dX4_undo_38 hlocks
  replace h := ip c1 h
  cases h
