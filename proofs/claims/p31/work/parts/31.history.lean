def F_X0_dropOldest (Z0 : Nat → St) : Option ((Nat → St)) :=
  some (rotZ (zU Z0 6 (sI (Z0 6) 0 3)))
def F_X0_save (Z0 : Nat → St) : Option ((Nat → St)) :=
  if (Z0 6).1 0 = 0 then ((F_X2_copyFrom (Z0 1) (Z0 0)).bind fun t1 => (some (zU (zU Z0 1 t1) 6 (sI ((zU Z0 1 t1) 6) 0 ((((zU Z0 1 t1) 6).1 0) + 1)))).bind fun y2 => some y2) else if (Z0 6).1 0 = 1 then ((F_X2_copyFrom (Z0 2) (Z0 0)).bind fun t3 => (some (zU (zU Z0 2 t3) 6 (sI ((zU Z0 2 t3) 6) 0 ((((zU Z0 2 t3) 6).1 0) + 1)))).bind fun y4 => some y4) else if (Z0 6).1 0 = 2 then ((F_X2_copyFrom (Z0 3) (Z0 0)).bind fun t5 => (some (zU (zU Z0 3 t5) 6 (sI ((zU Z0 3 t5) 6) 0 ((((zU Z0 3 t5) 6).1 0) + 1)))).bind fun y6 => some y6) else if (Z0 6).1 0 = 3 then ((F_X2_copyFrom (Z0 4) (Z0 0)).bind fun t7 => (some (zU (zU Z0 4 t7) 6 (sI ((zU Z0 4 t7) 6) 0 ((((zU Z0 4 t7) 6).1 0) + 1)))).bind fun y8 => some y8) else if (Z0 6).1 0 = 4 then ((F_X2_copyFrom ((rotZ (zU Z0 6 (sI (Z0 6) 0 3))) 4) ((rotZ (zU Z0 6 (sI (Z0 6) 0 3))) 0)).bind fun t9 => (some (zU (zU (rotZ (zU Z0 6 (sI (Z0 6) 0 3))) 4 t9) 6 (sI ((zU (rotZ (zU Z0 6 (sI (Z0 6) 0 3))) 4 t9) 6) 0 ((((zU (rotZ (zU Z0 6 (sI (Z0 6) 0 3))) 4 t9) 6).1 0) + 1)))).bind fun y10 => some y10) else none
def F_X0_restore (Z0 : Nat → St) : Option ((Nat → St)) :=
  if (Z0 6).1 0 = 1 then ((F_X2_copyFrom (Z0 0) (Z0 1)).bind fun t1 => (some (zU (zU Z0 0 t1) 6 (sI ((zU Z0 0 t1) 6) 0 ((((zU Z0 0 t1) 6).1 0) - 1)))).bind fun y2 => some y2) else if (Z0 6).1 0 = 2 then ((F_X2_copyFrom (Z0 0) (Z0 2)).bind fun t3 => (some (zU (zU Z0 0 t3) 6 (sI ((zU Z0 0 t3) 6) 0 ((((zU Z0 0 t3) 6).1 0) - 1)))).bind fun y4 => some y4) else if (Z0 6).1 0 = 3 then ((F_X2_copyFrom (Z0 0) (Z0 3)).bind fun t5 => (some (zU (zU Z0 0 t5) 6 (sI ((zU Z0 0 t5) 6) 0 ((((zU Z0 0 t5) 6).1 0) - 1)))).bind fun y6 => some y6) else if (Z0 6).1 0 = 4 then ((F_X2_copyFrom (Z0 0) (Z0 4)).bind fun t7 => (some (zU (zU Z0 0 t7) 6 (sI ((zU Z0 0 t7) 6) 0 ((((zU Z0 0 t7) 6).1 0) - 1)))).bind fun y8 => some y8) else none
theorem inX0_dropOldest_0 : ∀ w ∈ u_ws RX0 TX0 2, w ∈ wsX0_dropOldest := by decide +kernel
theorem hdS_X0_dropOldest : yX0_dropOldest.cls ≠ "java/lang/invoke/MethodHandle" ∧ yX0_dropOldest.cls ≠ "java/lang/invoke/VarHandle" ∧ (parseMethodDescriptor yX0_dropOldest.desc).map (fun d => d.parameters.length) = some 0 := by decide +kernel
theorem hdV_X0_dropOldest : yX0_dropOldest.cls = RX0 ∧ yX0_dropOldest.cls ≠ "java/lang/invoke/MethodHandle" ∧ yX0_dropOldest.cls ≠ "java/lang/invoke/VarHandle" ∧ (parseMethodDescriptor yX0_dropOldest.desc).map (fun d => d.parameters.length) = some 0 := by decide +kernel
theorem inX0_save_0 : ∀ w ∈ u_ws RX0 TX0 2, w ∈ wsX0_save := by decide +kernel
theorem hdS_X0_save : yX0_save.cls ≠ "java/lang/invoke/MethodHandle" ∧ yX0_save.cls ≠ "java/lang/invoke/VarHandle" ∧ (parseMethodDescriptor yX0_save.desc).map (fun d => d.parameters.length) = some 1 := by decide +kernel
theorem hdV_X0_save : yX0_save.cls = RX0 ∧ yX0_save.cls ≠ "java/lang/invoke/MethodHandle" ∧ yX0_save.cls ≠ "java/lang/invoke/VarHandle" ∧ (parseMethodDescriptor yX0_save.desc).map (fun d => d.parameters.length) = some 1 := by decide +kernel
theorem inX0_restore_0 : ∀ w ∈ u_ws RX0 TX0 2, w ∈ wsX0_restore := by decide +kernel
theorem hdS_X0_restore : yX0_restore.cls ≠ "java/lang/invoke/MethodHandle" ∧ yX0_restore.cls ≠ "java/lang/invoke/VarHandle" ∧ (parseMethodDescriptor yX0_restore.desc).map (fun d => d.parameters.length) = some 1 := by decide +kernel
theorem hdV_X0_restore : yX0_restore.cls = RX0 ∧ yX0_restore.cls ≠ "java/lang/invoke/MethodHandle" ∧ yX0_restore.cls ≠ "java/lang/invoke/VarHandle" ∧ (parseMethodDescriptor yX0_restore.desc).map (fun d => d.parameters.length) = some 1 := by decide +kernel
set_option maxHeartbeats 4000000 in
set_option maxRecDepth 100000 in
theorem c_X0_dropOldest (l : Launch) (D : va_G) (T : Nat → ClassId) (h0 : Nat) (A0 : Nat → Nat → Nat) (Z0 : Nat → St) (sz : Nat) : Met l yX0_dropOldest wsX0_dropOldest ({ frames := 1, cells := 0, slots := 0, locals := 21 } : Room) (va_Pc [.ref (A0 6 1)] (PM D T (scW T h0 A0 (Z0)) sz)) (QMv D (scW T h0 (rotA A0) (rotZ (zU Z0 6 (sI (Z0 6) 0 3)))) (va_A (scW T h0 A0 (Z0)) sz)) 0 0 (va_A (scW T h0 A0 (Z0)) sz) := by
  refine met_of (cc := cX0_dropOldest) (maxL := 4) (ret := none) (lv := [(0, .ref (A0 6 1))]) (by decide) rfl (Nat.le_of_ble_eq_true rfl) rfl ?_
  intro p e s m args below meth c ls C0 hl hB
  obtain ⟨hx, hb, hr, hml, hown, hts, hlocks, hname⟩ := C0
  obtain ⟨hsz, hP, hK, hD0⟩ := hB
  subst hsz
  have hD := hD0.self (sz := s.heap.size)
  generalize hAe : va_A (scW T h0 A0 (Z0)) s.heap.size = A at hD ⊢
  have hA : ∀ q : Nat, s.heap.size ≤ q → A q := fun q h => by rw [← hAe]; exact Or.inr h
  have hS : va_S A s.heap s.heap [] := va_S.rf
  refine lv_aload_n hx hb dX0_dropOldest_0 rfl (lv_at hl 0 rfl) ?_
  refine lv_iconst (v := 0) hx hb dX0_dropOldest_1 (by decide) ?_
  refine callRa (v := .ref (A0 1 0)) (va_runV (As := [.int 0]) (rest := []) ⟨hx, hb, hml, hown, hts⟩ (c_X0_stateAt l D T h0 A0 Z0 0 0 (by decide +kernel)) (cwV 1 hts gX0_dropOldest_X0_stateAt rfl rfl rfl hdV_X0_stateAt ⟨Nat.le_of_ble_eq_true rfl, Nat.le_of_ble_eq_true rfl⟩) ⟨PB_blind, va_recv hK.1 hP (ci := 0) (q0 := 1) rfl rfl, PB_at hP hK⟩ rfl rfl hl.1 rfl (lv_room (Nat.le_of_ble_eq_true rfl)) dX0_dropOldest_2 ⟨Nat.zero_le _, Nat.zero_le _⟩) ?_
  refine lv_astore_n (lv' := [(1, .ref (A0 1 0)), (0, .ref (A0 6 1))]) hx hb dX0_dropOldest_5 rfl hl (by decide) rfl (fun ls hl => ?_)
  refine lv_aload_n hx hb dX0_dropOldest_6 rfl (lv_at hl 1 rfl) ?_
  refine va_get (D := D) (ci := 0) (v := .ref (A0 6 2)) (C := RX0) (T := TX0) (N := 2) hx hb hts inX0_dropOldest_0 hown hK.1 hP 1 rfl rfl 0 (by decide) (hts (.fieldLink RX0 11 "LyingScale$History" "states" "[LLyingScale$State;") (List.mem_of_getElem? (i := 1) rfl)) (fun _ h9 => h9) rfl dX0_dropOldest_7 ?_
  refine va_alen hx hb hK.1 hP 2 3 rfl rfl (v := 4) rfl dX0_dropOldest_10 ?_
  refine lv_iconst (v := 1) hx hb dX0_dropOldest_11 (by decide) ?_
  refine lv_isub hx hb dX0_dropOldest_12 ?_
  refine eqi (show (4 : Int32) - 1 = 3 from by decide) ?_
  refine lv_istore_n (lv' := [(2, .int 3), (1, .ref (A0 1 0)), (0, .ref (A0 6 1))]) hx hb dX0_dropOldest_13 rfl hl (by decide) rfl (fun ls hl => ?_)
  refine lv_iconst (v := 0) hx hb dX0_dropOldest_14 (by decide) ?_
  refine lv_istore_n (lv' := [(3, .int 0), (2, .int 3), (1, .ref (A0 1 0)), (0, .ref (A0 6 1))]) hx hb dX0_dropOldest_15 rfl hl (by decide) rfl (fun ls hl => ?_)
  refine lv_iload_n hx hb dX0_dropOldest_16 rfl (lv_at hl 0 rfl) ?_
  refine lv_iload_n hx hb dX0_dropOldest_17 rfl (lv_at hl 1 rfl) ?_
  refine lv_icmp_ge (tgt := 41) hx hb dX0_dropOldest_18 (by decide) (fun c => absurd c (by decide)) (fun _ => ?_)
  refine lv_aload_n hx hb dX0_dropOldest_21 rfl (lv_at hl 3 rfl) ?_
  refine va_get (D := D) (ci := 0) (v := .ref (A0 6 2)) (C := RX0) (T := TX0) (N := 2) hx hb hts inX0_dropOldest_0 hown hK.1 hP 1 rfl rfl 0 (by decide) (hts (.fieldLink RX0 11 "LyingScale$History" "states" "[LLyingScale$State;") (List.mem_of_getElem? (i := 1) rfl)) (fun _ h9 => h9) rfl dX0_dropOldest_22 ?_
  refine lv_iload_n hx hb dX0_dropOldest_25 rfl (lv_at hl 0 rfl) ?_
  refine lv_aload_n hx hb dX0_dropOldest_26 rfl (lv_at hl 3 rfl) ?_
  refine va_get (D := D) (ci := 0) (v := .ref (A0 6 2)) (C := RX0) (T := TX0) (N := 2) hx hb hts inX0_dropOldest_0 hown hK.1 hP 1 rfl rfl 0 (by decide) (hts (.fieldLink RX0 11 "LyingScale$History" "states" "[LLyingScale$State;") (List.mem_of_getElem? (i := 1) rfl)) (fun _ h9 => h9) rfl dX0_dropOldest_27 ?_
  refine lv_iload_n hx hb dX0_dropOldest_30 rfl (lv_at hl 0 rfl) ?_
  refine lv_iconst (v := 1) hx hb dX0_dropOldest_31 (by decide) ?_
  refine lv_iadd hx hb dX0_dropOldest_32 ?_
  refine eqi (show (0 : Int32) + 1 = 1 from by decide) ?_
  refine va_aldq hx hb hK.1 hP 2 3 rfl rfl (show ¬ ((1 : Int32) < 0 ∨ 4 ≤ Int32.toNatClampNeg 1) from by decide) dX0_dropOldest_33 ?_
  refine eqa (y := .ref (A0 2 0)) (by rw [show Int32.toNatClampNeg 1 = 1 from by decide]; rfl) ?_
  refine va_astq hx hb hK.1 hP hD hS 2 3 25 2 rfl rfl rfl rfl (show ¬ ((0 : Int32) < 0 ∨ 4 ≤ Int32.toNatClampNeg 0) from by decide) dX0_dropOldest_34 (fun H locs hP hD hS => ?_)
  rw [show Int32.toNatClampNeg 0 = 0 from by decide] at hP hD
  replace hP : va_P D vwCl (scWq T h0 (va_up (hsQ A0) 0 (some (A0 2 0))) A0 (Z0)) H := hP
  replace hD : va_D A (scWq T h0 (va_up (hsQ A0) 0 (some (A0 2 0))) A0 (Z0)) := hD
  refine lv_iinc (v := 1) (lv' := [(3, .int 1), (2, .int 3), (1, .ref (A0 1 0)), (0, .ref (A0 6 1))]) hx hb dX0_dropOldest_35 hl (k := 0) rfl (by decide) (by decide) rfl (fun ls hl => ?_)
  refine lv_goto (tgt := 16) hx hb dX0_dropOldest_38 (by decide) ?_
  refine lv_iload_n hx hb dX0_dropOldest_16 rfl (lv_at hl 0 rfl) ?_
  refine lv_iload_n hx hb dX0_dropOldest_17 rfl (lv_at hl 1 rfl) ?_
  refine lv_icmp_ge (tgt := 41) hx hb dX0_dropOldest_18 (by decide) (fun c => absurd c (by decide)) (fun _ => ?_)
  refine lv_aload_n hx hb dX0_dropOldest_21 rfl (lv_at hl 3 rfl) ?_
  refine va_get (D := D) (ci := 0) (v := .ref (A0 6 2)) (C := RX0) (T := TX0) (N := 2) hx hb hts inX0_dropOldest_0 hown hK.1 hP 1 rfl rfl 0 (by decide) (hts (.fieldLink RX0 11 "LyingScale$History" "states" "[LLyingScale$State;") (List.mem_of_getElem? (i := 1) rfl)) (fun _ h9 => h9) rfl dX0_dropOldest_22 ?_
  refine lv_iload_n hx hb dX0_dropOldest_25 rfl (lv_at hl 0 rfl) ?_
  refine lv_aload_n hx hb dX0_dropOldest_26 rfl (lv_at hl 3 rfl) ?_
  refine va_get (D := D) (ci := 0) (v := .ref (A0 6 2)) (C := RX0) (T := TX0) (N := 2) hx hb hts inX0_dropOldest_0 hown hK.1 hP 1 rfl rfl 0 (by decide) (hts (.fieldLink RX0 11 "LyingScale$History" "states" "[LLyingScale$State;") (List.mem_of_getElem? (i := 1) rfl)) (fun _ h9 => h9) rfl dX0_dropOldest_27 ?_
  refine lv_iload_n hx hb dX0_dropOldest_30 rfl (lv_at hl 0 rfl) ?_
  refine lv_iconst (v := 1) hx hb dX0_dropOldest_31 (by decide) ?_
  refine lv_iadd hx hb dX0_dropOldest_32 ?_
  refine eqi (show (1 : Int32) + 1 = 2 from by decide) ?_
  refine va_aldq hx hb hK.1 hP 2 3 rfl rfl (show ¬ ((2 : Int32) < 0 ∨ 4 ≤ Int32.toNatClampNeg 2) from by decide) dX0_dropOldest_33 ?_
  refine eqa (y := .ref (A0 3 0)) (by rw [show Int32.toNatClampNeg 2 = 2 from by decide]; rfl) ?_
  refine va_astq hx hb hK.1 hP hD hS 2 3 36 2 rfl rfl rfl rfl (show ¬ ((1 : Int32) < 0 ∨ 4 ≤ Int32.toNatClampNeg 1) from by decide) dX0_dropOldest_34 (fun H locs hP hD hS => ?_)
  rw [show Int32.toNatClampNeg 1 = 1 from by decide] at hP hD
  replace hP : va_P D vwCl (scWq T h0 (va_up (va_up (hsQ A0) 0 (some (A0 2 0))) 1 (some (A0 3 0))) A0 (Z0)) H := hP
  replace hD : va_D A (scWq T h0 (va_up (va_up (hsQ A0) 0 (some (A0 2 0))) 1 (some (A0 3 0))) A0 (Z0)) := hD
  refine lv_iinc (v := 2) (lv' := [(3, .int 2), (2, .int 3), (1, .ref (A0 1 0)), (0, .ref (A0 6 1))]) hx hb dX0_dropOldest_35 hl (k := 0) rfl (by decide) (by decide) rfl (fun ls hl => ?_)
  refine lv_goto (tgt := 16) hx hb dX0_dropOldest_38 (by decide) ?_
  refine lv_iload_n hx hb dX0_dropOldest_16 rfl (lv_at hl 0 rfl) ?_
  refine lv_iload_n hx hb dX0_dropOldest_17 rfl (lv_at hl 1 rfl) ?_
  refine lv_icmp_ge (tgt := 41) hx hb dX0_dropOldest_18 (by decide) (fun c => absurd c (by decide)) (fun _ => ?_)
  refine lv_aload_n hx hb dX0_dropOldest_21 rfl (lv_at hl 3 rfl) ?_
  refine va_get (D := D) (ci := 0) (v := .ref (A0 6 2)) (C := RX0) (T := TX0) (N := 2) hx hb hts inX0_dropOldest_0 hown hK.1 hP 1 rfl rfl 0 (by decide) (hts (.fieldLink RX0 11 "LyingScale$History" "states" "[LLyingScale$State;") (List.mem_of_getElem? (i := 1) rfl)) (fun _ h9 => h9) rfl dX0_dropOldest_22 ?_
  refine lv_iload_n hx hb dX0_dropOldest_25 rfl (lv_at hl 0 rfl) ?_
  refine lv_aload_n hx hb dX0_dropOldest_26 rfl (lv_at hl 3 rfl) ?_
  refine va_get (D := D) (ci := 0) (v := .ref (A0 6 2)) (C := RX0) (T := TX0) (N := 2) hx hb hts inX0_dropOldest_0 hown hK.1 hP 1 rfl rfl 0 (by decide) (hts (.fieldLink RX0 11 "LyingScale$History" "states" "[LLyingScale$State;") (List.mem_of_getElem? (i := 1) rfl)) (fun _ h9 => h9) rfl dX0_dropOldest_27 ?_
  refine lv_iload_n hx hb dX0_dropOldest_30 rfl (lv_at hl 0 rfl) ?_
  refine lv_iconst (v := 1) hx hb dX0_dropOldest_31 (by decide) ?_
  refine lv_iadd hx hb dX0_dropOldest_32 ?_
  refine eqi (show (2 : Int32) + 1 = 3 from by decide) ?_
  refine va_aldq hx hb hK.1 hP 2 3 rfl rfl (show ¬ ((3 : Int32) < 0 ∨ 4 ≤ Int32.toNatClampNeg 3) from by decide) dX0_dropOldest_33 ?_
  refine eqa (y := .ref (A0 4 0)) (by rw [show Int32.toNatClampNeg 3 = 3 from by decide]; rfl) ?_
  refine va_astq hx hb hK.1 hP hD hS 2 3 47 2 rfl rfl rfl rfl (show ¬ ((2 : Int32) < 0 ∨ 4 ≤ Int32.toNatClampNeg 2) from by decide) dX0_dropOldest_34 (fun H locs hP hD hS => ?_)
  rw [show Int32.toNatClampNeg 2 = 2 from by decide] at hP hD
  replace hP : va_P D vwCl (scWq T h0 (va_up (va_up (va_up (hsQ A0) 0 (some (A0 2 0))) 1 (some (A0 3 0))) 2 (some (A0 4 0))) A0 (Z0)) H := hP
  replace hD : va_D A (scWq T h0 (va_up (va_up (va_up (hsQ A0) 0 (some (A0 2 0))) 1 (some (A0 3 0))) 2 (some (A0 4 0))) A0 (Z0)) := hD
  refine lv_iinc (v := 3) (lv' := [(3, .int 3), (2, .int 3), (1, .ref (A0 1 0)), (0, .ref (A0 6 1))]) hx hb dX0_dropOldest_35 hl (k := 0) rfl (by decide) (by decide) rfl (fun ls hl => ?_)
  refine lv_goto (tgt := 16) hx hb dX0_dropOldest_38 (by decide) ?_
  refine lv_iload_n hx hb dX0_dropOldest_16 rfl (lv_at hl 0 rfl) ?_
  refine lv_iload_n hx hb dX0_dropOldest_17 rfl (lv_at hl 1 rfl) ?_
  refine lv_icmp_ge (tgt := 41) hx hb dX0_dropOldest_18 (by decide) (fun _ => ?_) (fun c => absurd c (by decide))
  refine lv_iload_n hx hb dX0_dropOldest_41 rfl (lv_at hl 1 rfl) ?_
  refine lv_if_lt (tgt := 57) hx hb dX0_dropOldest_42 (by decide) (fun c => absurd c (by decide)) (fun _ => ?_)
  refine lv_aload_n hx hb dX0_dropOldest_45 rfl (lv_at hl 3 rfl) ?_
  refine va_get (D := D) (ci := 0) (v := .ref (A0 6 2)) (C := RX0) (T := TX0) (N := 2) hx hb hts inX0_dropOldest_0 hown hK.1 hP 1 rfl rfl 0 (by decide) (hts (.fieldLink RX0 11 "LyingScale$History" "states" "[LLyingScale$State;") (List.mem_of_getElem? (i := 1) rfl)) (fun _ h9 => h9) rfl dX0_dropOldest_46 ?_
  refine lv_iload_n hx hb dX0_dropOldest_49 rfl (lv_at hl 1 rfl) ?_
  refine lv_aload_n hx hb dX0_dropOldest_50 rfl (lv_at hl 2 rfl) ?_
  refine va_astq hx hb hK.1 hP hD hS 2 3 14 2 rfl rfl rfl rfl (show ¬ ((3 : Int32) < 0 ∨ 4 ≤ Int32.toNatClampNeg 3) from by decide) dX0_dropOldest_51 (fun H locs hP hD hS => ?_)
  rw [show Int32.toNatClampNeg 3 = 3 from by decide] at hP hD
  replace hP : va_P D vwCl (scWq T h0 (va_up (va_up (va_up (va_up (hsQ A0) 0 (some (A0 2 0))) 1 (some (A0 3 0))) 2 (some (A0 4 0))) 3 (some (A0 1 0))) A0 (Z0)) H := hP
  replace hD : va_D A (scWq T h0 (va_up (va_up (va_up (va_up (hsQ A0) 0 (some (A0 2 0))) 1 (some (A0 3 0))) 2 (some (A0 4 0))) 3 (some (A0 1 0))) A0 (Z0)) := hD
  refine lv_aload_n hx hb dX0_dropOldest_52 rfl (lv_at hl 3 rfl) ?_
  refine lv_iload_n hx hb dX0_dropOldest_53 rfl (lv_at hl 1 rfl) ?_
  refine va_put (D := D) (ci := 0) (v := .int 3) (ty := .int) (C := RX0) (T := TX0) (N := 2) hx hb hts inX0_dropOldest_0 tyX0 tyX0_ok nmX0 hown hK.1 hP hD hS 1 rfl rfl 1 (by decide) (hts (.fieldLink RX0 18 "LyingScale$History" "count" "I") (List.mem_of_getElem? (i := 2) rfl)) (fun _ h9 => h9) rfl (by decide +kernel) rfl rfl (Nat.le_of_ble_eq_true rfl) dX0_dropOldest_54 (fun H locs hP hD hS => ?_)
  replace hP : va_P D vwCl (scWq T h0 (va_up (va_up (va_up (va_up (hsQ A0) 0 (some (A0 2 0))) 1 (some (A0 3 0))) 2 (some (A0 4 0))) 3 (some (A0 1 0))) A0 (zU Z0 6 (sI (Z0 6) 0 3))) H := hP
  replace hD : va_D A (scWq T h0 (va_up (va_up (va_up (va_up (hsQ A0) 0 (some (A0 2 0))) 1 (some (A0 3 0))) 2 (some (A0 4 0))) 3 (some (A0 1 0))) A0 (zU Z0 6 (sI (Z0 6) 0 3))) := hD
  rw [rot_q] at hP hD
  have hP9 := hP.sub (ws' := scW T h0 (rotA A0) (rotZ (zU Z0 6 (sI (Z0 6) 0 3)))) [0, 1, 2, 3, 4, 5, 6, 7, 8, 9, 10, 11, 12, 13, 25, 26, 27, 28, 29, 30, 31, 32, 33, 34, 35, 36, 37, 38, 39, 40, 41, 42, 43, 44, 45, 46, 47, 48, 49, 50, 51, 52, 53, 54, 55, 56, 57, 14, 15, 16, 17, 18, 19, 20, 21, 22, 23, 24, 58, 59, 60, 61, 62] rfl
  have hD9 := hD.sub (ws' := scW T h0 (rotA A0) (rotZ (zU Z0 6 (sI (Z0 6) 0 3)))) [0, 1, 2, 3, 4, 5, 6, 7, 8, 9, 10, 11, 12, 13, 25, 26, 27, 28, 29, 30, 31, 32, 33, 34, 35, 36, 37, 38, 39, 40, 41, 42, 43, 44, 45, 46, 47, 48, 49, 50, 51, 52, 53, 54, 55, 56, 57, 14, 15, 16, 17, 18, 19, 20, 21, 22, 23, 24, 58, 59, 60, 61, 62] (by decide +kernel) rfl
  exact W.vret hx hb hr (fun t ht hW => ⟨⟨(), rfl, trivial, by rw [ht]; exact hP9, hD9⟩, hS.F ht⟩) hS.2.2 dX0_dropOldest_57 hlocks
set_option maxHeartbeats 4000000 in
set_option maxRecDepth 100000 in
theorem c_X0_save (l : Launch) (D : va_G) (T : Nat → ClassId) (h0 : Nat) (A0 : Nat → Nat → Nat) (Z0 : Nat → St) (sz : Nat) (r : (Nat → St)) (h : F_X0_save Z0 = some r) : Met l yX0_save wsX0_save ({ frames := 4, cells := 0, slots := 0, locals := 86 } : Room) (va_Pc [.ref (A0 6 1), .ref (A0 0 0)] (PM D T (scW T h0 A0 (Z0)) sz)) (QEv D (scW T h0) r (va_A (scW T h0 A0 (Z0)) sz)) 0 0 (va_A (scW T h0 A0 (Z0)) sz) := by
  refine met_of (cc := cX0_save) (maxL := 3) (ret := none) (lv := [(0, .ref (A0 6 1)), (1, .ref (A0 0 0))]) (by decide) rfl (Nat.le_of_ble_eq_true rfl) rfl ?_
  intro p e s m args below meth c ls C0 hl hB
  obtain ⟨hx, hb, hr, hml, hown, hts, hlocks, hname⟩ := C0
  obtain ⟨hsz, hP, hK, hD0⟩ := hB
  subst hsz
  have hD := hD0.self (sz := s.heap.size)
  generalize hAe : va_A (scW T h0 A0 (Z0)) s.heap.size = A at hD ⊢
  have hA : ∀ q : Nat, s.heap.size ≤ q → A q := fun q h => by rw [← hAe]; exact Or.inr h
  have hS : va_S A s.heap s.heap [] := va_S.rf
  unfold F_X0_save at h
  by_cases k0_ : (Z0 6).1 0 = 0
  · replace h := ip k0_ h
    refine lv_aload_n hx hb dX0_save_0 rfl (lv_at hl 0 rfl) ?_
    refine va_get (D := D) (ci := 0) (v := .int ((Z0 6).1 0)) (C := RX0) (T := TX0) (N := 2) hx hb hts inX0_save_0 hown hK.1 hP 1 rfl rfl 1 (by decide) (hts (.fieldLink RX0 18 "LyingScale$History" "count" "I") (List.mem_of_getElem? (i := 1) rfl)) (fun _ h9 => h9) rfl dX0_save_1 ?_
    refine eqi (k0_) ?_
    refine lv_aload_n hx hb dX0_save_4 rfl (lv_at hl 0 rfl) ?_
    refine va_get (D := D) (ci := 0) (v := .ref (A0 6 2)) (C := RX0) (T := TX0) (N := 2) hx hb hts inX0_save_0 hown hK.1 hP 1 rfl rfl 0 (by decide) (hts (.fieldLink RX0 11 "LyingScale$History" "states" "[LLyingScale$State;") (List.mem_of_getElem? (i := 2) rfl)) (fun _ h9 => h9) rfl dX0_save_5 ?_
    refine va_alen hx hb hK.1 hP 2 3 rfl rfl (v := 4) rfl dX0_save_8 ?_
    refine lv_icmp_lt (tgt := 16) hx hb dX0_save_9 (by decide) (fun _ => ?_) (fun c => absurd c (by decide))
    refine lv_aload_n hx hb dX0_save_16 rfl (lv_at hl 0 rfl) ?_
    refine lv_aload_n hx hb dX0_save_17 rfl (lv_at hl 0 rfl) ?_
    refine va_get (D := D) (ci := 0) (v := .int ((Z0 6).1 0)) (C := RX0) (T := TX0) (N := 2) hx hb hts inX0_save_0 hown hK.1 hP 1 rfl rfl 1 (by decide) (hts (.fieldLink RX0 18 "LyingScale$History" "count" "I") (List.mem_of_getElem? (i := 1) rfl)) (fun _ h9 => h9) rfl dX0_save_18 ?_
    refine eqi (k0_) ?_
    refine callRa (v := .ref (A0 1 0)) (va_runV (As := [.int 0]) (rest := []) ⟨hx, hb, hml, hown, hts⟩ (c_X0_stateAt l D T h0 A0 Z0 0 0 (by decide +kernel)) (cwV 1 hts gX0_save_X0_stateAt rfl rfl rfl hdV_X0_stateAt ⟨Nat.le_of_ble_eq_true rfl, Nat.le_of_ble_eq_true rfl⟩) ⟨PB_blind, va_recv hK.1 hP (ci := 0) (q0 := 1) rfl rfl, PB_at hP hK⟩ rfl rfl hl.1 rfl (lv_room (Nat.le_of_ble_eq_true rfl)) dX0_save_21 ⟨Nat.zero_le _, Nat.zero_le _⟩) ?_
    refine lv_astore_n (lv' := [(2, .ref (A0 1 0)), (0, .ref (A0 6 1)), (1, .ref (A0 0 0))]) hx hb dX0_save_24 rfl hl (by decide) rfl (fun ls hl => ?_)
    refine lv_aload_n hx hb dX0_save_25 rfl (lv_at hl 0 rfl) ?_
    refine lv_ifnull hx hb dX0_save_26 ?_
    refine lv_aload_n hx hb dX0_save_29 rfl (lv_at hl 0 rfl) ?_
    refine lv_aload_n hx hb dX0_save_30 rfl (lv_at hl 2 rfl) ?_
    replace h := bd h
    obtain ⟨t1, et1, h⟩ := h
    refine callMv (wr := [(h0, .inr (4, [.ref (A0 0 0), .ref (A0 6 1), .ref (A0 5 0)])), (A0 6 1, .inr (0, [.ref (A0 6 2), .int ((Z0 6).1 0)])), (A0 6 2, .inl (T 3, 4, .inr (.inr (.inr (.inr (hsQ A0)))))), (A0 2 0, .inr (2, [.ref (A0 2 1), .ref (A0 2 2), .ref (A0 2 3), .ref (A0 2 4), .int ((Z0 2).1 0), .int ((Z0 2).1 1), .int ((Z0 2).1 2), .int ((Z0 2).1 3), .int ((Z0 2).1 4)])), (A0 2 1, .inr (3, [.ref (A0 2 5), .ref (A0 2 6), .ref (A0 2 7), .int ((Z0 2).1 5)])), (A0 2 2, .inr (3, [.ref (A0 2 8), .ref (A0 2 9), .ref (A0 2 10), .int ((Z0 2).1 6)])), (A0 2 3, .inl (T 0, 33, .inl ((Z0 2).2 6))), (A0 2 4, .inl (T 0, 33, .inl ((Z0 2).2 7))), (A0 2 5, .inl (T 0, 40, .inl ((Z0 2).2 0))), (A0 2 6, .inl (T 0, 40, .inl ((Z0 2).2 1))), (A0 2 7, .inl (T 0, 40, .inl ((Z0 2).2 2))), (A0 2 8, .inl (T 0, 8, .inl ((Z0 2).2 3))), (A0 2 9, .inl (T 0, 8, .inl ((Z0 2).2 4))), (A0 2 10, .inl (T 0, 8, .inl ((Z0 2).2 5))), (A0 3 0, .inr (2, [.ref (A0 3 1), .ref (A0 3 2), .ref (A0 3 3), .ref (A0 3 4), .int ((Z0 3).1 0), .int ((Z0 3).1 1), .int ((Z0 3).1 2), .int ((Z0 3).1 3), .int ((Z0 3).1 4)])), (A0 3 1, .inr (3, [.ref (A0 3 5), .ref (A0 3 6), .ref (A0 3 7), .int ((Z0 3).1 5)])), (A0 3 2, .inr (3, [.ref (A0 3 8), .ref (A0 3 9), .ref (A0 3 10), .int ((Z0 3).1 6)])), (A0 3 3, .inl (T 0, 33, .inl ((Z0 3).2 6))), (A0 3 4, .inl (T 0, 33, .inl ((Z0 3).2 7))), (A0 3 5, .inl (T 0, 40, .inl ((Z0 3).2 0))), (A0 3 6, .inl (T 0, 40, .inl ((Z0 3).2 1))), (A0 3 7, .inl (T 0, 40, .inl ((Z0 3).2 2))), (A0 3 8, .inl (T 0, 8, .inl ((Z0 3).2 3))), (A0 3 9, .inl (T 0, 8, .inl ((Z0 3).2 4))), (A0 3 10, .inl (T 0, 8, .inl ((Z0 3).2 5))), (A0 4 0, .inr (2, [.ref (A0 4 1), .ref (A0 4 2), .ref (A0 4 3), .ref (A0 4 4), .int ((Z0 4).1 0), .int ((Z0 4).1 1), .int ((Z0 4).1 2), .int ((Z0 4).1 3), .int ((Z0 4).1 4)])), (A0 4 1, .inr (3, [.ref (A0 4 5), .ref (A0 4 6), .ref (A0 4 7), .int ((Z0 4).1 5)])), (A0 4 2, .inr (3, [.ref (A0 4 8), .ref (A0 4 9), .ref (A0 4 10), .int ((Z0 4).1 6)])), (A0 4 3, .inl (T 0, 33, .inl ((Z0 4).2 6))), (A0 4 4, .inl (T 0, 33, .inl ((Z0 4).2 7))), (A0 4 5, .inl (T 0, 40, .inl ((Z0 4).2 0))), (A0 4 6, .inl (T 0, 40, .inl ((Z0 4).2 1))), (A0 4 7, .inl (T 0, 40, .inl ((Z0 4).2 2))), (A0 4 8, .inl (T 0, 8, .inl ((Z0 4).2 3))), (A0 4 9, .inl (T 0, 8, .inl ((Z0 4).2 4))), (A0 4 10, .inl (T 0, 8, .inl ((Z0 4).2 5))), (A0 5 0, .inr (1, [.ref (A0 5 1), .ref (A0 5 2), .ref (A0 5 3), .ref (A0 5 4), .int ((Z0 5).1 0), .int ((Z0 5).1 1), .int ((Z0 5).1 2), .int ((Z0 5).1 3), .int ((Z0 5).1 4)])), (A0 5 1, .inl (T 0, 100, .inl ((Z0 5).2 0))), (A0 5 2, .inl (T 0, 20, .inl ((Z0 5).2 1))), (A0 5 3, .inl (T 0, 20, .inl ((Z0 5).2 2))), (A0 5 4, .inl (T 0, 20, .inl ((Z0 5).2 3)))]) (ws' := scW T h0 A0 (zU Z0 1 t1)) (va_runV (As := [.ref (A0 0 0)]) (rest := []) ⟨hx, hb, hml, hown, hts⟩ (c_X2_copyFrom l D T (A0 1) (Z0 1) (A0 0) (Z0 0) _ t1 et1) (cwV 1 hts gX0_save_X2_copyFrom rfl rfl rfl hdV_X2_copyFrom ⟨Nat.le_of_ble_eq_true rfl, Nat.le_of_ble_eq_true rfl⟩) ⟨PM_blind, va_recv hK.1 hP (ci := 2) (q0 := 14) rfl rfl, PM_at (hP.sub (ws' := stW T (A0 1) (Z0 1) ++ stW T (A0 0) (Z0 0)) [14, 15, 16, 17, 18, 19, 20, 21, 22, 23, 24, 3, 4, 5, 6, 7, 8, 9, 10, 11, 12, 13] rfl) (hD.sub (ws' := stW T (A0 1) (Z0 1) ++ stW T (A0 0) (Z0 0)) [14, 15, 16, 17, 18, 19, 20, 21, 22, 23, 24, 3, 4, 5, 6, 7, 8, 9, 10, 11, 12, 13] (by decide) rfl) hK⟩ rfl rfl hl.1 rfl (lv_room (Nat.le_of_ble_eq_true rfl)) dX0_save_31 ⟨Nat.zero_le _, Nat.zero_le _⟩) hS hA hP hD [14, 15, 16, 17, 18, 19, 20, 21, 22, 23, 24, 3, 4, 5, 6, 7, 8, 9, 10, 11, 12, 13] [0, 1, 2, 25, 26, 27, 28, 29, 30, 31, 32, 33, 34, 35, 36, 37, 38, 39, 40, 41, 42, 43, 44, 45, 46, 47, 48, 49, 50, 51, 52, 53, 54, 55, 56, 57, 58, 59, 60, 61, 62] rfl rfl (by decide) (by decide) [0, 1, 2, 52, 53, 54, 55, 56, 57, 58, 59, 60, 61, 62, 41, 42, 43, 44, 45, 46, 47, 48, 49, 50, 51, 3, 4, 5, 6, 7, 8, 9, 10, 11, 12, 13, 14, 15, 16, 17, 18, 19, 20, 21, 22, 23, 24, 25, 26, 27, 28, 29, 30, 31, 32, 33, 34, 35, 36, 37, 38, 39, 40] (by decide) rfl (fun H locs hP hD hS => ?_)
    refine lv_aload_n hx hb dX0_save_34 rfl (lv_at hl 1 rfl) ?_
    refine lv_dup hx hb dX0_save_35 rfl ?_
    refine va_get (D := D) (ci := 0) (v := .int (((zU Z0 1 t1) 6).1 0)) (C := RX0) (T := TX0) (N := 2) hx hb hts inX0_save_0 hown hK.1 hP 1 rfl rfl 1 (by decide) (hts (.fieldLink RX0 18 "LyingScale$History" "count" "I") (List.mem_of_getElem? (i := 1) rfl)) (fun _ h9 => h9) rfl dX0_save_36 ?_
    refine lv_iconst (v := 1) hx hb dX0_save_39 (by decide) ?_
    refine lv_iadd hx hb dX0_save_40 ?_
    refine va_put (D := D) (ci := 0) (v := .int ((((zU Z0 1 t1) 6).1 0) + 1)) (ty := .int) (C := RX0) (T := TX0) (N := 2) hx hb hts inX0_save_0 tyX0 tyX0_ok nmX0 hown hK.1 hP hD hS 1 rfl rfl 1 (by decide) (hts (.fieldLink RX0 18 "LyingScale$History" "count" "I") (List.mem_of_getElem? (i := 1) rfl)) (fun _ h9 => h9) rfl (by decide +kernel) rfl rfl (Nat.le_of_ble_eq_true rfl) dX0_save_41 (fun H locs hP hD hS => ?_)
    replace hP : va_P D vwCl (scW T h0 A0 (zU (zU Z0 1 t1) 6 (sI ((zU Z0 1 t1) 6) 0 ((((zU Z0 1 t1) 6).1 0) + 1)))) H := hP
    replace hD : va_D A (scW T h0 A0 (zU (zU Z0 1 t1) 6 (sI ((zU Z0 1 t1) 6) 0 ((((zU Z0 1 t1) 6).1 0) + 1)))) := hD
    replace h := bd h
    obtain ⟨y2, ey2, h⟩ := h
    rw [Option.some.inj ey2] at hP hD
    obtain rfl := Option.some.inj h
    exact W.vret hx hb hr (fun t ht hW => ⟨⟨A0, rfl, trivial, by rw [ht]; exact hP, hD⟩, hS.F ht⟩) hS.2.2 dX0_save_44 hlocks
  replace h := im k0_ h
  by_cases k1_ : (Z0 6).1 0 = 1
  · replace h := ip k1_ h
    refine lv_aload_n hx hb dX0_save_0 rfl (lv_at hl 0 rfl) ?_
    refine va_get (D := D) (ci := 0) (v := .int ((Z0 6).1 0)) (C := RX0) (T := TX0) (N := 2) hx hb hts inX0_save_0 hown hK.1 hP 1 rfl rfl 1 (by decide) (hts (.fieldLink RX0 18 "LyingScale$History" "count" "I") (List.mem_of_getElem? (i := 1) rfl)) (fun _ h9 => h9) rfl dX0_save_1 ?_
    refine eqi (k1_) ?_
    refine lv_aload_n hx hb dX0_save_4 rfl (lv_at hl 0 rfl) ?_
    refine va_get (D := D) (ci := 0) (v := .ref (A0 6 2)) (C := RX0) (T := TX0) (N := 2) hx hb hts inX0_save_0 hown hK.1 hP 1 rfl rfl 0 (by decide) (hts (.fieldLink RX0 11 "LyingScale$History" "states" "[LLyingScale$State;") (List.mem_of_getElem? (i := 2) rfl)) (fun _ h9 => h9) rfl dX0_save_5 ?_
    refine va_alen hx hb hK.1 hP 2 3 rfl rfl (v := 4) rfl dX0_save_8 ?_
    refine lv_icmp_lt (tgt := 16) hx hb dX0_save_9 (by decide) (fun _ => ?_) (fun c => absurd c (by decide))
    refine lv_aload_n hx hb dX0_save_16 rfl (lv_at hl 0 rfl) ?_
    refine lv_aload_n hx hb dX0_save_17 rfl (lv_at hl 0 rfl) ?_
    refine va_get (D := D) (ci := 0) (v := .int ((Z0 6).1 0)) (C := RX0) (T := TX0) (N := 2) hx hb hts inX0_save_0 hown hK.1 hP 1 rfl rfl 1 (by decide) (hts (.fieldLink RX0 18 "LyingScale$History" "count" "I") (List.mem_of_getElem? (i := 1) rfl)) (fun _ h9 => h9) rfl dX0_save_18 ?_
    refine eqi (k1_) ?_
    refine callRa (v := .ref (A0 2 0)) (va_runV (As := [.int 1]) (rest := []) ⟨hx, hb, hml, hown, hts⟩ (c_X0_stateAt l D T h0 A0 Z0 1 1 (by decide +kernel)) (cwV 1 hts gX0_save_X0_stateAt rfl rfl rfl hdV_X0_stateAt ⟨Nat.le_of_ble_eq_true rfl, Nat.le_of_ble_eq_true rfl⟩) ⟨PB_blind, va_recv hK.1 hP (ci := 0) (q0 := 1) rfl rfl, PB_at hP hK⟩ rfl rfl hl.1 rfl (lv_room (Nat.le_of_ble_eq_true rfl)) dX0_save_21 ⟨Nat.zero_le _, Nat.zero_le _⟩) ?_
    refine lv_astore_n (lv' := [(2, .ref (A0 2 0)), (0, .ref (A0 6 1)), (1, .ref (A0 0 0))]) hx hb dX0_save_24 rfl hl (by decide) rfl (fun ls hl => ?_)
    refine lv_aload_n hx hb dX0_save_25 rfl (lv_at hl 0 rfl) ?_
    refine lv_ifnull hx hb dX0_save_26 ?_
    refine lv_aload_n hx hb dX0_save_29 rfl (lv_at hl 0 rfl) ?_
    refine lv_aload_n hx hb dX0_save_30 rfl (lv_at hl 2 rfl) ?_
    replace h := bd h
    obtain ⟨t3, et3, h⟩ := h
    refine callMv (wr := [(h0, .inr (4, [.ref (A0 0 0), .ref (A0 6 1), .ref (A0 5 0)])), (A0 6 1, .inr (0, [.ref (A0 6 2), .int ((Z0 6).1 0)])), (A0 6 2, .inl (T 3, 4, .inr (.inr (.inr (.inr (hsQ A0)))))), (A0 1 0, .inr (2, [.ref (A0 1 1), .ref (A0 1 2), .ref (A0 1 3), .ref (A0 1 4), .int ((Z0 1).1 0), .int ((Z0 1).1 1), .int ((Z0 1).1 2), .int ((Z0 1).1 3), .int ((Z0 1).1 4)])), (A0 1 1, .inr (3, [.ref (A0 1 5), .ref (A0 1 6), .ref (A0 1 7), .int ((Z0 1).1 5)])), (A0 1 2, .inr (3, [.ref (A0 1 8), .ref (A0 1 9), .ref (A0 1 10), .int ((Z0 1).1 6)])), (A0 1 3, .inl (T 0, 33, .inl ((Z0 1).2 6))), (A0 1 4, .inl (T 0, 33, .inl ((Z0 1).2 7))), (A0 1 5, .inl (T 0, 40, .inl ((Z0 1).2 0))), (A0 1 6, .inl (T 0, 40, .inl ((Z0 1).2 1))), (A0 1 7, .inl (T 0, 40, .inl ((Z0 1).2 2))), (A0 1 8, .inl (T 0, 8, .inl ((Z0 1).2 3))), (A0 1 9, .inl (T 0, 8, .inl ((Z0 1).2 4))), (A0 1 10, .inl (T 0, 8, .inl ((Z0 1).2 5))), (A0 3 0, .inr (2, [.ref (A0 3 1), .ref (A0 3 2), .ref (A0 3 3), .ref (A0 3 4), .int ((Z0 3).1 0), .int ((Z0 3).1 1), .int ((Z0 3).1 2), .int ((Z0 3).1 3), .int ((Z0 3).1 4)])), (A0 3 1, .inr (3, [.ref (A0 3 5), .ref (A0 3 6), .ref (A0 3 7), .int ((Z0 3).1 5)])), (A0 3 2, .inr (3, [.ref (A0 3 8), .ref (A0 3 9), .ref (A0 3 10), .int ((Z0 3).1 6)])), (A0 3 3, .inl (T 0, 33, .inl ((Z0 3).2 6))), (A0 3 4, .inl (T 0, 33, .inl ((Z0 3).2 7))), (A0 3 5, .inl (T 0, 40, .inl ((Z0 3).2 0))), (A0 3 6, .inl (T 0, 40, .inl ((Z0 3).2 1))), (A0 3 7, .inl (T 0, 40, .inl ((Z0 3).2 2))), (A0 3 8, .inl (T 0, 8, .inl ((Z0 3).2 3))), (A0 3 9, .inl (T 0, 8, .inl ((Z0 3).2 4))), (A0 3 10, .inl (T 0, 8, .inl ((Z0 3).2 5))), (A0 4 0, .inr (2, [.ref (A0 4 1), .ref (A0 4 2), .ref (A0 4 3), .ref (A0 4 4), .int ((Z0 4).1 0), .int ((Z0 4).1 1), .int ((Z0 4).1 2), .int ((Z0 4).1 3), .int ((Z0 4).1 4)])), (A0 4 1, .inr (3, [.ref (A0 4 5), .ref (A0 4 6), .ref (A0 4 7), .int ((Z0 4).1 5)])), (A0 4 2, .inr (3, [.ref (A0 4 8), .ref (A0 4 9), .ref (A0 4 10), .int ((Z0 4).1 6)])), (A0 4 3, .inl (T 0, 33, .inl ((Z0 4).2 6))), (A0 4 4, .inl (T 0, 33, .inl ((Z0 4).2 7))), (A0 4 5, .inl (T 0, 40, .inl ((Z0 4).2 0))), (A0 4 6, .inl (T 0, 40, .inl ((Z0 4).2 1))), (A0 4 7, .inl (T 0, 40, .inl ((Z0 4).2 2))), (A0 4 8, .inl (T 0, 8, .inl ((Z0 4).2 3))), (A0 4 9, .inl (T 0, 8, .inl ((Z0 4).2 4))), (A0 4 10, .inl (T 0, 8, .inl ((Z0 4).2 5))), (A0 5 0, .inr (1, [.ref (A0 5 1), .ref (A0 5 2), .ref (A0 5 3), .ref (A0 5 4), .int ((Z0 5).1 0), .int ((Z0 5).1 1), .int ((Z0 5).1 2), .int ((Z0 5).1 3), .int ((Z0 5).1 4)])), (A0 5 1, .inl (T 0, 100, .inl ((Z0 5).2 0))), (A0 5 2, .inl (T 0, 20, .inl ((Z0 5).2 1))), (A0 5 3, .inl (T 0, 20, .inl ((Z0 5).2 2))), (A0 5 4, .inl (T 0, 20, .inl ((Z0 5).2 3)))]) (ws' := scW T h0 A0 (zU Z0 2 t3)) (va_runV (As := [.ref (A0 0 0)]) (rest := []) ⟨hx, hb, hml, hown, hts⟩ (c_X2_copyFrom l D T (A0 2) (Z0 2) (A0 0) (Z0 0) _ t3 et3) (cwV 1 hts gX0_save_X2_copyFrom rfl rfl rfl hdV_X2_copyFrom ⟨Nat.le_of_ble_eq_true rfl, Nat.le_of_ble_eq_true rfl⟩) ⟨PM_blind, va_recv hK.1 hP (ci := 2) (q0 := 25) rfl rfl, PM_at (hP.sub (ws' := stW T (A0 2) (Z0 2) ++ stW T (A0 0) (Z0 0)) [25, 26, 27, 28, 29, 30, 31, 32, 33, 34, 35, 3, 4, 5, 6, 7, 8, 9, 10, 11, 12, 13] rfl) (hD.sub (ws' := stW T (A0 2) (Z0 2) ++ stW T (A0 0) (Z0 0)) [25, 26, 27, 28, 29, 30, 31, 32, 33, 34, 35, 3, 4, 5, 6, 7, 8, 9, 10, 11, 12, 13] (by decide) rfl) hK⟩ rfl rfl hl.1 rfl (lv_room (Nat.le_of_ble_eq_true rfl)) dX0_save_31 ⟨Nat.zero_le _, Nat.zero_le _⟩) hS hA hP hD [25, 26, 27, 28, 29, 30, 31, 32, 33, 34, 35, 3, 4, 5, 6, 7, 8, 9, 10, 11, 12, 13] [0, 1, 2, 14, 15, 16, 17, 18, 19, 20, 21, 22, 23, 24, 36, 37, 38, 39, 40, 41, 42, 43, 44, 45, 46, 47, 48, 49, 50, 51, 52, 53, 54, 55, 56, 57, 58, 59, 60, 61, 62] rfl rfl (by decide) (by decide) [0, 1, 2, 52, 53, 54, 55, 56, 57, 58, 59, 60, 61, 62, 3, 4, 5, 6, 7, 8, 9, 10, 11, 12, 13, 41, 42, 43, 44, 45, 46, 47, 48, 49, 50, 51, 14, 15, 16, 17, 18, 19, 20, 21, 22, 23, 24, 25, 26, 27, 28, 29, 30, 31, 32, 33, 34, 35, 36, 37, 38, 39, 40] (by decide) rfl (fun H locs hP hD hS => ?_)
    refine lv_aload_n hx hb dX0_save_34 rfl (lv_at hl 1 rfl) ?_
    refine lv_dup hx hb dX0_save_35 rfl ?_
    refine va_get (D := D) (ci := 0) (v := .int (((zU Z0 2 t3) 6).1 0)) (C := RX0) (T := TX0) (N := 2) hx hb hts inX0_save_0 hown hK.1 hP 1 rfl rfl 1 (by decide) (hts (.fieldLink RX0 18 "LyingScale$History" "count" "I") (List.mem_of_getElem? (i := 1) rfl)) (fun _ h9 => h9) rfl dX0_save_36 ?_
    refine lv_iconst (v := 1) hx hb dX0_save_39 (by decide) ?_
    refine lv_iadd hx hb dX0_save_40 ?_
    refine va_put (D := D) (ci := 0) (v := .int ((((zU Z0 2 t3) 6).1 0) + 1)) (ty := .int) (C := RX0) (T := TX0) (N := 2) hx hb hts inX0_save_0 tyX0 tyX0_ok nmX0 hown hK.1 hP hD hS 1 rfl rfl 1 (by decide) (hts (.fieldLink RX0 18 "LyingScale$History" "count" "I") (List.mem_of_getElem? (i := 1) rfl)) (fun _ h9 => h9) rfl (by decide +kernel) rfl rfl (Nat.le_of_ble_eq_true rfl) dX0_save_41 (fun H locs hP hD hS => ?_)
    replace hP : va_P D vwCl (scW T h0 A0 (zU (zU Z0 2 t3) 6 (sI ((zU Z0 2 t3) 6) 0 ((((zU Z0 2 t3) 6).1 0) + 1)))) H := hP
    replace hD : va_D A (scW T h0 A0 (zU (zU Z0 2 t3) 6 (sI ((zU Z0 2 t3) 6) 0 ((((zU Z0 2 t3) 6).1 0) + 1)))) := hD
    replace h := bd h
    obtain ⟨y4, ey4, h⟩ := h
    rw [Option.some.inj ey4] at hP hD
    obtain rfl := Option.some.inj h
    exact W.vret hx hb hr (fun t ht hW => ⟨⟨A0, rfl, trivial, by rw [ht]; exact hP, hD⟩, hS.F ht⟩) hS.2.2 dX0_save_44 hlocks
  replace h := im k1_ h
  by_cases k2_ : (Z0 6).1 0 = 2
  · replace h := ip k2_ h
    refine lv_aload_n hx hb dX0_save_0 rfl (lv_at hl 0 rfl) ?_
    refine va_get (D := D) (ci := 0) (v := .int ((Z0 6).1 0)) (C := RX0) (T := TX0) (N := 2) hx hb hts inX0_save_0 hown hK.1 hP 1 rfl rfl 1 (by decide) (hts (.fieldLink RX0 18 "LyingScale$History" "count" "I") (List.mem_of_getElem? (i := 1) rfl)) (fun _ h9 => h9) rfl dX0_save_1 ?_
    refine eqi (k2_) ?_
    refine lv_aload_n hx hb dX0_save_4 rfl (lv_at hl 0 rfl) ?_
    refine va_get (D := D) (ci := 0) (v := .ref (A0 6 2)) (C := RX0) (T := TX0) (N := 2) hx hb hts inX0_save_0 hown hK.1 hP 1 rfl rfl 0 (by decide) (hts (.fieldLink RX0 11 "LyingScale$History" "states" "[LLyingScale$State;") (List.mem_of_getElem? (i := 2) rfl)) (fun _ h9 => h9) rfl dX0_save_5 ?_
    refine va_alen hx hb hK.1 hP 2 3 rfl rfl (v := 4) rfl dX0_save_8 ?_
    refine lv_icmp_lt (tgt := 16) hx hb dX0_save_9 (by decide) (fun _ => ?_) (fun c => absurd c (by decide))
    refine lv_aload_n hx hb dX0_save_16 rfl (lv_at hl 0 rfl) ?_
    refine lv_aload_n hx hb dX0_save_17 rfl (lv_at hl 0 rfl) ?_
    refine va_get (D := D) (ci := 0) (v := .int ((Z0 6).1 0)) (C := RX0) (T := TX0) (N := 2) hx hb hts inX0_save_0 hown hK.1 hP 1 rfl rfl 1 (by decide) (hts (.fieldLink RX0 18 "LyingScale$History" "count" "I") (List.mem_of_getElem? (i := 1) rfl)) (fun _ h9 => h9) rfl dX0_save_18 ?_
    refine eqi (k2_) ?_
    refine callRa (v := .ref (A0 3 0)) (va_runV (As := [.int 2]) (rest := []) ⟨hx, hb, hml, hown, hts⟩ (c_X0_stateAt l D T h0 A0 Z0 2 2 (by decide +kernel)) (cwV 1 hts gX0_save_X0_stateAt rfl rfl rfl hdV_X0_stateAt ⟨Nat.le_of_ble_eq_true rfl, Nat.le_of_ble_eq_true rfl⟩) ⟨PB_blind, va_recv hK.1 hP (ci := 0) (q0 := 1) rfl rfl, PB_at hP hK⟩ rfl rfl hl.1 rfl (lv_room (Nat.le_of_ble_eq_true rfl)) dX0_save_21 ⟨Nat.zero_le _, Nat.zero_le _⟩) ?_
    refine lv_astore_n (lv' := [(2, .ref (A0 3 0)), (0, .ref (A0 6 1)), (1, .ref (A0 0 0))]) hx hb dX0_save_24 rfl hl (by decide) rfl (fun ls hl => ?_)
    refine lv_aload_n hx hb dX0_save_25 rfl (lv_at hl 0 rfl) ?_
    refine lv_ifnull hx hb dX0_save_26 ?_
    refine lv_aload_n hx hb dX0_save_29 rfl (lv_at hl 0 rfl) ?_
    refine lv_aload_n hx hb dX0_save_30 rfl (lv_at hl 2 rfl) ?_
    replace h := bd h
    obtain ⟨t5, et5, h⟩ := h
    refine callMv (wr := [(h0, .inr (4, [.ref (A0 0 0), .ref (A0 6 1), .ref (A0 5 0)])), (A0 6 1, .inr (0, [.ref (A0 6 2), .int ((Z0 6).1 0)])), (A0 6 2, .inl (T 3, 4, .inr (.inr (.inr (.inr (hsQ A0)))))), (A0 1 0, .inr (2, [.ref (A0 1 1), .ref (A0 1 2), .ref (A0 1 3), .ref (A0 1 4), .int ((Z0 1).1 0), .int ((Z0 1).1 1), .int ((Z0 1).1 2), .int ((Z0 1).1 3), .int ((Z0 1).1 4)])), (A0 1 1, .inr (3, [.ref (A0 1 5), .ref (A0 1 6), .ref (A0 1 7), .int ((Z0 1).1 5)])), (A0 1 2, .inr (3, [.ref (A0 1 8), .ref (A0 1 9), .ref (A0 1 10), .int ((Z0 1).1 6)])), (A0 1 3, .inl (T 0, 33, .inl ((Z0 1).2 6))), (A0 1 4, .inl (T 0, 33, .inl ((Z0 1).2 7))), (A0 1 5, .inl (T 0, 40, .inl ((Z0 1).2 0))), (A0 1 6, .inl (T 0, 40, .inl ((Z0 1).2 1))), (A0 1 7, .inl (T 0, 40, .inl ((Z0 1).2 2))), (A0 1 8, .inl (T 0, 8, .inl ((Z0 1).2 3))), (A0 1 9, .inl (T 0, 8, .inl ((Z0 1).2 4))), (A0 1 10, .inl (T 0, 8, .inl ((Z0 1).2 5))), (A0 2 0, .inr (2, [.ref (A0 2 1), .ref (A0 2 2), .ref (A0 2 3), .ref (A0 2 4), .int ((Z0 2).1 0), .int ((Z0 2).1 1), .int ((Z0 2).1 2), .int ((Z0 2).1 3), .int ((Z0 2).1 4)])), (A0 2 1, .inr (3, [.ref (A0 2 5), .ref (A0 2 6), .ref (A0 2 7), .int ((Z0 2).1 5)])), (A0 2 2, .inr (3, [.ref (A0 2 8), .ref (A0 2 9), .ref (A0 2 10), .int ((Z0 2).1 6)])), (A0 2 3, .inl (T 0, 33, .inl ((Z0 2).2 6))), (A0 2 4, .inl (T 0, 33, .inl ((Z0 2).2 7))), (A0 2 5, .inl (T 0, 40, .inl ((Z0 2).2 0))), (A0 2 6, .inl (T 0, 40, .inl ((Z0 2).2 1))), (A0 2 7, .inl (T 0, 40, .inl ((Z0 2).2 2))), (A0 2 8, .inl (T 0, 8, .inl ((Z0 2).2 3))), (A0 2 9, .inl (T 0, 8, .inl ((Z0 2).2 4))), (A0 2 10, .inl (T 0, 8, .inl ((Z0 2).2 5))), (A0 4 0, .inr (2, [.ref (A0 4 1), .ref (A0 4 2), .ref (A0 4 3), .ref (A0 4 4), .int ((Z0 4).1 0), .int ((Z0 4).1 1), .int ((Z0 4).1 2), .int ((Z0 4).1 3), .int ((Z0 4).1 4)])), (A0 4 1, .inr (3, [.ref (A0 4 5), .ref (A0 4 6), .ref (A0 4 7), .int ((Z0 4).1 5)])), (A0 4 2, .inr (3, [.ref (A0 4 8), .ref (A0 4 9), .ref (A0 4 10), .int ((Z0 4).1 6)])), (A0 4 3, .inl (T 0, 33, .inl ((Z0 4).2 6))), (A0 4 4, .inl (T 0, 33, .inl ((Z0 4).2 7))), (A0 4 5, .inl (T 0, 40, .inl ((Z0 4).2 0))), (A0 4 6, .inl (T 0, 40, .inl ((Z0 4).2 1))), (A0 4 7, .inl (T 0, 40, .inl ((Z0 4).2 2))), (A0 4 8, .inl (T 0, 8, .inl ((Z0 4).2 3))), (A0 4 9, .inl (T 0, 8, .inl ((Z0 4).2 4))), (A0 4 10, .inl (T 0, 8, .inl ((Z0 4).2 5))), (A0 5 0, .inr (1, [.ref (A0 5 1), .ref (A0 5 2), .ref (A0 5 3), .ref (A0 5 4), .int ((Z0 5).1 0), .int ((Z0 5).1 1), .int ((Z0 5).1 2), .int ((Z0 5).1 3), .int ((Z0 5).1 4)])), (A0 5 1, .inl (T 0, 100, .inl ((Z0 5).2 0))), (A0 5 2, .inl (T 0, 20, .inl ((Z0 5).2 1))), (A0 5 3, .inl (T 0, 20, .inl ((Z0 5).2 2))), (A0 5 4, .inl (T 0, 20, .inl ((Z0 5).2 3)))]) (ws' := scW T h0 A0 (zU Z0 3 t5)) (va_runV (As := [.ref (A0 0 0)]) (rest := []) ⟨hx, hb, hml, hown, hts⟩ (c_X2_copyFrom l D T (A0 3) (Z0 3) (A0 0) (Z0 0) _ t5 et5) (cwV 1 hts gX0_save_X2_copyFrom rfl rfl rfl hdV_X2_copyFrom ⟨Nat.le_of_ble_eq_true rfl, Nat.le_of_ble_eq_true rfl⟩) ⟨PM_blind, va_recv hK.1 hP (ci := 2) (q0 := 36) rfl rfl, PM_at (hP.sub (ws' := stW T (A0 3) (Z0 3) ++ stW T (A0 0) (Z0 0)) [36, 37, 38, 39, 40, 41, 42, 43, 44, 45, 46, 3, 4, 5, 6, 7, 8, 9, 10, 11, 12, 13] rfl) (hD.sub (ws' := stW T (A0 3) (Z0 3) ++ stW T (A0 0) (Z0 0)) [36, 37, 38, 39, 40, 41, 42, 43, 44, 45, 46, 3, 4, 5, 6, 7, 8, 9, 10, 11, 12, 13] (by decide) rfl) hK⟩ rfl rfl hl.1 rfl (lv_room (Nat.le_of_ble_eq_true rfl)) dX0_save_31 ⟨Nat.zero_le _, Nat.zero_le _⟩) hS hA hP hD [36, 37, 38, 39, 40, 41, 42, 43, 44, 45, 46, 3, 4, 5, 6, 7, 8, 9, 10, 11, 12, 13] [0, 1, 2, 14, 15, 16, 17, 18, 19, 20, 21, 22, 23, 24, 25, 26, 27, 28, 29, 30, 31, 32, 33, 34, 35, 47, 48, 49, 50, 51, 52, 53, 54, 55, 56, 57, 58, 59, 60, 61, 62] rfl rfl (by decide) (by decide) [0, 1, 2, 52, 53, 54, 55, 56, 57, 58, 59, 60, 61, 62, 3, 4, 5, 6, 7, 8, 9, 10, 11, 12, 13, 14, 15, 16, 17, 18, 19, 20, 21, 22, 23, 24, 41, 42, 43, 44, 45, 46, 47, 48, 49, 50, 51, 25, 26, 27, 28, 29, 30, 31, 32, 33, 34, 35, 36, 37, 38, 39, 40] (by decide) rfl (fun H locs hP hD hS => ?_)
    refine lv_aload_n hx hb dX0_save_34 rfl (lv_at hl 1 rfl) ?_
    refine lv_dup hx hb dX0_save_35 rfl ?_
    refine va_get (D := D) (ci := 0) (v := .int (((zU Z0 3 t5) 6).1 0)) (C := RX0) (T := TX0) (N := 2) hx hb hts inX0_save_0 hown hK.1 hP 1 rfl rfl 1 (by decide) (hts (.fieldLink RX0 18 "LyingScale$History" "count" "I") (List.mem_of_getElem? (i := 1) rfl)) (fun _ h9 => h9) rfl dX0_save_36 ?_
    refine lv_iconst (v := 1) hx hb dX0_save_39 (by decide) ?_
    refine lv_iadd hx hb dX0_save_40 ?_
    refine va_put (D := D) (ci := 0) (v := .int ((((zU Z0 3 t5) 6).1 0) + 1)) (ty := .int) (C := RX0) (T := TX0) (N := 2) hx hb hts inX0_save_0 tyX0 tyX0_ok nmX0 hown hK.1 hP hD hS 1 rfl rfl 1 (by decide) (hts (.fieldLink RX0 18 "LyingScale$History" "count" "I") (List.mem_of_getElem? (i := 1) rfl)) (fun _ h9 => h9) rfl (by decide +kernel) rfl rfl (Nat.le_of_ble_eq_true rfl) dX0_save_41 (fun H locs hP hD hS => ?_)
    replace hP : va_P D vwCl (scW T h0 A0 (zU (zU Z0 3 t5) 6 (sI ((zU Z0 3 t5) 6) 0 ((((zU Z0 3 t5) 6).1 0) + 1)))) H := hP
    replace hD : va_D A (scW T h0 A0 (zU (zU Z0 3 t5) 6 (sI ((zU Z0 3 t5) 6) 0 ((((zU Z0 3 t5) 6).1 0) + 1)))) := hD
    replace h := bd h
    obtain ⟨y6, ey6, h⟩ := h
    rw [Option.some.inj ey6] at hP hD
    obtain rfl := Option.some.inj h
    exact W.vret hx hb hr (fun t ht hW => ⟨⟨A0, rfl, trivial, by rw [ht]; exact hP, hD⟩, hS.F ht⟩) hS.2.2 dX0_save_44 hlocks
  replace h := im k2_ h
  by_cases k3_ : (Z0 6).1 0 = 3
  · replace h := ip k3_ h
    refine lv_aload_n hx hb dX0_save_0 rfl (lv_at hl 0 rfl) ?_
    refine va_get (D := D) (ci := 0) (v := .int ((Z0 6).1 0)) (C := RX0) (T := TX0) (N := 2) hx hb hts inX0_save_0 hown hK.1 hP 1 rfl rfl 1 (by decide) (hts (.fieldLink RX0 18 "LyingScale$History" "count" "I") (List.mem_of_getElem? (i := 1) rfl)) (fun _ h9 => h9) rfl dX0_save_1 ?_
    refine eqi (k3_) ?_
    refine lv_aload_n hx hb dX0_save_4 rfl (lv_at hl 0 rfl) ?_
    refine va_get (D := D) (ci := 0) (v := .ref (A0 6 2)) (C := RX0) (T := TX0) (N := 2) hx hb hts inX0_save_0 hown hK.1 hP 1 rfl rfl 0 (by decide) (hts (.fieldLink RX0 11 "LyingScale$History" "states" "[LLyingScale$State;") (List.mem_of_getElem? (i := 2) rfl)) (fun _ h9 => h9) rfl dX0_save_5 ?_
    refine va_alen hx hb hK.1 hP 2 3 rfl rfl (v := 4) rfl dX0_save_8 ?_
    refine lv_icmp_lt (tgt := 16) hx hb dX0_save_9 (by decide) (fun _ => ?_) (fun c => absurd c (by decide))
    refine lv_aload_n hx hb dX0_save_16 rfl (lv_at hl 0 rfl) ?_
    refine lv_aload_n hx hb dX0_save_17 rfl (lv_at hl 0 rfl) ?_
    refine va_get (D := D) (ci := 0) (v := .int ((Z0 6).1 0)) (C := RX0) (T := TX0) (N := 2) hx hb hts inX0_save_0 hown hK.1 hP 1 rfl rfl 1 (by decide) (hts (.fieldLink RX0 18 "LyingScale$History" "count" "I") (List.mem_of_getElem? (i := 1) rfl)) (fun _ h9 => h9) rfl dX0_save_18 ?_
    refine eqi (k3_) ?_
    refine callRa (v := .ref (A0 4 0)) (va_runV (As := [.int 3]) (rest := []) ⟨hx, hb, hml, hown, hts⟩ (c_X0_stateAt l D T h0 A0 Z0 3 3 (by decide +kernel)) (cwV 1 hts gX0_save_X0_stateAt rfl rfl rfl hdV_X0_stateAt ⟨Nat.le_of_ble_eq_true rfl, Nat.le_of_ble_eq_true rfl⟩) ⟨PB_blind, va_recv hK.1 hP (ci := 0) (q0 := 1) rfl rfl, PB_at hP hK⟩ rfl rfl hl.1 rfl (lv_room (Nat.le_of_ble_eq_true rfl)) dX0_save_21 ⟨Nat.zero_le _, Nat.zero_le _⟩) ?_
    refine lv_astore_n (lv' := [(2, .ref (A0 4 0)), (0, .ref (A0 6 1)), (1, .ref (A0 0 0))]) hx hb dX0_save_24 rfl hl (by decide) rfl (fun ls hl => ?_)
    refine lv_aload_n hx hb dX0_save_25 rfl (lv_at hl 0 rfl) ?_
    refine lv_ifnull hx hb dX0_save_26 ?_
    refine lv_aload_n hx hb dX0_save_29 rfl (lv_at hl 0 rfl) ?_
    refine lv_aload_n hx hb dX0_save_30 rfl (lv_at hl 2 rfl) ?_
    replace h := bd h
    obtain ⟨t7, et7, h⟩ := h
    refine callMv (wr := [(h0, .inr (4, [.ref (A0 0 0), .ref (A0 6 1), .ref (A0 5 0)])), (A0 6 1, .inr (0, [.ref (A0 6 2), .int ((Z0 6).1 0)])), (A0 6 2, .inl (T 3, 4, .inr (.inr (.inr (.inr (hsQ A0)))))), (A0 1 0, .inr (2, [.ref (A0 1 1), .ref (A0 1 2), .ref (A0 1 3), .ref (A0 1 4), .int ((Z0 1).1 0), .int ((Z0 1).1 1), .int ((Z0 1).1 2), .int ((Z0 1).1 3), .int ((Z0 1).1 4)])), (A0 1 1, .inr (3, [.ref (A0 1 5), .ref (A0 1 6), .ref (A0 1 7), .int ((Z0 1).1 5)])), (A0 1 2, .inr (3, [.ref (A0 1 8), .ref (A0 1 9), .ref (A0 1 10), .int ((Z0 1).1 6)])), (A0 1 3, .inl (T 0, 33, .inl ((Z0 1).2 6))), (A0 1 4, .inl (T 0, 33, .inl ((Z0 1).2 7))), (A0 1 5, .inl (T 0, 40, .inl ((Z0 1).2 0))), (A0 1 6, .inl (T 0, 40, .inl ((Z0 1).2 1))), (A0 1 7, .inl (T 0, 40, .inl ((Z0 1).2 2))), (A0 1 8, .inl (T 0, 8, .inl ((Z0 1).2 3))), (A0 1 9, .inl (T 0, 8, .inl ((Z0 1).2 4))), (A0 1 10, .inl (T 0, 8, .inl ((Z0 1).2 5))), (A0 2 0, .inr (2, [.ref (A0 2 1), .ref (A0 2 2), .ref (A0 2 3), .ref (A0 2 4), .int ((Z0 2).1 0), .int ((Z0 2).1 1), .int ((Z0 2).1 2), .int ((Z0 2).1 3), .int ((Z0 2).1 4)])), (A0 2 1, .inr (3, [.ref (A0 2 5), .ref (A0 2 6), .ref (A0 2 7), .int ((Z0 2).1 5)])), (A0 2 2, .inr (3, [.ref (A0 2 8), .ref (A0 2 9), .ref (A0 2 10), .int ((Z0 2).1 6)])), (A0 2 3, .inl (T 0, 33, .inl ((Z0 2).2 6))), (A0 2 4, .inl (T 0, 33, .inl ((Z0 2).2 7))), (A0 2 5, .inl (T 0, 40, .inl ((Z0 2).2 0))), (A0 2 6, .inl (T 0, 40, .inl ((Z0 2).2 1))), (A0 2 7, .inl (T 0, 40, .inl ((Z0 2).2 2))), (A0 2 8, .inl (T 0, 8, .inl ((Z0 2).2 3))), (A0 2 9, .inl (T 0, 8, .inl ((Z0 2).2 4))), (A0 2 10, .inl (T 0, 8, .inl ((Z0 2).2 5))), (A0 3 0, .inr (2, [.ref (A0 3 1), .ref (A0 3 2), .ref (A0 3 3), .ref (A0 3 4), .int ((Z0 3).1 0), .int ((Z0 3).1 1), .int ((Z0 3).1 2), .int ((Z0 3).1 3), .int ((Z0 3).1 4)])), (A0 3 1, .inr (3, [.ref (A0 3 5), .ref (A0 3 6), .ref (A0 3 7), .int ((Z0 3).1 5)])), (A0 3 2, .inr (3, [.ref (A0 3 8), .ref (A0 3 9), .ref (A0 3 10), .int ((Z0 3).1 6)])), (A0 3 3, .inl (T 0, 33, .inl ((Z0 3).2 6))), (A0 3 4, .inl (T 0, 33, .inl ((Z0 3).2 7))), (A0 3 5, .inl (T 0, 40, .inl ((Z0 3).2 0))), (A0 3 6, .inl (T 0, 40, .inl ((Z0 3).2 1))), (A0 3 7, .inl (T 0, 40, .inl ((Z0 3).2 2))), (A0 3 8, .inl (T 0, 8, .inl ((Z0 3).2 3))), (A0 3 9, .inl (T 0, 8, .inl ((Z0 3).2 4))), (A0 3 10, .inl (T 0, 8, .inl ((Z0 3).2 5))), (A0 5 0, .inr (1, [.ref (A0 5 1), .ref (A0 5 2), .ref (A0 5 3), .ref (A0 5 4), .int ((Z0 5).1 0), .int ((Z0 5).1 1), .int ((Z0 5).1 2), .int ((Z0 5).1 3), .int ((Z0 5).1 4)])), (A0 5 1, .inl (T 0, 100, .inl ((Z0 5).2 0))), (A0 5 2, .inl (T 0, 20, .inl ((Z0 5).2 1))), (A0 5 3, .inl (T 0, 20, .inl ((Z0 5).2 2))), (A0 5 4, .inl (T 0, 20, .inl ((Z0 5).2 3)))]) (ws' := scW T h0 A0 (zU Z0 4 t7)) (va_runV (As := [.ref (A0 0 0)]) (rest := []) ⟨hx, hb, hml, hown, hts⟩ (c_X2_copyFrom l D T (A0 4) (Z0 4) (A0 0) (Z0 0) _ t7 et7) (cwV 1 hts gX0_save_X2_copyFrom rfl rfl rfl hdV_X2_copyFrom ⟨Nat.le_of_ble_eq_true rfl, Nat.le_of_ble_eq_true rfl⟩) ⟨PM_blind, va_recv hK.1 hP (ci := 2) (q0 := 47) rfl rfl, PM_at (hP.sub (ws' := stW T (A0 4) (Z0 4) ++ stW T (A0 0) (Z0 0)) [47, 48, 49, 50, 51, 52, 53, 54, 55, 56, 57, 3, 4, 5, 6, 7, 8, 9, 10, 11, 12, 13] rfl) (hD.sub (ws' := stW T (A0 4) (Z0 4) ++ stW T (A0 0) (Z0 0)) [47, 48, 49, 50, 51, 52, 53, 54, 55, 56, 57, 3, 4, 5, 6, 7, 8, 9, 10, 11, 12, 13] (by decide) rfl) hK⟩ rfl rfl hl.1 rfl (lv_room (Nat.le_of_ble_eq_true rfl)) dX0_save_31 ⟨Nat.zero_le _, Nat.zero_le _⟩) hS hA hP hD [47, 48, 49, 50, 51, 52, 53, 54, 55, 56, 57, 3, 4, 5, 6, 7, 8, 9, 10, 11, 12, 13] [0, 1, 2, 14, 15, 16, 17, 18, 19, 20, 21, 22, 23, 24, 25, 26, 27, 28, 29, 30, 31, 32, 33, 34, 35, 36, 37, 38, 39, 40, 41, 42, 43, 44, 45, 46, 58, 59, 60, 61, 62] rfl rfl (by decide) (by decide) [0, 1, 2, 52, 53, 54, 55, 56, 57, 58, 59, 60, 61, 62, 3, 4, 5, 6, 7, 8, 9, 10, 11, 12, 13, 14, 15, 16, 17, 18, 19, 20, 21, 22, 23, 24, 25, 26, 27, 28, 29, 30, 31, 32, 33, 34, 35, 41, 42, 43, 44, 45, 46, 47, 48, 49, 50, 51, 36, 37, 38, 39, 40] (by decide) rfl (fun H locs hP hD hS => ?_)
    refine lv_aload_n hx hb dX0_save_34 rfl (lv_at hl 1 rfl) ?_
    refine lv_dup hx hb dX0_save_35 rfl ?_
    refine va_get (D := D) (ci := 0) (v := .int (((zU Z0 4 t7) 6).1 0)) (C := RX0) (T := TX0) (N := 2) hx hb hts inX0_save_0 hown hK.1 hP 1 rfl rfl 1 (by decide) (hts (.fieldLink RX0 18 "LyingScale$History" "count" "I") (List.mem_of_getElem? (i := 1) rfl)) (fun _ h9 => h9) rfl dX0_save_36 ?_
    refine lv_iconst (v := 1) hx hb dX0_save_39 (by decide) ?_
    refine lv_iadd hx hb dX0_save_40 ?_
    refine va_put (D := D) (ci := 0) (v := .int ((((zU Z0 4 t7) 6).1 0) + 1)) (ty := .int) (C := RX0) (T := TX0) (N := 2) hx hb hts inX0_save_0 tyX0 tyX0_ok nmX0 hown hK.1 hP hD hS 1 rfl rfl 1 (by decide) (hts (.fieldLink RX0 18 "LyingScale$History" "count" "I") (List.mem_of_getElem? (i := 1) rfl)) (fun _ h9 => h9) rfl (by decide +kernel) rfl rfl (Nat.le_of_ble_eq_true rfl) dX0_save_41 (fun H locs hP hD hS => ?_)
    replace hP : va_P D vwCl (scW T h0 A0 (zU (zU Z0 4 t7) 6 (sI ((zU Z0 4 t7) 6) 0 ((((zU Z0 4 t7) 6).1 0) + 1)))) H := hP
    replace hD : va_D A (scW T h0 A0 (zU (zU Z0 4 t7) 6 (sI ((zU Z0 4 t7) 6) 0 ((((zU Z0 4 t7) 6).1 0) + 1)))) := hD
    replace h := bd h
    obtain ⟨y8, ey8, h⟩ := h
    rw [Option.some.inj ey8] at hP hD
    obtain rfl := Option.some.inj h
    exact W.vret hx hb hr (fun t ht hW => ⟨⟨A0, rfl, trivial, by rw [ht]; exact hP, hD⟩, hS.F ht⟩) hS.2.2 dX0_save_44 hlocks
  replace h := im k3_ h
  by_cases k4_ : (Z0 6).1 0 = 4
  · replace h := ip k4_ h
    refine lv_aload_n hx hb dX0_save_0 rfl (lv_at hl 0 rfl) ?_
    refine va_get (D := D) (ci := 0) (v := .int ((Z0 6).1 0)) (C := RX0) (T := TX0) (N := 2) hx hb hts inX0_save_0 hown hK.1 hP 1 rfl rfl 1 (by decide) (hts (.fieldLink RX0 18 "LyingScale$History" "count" "I") (List.mem_of_getElem? (i := 1) rfl)) (fun _ h9 => h9) rfl dX0_save_1 ?_
    refine eqi (k4_) ?_
    refine lv_aload_n hx hb dX0_save_4 rfl (lv_at hl 0 rfl) ?_
    refine va_get (D := D) (ci := 0) (v := .ref (A0 6 2)) (C := RX0) (T := TX0) (N := 2) hx hb hts inX0_save_0 hown hK.1 hP 1 rfl rfl 0 (by decide) (hts (.fieldLink RX0 11 "LyingScale$History" "states" "[LLyingScale$State;") (List.mem_of_getElem? (i := 2) rfl)) (fun _ h9 => h9) rfl dX0_save_5 ?_
    refine va_alen hx hb hK.1 hP 2 3 rfl rfl (v := 4) rfl dX0_save_8 ?_
    refine lv_icmp_lt (tgt := 16) hx hb dX0_save_9 (by decide) (fun c => absurd c (by decide)) (fun _ => ?_)
    refine lv_aload_n hx hb dX0_save_12 rfl (lv_at hl 0 rfl) ?_
    refine callWv (va_runV (As := []) (rest := []) ⟨hx, hb, hml, hown, hts⟩ (c_X0_dropOldest l D T h0 A0 Z0 _) (cwV 0 hts gX0_save_X0_dropOldest rfl rfl rfl hdV_X0_dropOldest ⟨Nat.le_of_ble_eq_true rfl, Nat.le_of_ble_eq_true rfl⟩) ⟨PM_blind, va_recv hK.1 hP (ci := 0) (q0 := 1) rfl rfl, PM_at hP hD hK⟩ rfl rfl hl.1 rfl (lv_room (Nat.le_of_ble_eq_true rfl)) dX0_save_13 ⟨Nat.zero_le _, Nat.zero_le _⟩) hS hA hP hD (fun H locs hP hD hS => ?_)
    refine lv_aload_n hx hb dX0_save_16 rfl (lv_at hl 0 rfl) ?_
    refine lv_aload_n hx hb dX0_save_17 rfl (lv_at hl 0 rfl) ?_
    refine va_get (D := D) (ci := 0) (v := .int (((rotZ (zU Z0 6 (sI (Z0 6) 0 3))) 6).1 0)) (C := RX0) (T := TX0) (N := 2) hx hb hts inX0_save_0 hown hK.1 hP 1 rfl rfl 1 (by decide) (hts (.fieldLink RX0 18 "LyingScale$History" "count" "I") (List.mem_of_getElem? (i := 1) rfl)) (fun _ h9 => h9) rfl dX0_save_18 ?_
    refine eqi (rfl) ?_
    refine callRa (v := .ref ((rotA A0) 4 0)) (va_runV (As := [.int 3]) (rest := []) ⟨hx, hb, hml, hown, hts⟩ (c_X0_stateAt l D T h0 (rotA A0) (rotZ (zU Z0 6 (sI (Z0 6) 0 3))) 3 3 (by decide +kernel)) (cwV 1 hts gX0_save_X0_stateAt rfl rfl rfl hdV_X0_stateAt ⟨Nat.le_of_ble_eq_true rfl, Nat.le_of_ble_eq_true rfl⟩) ⟨PB_blind, va_recv hK.1 hP (ci := 0) (q0 := 1) rfl rfl, PB_at hP hK⟩ rfl rfl hl.1 rfl (lv_room (Nat.le_of_ble_eq_true rfl)) dX0_save_21 ⟨Nat.zero_le _, Nat.zero_le _⟩) ?_
    refine lv_astore_n (lv' := [(2, .ref ((rotA A0) 4 0)), (0, .ref (A0 6 1)), (1, .ref (A0 0 0))]) hx hb dX0_save_24 rfl hl (by decide) rfl (fun ls hl => ?_)
    refine lv_aload_n hx hb dX0_save_25 rfl (lv_at hl 0 rfl) ?_
    refine lv_ifnull hx hb dX0_save_26 ?_
    refine lv_aload_n hx hb dX0_save_29 rfl (lv_at hl 0 rfl) ?_
    refine lv_aload_n hx hb dX0_save_30 rfl (lv_at hl 2 rfl) ?_
    replace h := bd h
    obtain ⟨t9, et9, h⟩ := h
    refine callMv (wr := [(h0, .inr (4, [.ref ((rotA A0) 0 0), .ref ((rotA A0) 6 1), .ref ((rotA A0) 5 0)])), ((rotA A0) 6 1, .inr (0, [.ref ((rotA A0) 6 2), .int (((rotZ (zU Z0 6 (sI (Z0 6) 0 3))) 6).1 0)])), ((rotA A0) 6 2, .inl (T 3, 4, .inr (.inr (.inr (.inr (hsQ (rotA A0))))))), ((rotA A0) 1 0, .inr (2, [.ref ((rotA A0) 1 1), .ref ((rotA A0) 1 2), .ref ((rotA A0) 1 3), .ref ((rotA A0) 1 4), .int (((rotZ (zU Z0 6 (sI (Z0 6) 0 3))) 1).1 0), .int (((rotZ (zU Z0 6 (sI (Z0 6) 0 3))) 1).1 1), .int (((rotZ (zU Z0 6 (sI (Z0 6) 0 3))) 1).1 2), .int (((rotZ (zU Z0 6 (sI (Z0 6) 0 3))) 1).1 3), .int (((rotZ (zU Z0 6 (sI (Z0 6) 0 3))) 1).1 4)])), ((rotA A0) 1 1, .inr (3, [.ref ((rotA A0) 1 5), .ref ((rotA A0) 1 6), .ref ((rotA A0) 1 7), .int (((rotZ (zU Z0 6 (sI (Z0 6) 0 3))) 1).1 5)])), ((rotA A0) 1 2, .inr (3, [.ref ((rotA A0) 1 8), .ref ((rotA A0) 1 9), .ref ((rotA A0) 1 10), .int (((rotZ (zU Z0 6 (sI (Z0 6) 0 3))) 1).1 6)])), ((rotA A0) 1 3, .inl (T 0, 33, .inl (((rotZ (zU Z0 6 (sI (Z0 6) 0 3))) 1).2 6))), ((rotA A0) 1 4, .inl (T 0, 33, .inl (((rotZ (zU Z0 6 (sI (Z0 6) 0 3))) 1).2 7))), ((rotA A0) 1 5, .inl (T 0, 40, .inl (((rotZ (zU Z0 6 (sI (Z0 6) 0 3))) 1).2 0))), ((rotA A0) 1 6, .inl (T 0, 40, .inl (((rotZ (zU Z0 6 (sI (Z0 6) 0 3))) 1).2 1))), ((rotA A0) 1 7, .inl (T 0, 40, .inl (((rotZ (zU Z0 6 (sI (Z0 6) 0 3))) 1).2 2))), ((rotA A0) 1 8, .inl (T 0, 8, .inl (((rotZ (zU Z0 6 (sI (Z0 6) 0 3))) 1).2 3))), ((rotA A0) 1 9, .inl (T 0, 8, .inl (((rotZ (zU Z0 6 (sI (Z0 6) 0 3))) 1).2 4))), ((rotA A0) 1 10, .inl (T 0, 8, .inl (((rotZ (zU Z0 6 (sI (Z0 6) 0 3))) 1).2 5))), ((rotA A0) 2 0, .inr (2, [.ref ((rotA A0) 2 1), .ref ((rotA A0) 2 2), .ref ((rotA A0) 2 3), .ref ((rotA A0) 2 4), .int (((rotZ (zU Z0 6 (sI (Z0 6) 0 3))) 2).1 0), .int (((rotZ (zU Z0 6 (sI (Z0 6) 0 3))) 2).1 1), .int (((rotZ (zU Z0 6 (sI (Z0 6) 0 3))) 2).1 2), .int (((rotZ (zU Z0 6 (sI (Z0 6) 0 3))) 2).1 3), .int (((rotZ (zU Z0 6 (sI (Z0 6) 0 3))) 2).1 4)])), ((rotA A0) 2 1, .inr (3, [.ref ((rotA A0) 2 5), .ref ((rotA A0) 2 6), .ref ((rotA A0) 2 7), .int (((rotZ (zU Z0 6 (sI (Z0 6) 0 3))) 2).1 5)])), ((rotA A0) 2 2, .inr (3, [.ref ((rotA A0) 2 8), .ref ((rotA A0) 2 9), .ref ((rotA A0) 2 10), .int (((rotZ (zU Z0 6 (sI (Z0 6) 0 3))) 2).1 6)])), ((rotA A0) 2 3, .inl (T 0, 33, .inl (((rotZ (zU Z0 6 (sI (Z0 6) 0 3))) 2).2 6))), ((rotA A0) 2 4, .inl (T 0, 33, .inl (((rotZ (zU Z0 6 (sI (Z0 6) 0 3))) 2).2 7))), ((rotA A0) 2 5, .inl (T 0, 40, .inl (((rotZ (zU Z0 6 (sI (Z0 6) 0 3))) 2).2 0))), ((rotA A0) 2 6, .inl (T 0, 40, .inl (((rotZ (zU Z0 6 (sI (Z0 6) 0 3))) 2).2 1))), ((rotA A0) 2 7, .inl (T 0, 40, .inl (((rotZ (zU Z0 6 (sI (Z0 6) 0 3))) 2).2 2))), ((rotA A0) 2 8, .inl (T 0, 8, .inl (((rotZ (zU Z0 6 (sI (Z0 6) 0 3))) 2).2 3))), ((rotA A0) 2 9, .inl (T 0, 8, .inl (((rotZ (zU Z0 6 (sI (Z0 6) 0 3))) 2).2 4))), ((rotA A0) 2 10, .inl (T 0, 8, .inl (((rotZ (zU Z0 6 (sI (Z0 6) 0 3))) 2).2 5))), ((rotA A0) 3 0, .inr (2, [.ref ((rotA A0) 3 1), .ref ((rotA A0) 3 2), .ref ((rotA A0) 3 3), .ref ((rotA A0) 3 4), .int (((rotZ (zU Z0 6 (sI (Z0 6) 0 3))) 3).1 0), .int (((rotZ (zU Z0 6 (sI (Z0 6) 0 3))) 3).1 1), .int (((rotZ (zU Z0 6 (sI (Z0 6) 0 3))) 3).1 2), .int (((rotZ (zU Z0 6 (sI (Z0 6) 0 3))) 3).1 3), .int (((rotZ (zU Z0 6 (sI (Z0 6) 0 3))) 3).1 4)])), ((rotA A0) 3 1, .inr (3, [.ref ((rotA A0) 3 5), .ref ((rotA A0) 3 6), .ref ((rotA A0) 3 7), .int (((rotZ (zU Z0 6 (sI (Z0 6) 0 3))) 3).1 5)])), ((rotA A0) 3 2, .inr (3, [.ref ((rotA A0) 3 8), .ref ((rotA A0) 3 9), .ref ((rotA A0) 3 10), .int (((rotZ (zU Z0 6 (sI (Z0 6) 0 3))) 3).1 6)])), ((rotA A0) 3 3, .inl (T 0, 33, .inl (((rotZ (zU Z0 6 (sI (Z0 6) 0 3))) 3).2 6))), ((rotA A0) 3 4, .inl (T 0, 33, .inl (((rotZ (zU Z0 6 (sI (Z0 6) 0 3))) 3).2 7))), ((rotA A0) 3 5, .inl (T 0, 40, .inl (((rotZ (zU Z0 6 (sI (Z0 6) 0 3))) 3).2 0))), ((rotA A0) 3 6, .inl (T 0, 40, .inl (((rotZ (zU Z0 6 (sI (Z0 6) 0 3))) 3).2 1))), ((rotA A0) 3 7, .inl (T 0, 40, .inl (((rotZ (zU Z0 6 (sI (Z0 6) 0 3))) 3).2 2))), ((rotA A0) 3 8, .inl (T 0, 8, .inl (((rotZ (zU Z0 6 (sI (Z0 6) 0 3))) 3).2 3))), ((rotA A0) 3 9, .inl (T 0, 8, .inl (((rotZ (zU Z0 6 (sI (Z0 6) 0 3))) 3).2 4))), ((rotA A0) 3 10, .inl (T 0, 8, .inl (((rotZ (zU Z0 6 (sI (Z0 6) 0 3))) 3).2 5))), ((rotA A0) 5 0, .inr (1, [.ref ((rotA A0) 5 1), .ref ((rotA A0) 5 2), .ref ((rotA A0) 5 3), .ref ((rotA A0) 5 4), .int (((rotZ (zU Z0 6 (sI (Z0 6) 0 3))) 5).1 0), .int (((rotZ (zU Z0 6 (sI (Z0 6) 0 3))) 5).1 1), .int (((rotZ (zU Z0 6 (sI (Z0 6) 0 3))) 5).1 2), .int (((rotZ (zU Z0 6 (sI (Z0 6) 0 3))) 5).1 3), .int (((rotZ (zU Z0 6 (sI (Z0 6) 0 3))) 5).1 4)])), ((rotA A0) 5 1, .inl (T 0, 100, .inl (((rotZ (zU Z0 6 (sI (Z0 6) 0 3))) 5).2 0))), ((rotA A0) 5 2, .inl (T 0, 20, .inl (((rotZ (zU Z0 6 (sI (Z0 6) 0 3))) 5).2 1))), ((rotA A0) 5 3, .inl (T 0, 20, .inl (((rotZ (zU Z0 6 (sI (Z0 6) 0 3))) 5).2 2))), ((rotA A0) 5 4, .inl (T 0, 20, .inl (((rotZ (zU Z0 6 (sI (Z0 6) 0 3))) 5).2 3)))]) (ws' := scW T h0 (rotA A0) (zU (rotZ (zU Z0 6 (sI (Z0 6) 0 3))) 4 t9)) (va_runV (As := [.ref (A0 0 0)]) (rest := []) ⟨hx, hb, hml, hown, hts⟩ (c_X2_copyFrom l D T ((rotA A0) 4) ((rotZ (zU Z0 6 (sI (Z0 6) 0 3))) 4) ((rotA A0) 0) ((rotZ (zU Z0 6 (sI (Z0 6) 0 3))) 0) _ t9 et9) (cwV 1 hts gX0_save_X2_copyFrom rfl rfl rfl hdV_X2_copyFrom ⟨Nat.le_of_ble_eq_true rfl, Nat.le_of_ble_eq_true rfl⟩) ⟨PM_blind, va_recv hK.1 hP (ci := 2) (q0 := 47) rfl rfl, PM_at (hP.sub (ws' := stW T ((rotA A0) 4) ((rotZ (zU Z0 6 (sI (Z0 6) 0 3))) 4) ++ stW T ((rotA A0) 0) ((rotZ (zU Z0 6 (sI (Z0 6) 0 3))) 0)) [47, 48, 49, 50, 51, 52, 53, 54, 55, 56, 57, 3, 4, 5, 6, 7, 8, 9, 10, 11, 12, 13] rfl) (hD.sub (ws' := stW T ((rotA A0) 4) ((rotZ (zU Z0 6 (sI (Z0 6) 0 3))) 4) ++ stW T ((rotA A0) 0) ((rotZ (zU Z0 6 (sI (Z0 6) 0 3))) 0)) [47, 48, 49, 50, 51, 52, 53, 54, 55, 56, 57, 3, 4, 5, 6, 7, 8, 9, 10, 11, 12, 13] (by decide) rfl) hK⟩ rfl rfl hl.1 rfl (lv_room (Nat.le_of_ble_eq_true rfl)) dX0_save_31 ⟨Nat.zero_le _, Nat.zero_le _⟩) hS hA hP hD [47, 48, 49, 50, 51, 52, 53, 54, 55, 56, 57, 3, 4, 5, 6, 7, 8, 9, 10, 11, 12, 13] [0, 1, 2, 14, 15, 16, 17, 18, 19, 20, 21, 22, 23, 24, 25, 26, 27, 28, 29, 30, 31, 32, 33, 34, 35, 36, 37, 38, 39, 40, 41, 42, 43, 44, 45, 46, 58, 59, 60, 61, 62] rfl rfl (by decide) (by decide) [0, 1, 2, 52, 53, 54, 55, 56, 57, 58, 59, 60, 61, 62, 3, 4, 5, 6, 7, 8, 9, 10, 11, 12, 13, 14, 15, 16, 17, 18, 19, 20, 21, 22, 23, 24, 25, 26, 27, 28, 29, 30, 31, 32, 33, 34, 35, 41, 42, 43, 44, 45, 46, 47, 48, 49, 50, 51, 36, 37, 38, 39, 40] (by decide) rfl (fun H locs hP hD hS => ?_)
    refine lv_aload_n hx hb dX0_save_34 rfl (lv_at hl 1 rfl) ?_
    refine lv_dup hx hb dX0_save_35 rfl ?_
    refine va_get (D := D) (ci := 0) (v := .int (((zU (rotZ (zU Z0 6 (sI (Z0 6) 0 3))) 4 t9) 6).1 0)) (C := RX0) (T := TX0) (N := 2) hx hb hts inX0_save_0 hown hK.1 hP 1 rfl rfl 1 (by decide) (hts (.fieldLink RX0 18 "LyingScale$History" "count" "I") (List.mem_of_getElem? (i := 1) rfl)) (fun _ h9 => h9) rfl dX0_save_36 ?_
    refine lv_iconst (v := 1) hx hb dX0_save_39 (by decide) ?_
    refine lv_iadd hx hb dX0_save_40 ?_
    refine va_put (D := D) (ci := 0) (v := .int ((((zU (rotZ (zU Z0 6 (sI (Z0 6) 0 3))) 4 t9) 6).1 0) + 1)) (ty := .int) (C := RX0) (T := TX0) (N := 2) hx hb hts inX0_save_0 tyX0 tyX0_ok nmX0 hown hK.1 hP hD hS 1 rfl rfl 1 (by decide) (hts (.fieldLink RX0 18 "LyingScale$History" "count" "I") (List.mem_of_getElem? (i := 1) rfl)) (fun _ h9 => h9) rfl (by decide +kernel) rfl rfl (Nat.le_of_ble_eq_true rfl) dX0_save_41 (fun H locs hP hD hS => ?_)
    replace hP : va_P D vwCl (scW T h0 (rotA A0) (zU (zU (rotZ (zU Z0 6 (sI (Z0 6) 0 3))) 4 t9) 6 (sI ((zU (rotZ (zU Z0 6 (sI (Z0 6) 0 3))) 4 t9) 6) 0 ((((zU (rotZ (zU Z0 6 (sI (Z0 6) 0 3))) 4 t9) 6).1 0) + 1)))) H := hP
    replace hD : va_D A (scW T h0 (rotA A0) (zU (zU (rotZ (zU Z0 6 (sI (Z0 6) 0 3))) 4 t9) 6 (sI ((zU (rotZ (zU Z0 6 (sI (Z0 6) 0 3))) 4 t9) 6) 0 ((((zU (rotZ (zU Z0 6 (sI (Z0 6) 0 3))) 4 t9) 6).1 0) + 1)))) := hD
    replace h := bd h
    obtain ⟨y10, ey10, h⟩ := h
    rw [Option.some.inj ey10] at hP hD
    obtain rfl := Option.some.inj h
    exact W.vret hx hb hr (fun t ht hW => ⟨⟨(rotA A0), rfl, trivial, by rw [ht]; exact hP, hD⟩, hS.F ht⟩) hS.2.2 dX0_save_44 hlocks
  replace h := im k4_ h
  cases h
set_option maxHeartbeats 4000000 in
set_option maxRecDepth 100000 in
theorem c_X0_restore (l : Launch) (D : va_G) (T : Nat → ClassId) (h0 : Nat) (A0 : Nat → Nat → Nat) (Z0 : Nat → St) (sz : Nat) (r : (Nat → St)) (h : F_X0_restore Z0 = some r) : Met l yX0_restore wsX0_restore ({ frames := 4, cells := 0, slots := 0, locals := 86 } : Room) (va_Pc [.ref (A0 6 1), .ref (A0 0 0)] (PM D T (scW T h0 A0 (Z0)) sz)) (QEv D (scW T h0) r (va_A (scW T h0 A0 (Z0)) sz)) 0 0 (va_A (scW T h0 A0 (Z0)) sz) := by
  refine met_of (cc := cX0_restore) (maxL := 3) (ret := none) (lv := [(0, .ref (A0 6 1)), (1, .ref (A0 0 0))]) (by decide) rfl (Nat.le_of_ble_eq_true rfl) rfl ?_
  intro p e s m args below meth c ls C0 hl hB
  obtain ⟨hx, hb, hr, hml, hown, hts, hlocks, hname⟩ := C0
  obtain ⟨hsz, hP, hK, hD0⟩ := hB
  subst hsz
  have hD := hD0.self (sz := s.heap.size)
  generalize hAe : va_A (scW T h0 A0 (Z0)) s.heap.size = A at hD ⊢
  have hA : ∀ q : Nat, s.heap.size ≤ q → A q := fun q h => by rw [← hAe]; exact Or.inr h
  have hS : va_S A s.heap s.heap [] := va_S.rf
  unfold F_X0_restore at h
  by_cases k1_ : (Z0 6).1 0 = 1
  · replace h := ip k1_ h
    refine lv_aload_n hx hb dX0_restore_0 rfl (lv_at hl 0 rfl) ?_
    refine lv_aload_n hx hb dX0_restore_1 rfl (lv_at hl 0 rfl) ?_
    refine va_get (D := D) (ci := 0) (v := .int ((Z0 6).1 0)) (C := RX0) (T := TX0) (N := 2) hx hb hts inX0_restore_0 hown hK.1 hP 1 rfl rfl 1 (by decide) (hts (.fieldLink RX0 18 "LyingScale$History" "count" "I") (List.mem_of_getElem? (i := 1) rfl)) (fun _ h9 => h9) rfl dX0_restore_2 ?_
    refine eqi (k1_) ?_
    refine lv_iconst (v := 1) hx hb dX0_restore_5 (by decide) ?_
    refine lv_isub hx hb dX0_restore_6 ?_
    refine eqi (show (1 : Int32) - 1 = 0 from by decide) ?_
    refine callRa (v := .ref (A0 1 0)) (va_runV (As := [.int 0]) (rest := []) ⟨hx, hb, hml, hown, hts⟩ (c_X0_stateAt l D T h0 A0 Z0 0 0 (by decide +kernel)) (cwV 1 hts gX0_restore_X0_stateAt rfl rfl rfl hdV_X0_stateAt ⟨Nat.le_of_ble_eq_true rfl, Nat.le_of_ble_eq_true rfl⟩) ⟨PB_blind, va_recv hK.1 hP (ci := 0) (q0 := 1) rfl rfl, PB_at hP hK⟩ rfl rfl hl.1 rfl (lv_room (Nat.le_of_ble_eq_true rfl)) dX0_restore_7 ⟨Nat.zero_le _, Nat.zero_le _⟩) ?_
    refine lv_astore_n (lv' := [(2, .ref (A0 1 0)), (0, .ref (A0 6 1)), (1, .ref (A0 0 0))]) hx hb dX0_restore_10 rfl hl (by decide) rfl (fun ls hl => ?_)
    refine lv_aload_n hx hb dX0_restore_11 rfl (lv_at hl 0 rfl) ?_
    refine lv_ifnull hx hb dX0_restore_12 ?_
    refine lv_aload_n hx hb dX0_restore_15 rfl (lv_at hl 2 rfl) ?_
    refine lv_aload_n hx hb dX0_restore_16 rfl (lv_at hl 0 rfl) ?_
    replace h := bd h
    obtain ⟨t1, et1, h⟩ := h
    refine callMv (wr := [(h0, .inr (4, [.ref (A0 0 0), .ref (A0 6 1), .ref (A0 5 0)])), (A0 6 1, .inr (0, [.ref (A0 6 2), .int ((Z0 6).1 0)])), (A0 6 2, .inl (T 3, 4, .inr (.inr (.inr (.inr (hsQ A0)))))), (A0 2 0, .inr (2, [.ref (A0 2 1), .ref (A0 2 2), .ref (A0 2 3), .ref (A0 2 4), .int ((Z0 2).1 0), .int ((Z0 2).1 1), .int ((Z0 2).1 2), .int ((Z0 2).1 3), .int ((Z0 2).1 4)])), (A0 2 1, .inr (3, [.ref (A0 2 5), .ref (A0 2 6), .ref (A0 2 7), .int ((Z0 2).1 5)])), (A0 2 2, .inr (3, [.ref (A0 2 8), .ref (A0 2 9), .ref (A0 2 10), .int ((Z0 2).1 6)])), (A0 2 3, .inl (T 0, 33, .inl ((Z0 2).2 6))), (A0 2 4, .inl (T 0, 33, .inl ((Z0 2).2 7))), (A0 2 5, .inl (T 0, 40, .inl ((Z0 2).2 0))), (A0 2 6, .inl (T 0, 40, .inl ((Z0 2).2 1))), (A0 2 7, .inl (T 0, 40, .inl ((Z0 2).2 2))), (A0 2 8, .inl (T 0, 8, .inl ((Z0 2).2 3))), (A0 2 9, .inl (T 0, 8, .inl ((Z0 2).2 4))), (A0 2 10, .inl (T 0, 8, .inl ((Z0 2).2 5))), (A0 3 0, .inr (2, [.ref (A0 3 1), .ref (A0 3 2), .ref (A0 3 3), .ref (A0 3 4), .int ((Z0 3).1 0), .int ((Z0 3).1 1), .int ((Z0 3).1 2), .int ((Z0 3).1 3), .int ((Z0 3).1 4)])), (A0 3 1, .inr (3, [.ref (A0 3 5), .ref (A0 3 6), .ref (A0 3 7), .int ((Z0 3).1 5)])), (A0 3 2, .inr (3, [.ref (A0 3 8), .ref (A0 3 9), .ref (A0 3 10), .int ((Z0 3).1 6)])), (A0 3 3, .inl (T 0, 33, .inl ((Z0 3).2 6))), (A0 3 4, .inl (T 0, 33, .inl ((Z0 3).2 7))), (A0 3 5, .inl (T 0, 40, .inl ((Z0 3).2 0))), (A0 3 6, .inl (T 0, 40, .inl ((Z0 3).2 1))), (A0 3 7, .inl (T 0, 40, .inl ((Z0 3).2 2))), (A0 3 8, .inl (T 0, 8, .inl ((Z0 3).2 3))), (A0 3 9, .inl (T 0, 8, .inl ((Z0 3).2 4))), (A0 3 10, .inl (T 0, 8, .inl ((Z0 3).2 5))), (A0 4 0, .inr (2, [.ref (A0 4 1), .ref (A0 4 2), .ref (A0 4 3), .ref (A0 4 4), .int ((Z0 4).1 0), .int ((Z0 4).1 1), .int ((Z0 4).1 2), .int ((Z0 4).1 3), .int ((Z0 4).1 4)])), (A0 4 1, .inr (3, [.ref (A0 4 5), .ref (A0 4 6), .ref (A0 4 7), .int ((Z0 4).1 5)])), (A0 4 2, .inr (3, [.ref (A0 4 8), .ref (A0 4 9), .ref (A0 4 10), .int ((Z0 4).1 6)])), (A0 4 3, .inl (T 0, 33, .inl ((Z0 4).2 6))), (A0 4 4, .inl (T 0, 33, .inl ((Z0 4).2 7))), (A0 4 5, .inl (T 0, 40, .inl ((Z0 4).2 0))), (A0 4 6, .inl (T 0, 40, .inl ((Z0 4).2 1))), (A0 4 7, .inl (T 0, 40, .inl ((Z0 4).2 2))), (A0 4 8, .inl (T 0, 8, .inl ((Z0 4).2 3))), (A0 4 9, .inl (T 0, 8, .inl ((Z0 4).2 4))), (A0 4 10, .inl (T 0, 8, .inl ((Z0 4).2 5))), (A0 5 0, .inr (1, [.ref (A0 5 1), .ref (A0 5 2), .ref (A0 5 3), .ref (A0 5 4), .int ((Z0 5).1 0), .int ((Z0 5).1 1), .int ((Z0 5).1 2), .int ((Z0 5).1 3), .int ((Z0 5).1 4)])), (A0 5 1, .inl (T 0, 100, .inl ((Z0 5).2 0))), (A0 5 2, .inl (T 0, 20, .inl ((Z0 5).2 1))), (A0 5 3, .inl (T 0, 20, .inl ((Z0 5).2 2))), (A0 5 4, .inl (T 0, 20, .inl ((Z0 5).2 3)))]) (ws' := scW T h0 A0 (zU Z0 0 t1)) (va_runV (As := [.ref (A0 1 0)]) (rest := []) ⟨hx, hb, hml, hown, hts⟩ (c_X2_copyFrom l D T (A0 0) (Z0 0) (A0 1) (Z0 1) _ t1 et1) (cwV 1 hts gX0_restore_X2_copyFrom rfl rfl rfl hdV_X2_copyFrom ⟨Nat.le_of_ble_eq_true rfl, Nat.le_of_ble_eq_true rfl⟩) ⟨PM_blind, va_recv hK.1 hP (ci := 2) (q0 := 3) rfl rfl, PM_at (hP.sub (ws' := stW T (A0 0) (Z0 0) ++ stW T (A0 1) (Z0 1)) [3, 4, 5, 6, 7, 8, 9, 10, 11, 12, 13, 14, 15, 16, 17, 18, 19, 20, 21, 22, 23, 24] rfl) (hD.sub (ws' := stW T (A0 0) (Z0 0) ++ stW T (A0 1) (Z0 1)) [3, 4, 5, 6, 7, 8, 9, 10, 11, 12, 13, 14, 15, 16, 17, 18, 19, 20, 21, 22, 23, 24] (by decide) rfl) hK⟩ rfl rfl hl.1 rfl (lv_room (Nat.le_of_ble_eq_true rfl)) dX0_restore_17 ⟨Nat.zero_le _, Nat.zero_le _⟩) hS hA hP hD [3, 4, 5, 6, 7, 8, 9, 10, 11, 12, 13, 14, 15, 16, 17, 18, 19, 20, 21, 22, 23, 24] [0, 1, 2, 25, 26, 27, 28, 29, 30, 31, 32, 33, 34, 35, 36, 37, 38, 39, 40, 41, 42, 43, 44, 45, 46, 47, 48, 49, 50, 51, 52, 53, 54, 55, 56, 57, 58, 59, 60, 61, 62] rfl rfl (by decide) (by decide) [0, 1, 2, 41, 42, 43, 44, 45, 46, 47, 48, 49, 50, 51, 52, 53, 54, 55, 56, 57, 58, 59, 60, 61, 62, 3, 4, 5, 6, 7, 8, 9, 10, 11, 12, 13, 14, 15, 16, 17, 18, 19, 20, 21, 22, 23, 24, 25, 26, 27, 28, 29, 30, 31, 32, 33, 34, 35, 36, 37, 38, 39, 40] (by decide) rfl (fun H locs hP hD hS => ?_)
    refine lv_aload_n hx hb dX0_restore_20 rfl (lv_at hl 1 rfl) ?_
    refine lv_dup hx hb dX0_restore_21 rfl ?_
    refine va_get (D := D) (ci := 0) (v := .int (((zU Z0 0 t1) 6).1 0)) (C := RX0) (T := TX0) (N := 2) hx hb hts inX0_restore_0 hown hK.1 hP 1 rfl rfl 1 (by decide) (hts (.fieldLink RX0 18 "LyingScale$History" "count" "I") (List.mem_of_getElem? (i := 1) rfl)) (fun _ h9 => h9) rfl dX0_restore_22 ?_
    refine lv_iconst (v := 1) hx hb dX0_restore_25 (by decide) ?_
    refine lv_isub hx hb dX0_restore_26 ?_
    refine va_put (D := D) (ci := 0) (v := .int ((((zU Z0 0 t1) 6).1 0) - 1)) (ty := .int) (C := RX0) (T := TX0) (N := 2) hx hb hts inX0_restore_0 tyX0 tyX0_ok nmX0 hown hK.1 hP hD hS 1 rfl rfl 1 (by decide) (hts (.fieldLink RX0 18 "LyingScale$History" "count" "I") (List.mem_of_getElem? (i := 1) rfl)) (fun _ h9 => h9) rfl (by decide +kernel) rfl rfl (Nat.le_of_ble_eq_true rfl) dX0_restore_27 (fun H locs hP hD hS => ?_)
    replace hP : va_P D vwCl (scW T h0 A0 (zU (zU Z0 0 t1) 6 (sI ((zU Z0 0 t1) 6) 0 ((((zU Z0 0 t1) 6).1 0) - 1)))) H := hP
    replace hD : va_D A (scW T h0 A0 (zU (zU Z0 0 t1) 6 (sI ((zU Z0 0 t1) 6) 0 ((((zU Z0 0 t1) 6).1 0) - 1)))) := hD
    replace h := bd h
    obtain ⟨y2, ey2, h⟩ := h
    rw [Option.some.inj ey2] at hP hD
    obtain rfl := Option.some.inj h
    exact W.vret hx hb hr (fun t ht hW => ⟨⟨A0, rfl, trivial, by rw [ht]; exact hP, hD⟩, hS.F ht⟩) hS.2.2 dX0_restore_30 hlocks
  replace h := im k1_ h
  by_cases k2_ : (Z0 6).1 0 = 2
  · replace h := ip k2_ h
    refine lv_aload_n hx hb dX0_restore_0 rfl (lv_at hl 0 rfl) ?_
    refine lv_aload_n hx hb dX0_restore_1 rfl (lv_at hl 0 rfl) ?_
    refine va_get (D := D) (ci := 0) (v := .int ((Z0 6).1 0)) (C := RX0) (T := TX0) (N := 2) hx hb hts inX0_restore_0 hown hK.1 hP 1 rfl rfl 1 (by decide) (hts (.fieldLink RX0 18 "LyingScale$History" "count" "I") (List.mem_of_getElem? (i := 1) rfl)) (fun _ h9 => h9) rfl dX0_restore_2 ?_
    refine eqi (k2_) ?_
    refine lv_iconst (v := 1) hx hb dX0_restore_5 (by decide) ?_
    refine lv_isub hx hb dX0_restore_6 ?_
    refine eqi (show (2 : Int32) - 1 = 1 from by decide) ?_
    refine callRa (v := .ref (A0 2 0)) (va_runV (As := [.int 1]) (rest := []) ⟨hx, hb, hml, hown, hts⟩ (c_X0_stateAt l D T h0 A0 Z0 1 1 (by decide +kernel)) (cwV 1 hts gX0_restore_X0_stateAt rfl rfl rfl hdV_X0_stateAt ⟨Nat.le_of_ble_eq_true rfl, Nat.le_of_ble_eq_true rfl⟩) ⟨PB_blind, va_recv hK.1 hP (ci := 0) (q0 := 1) rfl rfl, PB_at hP hK⟩ rfl rfl hl.1 rfl (lv_room (Nat.le_of_ble_eq_true rfl)) dX0_restore_7 ⟨Nat.zero_le _, Nat.zero_le _⟩) ?_
    refine lv_astore_n (lv' := [(2, .ref (A0 2 0)), (0, .ref (A0 6 1)), (1, .ref (A0 0 0))]) hx hb dX0_restore_10 rfl hl (by decide) rfl (fun ls hl => ?_)
    refine lv_aload_n hx hb dX0_restore_11 rfl (lv_at hl 0 rfl) ?_
    refine lv_ifnull hx hb dX0_restore_12 ?_
    refine lv_aload_n hx hb dX0_restore_15 rfl (lv_at hl 2 rfl) ?_
    refine lv_aload_n hx hb dX0_restore_16 rfl (lv_at hl 0 rfl) ?_
    replace h := bd h
    obtain ⟨t3, et3, h⟩ := h
    refine callMv (wr := [(h0, .inr (4, [.ref (A0 0 0), .ref (A0 6 1), .ref (A0 5 0)])), (A0 6 1, .inr (0, [.ref (A0 6 2), .int ((Z0 6).1 0)])), (A0 6 2, .inl (T 3, 4, .inr (.inr (.inr (.inr (hsQ A0)))))), (A0 1 0, .inr (2, [.ref (A0 1 1), .ref (A0 1 2), .ref (A0 1 3), .ref (A0 1 4), .int ((Z0 1).1 0), .int ((Z0 1).1 1), .int ((Z0 1).1 2), .int ((Z0 1).1 3), .int ((Z0 1).1 4)])), (A0 1 1, .inr (3, [.ref (A0 1 5), .ref (A0 1 6), .ref (A0 1 7), .int ((Z0 1).1 5)])), (A0 1 2, .inr (3, [.ref (A0 1 8), .ref (A0 1 9), .ref (A0 1 10), .int ((Z0 1).1 6)])), (A0 1 3, .inl (T 0, 33, .inl ((Z0 1).2 6))), (A0 1 4, .inl (T 0, 33, .inl ((Z0 1).2 7))), (A0 1 5, .inl (T 0, 40, .inl ((Z0 1).2 0))), (A0 1 6, .inl (T 0, 40, .inl ((Z0 1).2 1))), (A0 1 7, .inl (T 0, 40, .inl ((Z0 1).2 2))), (A0 1 8, .inl (T 0, 8, .inl ((Z0 1).2 3))), (A0 1 9, .inl (T 0, 8, .inl ((Z0 1).2 4))), (A0 1 10, .inl (T 0, 8, .inl ((Z0 1).2 5))), (A0 3 0, .inr (2, [.ref (A0 3 1), .ref (A0 3 2), .ref (A0 3 3), .ref (A0 3 4), .int ((Z0 3).1 0), .int ((Z0 3).1 1), .int ((Z0 3).1 2), .int ((Z0 3).1 3), .int ((Z0 3).1 4)])), (A0 3 1, .inr (3, [.ref (A0 3 5), .ref (A0 3 6), .ref (A0 3 7), .int ((Z0 3).1 5)])), (A0 3 2, .inr (3, [.ref (A0 3 8), .ref (A0 3 9), .ref (A0 3 10), .int ((Z0 3).1 6)])), (A0 3 3, .inl (T 0, 33, .inl ((Z0 3).2 6))), (A0 3 4, .inl (T 0, 33, .inl ((Z0 3).2 7))), (A0 3 5, .inl (T 0, 40, .inl ((Z0 3).2 0))), (A0 3 6, .inl (T 0, 40, .inl ((Z0 3).2 1))), (A0 3 7, .inl (T 0, 40, .inl ((Z0 3).2 2))), (A0 3 8, .inl (T 0, 8, .inl ((Z0 3).2 3))), (A0 3 9, .inl (T 0, 8, .inl ((Z0 3).2 4))), (A0 3 10, .inl (T 0, 8, .inl ((Z0 3).2 5))), (A0 4 0, .inr (2, [.ref (A0 4 1), .ref (A0 4 2), .ref (A0 4 3), .ref (A0 4 4), .int ((Z0 4).1 0), .int ((Z0 4).1 1), .int ((Z0 4).1 2), .int ((Z0 4).1 3), .int ((Z0 4).1 4)])), (A0 4 1, .inr (3, [.ref (A0 4 5), .ref (A0 4 6), .ref (A0 4 7), .int ((Z0 4).1 5)])), (A0 4 2, .inr (3, [.ref (A0 4 8), .ref (A0 4 9), .ref (A0 4 10), .int ((Z0 4).1 6)])), (A0 4 3, .inl (T 0, 33, .inl ((Z0 4).2 6))), (A0 4 4, .inl (T 0, 33, .inl ((Z0 4).2 7))), (A0 4 5, .inl (T 0, 40, .inl ((Z0 4).2 0))), (A0 4 6, .inl (T 0, 40, .inl ((Z0 4).2 1))), (A0 4 7, .inl (T 0, 40, .inl ((Z0 4).2 2))), (A0 4 8, .inl (T 0, 8, .inl ((Z0 4).2 3))), (A0 4 9, .inl (T 0, 8, .inl ((Z0 4).2 4))), (A0 4 10, .inl (T 0, 8, .inl ((Z0 4).2 5))), (A0 5 0, .inr (1, [.ref (A0 5 1), .ref (A0 5 2), .ref (A0 5 3), .ref (A0 5 4), .int ((Z0 5).1 0), .int ((Z0 5).1 1), .int ((Z0 5).1 2), .int ((Z0 5).1 3), .int ((Z0 5).1 4)])), (A0 5 1, .inl (T 0, 100, .inl ((Z0 5).2 0))), (A0 5 2, .inl (T 0, 20, .inl ((Z0 5).2 1))), (A0 5 3, .inl (T 0, 20, .inl ((Z0 5).2 2))), (A0 5 4, .inl (T 0, 20, .inl ((Z0 5).2 3)))]) (ws' := scW T h0 A0 (zU Z0 0 t3)) (va_runV (As := [.ref (A0 2 0)]) (rest := []) ⟨hx, hb, hml, hown, hts⟩ (c_X2_copyFrom l D T (A0 0) (Z0 0) (A0 2) (Z0 2) _ t3 et3) (cwV 1 hts gX0_restore_X2_copyFrom rfl rfl rfl hdV_X2_copyFrom ⟨Nat.le_of_ble_eq_true rfl, Nat.le_of_ble_eq_true rfl⟩) ⟨PM_blind, va_recv hK.1 hP (ci := 2) (q0 := 3) rfl rfl, PM_at (hP.sub (ws' := stW T (A0 0) (Z0 0) ++ stW T (A0 2) (Z0 2)) [3, 4, 5, 6, 7, 8, 9, 10, 11, 12, 13, 25, 26, 27, 28, 29, 30, 31, 32, 33, 34, 35] rfl) (hD.sub (ws' := stW T (A0 0) (Z0 0) ++ stW T (A0 2) (Z0 2)) [3, 4, 5, 6, 7, 8, 9, 10, 11, 12, 13, 25, 26, 27, 28, 29, 30, 31, 32, 33, 34, 35] (by decide) rfl) hK⟩ rfl rfl hl.1 rfl (lv_room (Nat.le_of_ble_eq_true rfl)) dX0_restore_17 ⟨Nat.zero_le _, Nat.zero_le _⟩) hS hA hP hD [3, 4, 5, 6, 7, 8, 9, 10, 11, 12, 13, 25, 26, 27, 28, 29, 30, 31, 32, 33, 34, 35] [0, 1, 2, 14, 15, 16, 17, 18, 19, 20, 21, 22, 23, 24, 36, 37, 38, 39, 40, 41, 42, 43, 44, 45, 46, 47, 48, 49, 50, 51, 52, 53, 54, 55, 56, 57, 58, 59, 60, 61, 62] rfl rfl (by decide) (by decide) [0, 1, 2, 41, 42, 43, 44, 45, 46, 47, 48, 49, 50, 51, 3, 4, 5, 6, 7, 8, 9, 10, 11, 12, 13, 52, 53, 54, 55, 56, 57, 58, 59, 60, 61, 62, 14, 15, 16, 17, 18, 19, 20, 21, 22, 23, 24, 25, 26, 27, 28, 29, 30, 31, 32, 33, 34, 35, 36, 37, 38, 39, 40] (by decide) rfl (fun H locs hP hD hS => ?_)
    refine lv_aload_n hx hb dX0_restore_20 rfl (lv_at hl 1 rfl) ?_
    refine lv_dup hx hb dX0_restore_21 rfl ?_
    refine va_get (D := D) (ci := 0) (v := .int (((zU Z0 0 t3) 6).1 0)) (C := RX0) (T := TX0) (N := 2) hx hb hts inX0_restore_0 hown hK.1 hP 1 rfl rfl 1 (by decide) (hts (.fieldLink RX0 18 "LyingScale$History" "count" "I") (List.mem_of_getElem? (i := 1) rfl)) (fun _ h9 => h9) rfl dX0_restore_22 ?_
    refine lv_iconst (v := 1) hx hb dX0_restore_25 (by decide) ?_
    refine lv_isub hx hb dX0_restore_26 ?_
    refine va_put (D := D) (ci := 0) (v := .int ((((zU Z0 0 t3) 6).1 0) - 1)) (ty := .int) (C := RX0) (T := TX0) (N := 2) hx hb hts inX0_restore_0 tyX0 tyX0_ok nmX0 hown hK.1 hP hD hS 1 rfl rfl 1 (by decide) (hts (.fieldLink RX0 18 "LyingScale$History" "count" "I") (List.mem_of_getElem? (i := 1) rfl)) (fun _ h9 => h9) rfl (by decide +kernel) rfl rfl (Nat.le_of_ble_eq_true rfl) dX0_restore_27 (fun H locs hP hD hS => ?_)
    replace hP : va_P D vwCl (scW T h0 A0 (zU (zU Z0 0 t3) 6 (sI ((zU Z0 0 t3) 6) 0 ((((zU Z0 0 t3) 6).1 0) - 1)))) H := hP
    replace hD : va_D A (scW T h0 A0 (zU (zU Z0 0 t3) 6 (sI ((zU Z0 0 t3) 6) 0 ((((zU Z0 0 t3) 6).1 0) - 1)))) := hD
    replace h := bd h
    obtain ⟨y4, ey4, h⟩ := h
    rw [Option.some.inj ey4] at hP hD
    obtain rfl := Option.some.inj h
    exact W.vret hx hb hr (fun t ht hW => ⟨⟨A0, rfl, trivial, by rw [ht]; exact hP, hD⟩, hS.F ht⟩) hS.2.2 dX0_restore_30 hlocks
  replace h := im k2_ h
  by_cases k3_ : (Z0 6).1 0 = 3
  · replace h := ip k3_ h
    refine lv_aload_n hx hb dX0_restore_0 rfl (lv_at hl 0 rfl) ?_
    refine lv_aload_n hx hb dX0_restore_1 rfl (lv_at hl 0 rfl) ?_
    refine va_get (D := D) (ci := 0) (v := .int ((Z0 6).1 0)) (C := RX0) (T := TX0) (N := 2) hx hb hts inX0_restore_0 hown hK.1 hP 1 rfl rfl 1 (by decide) (hts (.fieldLink RX0 18 "LyingScale$History" "count" "I") (List.mem_of_getElem? (i := 1) rfl)) (fun _ h9 => h9) rfl dX0_restore_2 ?_
    refine eqi (k3_) ?_
    refine lv_iconst (v := 1) hx hb dX0_restore_5 (by decide) ?_
    refine lv_isub hx hb dX0_restore_6 ?_
    refine eqi (show (3 : Int32) - 1 = 2 from by decide) ?_
    refine callRa (v := .ref (A0 3 0)) (va_runV (As := [.int 2]) (rest := []) ⟨hx, hb, hml, hown, hts⟩ (c_X0_stateAt l D T h0 A0 Z0 2 2 (by decide +kernel)) (cwV 1 hts gX0_restore_X0_stateAt rfl rfl rfl hdV_X0_stateAt ⟨Nat.le_of_ble_eq_true rfl, Nat.le_of_ble_eq_true rfl⟩) ⟨PB_blind, va_recv hK.1 hP (ci := 0) (q0 := 1) rfl rfl, PB_at hP hK⟩ rfl rfl hl.1 rfl (lv_room (Nat.le_of_ble_eq_true rfl)) dX0_restore_7 ⟨Nat.zero_le _, Nat.zero_le _⟩) ?_
    refine lv_astore_n (lv' := [(2, .ref (A0 3 0)), (0, .ref (A0 6 1)), (1, .ref (A0 0 0))]) hx hb dX0_restore_10 rfl hl (by decide) rfl (fun ls hl => ?_)
    refine lv_aload_n hx hb dX0_restore_11 rfl (lv_at hl 0 rfl) ?_
    refine lv_ifnull hx hb dX0_restore_12 ?_
    refine lv_aload_n hx hb dX0_restore_15 rfl (lv_at hl 2 rfl) ?_
    refine lv_aload_n hx hb dX0_restore_16 rfl (lv_at hl 0 rfl) ?_
    replace h := bd h
    obtain ⟨t5, et5, h⟩ := h
    refine callMv (wr := [(h0, .inr (4, [.ref (A0 0 0), .ref (A0 6 1), .ref (A0 5 0)])), (A0 6 1, .inr (0, [.ref (A0 6 2), .int ((Z0 6).1 0)])), (A0 6 2, .inl (T 3, 4, .inr (.inr (.inr (.inr (hsQ A0)))))), (A0 1 0, .inr (2, [.ref (A0 1 1), .ref (A0 1 2), .ref (A0 1 3), .ref (A0 1 4), .int ((Z0 1).1 0), .int ((Z0 1).1 1), .int ((Z0 1).1 2), .int ((Z0 1).1 3), .int ((Z0 1).1 4)])), (A0 1 1, .inr (3, [.ref (A0 1 5), .ref (A0 1 6), .ref (A0 1 7), .int ((Z0 1).1 5)])), (A0 1 2, .inr (3, [.ref (A0 1 8), .ref (A0 1 9), .ref (A0 1 10), .int ((Z0 1).1 6)])), (A0 1 3, .inl (T 0, 33, .inl ((Z0 1).2 6))), (A0 1 4, .inl (T 0, 33, .inl ((Z0 1).2 7))), (A0 1 5, .inl (T 0, 40, .inl ((Z0 1).2 0))), (A0 1 6, .inl (T 0, 40, .inl ((Z0 1).2 1))), (A0 1 7, .inl (T 0, 40, .inl ((Z0 1).2 2))), (A0 1 8, .inl (T 0, 8, .inl ((Z0 1).2 3))), (A0 1 9, .inl (T 0, 8, .inl ((Z0 1).2 4))), (A0 1 10, .inl (T 0, 8, .inl ((Z0 1).2 5))), (A0 2 0, .inr (2, [.ref (A0 2 1), .ref (A0 2 2), .ref (A0 2 3), .ref (A0 2 4), .int ((Z0 2).1 0), .int ((Z0 2).1 1), .int ((Z0 2).1 2), .int ((Z0 2).1 3), .int ((Z0 2).1 4)])), (A0 2 1, .inr (3, [.ref (A0 2 5), .ref (A0 2 6), .ref (A0 2 7), .int ((Z0 2).1 5)])), (A0 2 2, .inr (3, [.ref (A0 2 8), .ref (A0 2 9), .ref (A0 2 10), .int ((Z0 2).1 6)])), (A0 2 3, .inl (T 0, 33, .inl ((Z0 2).2 6))), (A0 2 4, .inl (T 0, 33, .inl ((Z0 2).2 7))), (A0 2 5, .inl (T 0, 40, .inl ((Z0 2).2 0))), (A0 2 6, .inl (T 0, 40, .inl ((Z0 2).2 1))), (A0 2 7, .inl (T 0, 40, .inl ((Z0 2).2 2))), (A0 2 8, .inl (T 0, 8, .inl ((Z0 2).2 3))), (A0 2 9, .inl (T 0, 8, .inl ((Z0 2).2 4))), (A0 2 10, .inl (T 0, 8, .inl ((Z0 2).2 5))), (A0 4 0, .inr (2, [.ref (A0 4 1), .ref (A0 4 2), .ref (A0 4 3), .ref (A0 4 4), .int ((Z0 4).1 0), .int ((Z0 4).1 1), .int ((Z0 4).1 2), .int ((Z0 4).1 3), .int ((Z0 4).1 4)])), (A0 4 1, .inr (3, [.ref (A0 4 5), .ref (A0 4 6), .ref (A0 4 7), .int ((Z0 4).1 5)])), (A0 4 2, .inr (3, [.ref (A0 4 8), .ref (A0 4 9), .ref (A0 4 10), .int ((Z0 4).1 6)])), (A0 4 3, .inl (T 0, 33, .inl ((Z0 4).2 6))), (A0 4 4, .inl (T 0, 33, .inl ((Z0 4).2 7))), (A0 4 5, .inl (T 0, 40, .inl ((Z0 4).2 0))), (A0 4 6, .inl (T 0, 40, .inl ((Z0 4).2 1))), (A0 4 7, .inl (T 0, 40, .inl ((Z0 4).2 2))), (A0 4 8, .inl (T 0, 8, .inl ((Z0 4).2 3))), (A0 4 9, .inl (T 0, 8, .inl ((Z0 4).2 4))), (A0 4 10, .inl (T 0, 8, .inl ((Z0 4).2 5))), (A0 5 0, .inr (1, [.ref (A0 5 1), .ref (A0 5 2), .ref (A0 5 3), .ref (A0 5 4), .int ((Z0 5).1 0), .int ((Z0 5).1 1), .int ((Z0 5).1 2), .int ((Z0 5).1 3), .int ((Z0 5).1 4)])), (A0 5 1, .inl (T 0, 100, .inl ((Z0 5).2 0))), (A0 5 2, .inl (T 0, 20, .inl ((Z0 5).2 1))), (A0 5 3, .inl (T 0, 20, .inl ((Z0 5).2 2))), (A0 5 4, .inl (T 0, 20, .inl ((Z0 5).2 3)))]) (ws' := scW T h0 A0 (zU Z0 0 t5)) (va_runV (As := [.ref (A0 3 0)]) (rest := []) ⟨hx, hb, hml, hown, hts⟩ (c_X2_copyFrom l D T (A0 0) (Z0 0) (A0 3) (Z0 3) _ t5 et5) (cwV 1 hts gX0_restore_X2_copyFrom rfl rfl rfl hdV_X2_copyFrom ⟨Nat.le_of_ble_eq_true rfl, Nat.le_of_ble_eq_true rfl⟩) ⟨PM_blind, va_recv hK.1 hP (ci := 2) (q0 := 3) rfl rfl, PM_at (hP.sub (ws' := stW T (A0 0) (Z0 0) ++ stW T (A0 3) (Z0 3)) [3, 4, 5, 6, 7, 8, 9, 10, 11, 12, 13, 36, 37, 38, 39, 40, 41, 42, 43, 44, 45, 46] rfl) (hD.sub (ws' := stW T (A0 0) (Z0 0) ++ stW T (A0 3) (Z0 3)) [3, 4, 5, 6, 7, 8, 9, 10, 11, 12, 13, 36, 37, 38, 39, 40, 41, 42, 43, 44, 45, 46] (by decide) rfl) hK⟩ rfl rfl hl.1 rfl (lv_room (Nat.le_of_ble_eq_true rfl)) dX0_restore_17 ⟨Nat.zero_le _, Nat.zero_le _⟩) hS hA hP hD [3, 4, 5, 6, 7, 8, 9, 10, 11, 12, 13, 36, 37, 38, 39, 40, 41, 42, 43, 44, 45, 46] [0, 1, 2, 14, 15, 16, 17, 18, 19, 20, 21, 22, 23, 24, 25, 26, 27, 28, 29, 30, 31, 32, 33, 34, 35, 47, 48, 49, 50, 51, 52, 53, 54, 55, 56, 57, 58, 59, 60, 61, 62] rfl rfl (by decide) (by decide) [0, 1, 2, 41, 42, 43, 44, 45, 46, 47, 48, 49, 50, 51, 3, 4, 5, 6, 7, 8, 9, 10, 11, 12, 13, 14, 15, 16, 17, 18, 19, 20, 21, 22, 23, 24, 52, 53, 54, 55, 56, 57, 58, 59, 60, 61, 62, 25, 26, 27, 28, 29, 30, 31, 32, 33, 34, 35, 36, 37, 38, 39, 40] (by decide) rfl (fun H locs hP hD hS => ?_)
    refine lv_aload_n hx hb dX0_restore_20 rfl (lv_at hl 1 rfl) ?_
    refine lv_dup hx hb dX0_restore_21 rfl ?_
    refine va_get (D := D) (ci := 0) (v := .int (((zU Z0 0 t5) 6).1 0)) (C := RX0) (T := TX0) (N := 2) hx hb hts inX0_restore_0 hown hK.1 hP 1 rfl rfl 1 (by decide) (hts (.fieldLink RX0 18 "LyingScale$History" "count" "I") (List.mem_of_getElem? (i := 1) rfl)) (fun _ h9 => h9) rfl dX0_restore_22 ?_
    refine lv_iconst (v := 1) hx hb dX0_restore_25 (by decide) ?_
    refine lv_isub hx hb dX0_restore_26 ?_
    refine va_put (D := D) (ci := 0) (v := .int ((((zU Z0 0 t5) 6).1 0) - 1)) (ty := .int) (C := RX0) (T := TX0) (N := 2) hx hb hts inX0_restore_0 tyX0 tyX0_ok nmX0 hown hK.1 hP hD hS 1 rfl rfl 1 (by decide) (hts (.fieldLink RX0 18 "LyingScale$History" "count" "I") (List.mem_of_getElem? (i := 1) rfl)) (fun _ h9 => h9) rfl (by decide +kernel) rfl rfl (Nat.le_of_ble_eq_true rfl) dX0_restore_27 (fun H locs hP hD hS => ?_)
    replace hP : va_P D vwCl (scW T h0 A0 (zU (zU Z0 0 t5) 6 (sI ((zU Z0 0 t5) 6) 0 ((((zU Z0 0 t5) 6).1 0) - 1)))) H := hP
    replace hD : va_D A (scW T h0 A0 (zU (zU Z0 0 t5) 6 (sI ((zU Z0 0 t5) 6) 0 ((((zU Z0 0 t5) 6).1 0) - 1)))) := hD
    replace h := bd h
    obtain ⟨y6, ey6, h⟩ := h
    rw [Option.some.inj ey6] at hP hD
    obtain rfl := Option.some.inj h
    exact W.vret hx hb hr (fun t ht hW => ⟨⟨A0, rfl, trivial, by rw [ht]; exact hP, hD⟩, hS.F ht⟩) hS.2.2 dX0_restore_30 hlocks
  replace h := im k3_ h
  by_cases k4_ : (Z0 6).1 0 = 4
  · replace h := ip k4_ h
    refine lv_aload_n hx hb dX0_restore_0 rfl (lv_at hl 0 rfl) ?_
    refine lv_aload_n hx hb dX0_restore_1 rfl (lv_at hl 0 rfl) ?_
    refine va_get (D := D) (ci := 0) (v := .int ((Z0 6).1 0)) (C := RX0) (T := TX0) (N := 2) hx hb hts inX0_restore_0 hown hK.1 hP 1 rfl rfl 1 (by decide) (hts (.fieldLink RX0 18 "LyingScale$History" "count" "I") (List.mem_of_getElem? (i := 1) rfl)) (fun _ h9 => h9) rfl dX0_restore_2 ?_
    refine eqi (k4_) ?_
    refine lv_iconst (v := 1) hx hb dX0_restore_5 (by decide) ?_
    refine lv_isub hx hb dX0_restore_6 ?_
    refine eqi (show (4 : Int32) - 1 = 3 from by decide) ?_
    refine callRa (v := .ref (A0 4 0)) (va_runV (As := [.int 3]) (rest := []) ⟨hx, hb, hml, hown, hts⟩ (c_X0_stateAt l D T h0 A0 Z0 3 3 (by decide +kernel)) (cwV 1 hts gX0_restore_X0_stateAt rfl rfl rfl hdV_X0_stateAt ⟨Nat.le_of_ble_eq_true rfl, Nat.le_of_ble_eq_true rfl⟩) ⟨PB_blind, va_recv hK.1 hP (ci := 0) (q0 := 1) rfl rfl, PB_at hP hK⟩ rfl rfl hl.1 rfl (lv_room (Nat.le_of_ble_eq_true rfl)) dX0_restore_7 ⟨Nat.zero_le _, Nat.zero_le _⟩) ?_
    refine lv_astore_n (lv' := [(2, .ref (A0 4 0)), (0, .ref (A0 6 1)), (1, .ref (A0 0 0))]) hx hb dX0_restore_10 rfl hl (by decide) rfl (fun ls hl => ?_)
    refine lv_aload_n hx hb dX0_restore_11 rfl (lv_at hl 0 rfl) ?_
    refine lv_ifnull hx hb dX0_restore_12 ?_
    refine lv_aload_n hx hb dX0_restore_15 rfl (lv_at hl 2 rfl) ?_
    refine lv_aload_n hx hb dX0_restore_16 rfl (lv_at hl 0 rfl) ?_
    replace h := bd h
    obtain ⟨t7, et7, h⟩ := h
    refine callMv (wr := [(h0, .inr (4, [.ref (A0 0 0), .ref (A0 6 1), .ref (A0 5 0)])), (A0 6 1, .inr (0, [.ref (A0 6 2), .int ((Z0 6).1 0)])), (A0 6 2, .inl (T 3, 4, .inr (.inr (.inr (.inr (hsQ A0)))))), (A0 1 0, .inr (2, [.ref (A0 1 1), .ref (A0 1 2), .ref (A0 1 3), .ref (A0 1 4), .int ((Z0 1).1 0), .int ((Z0 1).1 1), .int ((Z0 1).1 2), .int ((Z0 1).1 3), .int ((Z0 1).1 4)])), (A0 1 1, .inr (3, [.ref (A0 1 5), .ref (A0 1 6), .ref (A0 1 7), .int ((Z0 1).1 5)])), (A0 1 2, .inr (3, [.ref (A0 1 8), .ref (A0 1 9), .ref (A0 1 10), .int ((Z0 1).1 6)])), (A0 1 3, .inl (T 0, 33, .inl ((Z0 1).2 6))), (A0 1 4, .inl (T 0, 33, .inl ((Z0 1).2 7))), (A0 1 5, .inl (T 0, 40, .inl ((Z0 1).2 0))), (A0 1 6, .inl (T 0, 40, .inl ((Z0 1).2 1))), (A0 1 7, .inl (T 0, 40, .inl ((Z0 1).2 2))), (A0 1 8, .inl (T 0, 8, .inl ((Z0 1).2 3))), (A0 1 9, .inl (T 0, 8, .inl ((Z0 1).2 4))), (A0 1 10, .inl (T 0, 8, .inl ((Z0 1).2 5))), (A0 2 0, .inr (2, [.ref (A0 2 1), .ref (A0 2 2), .ref (A0 2 3), .ref (A0 2 4), .int ((Z0 2).1 0), .int ((Z0 2).1 1), .int ((Z0 2).1 2), .int ((Z0 2).1 3), .int ((Z0 2).1 4)])), (A0 2 1, .inr (3, [.ref (A0 2 5), .ref (A0 2 6), .ref (A0 2 7), .int ((Z0 2).1 5)])), (A0 2 2, .inr (3, [.ref (A0 2 8), .ref (A0 2 9), .ref (A0 2 10), .int ((Z0 2).1 6)])), (A0 2 3, .inl (T 0, 33, .inl ((Z0 2).2 6))), (A0 2 4, .inl (T 0, 33, .inl ((Z0 2).2 7))), (A0 2 5, .inl (T 0, 40, .inl ((Z0 2).2 0))), (A0 2 6, .inl (T 0, 40, .inl ((Z0 2).2 1))), (A0 2 7, .inl (T 0, 40, .inl ((Z0 2).2 2))), (A0 2 8, .inl (T 0, 8, .inl ((Z0 2).2 3))), (A0 2 9, .inl (T 0, 8, .inl ((Z0 2).2 4))), (A0 2 10, .inl (T 0, 8, .inl ((Z0 2).2 5))), (A0 3 0, .inr (2, [.ref (A0 3 1), .ref (A0 3 2), .ref (A0 3 3), .ref (A0 3 4), .int ((Z0 3).1 0), .int ((Z0 3).1 1), .int ((Z0 3).1 2), .int ((Z0 3).1 3), .int ((Z0 3).1 4)])), (A0 3 1, .inr (3, [.ref (A0 3 5), .ref (A0 3 6), .ref (A0 3 7), .int ((Z0 3).1 5)])), (A0 3 2, .inr (3, [.ref (A0 3 8), .ref (A0 3 9), .ref (A0 3 10), .int ((Z0 3).1 6)])), (A0 3 3, .inl (T 0, 33, .inl ((Z0 3).2 6))), (A0 3 4, .inl (T 0, 33, .inl ((Z0 3).2 7))), (A0 3 5, .inl (T 0, 40, .inl ((Z0 3).2 0))), (A0 3 6, .inl (T 0, 40, .inl ((Z0 3).2 1))), (A0 3 7, .inl (T 0, 40, .inl ((Z0 3).2 2))), (A0 3 8, .inl (T 0, 8, .inl ((Z0 3).2 3))), (A0 3 9, .inl (T 0, 8, .inl ((Z0 3).2 4))), (A0 3 10, .inl (T 0, 8, .inl ((Z0 3).2 5))), (A0 5 0, .inr (1, [.ref (A0 5 1), .ref (A0 5 2), .ref (A0 5 3), .ref (A0 5 4), .int ((Z0 5).1 0), .int ((Z0 5).1 1), .int ((Z0 5).1 2), .int ((Z0 5).1 3), .int ((Z0 5).1 4)])), (A0 5 1, .inl (T 0, 100, .inl ((Z0 5).2 0))), (A0 5 2, .inl (T 0, 20, .inl ((Z0 5).2 1))), (A0 5 3, .inl (T 0, 20, .inl ((Z0 5).2 2))), (A0 5 4, .inl (T 0, 20, .inl ((Z0 5).2 3)))]) (ws' := scW T h0 A0 (zU Z0 0 t7)) (va_runV (As := [.ref (A0 4 0)]) (rest := []) ⟨hx, hb, hml, hown, hts⟩ (c_X2_copyFrom l D T (A0 0) (Z0 0) (A0 4) (Z0 4) _ t7 et7) (cwV 1 hts gX0_restore_X2_copyFrom rfl rfl rfl hdV_X2_copyFrom ⟨Nat.le_of_ble_eq_true rfl, Nat.le_of_ble_eq_true rfl⟩) ⟨PM_blind, va_recv hK.1 hP (ci := 2) (q0 := 3) rfl rfl, PM_at (hP.sub (ws' := stW T (A0 0) (Z0 0) ++ stW T (A0 4) (Z0 4)) [3, 4, 5, 6, 7, 8, 9, 10, 11, 12, 13, 47, 48, 49, 50, 51, 52, 53, 54, 55, 56, 57] rfl) (hD.sub (ws' := stW T (A0 0) (Z0 0) ++ stW T (A0 4) (Z0 4)) [3, 4, 5, 6, 7, 8, 9, 10, 11, 12, 13, 47, 48, 49, 50, 51, 52, 53, 54, 55, 56, 57] (by decide) rfl) hK⟩ rfl rfl hl.1 rfl (lv_room (Nat.le_of_ble_eq_true rfl)) dX0_restore_17 ⟨Nat.zero_le _, Nat.zero_le _⟩) hS hA hP hD [3, 4, 5, 6, 7, 8, 9, 10, 11, 12, 13, 47, 48, 49, 50, 51, 52, 53, 54, 55, 56, 57] [0, 1, 2, 14, 15, 16, 17, 18, 19, 20, 21, 22, 23, 24, 25, 26, 27, 28, 29, 30, 31, 32, 33, 34, 35, 36, 37, 38, 39, 40, 41, 42, 43, 44, 45, 46, 58, 59, 60, 61, 62] rfl rfl (by decide) (by decide) [0, 1, 2, 41, 42, 43, 44, 45, 46, 47, 48, 49, 50, 51, 3, 4, 5, 6, 7, 8, 9, 10, 11, 12, 13, 14, 15, 16, 17, 18, 19, 20, 21, 22, 23, 24, 25, 26, 27, 28, 29, 30, 31, 32, 33, 34, 35, 52, 53, 54, 55, 56, 57, 58, 59, 60, 61, 62, 36, 37, 38, 39, 40] (by decide) rfl (fun H locs hP hD hS => ?_)
    refine lv_aload_n hx hb dX0_restore_20 rfl (lv_at hl 1 rfl) ?_
    refine lv_dup hx hb dX0_restore_21 rfl ?_
    refine va_get (D := D) (ci := 0) (v := .int (((zU Z0 0 t7) 6).1 0)) (C := RX0) (T := TX0) (N := 2) hx hb hts inX0_restore_0 hown hK.1 hP 1 rfl rfl 1 (by decide) (hts (.fieldLink RX0 18 "LyingScale$History" "count" "I") (List.mem_of_getElem? (i := 1) rfl)) (fun _ h9 => h9) rfl dX0_restore_22 ?_
    refine lv_iconst (v := 1) hx hb dX0_restore_25 (by decide) ?_
    refine lv_isub hx hb dX0_restore_26 ?_
    refine va_put (D := D) (ci := 0) (v := .int ((((zU Z0 0 t7) 6).1 0) - 1)) (ty := .int) (C := RX0) (T := TX0) (N := 2) hx hb hts inX0_restore_0 tyX0 tyX0_ok nmX0 hown hK.1 hP hD hS 1 rfl rfl 1 (by decide) (hts (.fieldLink RX0 18 "LyingScale$History" "count" "I") (List.mem_of_getElem? (i := 1) rfl)) (fun _ h9 => h9) rfl (by decide +kernel) rfl rfl (Nat.le_of_ble_eq_true rfl) dX0_restore_27 (fun H locs hP hD hS => ?_)
    replace hP : va_P D vwCl (scW T h0 A0 (zU (zU Z0 0 t7) 6 (sI ((zU Z0 0 t7) 6) 0 ((((zU Z0 0 t7) 6).1 0) - 1)))) H := hP
    replace hD : va_D A (scW T h0 A0 (zU (zU Z0 0 t7) 6 (sI ((zU Z0 0 t7) 6) 0 ((((zU Z0 0 t7) 6).1 0) - 1)))) := hD
    replace h := bd h
    obtain ⟨y8, ey8, h⟩ := h
    rw [Option.some.inj ey8] at hP hD
    obtain rfl := Option.some.inj h
    exact W.vret hx hb hr (fun t ht hW => ⟨⟨A0, rfl, trivial, by rw [ht]; exact hP, hD⟩, hS.F ht⟩) hS.2.2 dX0_restore_30 hlocks
  replace h := im k4_ h
  cases h
