def F_X3_write (n0 : Nat) (x0 : St) (v1 : Int32) (v2 : Int32) (v3 : Int32) : Option (St) :=
  if (nI n0) ≤ (x0.1 0) then (some x0) else ((F_X4_put n0 (x0.2 0) (x0.1 0) v1).bind fun t2 => (F_X4_put n0 ((sA x0 0 t2).2 1) ((sA x0 0 t2).1 0) v2).bind fun t3 => (F_X4_put n0 ((sA (sA x0 0 t2) 1 t3).2 2) ((sA (sA x0 0 t2) 1 t3).1 0) v3).bind fun t4 => some (sI (sA (sA (sA x0 0 t2) 1 t3) 2 t4) 0 (((sA (sA (sA x0 0 t2) 1 t3) 2 t4).1 0) + 1)))
def F_X3_dropLast (n0 : Nat) (x0 : St) : Option (St) :=
  if (x0.1 0) ≤ 0 then (some x0) else (some (sI x0 0 ((x0.1 0) - 1)))
def F_X3_part (n0 : Nat) (x0 : St) (v1 : Int32) (v2 : Int32) : Option (Int32) :=
  if v2 = 0 then ((F_X4_at n0 (x0.2 0) v1).bind fun t2 => some t2) else if v2 = 1 then ((F_X4_at n0 (x0.2 1) v1).bind fun t4 => some t4) else ((F_X4_at n0 (x0.2 2) v1).bind fun t5 => some t5)
def B_X3_codeWord_4 (n0 : Nat) (x0 : St) (v1 : Int32) (k4 : Int32 → Int32 → Option (Int32)) (i2_4 : Int32) (i3_4 : Int32) : Option (Int32) :=
  if (x0.1 0) ≤ i3_4 then (some i2_4) else ((F_X4_at n0 (x0.2 0) i3_4).bind fun t2 => (F_X4_at n0 (x0.2 1) i3_4).bind fun t3 => (F_X4_trueAnswer v1 t2 t3).bind fun t4 => k4 (i2_4 ||| (t4 <<< ((2 * i3_4) &&& 31))) (i3_4 + 1))
def F_X3_codeWord (n0 : Nat) (x0 : St) (v1 : Int32) : Option (Int32) :=
  fx2 (B_X3_codeWord_4 n0 x0 v1) 1000 0 0
def B_X3_answerRows_4 (x0 : St) (k4 : Int32 → Int32 → Option (Int32)) (i1_4 : Int32) (i2_4 : Int32) : Option (Int32) :=
  if (x0.1 0) ≤ i2_4 then (some i1_4) else (k4 (i1_4 * 3) (i2_4 + 1))
def F_X3_answerRows (n0 : Nat) (x0 : St) : Option (Int32) :=
  fx2 (B_X3_answerRows_4 x0) 1000 1 0
def F_X3_copyFrom (n0 : Nat) (x0 : St) (n1 : Nat) (x1 : St) : Option (St) :=
  (F_X4_copyRow n1 (x1.2 0) n0 (x0.2 0)).bind fun t1 => (F_X4_copyRow n1 (x1.2 1) n0 ((sA x0 0 t1).2 1)).bind fun t2 => (F_X4_copyRow n1 (x1.2 2) n0 ((sA (sA x0 0 t1) 1 t2).2 2)).bind fun t3 => some (sI (sA (sA (sA x0 0 t1) 1 t2) 2 t3) 0 (x1.1 0))
theorem inX3_write_3 : ∀ w ∈ u_ws RX3 TX3 4, w ∈ wsX3_write := by decide +kernel
theorem hdS_X3_write : yX3_write.cls ≠ "java/lang/invoke/MethodHandle" ∧ yX3_write.cls ≠ "java/lang/invoke/VarHandle" ∧ (parseMethodDescriptor yX3_write.desc).map (fun d => d.parameters.length) = some 3 := by decide +kernel
theorem hdV_X3_write : yX3_write.cls = RX3 ∧ yX3_write.cls ≠ "java/lang/invoke/MethodHandle" ∧ yX3_write.cls ≠ "java/lang/invoke/VarHandle" ∧ (parseMethodDescriptor yX3_write.desc).map (fun d => d.parameters.length) = some 3 := by decide +kernel
theorem inX3_dropLast_3 : ∀ w ∈ u_ws RX3 TX3 4, w ∈ wsX3_dropLast := by decide +kernel
theorem hdS_X3_dropLast : yX3_dropLast.cls ≠ "java/lang/invoke/MethodHandle" ∧ yX3_dropLast.cls ≠ "java/lang/invoke/VarHandle" ∧ (parseMethodDescriptor yX3_dropLast.desc).map (fun d => d.parameters.length) = some 0 := by decide +kernel
theorem hdV_X3_dropLast : yX3_dropLast.cls = RX3 ∧ yX3_dropLast.cls ≠ "java/lang/invoke/MethodHandle" ∧ yX3_dropLast.cls ≠ "java/lang/invoke/VarHandle" ∧ (parseMethodDescriptor yX3_dropLast.desc).map (fun d => d.parameters.length) = some 0 := by decide +kernel
theorem inX3_part_3 : ∀ w ∈ u_ws RX3 TX3 4, w ∈ wsX3_part := by decide +kernel
theorem hdS_X3_part : yX3_part.cls ≠ "java/lang/invoke/MethodHandle" ∧ yX3_part.cls ≠ "java/lang/invoke/VarHandle" ∧ (parseMethodDescriptor yX3_part.desc).map (fun d => d.parameters.length) = some 2 := by decide +kernel
theorem hdV_X3_part : yX3_part.cls = RX3 ∧ yX3_part.cls ≠ "java/lang/invoke/MethodHandle" ∧ yX3_part.cls ≠ "java/lang/invoke/VarHandle" ∧ (parseMethodDescriptor yX3_part.desc).map (fun d => d.parameters.length) = some 2 := by decide +kernel
theorem inX3_codeWord_3 : ∀ w ∈ u_ws RX3 TX3 4, w ∈ wsX3_codeWord := by decide +kernel
theorem hdS_X3_codeWord : yX3_codeWord.cls ≠ "java/lang/invoke/MethodHandle" ∧ yX3_codeWord.cls ≠ "java/lang/invoke/VarHandle" ∧ (parseMethodDescriptor yX3_codeWord.desc).map (fun d => d.parameters.length) = some 1 := by decide +kernel
theorem hdV_X3_codeWord : yX3_codeWord.cls = RX3 ∧ yX3_codeWord.cls ≠ "java/lang/invoke/MethodHandle" ∧ yX3_codeWord.cls ≠ "java/lang/invoke/VarHandle" ∧ (parseMethodDescriptor yX3_codeWord.desc).map (fun d => d.parameters.length) = some 1 := by decide +kernel
theorem inX3_answerRows_3 : ∀ w ∈ u_ws RX3 TX3 4, w ∈ wsX3_answerRows := by decide +kernel
theorem hdS_X3_answerRows : yX3_answerRows.cls ≠ "java/lang/invoke/MethodHandle" ∧ yX3_answerRows.cls ≠ "java/lang/invoke/VarHandle" ∧ (parseMethodDescriptor yX3_answerRows.desc).map (fun d => d.parameters.length) = some 0 := by decide +kernel
theorem hdV_X3_answerRows : yX3_answerRows.cls = RX3 ∧ yX3_answerRows.cls ≠ "java/lang/invoke/MethodHandle" ∧ yX3_answerRows.cls ≠ "java/lang/invoke/VarHandle" ∧ (parseMethodDescriptor yX3_answerRows.desc).map (fun d => d.parameters.length) = some 0 := by decide +kernel
theorem inX3_copyFrom_3 : ∀ w ∈ u_ws RX3 TX3 4, w ∈ wsX3_copyFrom := by decide +kernel
theorem hdS_X3_copyFrom : yX3_copyFrom.cls ≠ "java/lang/invoke/MethodHandle" ∧ yX3_copyFrom.cls ≠ "java/lang/invoke/VarHandle" ∧ (parseMethodDescriptor yX3_copyFrom.desc).map (fun d => d.parameters.length) = some 1 := by decide +kernel
theorem hdV_X3_copyFrom : yX3_copyFrom.cls = RX3 ∧ yX3_copyFrom.cls ≠ "java/lang/invoke/MethodHandle" ∧ yX3_copyFrom.cls ≠ "java/lang/invoke/VarHandle" ∧ (parseMethodDescriptor yX3_copyFrom.desc).map (fun d => d.parameters.length) = some 1 := by decide +kernel
set_option maxHeartbeats 4000000 in
set_option maxRecDepth 100000 in
theorem c_X3_write (l : Launch) (D : va_G) (T : Nat → ClassId) (a0 : Nat → Nat) (n0 : Nat) (x0 : St) (v1 : Int32) (v2 : Int32) (v3 : Int32) (sz : Nat) (hn0 : n0 < 2147483648) (r : St) (h : F_X3_write n0 x0 v1 v2 v3 = some r) : Met l yX3_write wsX3_write ({ frames := 1, cells := 0, slots := 0, locals := 22 } : Room) (va_Pc [.ref (a0 0), .int v1, .int v2, .int v3] (PM D T (wgW T n0 a0 (x0)) sz)) (QMv D (wgW T n0 a0 (r)) (va_A (wgW T n0 a0 (x0)) sz)) 0 0 (va_A (wgW T n0 a0 (x0)) sz) := by
  refine met_of (cc := cX3_write) (maxL := 4) (ret := none) (lv := [(0, .ref (a0 0)), (1, .int v1), (2, .int v2), (3, .int v3)]) (by decide) rfl (Nat.le_of_ble_eq_true rfl) rfl ?_
  intro p e s m args below meth c ls C0 hl hB
  obtain ⟨hx, hb, hr, hml, hown, hts, hlocks, hname⟩ := C0
  obtain ⟨hsz, hP, hK, hD0⟩ := hB
  subst hsz
  have hD := hD0.self (sz := s.heap.size)
  generalize hAe : va_A (wgW T n0 a0 (x0)) s.heap.size = A at hD ⊢
  have hA : ∀ q : Nat, s.heap.size ≤ q → A q := fun q h => by rw [← hAe]; exact Or.inr h
  obtain ⟨H, hH⟩ : ∃ H, H = s.heap := ⟨_, rfl⟩
  obtain ⟨locs, hlo⟩ : ∃ L : List Loc, L = [] := ⟨_, rfl⟩
  have hS : va_S A s.heap s.heap [] := va_S.rf
  rw [← hH] at hP ⊢
  rw [← hlo]
  replace hS : va_S A s.heap H locs := by rw [hH, hlo]; exact hS
  clear hH hlo
  unfold F_X3_write at h
  refine lv_aload_n hx hb dX3_write_0 rfl (lv_at hl 0 rfl) ?_
  refine va_get (D := D) (ci := 3) (v := .int (x0.1 0)) (C := RX3) (T := TX3) (N := 4) hx hb hts inX3_write_3 hown hK.1 hP 0 rfl rfl 3 (by decide) (hts (.fieldLink RX3 31 "LyingScale$Weighings" "count" "I") (List.mem_of_getElem? (i := 1) rfl)) (fun _ h9 => h9) rfl dX3_write_1 ?_
  refine lv_aload_n hx hb dX3_write_4 rfl (lv_at hl 0 rfl) ?_
  refine va_get (D := D) (ci := 3) (v := .ref (a0 1)) (C := RX3) (T := TX3) (N := 4) hx hb hts inX3_write_3 hown hK.1 hP 0 rfl rfl 0 (by decide) (hts (.fieldLink RX3 15 "LyingScale$Weighings" "lefts" "[I") (List.mem_of_getElem? (i := 2) rfl)) (fun _ h9 => h9) rfl dX3_write_5 ?_
  refine va_alen hx hb hK.1 hP 1 0 rfl rfl (v := nI n0) rfl dX3_write_8 ?_
  refine lv_icmp_ge (tgt := 58) hx hb dX3_write_9 (by decide) (fun c1 => ?_) (fun c1 => ?_)
  · replace h := ip c1 h
    obtain rfl := Option.some.inj h
    exact W.vret hx hb hr (fun t ht hW => ⟨⟨(), rfl, trivial, by rw [ht]; exact hP, hD⟩, hS.F ht⟩) hS.2.2 dX3_write_58 hlocks
  replace h := im c1 h
  refine lv_aload_n hx hb dX3_write_12 rfl (lv_at hl 0 rfl) ?_
  refine va_get (D := D) (ci := 3) (v := .ref (a0 1)) (C := RX3) (T := TX3) (N := 4) hx hb hts inX3_write_3 hown hK.1 hP 0 rfl rfl 0 (by decide) (hts (.fieldLink RX3 15 "LyingScale$Weighings" "lefts" "[I") (List.mem_of_getElem? (i := 2) rfl)) (fun _ h9 => h9) rfl dX3_write_13 ?_
  refine lv_aload_n hx hb dX3_write_16 rfl (lv_at hl 0 rfl) ?_
  refine va_get (D := D) (ci := 3) (v := .int (x0.1 0)) (C := RX3) (T := TX3) (N := 4) hx hb hts inX3_write_3 hown hK.1 hP 0 rfl rfl 3 (by decide) (hts (.fieldLink RX3 31 "LyingScale$Weighings" "count" "I") (List.mem_of_getElem? (i := 1) rfl)) (fun _ h9 => h9) rfl dX3_write_17 ?_
  refine lv_iload_n hx hb dX3_write_20 rfl (lv_at hl 1 rfl) ?_
  replace h := bd h
  obtain ⟨t2, et2, h⟩ := h
  refine callMv (wr := [(a0 0, .inr (3, [.ref (a0 1), .ref (a0 2), .ref (a0 3), .int (x0.1 0)])), (a0 2, .inl (T 0, n0, .inl (x0.2 1))), (a0 3, .inl (T 0, n0, .inl (x0.2 2)))]) (ws' := wgW T n0 a0 (sA x0 0 t2)) (va_runSN (As := [.ref (a0 1), .int (x0.1 0), .int v1]) (rest := []) ⟨hx, hb, hml, hown, hts⟩ (c_X4_put l D T (a0 1) n0 (x0.2 0) (x0.1 0) v1 H.size hn0 t2 et2) ⟨va_cnB 3 hts gX3_write_X4_put_n35 rfl rfl rfl (hK.2 (.methodLinkNest RX3 35 yX4_put "LyingScale") (List.mem_of_getElem? (i := 25) rfl)) (hts (.initialized RX4) (List.mem_of_getElem? (i := 6) rfl)) hdS_X4_put ⟨Nat.le_of_ble_eq_true rfl, Nat.le_of_ble_eq_true rfl⟩, (hts (.static yX4_put) (List.mem_of_getElem? (i := 5) rfl)), trivial⟩ ⟨PM_blind, PM_at (hP.sub (ws' := ([(a0 1, .inl (T 0, n0, .inl (x0.2 0)))] : va_W)) [1] rfl) (hD.sub (ws' := ([(a0 1, .inl (T 0, n0, .inl (x0.2 0)))] : va_W)) [1] (by decide) rfl) hK⟩ rfl rfl hl.1 rfl (lv_room (Nat.le_of_ble_eq_true rfl)) dX3_write_21 ⟨Nat.zero_le _, Nat.zero_le _⟩) hS hA hP hD [1] [0, 2, 3] rfl rfl (by decide) (by decide) [0, 3, 1, 2] (by decide) rfl (fun H locs hP hD hS => ?_)
  refine lv_aload_n hx hb dX3_write_24 rfl (lv_at hl 0 rfl) ?_
  refine va_get (D := D) (ci := 3) (v := .ref (a0 2)) (C := RX3) (T := TX3) (N := 4) hx hb hts inX3_write_3 hown hK.1 hP 0 rfl rfl 1 (by decide) (hts (.fieldLink RX3 21 "LyingScale$Weighings" "rights" "[I") (List.mem_of_getElem? (i := 3) rfl)) (fun _ h9 => h9) rfl dX3_write_25 ?_
  refine lv_aload_n hx hb dX3_write_28 rfl (lv_at hl 0 rfl) ?_
  refine va_get (D := D) (ci := 3) (v := .int ((sA x0 0 t2).1 0)) (C := RX3) (T := TX3) (N := 4) hx hb hts inX3_write_3 hown hK.1 hP 0 rfl rfl 3 (by decide) (hts (.fieldLink RX3 31 "LyingScale$Weighings" "count" "I") (List.mem_of_getElem? (i := 1) rfl)) (fun _ h9 => h9) rfl dX3_write_29 ?_
  refine lv_iload_n hx hb dX3_write_32 rfl (lv_at hl 2 rfl) ?_
  replace h := bd h
  obtain ⟨t3, et3, h⟩ := h
  refine callMv (wr := [(a0 0, .inr (3, [.ref (a0 1), .ref (a0 2), .ref (a0 3), .int ((sA x0 0 t2).1 0)])), (a0 1, .inl (T 0, n0, .inl ((sA x0 0 t2).2 0))), (a0 3, .inl (T 0, n0, .inl ((sA x0 0 t2).2 2)))]) (ws' := wgW T n0 a0 (sA (sA x0 0 t2) 1 t3)) (va_runSN (As := [.ref (a0 2), .int ((sA x0 0 t2).1 0), .int v2]) (rest := []) ⟨hx, hb, hml, hown, hts⟩ (c_X4_put l D T (a0 2) n0 ((sA x0 0 t2).2 1) ((sA x0 0 t2).1 0) v2 H.size hn0 t3 et3) ⟨va_cnB 3 hts gX3_write_X4_put_n35 rfl rfl rfl (hK.2 (.methodLinkNest RX3 35 yX4_put "LyingScale") (List.mem_of_getElem? (i := 25) rfl)) (hts (.initialized RX4) (List.mem_of_getElem? (i := 6) rfl)) hdS_X4_put ⟨Nat.le_of_ble_eq_true rfl, Nat.le_of_ble_eq_true rfl⟩, (hts (.static yX4_put) (List.mem_of_getElem? (i := 5) rfl)), trivial⟩ ⟨PM_blind, PM_at (hP.sub (ws' := ([(a0 2, .inl (T 0, n0, .inl ((sA x0 0 t2).2 1)))] : va_W)) [2] rfl) (hD.sub (ws' := ([(a0 2, .inl (T 0, n0, .inl ((sA x0 0 t2).2 1)))] : va_W)) [2] (by decide) rfl) hK⟩ rfl rfl hl.1 rfl (lv_room (Nat.le_of_ble_eq_true rfl)) dX3_write_33 ⟨Nat.zero_le _, Nat.zero_le _⟩) hS hA hP hD [2] [0, 1, 3] rfl rfl (by decide) (by decide) [0, 1, 3, 2] (by decide) rfl (fun H locs hP hD hS => ?_)
  refine lv_aload_n hx hb dX3_write_36 rfl (lv_at hl 0 rfl) ?_
  refine va_get (D := D) (ci := 3) (v := .ref (a0 3)) (C := RX3) (T := TX3) (N := 4) hx hb hts inX3_write_3 hown hK.1 hP 0 rfl rfl 2 (by decide) (hts (.fieldLink RX3 24 "LyingScale$Weighings" "answers" "[I") (List.mem_of_getElem? (i := 4) rfl)) (fun _ h9 => h9) rfl dX3_write_37 ?_
  refine lv_aload_n hx hb dX3_write_40 rfl (lv_at hl 0 rfl) ?_
  refine va_get (D := D) (ci := 3) (v := .int ((sA (sA x0 0 t2) 1 t3).1 0)) (C := RX3) (T := TX3) (N := 4) hx hb hts inX3_write_3 hown hK.1 hP 0 rfl rfl 3 (by decide) (hts (.fieldLink RX3 31 "LyingScale$Weighings" "count" "I") (List.mem_of_getElem? (i := 1) rfl)) (fun _ h9 => h9) rfl dX3_write_41 ?_
  refine lv_iload_n hx hb dX3_write_44 rfl (lv_at hl 3 rfl) ?_
  replace h := bd h
  obtain ⟨t4, et4, h⟩ := h
  refine callMv (wr := [(a0 0, .inr (3, [.ref (a0 1), .ref (a0 2), .ref (a0 3), .int ((sA (sA x0 0 t2) 1 t3).1 0)])), (a0 1, .inl (T 0, n0, .inl ((sA (sA x0 0 t2) 1 t3).2 0))), (a0 2, .inl (T 0, n0, .inl ((sA (sA x0 0 t2) 1 t3).2 1)))]) (ws' := wgW T n0 a0 (sA (sA (sA x0 0 t2) 1 t3) 2 t4)) (va_runSN (As := [.ref (a0 3), .int ((sA (sA x0 0 t2) 1 t3).1 0), .int v3]) (rest := []) ⟨hx, hb, hml, hown, hts⟩ (c_X4_put l D T (a0 3) n0 ((sA (sA x0 0 t2) 1 t3).2 2) ((sA (sA x0 0 t2) 1 t3).1 0) v3 H.size hn0 t4 et4) ⟨va_cnB 3 hts gX3_write_X4_put_n35 rfl rfl rfl (hK.2 (.methodLinkNest RX3 35 yX4_put "LyingScale") (List.mem_of_getElem? (i := 25) rfl)) (hts (.initialized RX4) (List.mem_of_getElem? (i := 6) rfl)) hdS_X4_put ⟨Nat.le_of_ble_eq_true rfl, Nat.le_of_ble_eq_true rfl⟩, (hts (.static yX4_put) (List.mem_of_getElem? (i := 5) rfl)), trivial⟩ ⟨PM_blind, PM_at (hP.sub (ws' := ([(a0 3, .inl (T 0, n0, .inl ((sA (sA x0 0 t2) 1 t3).2 2)))] : va_W)) [3] rfl) (hD.sub (ws' := ([(a0 3, .inl (T 0, n0, .inl ((sA (sA x0 0 t2) 1 t3).2 2)))] : va_W)) [3] (by decide) rfl) hK⟩ rfl rfl hl.1 rfl (lv_room (Nat.le_of_ble_eq_true rfl)) dX3_write_45 ⟨Nat.zero_le _, Nat.zero_le _⟩) hS hA hP hD [3] [0, 1, 2] rfl rfl (by decide) (by decide) [0, 1, 2, 3] (by decide) rfl (fun H locs hP hD hS => ?_)
  refine lv_aload_n hx hb dX3_write_48 rfl (lv_at hl 0 rfl) ?_
  refine lv_dup hx hb dX3_write_49 rfl ?_
  refine va_get (D := D) (ci := 3) (v := .int ((sA (sA (sA x0 0 t2) 1 t3) 2 t4).1 0)) (C := RX3) (T := TX3) (N := 4) hx hb hts inX3_write_3 hown hK.1 hP 0 rfl rfl 3 (by decide) (hts (.fieldLink RX3 31 "LyingScale$Weighings" "count" "I") (List.mem_of_getElem? (i := 1) rfl)) (fun _ h9 => h9) rfl dX3_write_50 ?_
  refine lv_iconst (v := 1) hx hb dX3_write_53 (by decide) ?_
  refine lv_iadd hx hb dX3_write_54 ?_
  refine va_put (D := D) (ci := 3) (v := .int (((sA (sA (sA x0 0 t2) 1 t3) 2 t4).1 0) + 1)) (ty := .int) (C := RX3) (T := TX3) (N := 4) hx hb hts inX3_write_3 tyX3 tyX3_ok nmX3 hown hK.1 hP hD hS 0 rfl rfl 3 (by decide) (hts (.fieldLink RX3 31 "LyingScale$Weighings" "count" "I") (List.mem_of_getElem? (i := 1) rfl)) (fun _ h9 => h9) rfl (by decide +kernel) rfl rfl (Nat.le_of_ble_eq_true rfl) dX3_write_55 (fun H locs hP hD hS => ?_)
  replace hP : va_P D vwCl (wgW T n0 a0 (sI (sA (sA (sA x0 0 t2) 1 t3) 2 t4) 0 (((sA (sA (sA x0 0 t2) 1 t3) 2 t4).1 0) + 1))) H := hP
  replace hD : va_D A (wgW T n0 a0 (sI (sA (sA (sA x0 0 t2) 1 t3) 2 t4) 0 (((sA (sA (sA x0 0 t2) 1 t3) 2 t4).1 0) + 1))) := hD
  obtain rfl := Option.some.inj h
  exact W.vret hx hb hr (fun t ht hW => ⟨⟨(), rfl, trivial, by rw [ht]; exact hP, hD⟩, hS.F ht⟩) hS.2.2 dX3_write_58 hlocks
set_option maxHeartbeats 4000000 in
set_option maxRecDepth 100000 in
theorem c_X3_dropLast (l : Launch) (D : va_G) (T : Nat → ClassId) (a0 : Nat → Nat) (n0 : Nat) (x0 : St) (sz : Nat) (hn0 : n0 < 2147483648) (r : St) (h : F_X3_dropLast n0 x0 = some r) : Met l yX3_dropLast wsX3_dropLast ({ frames := 0, cells := 0, slots := 0, locals := 0 } : Room) (va_Pc [.ref (a0 0)] (PM D T (wgW T n0 a0 (x0)) sz)) (QMv D (wgW T n0 a0 (r)) (va_A (wgW T n0 a0 (x0)) sz)) 0 0 (va_A (wgW T n0 a0 (x0)) sz) := by
  refine met_of (cc := cX3_dropLast) (maxL := 1) (ret := none) (lv := [(0, .ref (a0 0))]) (by decide) rfl (Nat.le_of_ble_eq_true rfl) rfl ?_
  intro p e s m args below meth c ls C0 hl hB
  obtain ⟨hx, hb, hr, hml, hown, hts, hlocks, hname⟩ := C0
  obtain ⟨hsz, hP, hK, hD0⟩ := hB
  subst hsz
  have hD := hD0.self (sz := s.heap.size)
  generalize hAe : va_A (wgW T n0 a0 (x0)) s.heap.size = A at hD ⊢
  have hA : ∀ q : Nat, s.heap.size ≤ q → A q := fun q h => by rw [← hAe]; exact Or.inr h
  obtain ⟨H, hH⟩ : ∃ H, H = s.heap := ⟨_, rfl⟩
  obtain ⟨locs, hlo⟩ : ∃ L : List Loc, L = [] := ⟨_, rfl⟩
  have hS : va_S A s.heap s.heap [] := va_S.rf
  rw [← hH] at hP ⊢
  rw [← hlo]
  replace hS : va_S A s.heap H locs := by rw [hH, hlo]; exact hS
  clear hH hlo
  unfold F_X3_dropLast at h
  refine lv_aload_n hx hb dX3_dropLast_0 rfl (lv_at hl 0 rfl) ?_
  refine va_get (D := D) (ci := 3) (v := .int (x0.1 0)) (C := RX3) (T := TX3) (N := 4) hx hb hts inX3_dropLast_3 hown hK.1 hP 0 rfl rfl 3 (by decide) (hts (.fieldLink RX3 31 "LyingScale$Weighings" "count" "I") (List.mem_of_getElem? (i := 1) rfl)) (fun _ h9 => h9) rfl dX3_dropLast_1 ?_
  refine lv_if_le (tgt := 17) hx hb dX3_dropLast_4 (by decide) (fun c1 => ?_) (fun c1 => ?_)
  · replace h := ip c1 h
    obtain rfl := Option.some.inj h
    exact W.vret hx hb hr (fun t ht hW => ⟨⟨(), rfl, trivial, by rw [ht]; exact hP, hD⟩, hS.F ht⟩) hS.2.2 dX3_dropLast_17 hlocks
  replace h := im c1 h
  refine lv_aload_n hx hb dX3_dropLast_7 rfl (lv_at hl 0 rfl) ?_
  refine lv_dup hx hb dX3_dropLast_8 rfl ?_
  refine va_get (D := D) (ci := 3) (v := .int (x0.1 0)) (C := RX3) (T := TX3) (N := 4) hx hb hts inX3_dropLast_3 hown hK.1 hP 0 rfl rfl 3 (by decide) (hts (.fieldLink RX3 31 "LyingScale$Weighings" "count" "I") (List.mem_of_getElem? (i := 1) rfl)) (fun _ h9 => h9) rfl dX3_dropLast_9 ?_
  refine lv_iconst (v := 1) hx hb dX3_dropLast_12 (by decide) ?_
  refine lv_isub hx hb dX3_dropLast_13 ?_
  refine va_put (D := D) (ci := 3) (v := .int ((x0.1 0) - 1)) (ty := .int) (C := RX3) (T := TX3) (N := 4) hx hb hts inX3_dropLast_3 tyX3 tyX3_ok nmX3 hown hK.1 hP hD hS 0 rfl rfl 3 (by decide) (hts (.fieldLink RX3 31 "LyingScale$Weighings" "count" "I") (List.mem_of_getElem? (i := 1) rfl)) (fun _ h9 => h9) rfl (by decide +kernel) rfl rfl (Nat.le_of_ble_eq_true rfl) dX3_dropLast_14 (fun H locs hP hD hS => ?_)
  replace hP : va_P D vwCl (wgW T n0 a0 (sI x0 0 ((x0.1 0) - 1))) H := hP
  replace hD : va_D A (wgW T n0 a0 (sI x0 0 ((x0.1 0) - 1))) := hD
  obtain rfl := Option.some.inj h
  exact W.vret hx hb hr (fun t ht hW => ⟨⟨(), rfl, trivial, by rw [ht]; exact hP, hD⟩, hS.F ht⟩) hS.2.2 dX3_dropLast_17 hlocks
set_option maxHeartbeats 4000000 in
set_option maxRecDepth 100000 in
theorem c_X3_part (l : Launch) (D : va_G) (T : Nat → ClassId) (a0 : Nat → Nat) (n0 : Nat) (x0 : St) (v1 : Int32) (v2 : Int32) (hn0 : n0 < 2147483648) (r : Int32) (h : F_X3_part n0 x0 v1 v2 = some r) : Met l yX3_part wsX3_part ({ frames := 1, cells := 0, slots := 0, locals := 21 } : Room) (va_Pc [.ref (a0 0), .int v1, .int v2] (PB D T (wgW T n0 a0 (x0)))) (QRi r) 0 0 (fun _ => False) := by
  refine met_of (cc := cX3_part) (maxL := 3) (ret := (some .int)) (lv := [(0, .ref (a0 0)), (1, .int v1), (2, .int v2)]) (by decide) rfl (Nat.le_of_ble_eq_true rfl) rfl ?_
  intro p e s m args below meth c ls C0 hl hB
  obtain ⟨hx, hb, hr, hml, hown, hts, hlocks, hname⟩ := C0
  obtain ⟨hP, hK⟩ := hB
  unfold F_X3_part at h
  refine lv_iload_n hx hb dX3_part_0 rfl (lv_at hl 2 rfl) ?_
  by_cases c1 : v2 = 0
  · replace h := ip c1 h
    refine lv_lookup (off := 27) (tgt := 28) hx hb dX3_part_1 (by decide) (by rw [c1]; decide) (by decide) ?_
    refine lv_aload_n hx hb dX3_part_28 rfl (lv_at hl 0 rfl) ?_
    refine va_get (D := D) (ci := 3) (v := .ref (a0 1)) (C := RX3) (T := TX3) (N := 4) hx hb hts inX3_part_3 hown hK.1 hP 0 rfl rfl 0 (by decide) (hts (.fieldLink RX3 15 "LyingScale$Weighings" "lefts" "[I") (List.mem_of_getElem? (i := 1) rfl)) (fun _ h9 => h9) rfl dX3_part_29 ?_
    refine lv_iload_n hx hb dX3_part_32 rfl (lv_at hl 1 rfl) ?_
    replace h := bd h
    obtain ⟨t2, et2, h⟩ := h
    refine callRi (v := t2) (va_runSN (As := [.ref (a0 1), .int v1]) (rest := []) ⟨hx, hb, hml, hown, hts⟩ (c_X4_at l D T (a0 1) n0 (x0.2 0) v1 hn0 t2 et2) ⟨va_cnB 2 hts gX3_part_X4_at_n39 rfl rfl rfl (hK.2 (.methodLinkNest RX3 39 yX4_at "LyingScale") (List.mem_of_getElem? (i := 26) rfl)) (hts (.initialized RX4) (List.mem_of_getElem? (i := 5) rfl)) hdS_X4_at ⟨Nat.le_of_ble_eq_true rfl, Nat.le_of_ble_eq_true rfl⟩, (hts (.static yX4_at) (List.mem_of_getElem? (i := 4) rfl)), trivial⟩ ⟨PB_blind, PB_at (hP.sub (ws' := ([(a0 1, .inl (T 0, n0, .inl (x0.2 0)))] : va_W)) [1] rfl) hK⟩ rfl rfl hl.1 rfl (lv_room (Nat.le_of_ble_eq_true rfl)) dX3_part_33 ⟨Nat.zero_le _, Nat.zero_le _⟩) ?_
    exact W.iret hx hb hr (fun t ht hW => ⟨_, rfl, Option.some.inj h, ht⟩) (fun q hq => absurd hq List.not_mem_nil) dX3_part_36 hlocks
  replace h := im c1 h
  by_cases c3 : v2 = 1
  · replace h := ip c3 h
    refine lv_lookup (off := 36) (tgt := 37) hx hb dX3_part_1 (by decide) (by rw [c3]; decide) (by decide) ?_
    refine lv_aload_n hx hb dX3_part_37 rfl (lv_at hl 0 rfl) ?_
    refine va_get (D := D) (ci := 3) (v := .ref (a0 2)) (C := RX3) (T := TX3) (N := 4) hx hb hts inX3_part_3 hown hK.1 hP 0 rfl rfl 1 (by decide) (hts (.fieldLink RX3 21 "LyingScale$Weighings" "rights" "[I") (List.mem_of_getElem? (i := 2) rfl)) (fun _ h9 => h9) rfl dX3_part_38 ?_
    refine lv_iload_n hx hb dX3_part_41 rfl (lv_at hl 1 rfl) ?_
    replace h := bd h
    obtain ⟨t4, et4, h⟩ := h
    refine callRi (v := t4) (va_runSN (As := [.ref (a0 2), .int v1]) (rest := []) ⟨hx, hb, hml, hown, hts⟩ (c_X4_at l D T (a0 2) n0 (x0.2 1) v1 hn0 t4 et4) ⟨va_cnB 2 hts gX3_part_X4_at_n39 rfl rfl rfl (hK.2 (.methodLinkNest RX3 39 yX4_at "LyingScale") (List.mem_of_getElem? (i := 26) rfl)) (hts (.initialized RX4) (List.mem_of_getElem? (i := 5) rfl)) hdS_X4_at ⟨Nat.le_of_ble_eq_true rfl, Nat.le_of_ble_eq_true rfl⟩, (hts (.static yX4_at) (List.mem_of_getElem? (i := 4) rfl)), trivial⟩ ⟨PB_blind, PB_at (hP.sub (ws' := ([(a0 2, .inl (T 0, n0, .inl (x0.2 1)))] : va_W)) [2] rfl) hK⟩ rfl rfl hl.1 rfl (lv_room (Nat.le_of_ble_eq_true rfl)) dX3_part_42 ⟨Nat.zero_le _, Nat.zero_le _⟩) ?_
    exact W.iret hx hb hr (fun t ht hW => ⟨_, rfl, Option.some.inj h, ht⟩) (fun q hq => absurd hq List.not_mem_nil) dX3_part_45 hlocks
  replace h := im c3 h
  refine lv_lookup (off := 45) (tgt := 46) hx hb dX3_part_1 (by decide) ((lv_osw c1 (by decide)).trans ((lv_osw c3 (by decide)).trans rfl)) (by decide) ?_
  refine lv_aload_n hx hb dX3_part_46 rfl (lv_at hl 0 rfl) ?_
  refine va_get (D := D) (ci := 3) (v := .ref (a0 3)) (C := RX3) (T := TX3) (N := 4) hx hb hts inX3_part_3 hown hK.1 hP 0 rfl rfl 2 (by decide) (hts (.fieldLink RX3 24 "LyingScale$Weighings" "answers" "[I") (List.mem_of_getElem? (i := 3) rfl)) (fun _ h9 => h9) rfl dX3_part_47 ?_
  refine lv_iload_n hx hb dX3_part_50 rfl (lv_at hl 1 rfl) ?_
  replace h := bd h
  obtain ⟨t5, et5, h⟩ := h
  refine callRi (v := t5) (va_runSN (As := [.ref (a0 3), .int v1]) (rest := []) ⟨hx, hb, hml, hown, hts⟩ (c_X4_at l D T (a0 3) n0 (x0.2 2) v1 hn0 t5 et5) ⟨va_cnB 2 hts gX3_part_X4_at_n39 rfl rfl rfl (hK.2 (.methodLinkNest RX3 39 yX4_at "LyingScale") (List.mem_of_getElem? (i := 26) rfl)) (hts (.initialized RX4) (List.mem_of_getElem? (i := 5) rfl)) hdS_X4_at ⟨Nat.le_of_ble_eq_true rfl, Nat.le_of_ble_eq_true rfl⟩, (hts (.static yX4_at) (List.mem_of_getElem? (i := 4) rfl)), trivial⟩ ⟨PB_blind, PB_at (hP.sub (ws' := ([(a0 3, .inl (T 0, n0, .inl (x0.2 2)))] : va_W)) [3] rfl) hK⟩ rfl rfl hl.1 rfl (lv_room (Nat.le_of_ble_eq_true rfl)) dX3_part_51 ⟨Nat.zero_le _, Nat.zero_le _⟩) ?_
  exact W.iret hx hb hr (fun t ht hW => ⟨_, rfl, Option.some.inj h, ht⟩) (fun q hq => absurd hq List.not_mem_nil) dX3_part_54 hlocks
set_option maxHeartbeats 4000000 in
set_option maxRecDepth 100000 in
theorem c_X3_codeWord (l : Launch) (D : va_G) (T : Nat → ClassId) (a0 : Nat → Nat) (n0 : Nat) (x0 : St) (v1 : Int32) (hn0 : n0 < 2147483648) (r : Int32) (h : F_X3_codeWord n0 x0 v1 = some r) : Met l yX3_codeWord wsX3_codeWord ({ frames := 2, cells := 0, slots := 0, locals := 44 } : Room) (va_Pc [.ref (a0 0), .int v1] (PB D T (wgW T n0 a0 (x0)))) (QRi r) 0 0 (fun _ => False) := by
  refine met_of (cc := cX3_codeWord) (maxL := 4) (ret := (some .int)) (lv := [(0, .ref (a0 0)), (1, .int v1)]) (by decide) rfl (Nat.le_of_ble_eq_true rfl) rfl ?_
  intro p e s m args below meth c ls C0 hl hB
  obtain ⟨hx, hb, hr, hml, hown, hts, hlocks, hname⟩ := C0
  obtain ⟨hP, hK⟩ := hB
  unfold F_X3_codeWord at h
  refine lv_iconst (v := 0) hx hb dX3_codeWord_0 (by decide) ?_
  refine lv_istore_n (lv' := [(2, .int 0), (0, .ref (a0 0)), (1, .int v1)]) hx hb dX3_codeWord_1 rfl hl (by decide) rfl (fun ls hl => ?_)
  refine lv_iconst (v := 0) hx hb dX3_codeWord_2 (by decide) ?_
  refine lv_istore_n (lv' := [(3, .int 0), (2, .int 0), (0, .ref (a0 0)), (1, .int v1)]) hx hb dX3_codeWord_3 rfl hl (by decide) rfl (fun ls hl => ?_)
  have K4 : ∀ (n4 : Nat) (i2_4 : Int32) (i3_4 : Int32) (ls : Array Slot), fx2 (B_X3_codeWord_4 n0 x0 v1) n4 i2_4 i3_4 = some r → lv_has ls 4 [(0, .ref (a0 0)), (1, .int v1), (2, .int i2_4), (3, .int i3_4)] → W p l e ({ frames := 2, cells := 0, slots := 0, locals := 44 } : Room) s m args below meth c s.heap [] 0 0 (MQ below (QRi r) args s 0 0 (fun _ => False)) (F0 m 4 ls []) := by
    intro n4
    induction n4 with
    | zero =>
        intro i2_4 i3_4 ls h
        cases h
    | succ n4 ih4 =>
        intro i2_4 i3_4 ls h hl
        replace h : B_X3_codeWord_4 n0 x0 v1 (fx2 (B_X3_codeWord_4 n0 x0 v1) n4) i2_4 i3_4 = some r := h
        unfold B_X3_codeWord_4 at h
        refine lv_iload_n hx hb dX3_codeWord_4 rfl (lv_at hl 3 rfl) ?_
        refine lv_aload_n hx hb dX3_codeWord_5 rfl (lv_at hl 0 rfl) ?_
        refine va_get (D := D) (ci := 3) (v := .int (x0.1 0)) (C := RX3) (T := TX3) (N := 4) hx hb hts inX3_codeWord_3 hown hK.1 hP 0 rfl rfl 3 (by decide) (hts (.fieldLink RX3 31 "LyingScale$Weighings" "count" "I") (List.mem_of_getElem? (i := 1) rfl)) (fun _ h9 => h9) rfl dX3_codeWord_6 ?_
        refine lv_icmp_ge (tgt := 45) hx hb dX3_codeWord_9 (by decide) (fun c1 => ?_) (fun c1 => ?_)
        · replace h := ip c1 h
          refine lv_iload_n hx hb dX3_codeWord_45 rfl (lv_at hl 2 rfl) ?_
          exact W.iret hx hb hr (fun t ht hW => ⟨_, rfl, Option.some.inj h, ht⟩) (fun q hq => absurd hq List.not_mem_nil) dX3_codeWord_46 hlocks
        replace h := im c1 h
        refine lv_iload_n hx hb dX3_codeWord_12 rfl (lv_at hl 2 rfl) ?_
        refine lv_iload_n hx hb dX3_codeWord_13 rfl (lv_at hl 1 rfl) ?_
        refine lv_aload_n hx hb dX3_codeWord_14 rfl (lv_at hl 0 rfl) ?_
        refine va_get (D := D) (ci := 3) (v := .ref (a0 1)) (C := RX3) (T := TX3) (N := 4) hx hb hts inX3_codeWord_3 hown hK.1 hP 0 rfl rfl 0 (by decide) (hts (.fieldLink RX3 15 "LyingScale$Weighings" "lefts" "[I") (List.mem_of_getElem? (i := 2) rfl)) (fun _ h9 => h9) rfl dX3_codeWord_15 ?_
        refine lv_iload_n hx hb dX3_codeWord_18 rfl (lv_at hl 3 rfl) ?_
        replace h := bd h
        obtain ⟨t2, et2, h⟩ := h
        refine callRi (v := t2) (va_runSN (As := [.ref (a0 1), .int i3_4]) (rest := [.int v1, .int i2_4]) ⟨hx, hb, hml, hown, hts⟩ (c_X4_at l D T (a0 1) n0 (x0.2 0) i3_4 hn0 t2 et2) ⟨va_cnB 2 hts gX3_codeWord_X4_at_n39 rfl rfl rfl (hK.2 (.methodLinkNest RX3 39 yX4_at "LyingScale") (List.mem_of_getElem? (i := 26) rfl)) (hts (.initialized RX4) (List.mem_of_getElem? (i := 5) rfl)) hdS_X4_at ⟨Nat.le_of_ble_eq_true rfl, Nat.le_of_ble_eq_true rfl⟩, (hts (.static yX4_at) (List.mem_of_getElem? (i := 4) rfl)), trivial⟩ ⟨PB_blind, PB_at (hP.sub (ws' := ([(a0 1, .inl (T 0, n0, .inl (x0.2 0)))] : va_W)) [1] rfl) hK⟩ rfl rfl hl.1 rfl (lv_room (Nat.le_of_ble_eq_true rfl)) dX3_codeWord_19 ⟨Nat.zero_le _, Nat.zero_le _⟩) ?_
        refine lv_aload_n hx hb dX3_codeWord_22 rfl (lv_at hl 0 rfl) ?_
        refine va_get (D := D) (ci := 3) (v := .ref (a0 2)) (C := RX3) (T := TX3) (N := 4) hx hb hts inX3_codeWord_3 hown hK.1 hP 0 rfl rfl 1 (by decide) (hts (.fieldLink RX3 21 "LyingScale$Weighings" "rights" "[I") (List.mem_of_getElem? (i := 3) rfl)) (fun _ h9 => h9) rfl dX3_codeWord_23 ?_
        refine lv_iload_n hx hb dX3_codeWord_26 rfl (lv_at hl 3 rfl) ?_
        replace h := bd h
        obtain ⟨t3, et3, h⟩ := h
        refine callRi (v := t3) (va_runSN (As := [.ref (a0 2), .int i3_4]) (rest := [.int t2, .int v1, .int i2_4]) ⟨hx, hb, hml, hown, hts⟩ (c_X4_at l D T (a0 2) n0 (x0.2 1) i3_4 hn0 t3 et3) ⟨va_cnB 2 hts gX3_codeWord_X4_at_n39 rfl rfl rfl (hK.2 (.methodLinkNest RX3 39 yX4_at "LyingScale") (List.mem_of_getElem? (i := 26) rfl)) (hts (.initialized RX4) (List.mem_of_getElem? (i := 5) rfl)) hdS_X4_at ⟨Nat.le_of_ble_eq_true rfl, Nat.le_of_ble_eq_true rfl⟩, (hts (.static yX4_at) (List.mem_of_getElem? (i := 4) rfl)), trivial⟩ ⟨PB_blind, PB_at (hP.sub (ws' := ([(a0 2, .inl (T 0, n0, .inl (x0.2 1)))] : va_W)) [2] rfl) hK⟩ rfl rfl hl.1 rfl (lv_room (Nat.le_of_ble_eq_true rfl)) dX3_codeWord_27 ⟨Nat.zero_le _, Nat.zero_le _⟩) ?_
        replace h := bd h
        obtain ⟨t4, et4, h⟩ := h
        refine callRi (v := t4) (va_runSN (As := [.int v1, .int t2, .int t3]) (rest := [.int i2_4]) ⟨hx, hb, hml, hown, hts⟩ (c_X4_trueAnswer l D T v1 t2 t3 t4 et4) ⟨va_cnB 3 hts gX3_codeWord_X4_trueAnswer_n43 rfl rfl rfl (hK.2 (.methodLinkNest RX3 43 yX4_trueAnswer "LyingScale") (List.mem_of_getElem? (i := 27) rfl)) (hts (.initialized RX4) (List.mem_of_getElem? (i := 5) rfl)) hdS_X4_trueAnswer ⟨Nat.le_of_ble_eq_true rfl, Nat.le_of_ble_eq_true rfl⟩, (hts (.static yX4_trueAnswer) (List.mem_of_getElem? (i := 7) rfl)), trivial⟩ ⟨PB_blind, PB_at (hP.sub (ws' := ([] : va_W)) [] rfl) hK⟩ rfl rfl hl.1 rfl (lv_room (Nat.le_of_ble_eq_true rfl)) dX3_codeWord_30 ⟨Nat.zero_le _, Nat.zero_le _⟩) ?_
        refine lv_iconst (v := 2) hx hb dX3_codeWord_33 (by decide) ?_
        refine lv_iload_n hx hb dX3_codeWord_34 rfl (lv_at hl 3 rfl) ?_
        refine lv_imul hx hb dX3_codeWord_35 ?_
        refine lv_ishl hx hb dX3_codeWord_36 ?_
        refine lv_ior hx hb dX3_codeWord_37 ?_
        refine lv_istore_n (lv' := [(2, .int (i2_4 ||| (t4 <<< ((2 * i3_4) &&& 31)))), (0, .ref (a0 0)), (1, .int v1), (3, .int i3_4)]) hx hb dX3_codeWord_38 rfl hl (by decide) rfl (fun ls hl => ?_)
        refine lv_iinc (v := i3_4 + 1) (lv' := [(3, .int (i3_4 + 1)), (2, .int (i2_4 ||| (t4 <<< ((2 * i3_4) &&& 31)))), (0, .ref (a0 0)), (1, .int v1)]) hx hb dX3_codeWord_39 hl (k := 3) rfl rfl (by decide) rfl (fun ls hl => ?_)
        refine lv_goto (tgt := 4) hx hb dX3_codeWord_42 (by decide) ?_
        exact ih4 (i2_4 ||| (t4 <<< ((2 * i3_4) &&& 31))) (i3_4 + 1) ls h (lv_sub hl [2, 3, 1, 0] rfl)
  exact K4 1000 0 0 ls h (lv_sub hl [2, 3, 1, 0] rfl)
set_option maxHeartbeats 4000000 in
set_option maxRecDepth 100000 in
theorem c_X3_answerRows (l : Launch) (D : va_G) (T : Nat → ClassId) (a0 : Nat → Nat) (n0 : Nat) (x0 : St) (hn0 : n0 < 2147483648) (r : Int32) (h : F_X3_answerRows n0 x0 = some r) : Met l yX3_answerRows wsX3_answerRows ({ frames := 0, cells := 0, slots := 0, locals := 0 } : Room) (va_Pc [.ref (a0 0)] (PB D T (wgW T n0 a0 (x0)))) (QRi r) 0 0 (fun _ => False) := by
  refine met_of (cc := cX3_answerRows) (maxL := 3) (ret := (some .int)) (lv := [(0, .ref (a0 0))]) (by decide) rfl (Nat.le_of_ble_eq_true rfl) rfl ?_
  intro p e s m args below meth c ls C0 hl hB
  obtain ⟨hx, hb, hr, hml, hown, hts, hlocks, hname⟩ := C0
  obtain ⟨hP, hK⟩ := hB
  unfold F_X3_answerRows at h
  refine lv_iconst (v := 1) hx hb dX3_answerRows_0 (by decide) ?_
  refine lv_istore_n (lv' := [(1, .int 1), (0, .ref (a0 0))]) hx hb dX3_answerRows_1 rfl hl (by decide) rfl (fun ls hl => ?_)
  refine lv_iconst (v := 0) hx hb dX3_answerRows_2 (by decide) ?_
  refine lv_istore_n (lv' := [(2, .int 0), (1, .int 1), (0, .ref (a0 0))]) hx hb dX3_answerRows_3 rfl hl (by decide) rfl (fun ls hl => ?_)
  have K4 : ∀ (n4 : Nat) (i1_4 : Int32) (i2_4 : Int32) (ls : Array Slot), fx2 (B_X3_answerRows_4 x0) n4 i1_4 i2_4 = some r → lv_has ls 3 [(0, .ref (a0 0)), (1, .int i1_4), (2, .int i2_4)] → W p l e ({ frames := 0, cells := 0, slots := 0, locals := 0 } : Room) s m args below meth c s.heap [] 0 0 (MQ below (QRi r) args s 0 0 (fun _ => False)) (F0 m 4 ls []) := by
    intro n4
    induction n4 with
    | zero =>
        intro i1_4 i2_4 ls h
        cases h
    | succ n4 ih4 =>
        intro i1_4 i2_4 ls h hl
        replace h : B_X3_answerRows_4 x0 (fx2 (B_X3_answerRows_4 x0) n4) i1_4 i2_4 = some r := h
        unfold B_X3_answerRows_4 at h
        refine lv_iload_n hx hb dX3_answerRows_4 rfl (lv_at hl 2 rfl) ?_
        refine lv_aload_n hx hb dX3_answerRows_5 rfl (lv_at hl 0 rfl) ?_
        refine va_get (D := D) (ci := 3) (v := .int (x0.1 0)) (C := RX3) (T := TX3) (N := 4) hx hb hts inX3_answerRows_3 hown hK.1 hP 0 rfl rfl 3 (by decide) (hts (.fieldLink RX3 31 "LyingScale$Weighings" "count" "I") (List.mem_of_getElem? (i := 1) rfl)) (fun _ h9 => h9) rfl dX3_answerRows_6 ?_
        refine lv_icmp_ge (tgt := 22) hx hb dX3_answerRows_9 (by decide) (fun c1 => ?_) (fun c1 => ?_)
        · replace h := ip c1 h
          refine lv_iload_n hx hb dX3_answerRows_22 rfl (lv_at hl 1 rfl) ?_
          exact W.iret hx hb hr (fun t ht hW => ⟨_, rfl, Option.some.inj h, ht⟩) (fun q hq => absurd hq List.not_mem_nil) dX3_answerRows_23 hlocks
        replace h := im c1 h
        refine lv_iload_n hx hb dX3_answerRows_12 rfl (lv_at hl 1 rfl) ?_
        refine lv_iconst (v := 3) hx hb dX3_answerRows_13 (by decide) ?_
        refine lv_imul hx hb dX3_answerRows_14 ?_
        refine lv_istore_n (lv' := [(1, .int (i1_4 * 3)), (0, .ref (a0 0)), (2, .int i2_4)]) hx hb dX3_answerRows_15 rfl hl (by decide) rfl (fun ls hl => ?_)
        refine lv_iinc (v := i2_4 + 1) (lv' := [(2, .int (i2_4 + 1)), (1, .int (i1_4 * 3)), (0, .ref (a0 0))]) hx hb dX3_answerRows_16 hl (k := 2) rfl rfl (by decide) rfl (fun ls hl => ?_)
        refine lv_goto (tgt := 4) hx hb dX3_answerRows_19 (by decide) ?_
        exact ih4 (i1_4 * 3) (i2_4 + 1) ls h (lv_sub hl [2, 1, 0] rfl)
  exact K4 1000 1 0 ls h (lv_sub hl [2, 1, 0] rfl)
set_option maxHeartbeats 4000000 in
set_option maxRecDepth 100000 in
theorem c_X3_copyFrom (l : Launch) (D : va_G) (T : Nat → ClassId) (a0 : Nat → Nat) (n0 : Nat) (x0 : St) (a1 : Nat → Nat) (n1 : Nat) (x1 : St) (sz : Nat) (hn0 : n0 < 2147483648) (hn1 : n1 < 2147483648) (r : St) (h : F_X3_copyFrom n0 x0 n1 x1 = some r) : Met l yX3_copyFrom wsX3_copyFrom ({ frames := 2, cells := 0, slots := 0, locals := 44 } : Room) (va_Pc [.ref (a0 0), .ref (a1 0)] (PM D T (wgW T n0 a0 (x0) ++ wgW T n1 a1 (x1)) sz)) (QMv D (wgW T n0 a0 (r) ++ wgW T n1 a1 (x1)) (va_A (wgW T n0 a0 (x0) ++ wgW T n1 a1 (x1)) sz)) 0 0 (va_A (wgW T n0 a0 (x0) ++ wgW T n1 a1 (x1)) sz) := by
  refine met_of (cc := cX3_copyFrom) (maxL := 2) (ret := none) (lv := [(0, .ref (a0 0)), (1, .ref (a1 0))]) (by decide) rfl (Nat.le_of_ble_eq_true rfl) rfl ?_
  intro p e s m args below meth c ls C0 hl hB
  obtain ⟨hx, hb, hr, hml, hown, hts, hlocks, hname⟩ := C0
  obtain ⟨hsz, hP, hK, hD0⟩ := hB
  subst hsz
  have hD := hD0.self (sz := s.heap.size)
  generalize hAe : va_A (wgW T n0 a0 (x0) ++ wgW T n1 a1 (x1)) s.heap.size = A at hD ⊢
  have hA : ∀ q : Nat, s.heap.size ≤ q → A q := fun q h => by rw [← hAe]; exact Or.inr h
  obtain ⟨H, hH⟩ : ∃ H, H = s.heap := ⟨_, rfl⟩
  obtain ⟨locs, hlo⟩ : ∃ L : List Loc, L = [] := ⟨_, rfl⟩
  have hS : va_S A s.heap s.heap [] := va_S.rf
  rw [← hH] at hP ⊢
  rw [← hlo]
  replace hS : va_S A s.heap H locs := by rw [hH, hlo]; exact hS
  clear hH hlo
  unfold F_X3_copyFrom at h
  refine lv_aload_n hx hb dX3_copyFrom_0 rfl (lv_at hl 1 rfl) ?_
  refine va_get (D := D) (ci := 3) (v := .ref (a1 1)) (C := RX3) (T := TX3) (N := 4) hx hb hts inX3_copyFrom_3 hown hK.1 hP 4 rfl rfl 0 (by decide) (hts (.fieldLink RX3 15 "LyingScale$Weighings" "lefts" "[I") (List.mem_of_getElem? (i := 1) rfl)) (fun _ h9 => h9) rfl dX3_copyFrom_1 ?_
  refine lv_aload_n hx hb dX3_copyFrom_4 rfl (lv_at hl 0 rfl) ?_
  refine va_get (D := D) (ci := 3) (v := .ref (a0 1)) (C := RX3) (T := TX3) (N := 4) hx hb hts inX3_copyFrom_3 hown hK.1 hP 0 rfl rfl 0 (by decide) (hts (.fieldLink RX3 15 "LyingScale$Weighings" "lefts" "[I") (List.mem_of_getElem? (i := 1) rfl)) (fun _ h9 => h9) rfl dX3_copyFrom_5 ?_
  replace h := bd h
  obtain ⟨t1, et1, h⟩ := h
  refine callMv (wr := [(a0 0, .inr (3, [.ref (a0 1), .ref (a0 2), .ref (a0 3), .int (x0.1 0)])), (a0 2, .inl (T 0, n0, .inl (x0.2 1))), (a0 3, .inl (T 0, n0, .inl (x0.2 2))), (a1 0, .inr (3, [.ref (a1 1), .ref (a1 2), .ref (a1 3), .int (x1.1 0)])), (a1 2, .inl (T 0, n1, .inl (x1.2 1))), (a1 3, .inl (T 0, n1, .inl (x1.2 2)))]) (ws' := wgW T n0 a0 (sA x0 0 t1) ++ wgW T n1 a1 (x1)) (va_runSN (As := [.ref (a1 1), .ref (a0 1)]) (rest := []) ⟨hx, hb, hml, hown, hts⟩ (c_X4_copyRow l D T (a1 1) n1 (x1.2 0) (a0 1) n0 (x0.2 0) H.size hn1 hn0 t1 et1) ⟨va_cnB 2 hts gX3_copyFrom_X4_copyRow_n27 rfl rfl rfl (hK.2 (.methodLinkNest RX3 27 yX4_copyRow "LyingScale") (List.mem_of_getElem? (i := 24) rfl)) (hts (.initialized RX4) (List.mem_of_getElem? (i := 6) rfl)) hdS_X4_copyRow ⟨Nat.le_of_ble_eq_true rfl, Nat.le_of_ble_eq_true rfl⟩, (hts (.static yX4_copyRow) (List.mem_of_getElem? (i := 5) rfl)), trivial⟩ ⟨PM_blind, PM_at (hP.sub (ws' := ([(a1 1, .inl (T 0, n1, .inl (x1.2 0)))] : va_W) ++ ([(a0 1, .inl (T 0, n0, .inl (x0.2 0)))] : va_W)) [5, 1] rfl) (hD.sub (ws' := ([(a1 1, .inl (T 0, n1, .inl (x1.2 0)))] : va_W) ++ ([(a0 1, .inl (T 0, n0, .inl (x0.2 0)))] : va_W)) [5, 1] (by decide) rfl) hK⟩ rfl rfl hl.1 rfl (lv_room (Nat.le_of_ble_eq_true rfl)) dX3_copyFrom_8 ⟨Nat.zero_le _, Nat.zero_le _⟩) hS hA hP hD [5, 1] [0, 2, 3, 4, 6, 7] rfl rfl (by decide) (by decide) [0, 7, 1, 2, 3, 6, 4, 5] (by decide) rfl (fun H locs hP hD hS => ?_)
  refine lv_aload_n hx hb dX3_copyFrom_11 rfl (lv_at hl 1 rfl) ?_
  refine va_get (D := D) (ci := 3) (v := .ref (a1 2)) (C := RX3) (T := TX3) (N := 4) hx hb hts inX3_copyFrom_3 hown hK.1 hP 4 rfl rfl 1 (by decide) (hts (.fieldLink RX3 21 "LyingScale$Weighings" "rights" "[I") (List.mem_of_getElem? (i := 2) rfl)) (fun _ h9 => h9) rfl dX3_copyFrom_12 ?_
  refine lv_aload_n hx hb dX3_copyFrom_15 rfl (lv_at hl 0 rfl) ?_
  refine va_get (D := D) (ci := 3) (v := .ref (a0 2)) (C := RX3) (T := TX3) (N := 4) hx hb hts inX3_copyFrom_3 hown hK.1 hP 0 rfl rfl 1 (by decide) (hts (.fieldLink RX3 21 "LyingScale$Weighings" "rights" "[I") (List.mem_of_getElem? (i := 2) rfl)) (fun _ h9 => h9) rfl dX3_copyFrom_16 ?_
  replace h := bd h
  obtain ⟨t2, et2, h⟩ := h
  refine callMv (wr := [(a0 0, .inr (3, [.ref (a0 1), .ref (a0 2), .ref (a0 3), .int ((sA x0 0 t1).1 0)])), (a0 1, .inl (T 0, n0, .inl ((sA x0 0 t1).2 0))), (a0 3, .inl (T 0, n0, .inl ((sA x0 0 t1).2 2))), (a1 0, .inr (3, [.ref (a1 1), .ref (a1 2), .ref (a1 3), .int (x1.1 0)])), (a1 1, .inl (T 0, n1, .inl (x1.2 0))), (a1 3, .inl (T 0, n1, .inl (x1.2 2)))]) (ws' := wgW T n0 a0 (sA (sA x0 0 t1) 1 t2) ++ wgW T n1 a1 (x1)) (va_runSN (As := [.ref (a1 2), .ref (a0 2)]) (rest := []) ⟨hx, hb, hml, hown, hts⟩ (c_X4_copyRow l D T (a1 2) n1 (x1.2 1) (a0 2) n0 ((sA x0 0 t1).2 1) H.size hn1 hn0 t2 et2) ⟨va_cnB 2 hts gX3_copyFrom_X4_copyRow_n27 rfl rfl rfl (hK.2 (.methodLinkNest RX3 27 yX4_copyRow "LyingScale") (List.mem_of_getElem? (i := 24) rfl)) (hts (.initialized RX4) (List.mem_of_getElem? (i := 6) rfl)) hdS_X4_copyRow ⟨Nat.le_of_ble_eq_true rfl, Nat.le_of_ble_eq_true rfl⟩, (hts (.static yX4_copyRow) (List.mem_of_getElem? (i := 5) rfl)), trivial⟩ ⟨PM_blind, PM_at (hP.sub (ws' := ([(a1 2, .inl (T 0, n1, .inl (x1.2 1)))] : va_W) ++ ([(a0 2, .inl (T 0, n0, .inl ((sA x0 0 t1).2 1)))] : va_W)) [6, 2] rfl) (hD.sub (ws' := ([(a1 2, .inl (T 0, n1, .inl (x1.2 1)))] : va_W) ++ ([(a0 2, .inl (T 0, n0, .inl ((sA x0 0 t1).2 1)))] : va_W)) [6, 2] (by decide) rfl) hK⟩ rfl rfl hl.1 rfl (lv_room (Nat.le_of_ble_eq_true rfl)) dX3_copyFrom_19 ⟨Nat.zero_le _, Nat.zero_le _⟩) hS hA hP hD [6, 2] [0, 1, 3, 4, 5, 7] rfl rfl (by decide) (by decide) [0, 1, 7, 2, 3, 4, 6, 5] (by decide) rfl (fun H locs hP hD hS => ?_)
  refine lv_aload_n hx hb dX3_copyFrom_22 rfl (lv_at hl 1 rfl) ?_
  refine va_get (D := D) (ci := 3) (v := .ref (a1 3)) (C := RX3) (T := TX3) (N := 4) hx hb hts inX3_copyFrom_3 hown hK.1 hP 4 rfl rfl 2 (by decide) (hts (.fieldLink RX3 24 "LyingScale$Weighings" "answers" "[I") (List.mem_of_getElem? (i := 3) rfl)) (fun _ h9 => h9) rfl dX3_copyFrom_23 ?_
  refine lv_aload_n hx hb dX3_copyFrom_26 rfl (lv_at hl 0 rfl) ?_
  refine va_get (D := D) (ci := 3) (v := .ref (a0 3)) (C := RX3) (T := TX3) (N := 4) hx hb hts inX3_copyFrom_3 hown hK.1 hP 0 rfl rfl 2 (by decide) (hts (.fieldLink RX3 24 "LyingScale$Weighings" "answers" "[I") (List.mem_of_getElem? (i := 3) rfl)) (fun _ h9 => h9) rfl dX3_copyFrom_27 ?_
  replace h := bd h
  obtain ⟨t3, et3, h⟩ := h
  refine callMv (wr := [(a0 0, .inr (3, [.ref (a0 1), .ref (a0 2), .ref (a0 3), .int ((sA (sA x0 0 t1) 1 t2).1 0)])), (a0 1, .inl (T 0, n0, .inl ((sA (sA x0 0 t1) 1 t2).2 0))), (a0 2, .inl (T 0, n0, .inl ((sA (sA x0 0 t1) 1 t2).2 1))), (a1 0, .inr (3, [.ref (a1 1), .ref (a1 2), .ref (a1 3), .int (x1.1 0)])), (a1 1, .inl (T 0, n1, .inl (x1.2 0))), (a1 2, .inl (T 0, n1, .inl (x1.2 1)))]) (ws' := wgW T n0 a0 (sA (sA (sA x0 0 t1) 1 t2) 2 t3) ++ wgW T n1 a1 (x1)) (va_runSN (As := [.ref (a1 3), .ref (a0 3)]) (rest := []) ⟨hx, hb, hml, hown, hts⟩ (c_X4_copyRow l D T (a1 3) n1 (x1.2 2) (a0 3) n0 ((sA (sA x0 0 t1) 1 t2).2 2) H.size hn1 hn0 t3 et3) ⟨va_cnB 2 hts gX3_copyFrom_X4_copyRow_n27 rfl rfl rfl (hK.2 (.methodLinkNest RX3 27 yX4_copyRow "LyingScale") (List.mem_of_getElem? (i := 24) rfl)) (hts (.initialized RX4) (List.mem_of_getElem? (i := 6) rfl)) hdS_X4_copyRow ⟨Nat.le_of_ble_eq_true rfl, Nat.le_of_ble_eq_true rfl⟩, (hts (.static yX4_copyRow) (List.mem_of_getElem? (i := 5) rfl)), trivial⟩ ⟨PM_blind, PM_at (hP.sub (ws' := ([(a1 3, .inl (T 0, n1, .inl (x1.2 2)))] : va_W) ++ ([(a0 3, .inl (T 0, n0, .inl ((sA (sA x0 0 t1) 1 t2).2 2)))] : va_W)) [7, 3] rfl) (hD.sub (ws' := ([(a1 3, .inl (T 0, n1, .inl (x1.2 2)))] : va_W) ++ ([(a0 3, .inl (T 0, n0, .inl ((sA (sA x0 0 t1) 1 t2).2 2)))] : va_W)) [7, 3] (by decide) rfl) hK⟩ rfl rfl hl.1 rfl (lv_room (Nat.le_of_ble_eq_true rfl)) dX3_copyFrom_30 ⟨Nat.zero_le _, Nat.zero_le _⟩) hS hA hP hD [7, 3] [0, 1, 2, 4, 5, 6] rfl rfl (by decide) (by decide) [0, 1, 2, 7, 3, 4, 5, 6] (by decide) rfl (fun H locs hP hD hS => ?_)
  refine lv_aload_n hx hb dX3_copyFrom_33 rfl (lv_at hl 0 rfl) ?_
  refine lv_aload_n hx hb dX3_copyFrom_34 rfl (lv_at hl 1 rfl) ?_
  refine va_get (D := D) (ci := 3) (v := .int (x1.1 0)) (C := RX3) (T := TX3) (N := 4) hx hb hts inX3_copyFrom_3 hown hK.1 hP 4 rfl rfl 3 (by decide) (hts (.fieldLink RX3 31 "LyingScale$Weighings" "count" "I") (List.mem_of_getElem? (i := 4) rfl)) (fun _ h9 => h9) rfl dX3_copyFrom_35 ?_
  refine va_put (D := D) (ci := 3) (v := .int (x1.1 0)) (ty := .int) (C := RX3) (T := TX3) (N := 4) hx hb hts inX3_copyFrom_3 tyX3 tyX3_ok nmX3 hown hK.1 hP hD hS 0 rfl rfl 3 (by decide) (hts (.fieldLink RX3 31 "LyingScale$Weighings" "count" "I") (List.mem_of_getElem? (i := 4) rfl)) (fun _ h9 => h9) rfl (by decide +kernel) rfl rfl (Nat.le_of_ble_eq_true rfl) dX3_copyFrom_38 (fun H locs hP hD hS => ?_)
  replace hP : va_P D vwCl (wgW T n0 a0 (sI (sA (sA (sA x0 0 t1) 1 t2) 2 t3) 0 (x1.1 0)) ++ wgW T n1 a1 (x1)) H := hP
  replace hD : va_D A (wgW T n0 a0 (sI (sA (sA (sA x0 0 t1) 1 t2) 2 t3) 0 (x1.1 0)) ++ wgW T n1 a1 (x1)) := hD
  obtain rfl := Option.some.inj h
  exact W.vret hx hb hr (fun t ht hW => ⟨⟨(), rfl, trivial, by rw [ht]; exact hP, hD⟩, hS.F ht⟩) hS.2.2 dX3_copyFrom_41 hlocks
