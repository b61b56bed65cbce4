def F_X2_isLeft (x0 : St) (v1 : Int32) : Option (Int32) :=
  (F_X4_at 33 (x0.2 6) v1).bind fun t1 => if (x0.1 1) < t1 then (some 0) else (some 1)
def B_X2_countLeft_4 (x0 : St) (k4 : Int32 → Int32 → Option (Int32)) (i1_4 : Int32) (i2_4 : Int32) : Option (Int32) :=
  (F_X2_cases x0).bind fun t1 => if t1 ≤ i2_4 then (some i1_4) else ((F_X2_isLeft x0 i2_4).bind fun t3 => if t3 = 0 then (k4 i1_4 (i2_4 + 1)) else (k4 (i1_4 + 1) (i2_4 + 1)))
def F_X2_countLeft (x0 : St) : Option (Int32) :=
  fx2 (B_X2_countLeft_4 x0) 1000 0 0
def B_X2_falseCoins_4 (x0 : St) (k4 : Int32 → Int32 → Option (Int32)) (i1_4 : Int32) (i2_4 : Int32) : Option (Int32) :=
  (F_X2_cases x0).bind fun t1 => if t1 ≤ i2_4 then (some i1_4) else ((F_X2_isLeft x0 i2_4).bind fun t3 => if t3 = 0 then (k4 i1_4 (i2_4 + 1)) else ((F_X4_coinBit i2_4).bind fun t5 => k4 (i1_4 ||| t5) (i2_4 + 1)))
def F_X2_falseCoins (x0 : St) : Option (Int32) :=
  fx2 (B_X2_falseCoins_4 x0) 1000 0 0
def F_X2_number (x0 : St) (v1 : Int32) : Option (Int32) :=
  if v1 = 0 then (some (x0.1 0)) else if v1 = 1 then (some (x0.1 1)) else if v1 = 2 then (some (x0.1 5)) else if v1 = 3 then ((F_X2_countLeft x0).bind fun t5 => some t5) else if v1 = 4 then (some (x0.1 6)) else if v1 = 5 then (some (x0.1 2)) else if v1 = 6 then (some (x0.1 4)) else if v1 = 7 then ((F_X2_falseCoins x0).bind fun t10 => some t10) else ((F_X2_isLeft x0 0).bind fun t11 => if t11 = 0 then (some 0) else (some 1))
def F_X2_volumeLeft (x0 : St) (v1 : Int32) (v2 : Int32) : Option (Int64) :=
  if v1 ≤ (x0.1 1) then ((F_X4_volume v2 ((x0.1 1) - v1)).bind fun t2 => some t2) else (some 0)
def B_X2_weightAhead_5 (x0 : St) (v1 : Int32) (k5 : Int64 → Int32 → Option (Int64)) (i2_5 : Int64) (i4_5 : Int32) : Option (Int64) :=
  (F_X2_cases x0).bind fun t1 => if t1 ≤ i4_5 then (some i2_5) else ((F_X4_at 33 (x0.2 6) i4_5).bind fun t3 => (F_X2_volumeLeft x0 t3 v1).bind fun t4 => k5 (i2_5 + t4) (i4_5 + 1))
def F_X2_weightAhead (x0 : St) (v1 : Int32) : Option (Int64) :=
  fx2 (B_X2_weightAhead_5 x0 v1) 1000 0 0
def B_X2_weightIfTold_6 (x0 : St) (v1 : Int32) (v2 : Int32) (v3 : Int32) (v4 : Int32) (k6 : Int64 → Int32 → Option (Int64)) (i5_6 : Int64) (i7_6 : Int32) : Option (Int64) :=
  (F_X2_cases x0).bind fun t1 => if t1 ≤ i7_6 then (some i5_6) else ((F_X2_liesIfTold x0 i7_6 v1 v2 v3).bind fun t3 => (F_X2_volumeLeft x0 t3 v4).bind fun t4 => k6 (i5_6 + t4) (i7_6 + 1))
def F_X2_weightIfTold (x0 : St) (v1 : Int32) (v2 : Int32) (v3 : Int32) (v4 : Int32) : Option (Int64) :=
  fx2 (B_X2_weightIfTold_6 x0 v1 v2 v3 v4) 1000 0 0
def F_X2_copyFrom (x0 : St) (x1 : St) : Option (St) :=
  (F_X3_copyFrom 40 (tdS x0) 40 (tdS x1)).bind fun t1 => (F_X3_copyFrom 8 (plS (tdU x0 t1)) 8 (plS x1)).bind fun t2 => (F_X4_copyRow 33 (x1.2 6) 33 ((plU (tdU x0 t1) t2).2 6)).bind fun t3 => (some (sI (sA (plU (tdU x0 t1) t2) 6 t3) 0 (x1.1 0))).bind fun y4 => (some (sI (sI (sI y4 1 (x1.1 1)) 2 (x1.1 2)) 3 (x1.1 3))).bind fun y5 => some (sI y5 4 (x1.1 4))
theorem inX2_isLeft_2 : ∀ w ∈ u_ws RX2 TX2 9, w ∈ wsX2_isLeft := by decide +kernel
theorem hdS_X2_isLeft : yX2_isLeft.cls ≠ "java/lang/invoke/MethodHandle" ∧ yX2_isLeft.cls ≠ "java/lang/invoke/VarHandle" ∧ (parseMethodDescriptor yX2_isLeft.desc).map (fun d => d.parameters.length) = some 1 := by decide +kernel
theorem hdV_X2_isLeft : yX2_isLeft.cls = RX2 ∧ yX2_isLeft.cls ≠ "java/lang/invoke/MethodHandle" ∧ yX2_isLeft.cls ≠ "java/lang/invoke/VarHandle" ∧ (parseMethodDescriptor yX2_isLeft.desc).map (fun d => d.parameters.length) = some 1 := by decide +kernel
theorem hdS_X2_countLeft : yX2_countLeft.cls ≠ "java/lang/invoke/MethodHandle" ∧ yX2_countLeft.cls ≠ "java/lang/invoke/VarHandle" ∧ (parseMethodDescriptor yX2_countLeft.desc).map (fun d => d.parameters.length) = some 0 := by decide +kernel
theorem hdV_X2_countLeft : yX2_countLeft.cls = RX2 ∧ yX2_countLeft.cls ≠ "java/lang/invoke/MethodHandle" ∧ yX2_countLeft.cls ≠ "java/lang/invoke/VarHandle" ∧ (parseMethodDescriptor yX2_countLeft.desc).map (fun d => d.parameters.length) = some 0 := by decide +kernel
theorem hdS_X2_falseCoins : yX2_falseCoins.cls ≠ "java/lang/invoke/MethodHandle" ∧ yX2_falseCoins.cls ≠ "java/lang/invoke/VarHandle" ∧ (parseMethodDescriptor yX2_falseCoins.desc).map (fun d => d.parameters.length) = some 0 := by decide +kernel
theorem hdV_X2_falseCoins : yX2_falseCoins.cls = RX2 ∧ yX2_falseCoins.cls ≠ "java/lang/invoke/MethodHandle" ∧ yX2_falseCoins.cls ≠ "java/lang/invoke/VarHandle" ∧ (parseMethodDescriptor yX2_falseCoins.desc).map (fun d => d.parameters.length) = some 0 := by decide +kernel
theorem inX2_number_2 : ∀ w ∈ u_ws RX2 TX2 9, w ∈ wsX2_number := by decide +kernel
theorem inX2_number_3 : ∀ w ∈ u_ws RX3 TX3 4, w ∈ wsX2_number := by decide +kernel
theorem hdS_X2_number : yX2_number.cls ≠ "java/lang/invoke/MethodHandle" ∧ yX2_number.cls ≠ "java/lang/invoke/VarHandle" ∧ (parseMethodDescriptor yX2_number.desc).map (fun d => d.parameters.length) = some 1 := by decide +kernel
theorem hdV_X2_number : yX2_number.cls = RX2 ∧ yX2_number.cls ≠ "java/lang/invoke/MethodHandle" ∧ yX2_number.cls ≠ "java/lang/invoke/VarHandle" ∧ (parseMethodDescriptor yX2_number.desc).map (fun d => d.parameters.length) = some 1 := by decide +kernel
theorem inX2_volumeLeft_2 : ∀ w ∈ u_ws RX2 TX2 9, w ∈ wsX2_volumeLeft := by decide +kernel
theorem hdS_X2_volumeLeft : yX2_volumeLeft.cls ≠ "java/lang/invoke/MethodHandle" ∧ yX2_volumeLeft.cls ≠ "java/lang/invoke/VarHandle" ∧ (parseMethodDescriptor yX2_volumeLeft.desc).map (fun d => d.parameters.length) = some 2 := by decide +kernel
theorem hdV_X2_volumeLeft : yX2_volumeLeft.cls = RX2 ∧ yX2_volumeLeft.cls ≠ "java/lang/invoke/MethodHandle" ∧ yX2_volumeLeft.cls ≠ "java/lang/invoke/VarHandle" ∧ (parseMethodDescriptor yX2_volumeLeft.desc).map (fun d => d.parameters.length) = some 2 := by decide +kernel
theorem inX2_weightAhead_2 : ∀ w ∈ u_ws RX2 TX2 9, w ∈ wsX2_weightAhead := by decide +kernel
theorem hdS_X2_weightAhead : yX2_weightAhead.cls ≠ "java/lang/invoke/MethodHandle" ∧ yX2_weightAhead.cls ≠ "java/lang/invoke/VarHandle" ∧ (parseMethodDescriptor yX2_weightAhead.desc).map (fun d => d.parameters.length) = some 1 := by decide +kernel
theorem hdV_X2_weightAhead : yX2_weightAhead.cls = RX2 ∧ yX2_weightAhead.cls ≠ "java/lang/invoke/MethodHandle" ∧ yX2_weightAhead.cls ≠ "java/lang/invoke/VarHandle" ∧ (parseMethodDescriptor yX2_weightAhead.desc).map (fun d => d.parameters.length) = some 1 := by decide +kernel
theorem hdS_X2_weightIfTold : yX2_weightIfTold.cls ≠ "java/lang/invoke/MethodHandle" ∧ yX2_weightIfTold.cls ≠ "java/lang/invoke/VarHandle" ∧ (parseMethodDescriptor yX2_weightIfTold.desc).map (fun d => d.parameters.length) = some 4 := by decide +kernel
theorem hdV_X2_weightIfTold : yX2_weightIfTold.cls = RX2 ∧ yX2_weightIfTold.cls ≠ "java/lang/invoke/MethodHandle" ∧ yX2_weightIfTold.cls ≠ "java/lang/invoke/VarHandle" ∧ (parseMethodDescriptor yX2_weightIfTold.desc).map (fun d => d.parameters.length) = some 4 := by decide +kernel
theorem inX2_copyFrom_2 : ∀ w ∈ u_ws RX2 TX2 9, w ∈ wsX2_copyFrom := by decide +kernel
theorem hdS_X2_copyFrom : yX2_copyFrom.cls ≠ "java/lang/invoke/MethodHandle" ∧ yX2_copyFrom.cls ≠ "java/lang/invoke/VarHandle" ∧ (parseMethodDescriptor yX2_copyFrom.desc).map (fun d => d.parameters.length) = some 1 := by decide +kernel
theorem hdV_X2_copyFrom : yX2_copyFrom.cls = RX2 ∧ yX2_copyFrom.cls ≠ "java/lang/invoke/MethodHandle" ∧ yX2_copyFrom.cls ≠ "java/lang/invoke/VarHandle" ∧ (parseMethodDescriptor yX2_copyFrom.desc).map (fun d => d.parameters.length) = some 1 := by decide +kernel
set_option maxHeartbeats 4000000 in
set_option maxRecDepth 100000 in
theorem c_X2_isLeft (l : Launch) (D : va_G) (T : Nat → ClassId) (a0 : Nat → Nat) (x0 : St) (v1 : Int32) (r : Int32) (h : F_X2_isLeft x0 v1 = some r) : Met l yX2_isLeft wsX2_isLeft ({ frames := 1, cells := 0, slots := 0, locals := 21 } : Room) (va_Pc [.ref (a0 0), .int v1] (PB D T (stW T a0 (x0)))) (QRi r) 0 0 (fun _ => False) := by
  refine met_of (cc := cX2_isLeft) (maxL := 2) (ret := (some .boolean)) (lv := [(0, .ref (a0 0)), (1, .int v1)]) (by decide) rfl (Nat.le_of_ble_eq_true rfl) rfl ?_
  intro p e s m args below meth c ls C0 hl hB
  obtain ⟨hx, hb, hr, hml, hown, hts, hlocks, hname⟩ := C0
  obtain ⟨hP, hK⟩ := hB
  unfold F_X2_isLeft at h
  refine lv_aload_n hx hb dX2_isLeft_0 rfl (lv_at hl 0 rfl) ?_
  refine va_get (D := D) (ci := 2) (v := .ref (a0 3)) (C := RX2) (T := TX2) (N := 9) hx hb hts inX2_isLeft_2 hown hK.1 hP 0 rfl rfl 2 (by decide) (hts (.fieldLink RX2 23 "LyingScale$State" "liesOf" "[I") (List.mem_of_getElem? (i := 1) rfl)) (fun _ h9 => h9) rfl dX2_isLeft_1 ?_
  refine lv_iload_n hx hb dX2_isLeft_4 rfl (lv_at hl 1 rfl) ?_
  replace h := bd h
  obtain ⟨t1, et1, h⟩ := h
  refine callRi (v := t1) (va_runSN (As := [.ref (a0 3), .int v1]) (rest := []) ⟨hx, hb, hml, hown, hts⟩ (c_X4_at l D T (a0 3) 33 (x0.2 6) v1 (Nat.le_of_ble_eq_true rfl) t1 et1) ⟨va_cnB 2 hts gX2_isLeft_X4_at_n89 rfl rfl rfl (hK.2 (.methodLinkNest RX2 89 yX4_at "LyingScale") (List.mem_of_getElem? (i := 11) rfl)) (hts (.initialized RX4) (List.mem_of_getElem? (i := 4) rfl)) hdS_X4_at ⟨Nat.le_of_ble_eq_true rfl, Nat.le_of_ble_eq_true rfl⟩, (hts (.static yX4_at) (List.mem_of_getElem? (i := 3) rfl)), trivial⟩ ⟨PB_blind, PB_at (hP.sub (ws' := ([(a0 3, .inl (T 0, 33, .inl (x0.2 6)))] : va_W)) [3] rfl) hK⟩ rfl rfl hl.1 rfl (lv_room (Nat.le_of_ble_eq_true rfl)) dX2_isLeft_5 ⟨Nat.zero_le _, Nat.zero_le _⟩) ?_
  refine lv_aload_n hx hb dX2_isLeft_8 rfl (lv_at hl 0 rfl) ?_
  refine va_get (D := D) (ci := 2) (v := .int (x0.1 1)) (C := RX2) (T := TX2) (N := 9) hx hb hts inX2_isLeft_2 hown hK.1 hP 0 rfl rfl 5 (by decide) (hts (.fieldLink RX2 37 "LyingScale$State" "limit" "I") (List.mem_of_getElem? (i := 2) rfl)) (fun _ h9 => h9) rfl dX2_isLeft_9 ?_
  refine lv_icmp_gt (tgt := 19) hx hb dX2_isLeft_12 (by decide) (fun c2 => ?_) (fun c2 => ?_)
  · replace h := ip c2 h
    refine lv_iconst (v := 0) hx hb dX2_isLeft_19 (by decide) ?_
    exact W.zret hx hb hr rfl (fun t ht hW => ⟨_, rfl, Option.some.inj h, ht⟩) (fun q hq => absurd hq List.not_mem_nil) dX2_isLeft_20 hlocks
  replace h := im c2 h
  refine lv_iconst (v := 1) hx hb dX2_isLeft_15 (by decide) ?_
  refine lv_goto (tgt := 20) hx hb dX2_isLeft_16 (by decide) ?_
  exact W.zret hx hb hr rfl (fun t ht hW => ⟨_, rfl, Option.some.inj h, ht⟩) (fun q hq => absurd hq List.not_mem_nil) dX2_isLeft_20 hlocks
set_option maxHeartbeats 4000000 in
set_option maxRecDepth 100000 in
theorem c_X2_countLeft (l : Launch) (D : va_G) (T : Nat → ClassId) (a0 : Nat → Nat) (x0 : St) (r : Int32) (h : F_X2_countLeft x0 = some r) : Met l yX2_countLeft wsX2_countLeft ({ frames := 2, cells := 0, slots := 0, locals := 42 } : Room) (va_Pc [.ref (a0 0)] (PB D T (stW T a0 (x0)))) (QRi r) 0 0 (fun _ => False) := by
  refine met_of (cc := cX2_countLeft) (maxL := 3) (ret := (some .int)) (lv := [(0, .ref (a0 0))]) (by decide) rfl (Nat.le_of_ble_eq_true rfl) rfl ?_
  intro p e s m args below meth c ls C0 hl hB
  obtain ⟨hx, hb, hr, hml, hown, hts, hlocks, hname⟩ := C0
  obtain ⟨hP, hK⟩ := hB
  unfold F_X2_countLeft at h
  refine lv_iconst (v := 0) hx hb dX2_countLeft_0 (by decide) ?_
  refine lv_istore_n (lv' := [(1, .int 0), (0, .ref (a0 0))]) hx hb dX2_countLeft_1 rfl hl (by decide) rfl (fun ls hl => ?_)
  refine lv_iconst (v := 0) hx hb dX2_countLeft_2 (by decide) ?_
  refine lv_istore_n (lv' := [(2, .int 0), (1, .int 0), (0, .ref (a0 0))]) hx hb dX2_countLeft_3 rfl hl (by decide) rfl (fun ls hl => ?_)
  have K4 : ∀ (n4 : Nat) (i1_4 : Int32) (i2_4 : Int32) (ls : Array Slot), fx2 (B_X2_countLeft_4 x0) n4 i1_4 i2_4 = some r → lv_has ls 3 [(0, .ref (a0 0)), (1, .int i1_4), (2, .int i2_4)] → W p l e ({ frames := 2, cells := 0, slots := 0, locals := 42 } : Room) s m args below meth c s.heap [] 0 0 (MQ below (QRi r) args s 0 0 (fun _ => False)) (F0 m 4 ls []) := by
    intro n4
    induction n4 with
    | zero =>
        intro i1_4 i2_4 ls h
        cases h
    | succ n4 ih4 =>
        intro i1_4 i2_4 ls h hl
        replace h : B_X2_countLeft_4 x0 (fx2 (B_X2_countLeft_4 x0) n4) i1_4 i2_4 = some r := h
        unfold B_X2_countLeft_4 at h
        refine lv_iload_n hx hb dX2_countLeft_4 rfl (lv_at hl 2 rfl) ?_
        refine lv_aload_n hx hb dX2_countLeft_5 rfl (lv_at hl 0 rfl) ?_
        replace h := bd h
        obtain ⟨t1, et1, h⟩ := h
        refine callRi (v := t1) (va_runV (As := []) (rest := [.int i2_4]) ⟨hx, hb, hml, hown, hts⟩ (c_X2_cases l D T a0 x0 t1 et1) (cwV 0 hts gX2_countLeft_X2_cases rfl rfl rfl hdV_X2_cases ⟨Nat.le_of_ble_eq_true rfl, Nat.le_of_ble_eq_true rfl⟩) ⟨PB_blind, va_recv hK.1 hP (ci := 2) (q0 := 0) rfl rfl, PB_at hP hK⟩ rfl rfl hl.1 rfl (lv_room (Nat.le_of_ble_eq_true rfl)) dX2_countLeft_6 ⟨Nat.zero_le _, Nat.zero_le _⟩) ?_
        refine lv_icmp_ge (tgt := 29) hx hb dX2_countLeft_9 (by decide) (fun c2 => ?_) (fun c2 => ?_)
        · replace h := ip c2 h
          refine lv_iload_n hx hb dX2_countLeft_29 rfl (lv_at hl 1 rfl) ?_
          exact W.iret hx hb hr (fun t ht hW => ⟨_, rfl, Option.some.inj h, ht⟩) (fun q hq => absurd hq List.not_mem_nil) dX2_countLeft_30 hlocks
        replace h := im c2 h
        refine lv_aload_n hx hb dX2_countLeft_12 rfl (lv_at hl 0 rfl) ?_
        refine lv_iload_n hx hb dX2_countLeft_13 rfl (lv_at hl 2 rfl) ?_
        replace h := bd h
        obtain ⟨t3, et3, h⟩ := h
        refine callRi (v := t3) (va_runV (As := [.int i2_4]) (rest := []) ⟨hx, hb, hml, hown, hts⟩ (c_X2_isLeft l D T a0 x0 i2_4 t3 et3) (cwV 1 hts gX2_countLeft_X2_isLeft rfl rfl rfl hdV_X2_isLeft ⟨Nat.le_of_ble_eq_true rfl, Nat.le_of_ble_eq_true rfl⟩) ⟨PB_blind, va_recv hK.1 hP (ci := 2) (q0 := 0) rfl rfl, PB_at hP hK⟩ rfl rfl hl.1 rfl (lv_room (Nat.le_of_ble_eq_true rfl)) dX2_countLeft_14 ⟨Nat.zero_le _, Nat.zero_le _⟩) ?_
        refine lv_if_eq (tgt := 23) hx hb dX2_countLeft_17 (by decide) (fun c4 => ?_) (fun c4 => ?_)
        · replace h := ip c4 h
          refine lv_iinc (v := i2_4 + 1) (lv' := [(2, .int (i2_4 + 1)), (0, .ref (a0 0)), (1, .int i1_4)]) hx hb dX2_countLeft_23 hl (k := 2) rfl rfl (by decide) rfl (fun ls hl => ?_)
          refine lv_goto (tgt := 4) hx hb dX2_countLeft_26 (by decide) ?_
          exact ih4 i1_4 (i2_4 + 1) ls h (lv_sub hl [1, 2, 0] rfl)
        replace h := im c4 h
        refine lv_iinc (v := i1_4 + 1) (lv' := [(1, .int (i1_4 + 1)), (0, .ref (a0 0)), (2, .int i2_4)]) hx hb dX2_countLeft_20 hl (k := 1) rfl rfl (by decide) rfl (fun ls hl => ?_)
        refine lv_iinc (v := i2_4 + 1) (lv' := [(2, .int (i2_4 + 1)), (1, .int (i1_4 + 1)), (0, .ref (a0 0))]) hx hb dX2_countLeft_23 hl (k := 2) rfl rfl (by decide) rfl (fun ls hl => ?_)
        refine lv_goto (tgt := 4) hx hb dX2_countLeft_26 (by decide) ?_
        exact ih4 (i1_4 + 1) (i2_4 + 1) ls h (lv_sub hl [2, 1, 0] rfl)
  exact K4 1000 0 0 ls h (lv_sub hl [2, 1, 0] rfl)
set_option maxHeartbeats 4000000 in
set_option maxRecDepth 100000 in
theorem c_X2_falseCoins (l : Launch) (D : va_G) (T : Nat → ClassId) (a0 : Nat → Nat) (x0 : St) (r : Int32) (h : F_X2_falseCoins x0 = some r) : Met l yX2_falseCoins wsX2_falseCoins ({ frames := 2, cells := 0, slots := 0, locals := 42 } : Room) (va_Pc [.ref (a0 0)] (PB D T (stW T a0 (x0)))) (QRi r) 0 0 (fun _ => False) := by
  refine met_of (cc := cX2_falseCoins) (maxL := 3) (ret := (some .int)) (lv := [(0, .ref (a0 0))]) (by decide) rfl (Nat.le_of_ble_eq_true rfl) rfl ?_
  intro p e s m args below meth c ls C0 hl hB
  obtain ⟨hx, hb, hr, hml, hown, hts, hlocks, hname⟩ := C0
  obtain ⟨hP, hK⟩ := hB
  unfold F_X2_falseCoins at h
  refine lv_iconst (v := 0) hx hb dX2_falseCoins_0 (by decide) ?_
  refine lv_istore_n (lv' := [(1, .int 0), (0, .ref (a0 0))]) hx hb dX2_falseCoins_1 rfl hl (by decide) rfl (fun ls hl => ?_)
  refine lv_iconst (v := 0) hx hb dX2_falseCoins_2 (by decide) ?_
  refine lv_istore_n (lv' := [(2, .int 0), (1, .int 0), (0, .ref (a0 0))]) hx hb dX2_falseCoins_3 rfl hl (by decide) rfl (fun ls hl => ?_)
  have K4 : ∀ (n4 : Nat) (i1_4 : Int32) (i2_4 : Int32) (ls : Array Slot), fx2 (B_X2_falseCoins_4 x0) n4 i1_4 i2_4 = some r → lv_has ls 3 [(0, .ref (a0 0)), (1, .int i1_4), (2, .int i2_4)] → W p l e ({ frames := 2, cells := 0, slots := 0, locals := 42 } : Room) s m args below meth c s.heap [] 0 0 (MQ below (QRi r) args s 0 0 (fun _ => False)) (F0 m 4 ls []) := by
    intro n4
    induction n4 with
    | zero =>
        intro i1_4 i2_4 ls h
        cases h
    | succ n4 ih4 =>
        intro i1_4 i2_4 ls h hl
        replace h : B_X2_falseCoins_4 x0 (fx2 (B_X2_falseCoins_4 x0) n4) i1_4 i2_4 = some r := h
        unfold B_X2_falseCoins_4 at h
        refine lv_iload_n hx hb dX2_falseCoins_4 rfl (lv_at hl 2 rfl) ?_
        refine lv_aload_n hx hb dX2_falseCoins_5 rfl (lv_at hl 0 rfl) ?_
        replace h := bd h
        obtain ⟨t1, et1, h⟩ := h
        refine callRi (v := t1) (va_runV (As := []) (rest := [.int i2_4]) ⟨hx, hb, hml, hown, hts⟩ (c_X2_cases l D T a0 x0 t1 et1) (cwV 0 hts gX2_falseCoins_X2_cases rfl rfl rfl hdV_X2_cases ⟨Nat.le_of_ble_eq_true rfl, Nat.le_of_ble_eq_true rfl⟩) ⟨PB_blind, va_recv hK.1 hP (ci := 2) (q0 := 0) rfl rfl, PB_at hP hK⟩ rfl rfl hl.1 rfl (lv_room (Nat.le_of_ble_eq_true rfl)) dX2_falseCoins_6 ⟨Nat.zero_le _, Nat.zero_le _⟩) ?_
        refine lv_icmp_ge (tgt := 33) hx hb dX2_falseCoins_9 (by decide) (fun c2 => ?_) (fun c2 => ?_)
        · replace h := ip c2 h
          refine lv_iload_n hx hb dX2_falseCoins_33 rfl (lv_at hl 1 rfl) ?_
          exact W.iret hx hb hr (fun t ht hW => ⟨_, rfl, Option.some.inj h, ht⟩) (fun q hq => absurd hq List.not_mem_nil) dX2_falseCoins_34 hlocks
        replace h := im c2 h
        refine lv_aload_n hx hb dX2_falseCoins_12 rfl (lv_at hl 0 rfl) ?_
        refine lv_iload_n hx hb dX2_falseCoins_13 rfl (lv_at hl 2 rfl) ?_
        replace h := bd h
        obtain ⟨t3, et3, h⟩ := h
        refine callRi (v := t3) (va_runV (As := [.int i2_4]) (rest := []) ⟨hx, hb, hml, hown, hts⟩ (c_X2_isLeft l D T a0 x0 i2_4 t3 et3) (cwV 1 hts gX2_falseCoins_X2_isLeft rfl rfl rfl hdV_X2_isLeft ⟨Nat.le_of_ble_eq_true rfl, Nat.le_of_ble_eq_true rfl⟩) ⟨PB_blind, va_recv hK.1 hP (ci := 2) (q0 := 0) rfl rfl, PB_at hP hK⟩ rfl rfl hl.1 rfl (lv_room (Nat.le_of_ble_eq_true rfl)) dX2_falseCoins_14 ⟨Nat.zero_le _, Nat.zero_le _⟩) ?_
        refine lv_if_eq (tgt := 27) hx hb dX2_falseCoins_17 (by decide) (fun c4 => ?_) (fun c4 => ?_)
        · replace h := ip c4 h
          refine lv_iinc (v := i2_4 + 1) (lv' := [(2, .int (i2_4 + 1)), (0, .ref (a0 0)), (1, .int i1_4)]) hx hb dX2_falseCoins_27 hl (k := 2) rfl rfl (by decide) rfl (fun ls hl => ?_)
          refine lv_goto (tgt := 4) hx hb dX2_falseCoins_30 (by decide) ?_
          exact ih4 i1_4 (i2_4 + 1) ls h (lv_sub hl [1, 2, 0] rfl)
        replace h := im c4 h
        refine lv_iload_n hx hb dX2_falseCoins_20 rfl (lv_at hl 1 rfl) ?_
        refine lv_iload_n hx hb dX2_falseCoins_21 rfl (lv_at hl 2 rfl) ?_
        replace h := bd h
        obtain ⟨t5, et5, h⟩ := h
        refine callRi (v := t5) (va_runSN (As := [.int i2_4]) (rest := [.int i1_4]) ⟨hx, hb, hml, hown, hts⟩ (c_X4_coinBit l D T i2_4 t5 et5) ⟨va_cnB 1 hts gX2_falseCoins_X4_coinBit_n128 rfl rfl rfl (hK.2 (.methodLinkNest RX2 128 yX4_coinBit "LyingScale") (List.mem_of_getElem? (i := 7) rfl)) (hts (.initialized RX4) (List.mem_of_getElem? (i := 14) rfl)) hdS_X4_coinBit ⟨Nat.le_of_ble_eq_true rfl, Nat.le_of_ble_eq_true rfl⟩, (hts (.static yX4_coinBit) (List.mem_of_getElem? (i := 16) rfl)), trivial⟩ ⟨PB_blind, PB_at (hP.sub (ws' := ([] : va_W)) [] rfl) hK⟩ rfl rfl hl.1 rfl (lv_room (Nat.le_of_ble_eq_true rfl)) dX2_falseCoins_22 ⟨Nat.zero_le _, Nat.zero_le _⟩) ?_
        refine lv_ior hx hb dX2_falseCoins_25 ?_
        refine lv_istore_n (lv' := [(1, .int (i1_4 ||| t5)), (0, .ref (a0 0)), (2, .int i2_4)]) hx hb dX2_falseCoins_26 rfl hl (by decide) rfl (fun ls hl => ?_)
        refine lv_iinc (v := i2_4 + 1) (lv' := [(2, .int (i2_4 + 1)), (1, .int (i1_4 ||| t5)), (0, .ref (a0 0))]) hx hb dX2_falseCoins_27 hl (k := 2) rfl rfl (by decide) rfl (fun ls hl => ?_)
        refine lv_goto (tgt := 4) hx hb dX2_falseCoins_30 (by decide) ?_
        exact ih4 (i1_4 ||| t5) (i2_4 + 1) ls h (lv_sub hl [2, 1, 0] rfl)
  exact K4 1000 0 0 ls h (lv_sub hl [2, 1, 0] rfl)
set_option maxHeartbeats 4000000 in
set_option maxRecDepth 100000 in
theorem c_X2_number (l : Launch) (D : va_G) (T : Nat → ClassId) (a0 : Nat → Nat) (x0 : St) (v1 : Int32) (r : Int32) (h : F_X2_number x0 v1 = some r) : Met l yX2_number wsX2_number ({ frames := 3, cells := 0, slots := 0, locals := 64 } : Room) (va_Pc [.ref (a0 0), .int v1] (PB D T (stW T a0 (x0)))) (QRi r) 0 0 (fun _ => False) := by
  refine met_of (cc := cX2_number) (maxL := 2) (ret := (some .int)) (lv := [(0, .ref (a0 0)), (1, .int v1)]) (by decide) rfl (Nat.le_of_ble_eq_true rfl) rfl ?_
  intro p e s m args below meth c ls C0 hl hB
  obtain ⟨hx, hb, hr, hml, hown, hts, hlocks, hname⟩ := C0
  obtain ⟨hP, hK⟩ := hB
  unfold F_X2_number at h
  refine lv_iload_n hx hb dX2_number_0 rfl (lv_at hl 1 rfl) ?_
  by_cases c1 : v1 = 0
  · replace h := ip c1 h
    refine lv_tableIn (off := 47) (tgt := 48) hx hb dX2_number_1 (by rw [c1]; decide) (by rw [c1]; decide) (by rw [c1]; decide) (by decide) ?_
    refine lv_aload_n hx hb dX2_number_48 rfl (lv_at hl 0 rfl) ?_
    refine va_get (D := D) (ci := 2) (v := .int (x0.1 0)) (C := RX2) (T := TX2) (N := 9) hx hb hts inX2_number_2 hown hK.1 hP 0 rfl rfl 4 (by decide) (hts (.fieldLink RX2 33 "LyingScale$State" "coins" "I") (List.mem_of_getElem? (i := 1) rfl)) (fun _ h9 => h9) rfl dX2_number_49 ?_
    exact W.iret hx hb hr (fun t ht hW => ⟨_, rfl, Option.some.inj h, ht⟩) (fun q hq => absurd hq List.not_mem_nil) dX2_number_52 hlocks
  replace h := im c1 h
  by_cases c2 : v1 = 1
  · replace h := ip c2 h
    refine lv_tableIn (off := 52) (tgt := 53) hx hb dX2_number_1 (by rw [c2]; decide) (by rw [c2]; decide) (by rw [c2]; decide) (by decide) ?_
    refine lv_aload_n hx hb dX2_number_53 rfl (lv_at hl 0 rfl) ?_
    refine va_get (D := D) (ci := 2) (v := .int (x0.1 1)) (C := RX2) (T := TX2) (N := 9) hx hb hts inX2_number_2 hown hK.1 hP 0 rfl rfl 5 (by decide) (hts (.fieldLink RX2 37 "LyingScale$State" "limit" "I") (List.mem_of_getElem? (i := 2) rfl)) (fun _ h9 => h9) rfl dX2_number_54 ?_
    exact W.iret hx hb hr (fun t ht hW => ⟨_, rfl, Option.some.inj h, ht⟩) (fun q hq => absurd hq List.not_mem_nil) dX2_number_57 hlocks
  replace h := im c2 h
  by_cases c3 : v1 = 2
  · replace h := ip c3 h
    refine lv_tableIn (off := 57) (tgt := 58) hx hb dX2_number_1 (by rw [c3]; decide) (by rw [c3]; decide) (by rw [c3]; decide) (by decide) ?_
    refine lv_aload_n hx hb dX2_number_58 rfl (lv_at hl 0 rfl) ?_
    refine va_get (D := D) (ci := 2) (v := .ref (a0 1)) (C := RX2) (T := TX2) (N := 9) hx hb hts inX2_number_2 hown hK.1 hP 0 rfl rfl 0 (by decide) (hts (.fieldLink RX2 14 "LyingScale$State" "told" "LLyingScale$Weighings;") (List.mem_of_getElem? (i := 3) rfl)) (fun _ h9 => h9) rfl dX2_number_59 ?_
    refine va_getN (D := D) (ci := 3) (v := .int (x0.1 5)) (C := RX3) (T := TX3) (N := 4) hx hb hts inX2_number_3 hown hK.1 hP 1 rfl rfl 3 (by decide) (va_Nw.use rfl (hK.2 (.fieldLinkNest RX2 40 "LyingScale$Weighings" "count" "I" "LyingScale") (List.mem_of_getElem? (i := 6) rfl))) (fun _ h9 => h9) rfl dX2_number_62 ?_
    exact W.iret hx hb hr (fun t ht hW => ⟨_, rfl, Option.some.inj h, ht⟩) (fun q hq => absurd hq List.not_mem_nil) dX2_number_65 hlocks
  replace h := im c3 h
  by_cases c4 : v1 = 3
  · replace h := ip c4 h
    refine lv_tableIn (off := 65) (tgt := 66) hx hb dX2_number_1 (by rw [c4]; decide) (by rw [c4]; decide) (by rw [c4]; decide) (by decide) ?_
    refine lv_aload_n hx hb dX2_number_66 rfl (lv_at hl 0 rfl) ?_
    replace h := bd h
    obtain ⟨t5, et5, h⟩ := h
    refine callRi (v := t5) (va_runV (As := []) (rest := []) ⟨hx, hb, hml, hown, hts⟩ (c_X2_countLeft l D T a0 x0 t5 et5) (cwV 0 hts gX2_number_X2_countLeft rfl rfl rfl hdV_X2_countLeft ⟨Nat.le_of_ble_eq_true rfl, Nat.le_of_ble_eq_true rfl⟩) ⟨PB_blind, va_recv hK.1 hP (ci := 2) (q0 := 0) rfl rfl, PB_at hP hK⟩ rfl rfl hl.1 rfl (lv_room (Nat.le_of_ble_eq_true rfl)) dX2_number_67 ⟨Nat.zero_le _, Nat.zero_le _⟩) ?_
    exact W.iret hx hb hr (fun t ht hW => ⟨_, rfl, Option.some.inj h, ht⟩) (fun q hq => absurd hq List.not_mem_nil) dX2_number_70 hlocks
  replace h := im c4 h
  by_cases c6 : v1 = 4
  · replace h := ip c6 h
    refine lv_tableIn (off := 70) (tgt := 71) hx hb dX2_number_1 (by rw [c6]; decide) (by rw [c6]; decide) (by rw [c6]; decide) (by decide) ?_
    refine lv_aload_n hx hb dX2_number_71 rfl (lv_at hl 0 rfl) ?_
    refine va_get (D := D) (ci := 2) (v := .ref (a0 2)) (C := RX2) (T := TX2) (N := 9) hx hb hts inX2_number_2 hown hK.1 hP 0 rfl rfl 1 (by decide) (hts (.fieldLink RX2 20 "LyingScale$State" "plan" "LLyingScale$Weighings;") (List.mem_of_getElem? (i := 4) rfl)) (fun _ h9 => h9) rfl dX2_number_72 ?_
    refine va_getN (D := D) (ci := 3) (v := .int (x0.1 6)) (C := RX3) (T := TX3) (N := 4) hx hb hts inX2_number_3 hown hK.1 hP 2 rfl rfl 3 (by decide) (va_Nw.use rfl (hK.2 (.fieldLinkNest RX2 40 "LyingScale$Weighings" "count" "I" "LyingScale") (List.mem_of_getElem? (i := 6) rfl))) (fun _ h9 => h9) rfl dX2_number_75 ?_
    exact W.iret hx hb hr (fun t ht hW => ⟨_, rfl, Option.some.inj h, ht⟩) (fun q hq => absurd hq List.not_mem_nil) dX2_number_78 hlocks
  replace h := im c6 h
  by_cases c7 : v1 = 5
  · replace h := ip c7 h
    refine lv_tableIn (off := 78) (tgt := 79) hx hb dX2_number_1 (by rw [c7]; decide) (by rw [c7]; decide) (by rw [c7]; decide) (by decide) ?_
    refine lv_aload_n hx hb dX2_number_79 rfl (lv_at hl 0 rfl) ?_
    refine va_get (D := D) (ci := 2) (v := .int (x0.1 2)) (C := RX2) (T := TX2) (N := 9) hx hb hts inX2_number_2 hown hK.1 hP 0 rfl rfl 6 (by decide) (hts (.fieldLink RX2 58 "LyingScale$State" "hidden" "I") (List.mem_of_getElem? (i := 5) rfl)) (fun _ h9 => h9) rfl dX2_number_80 ?_
    exact W.iret hx hb hr (fun t ht hW => ⟨_, rfl, Option.some.inj h, ht⟩) (fun q hq => absurd hq List.not_mem_nil) dX2_number_83 hlocks
  replace h := im c7 h
  by_cases c8 : v1 = 6
  · replace h := ip c8 h
    refine lv_tableIn (off := 83) (tgt := 84) hx hb dX2_number_1 (by rw [c8]; decide) (by rw [c8]; decide) (by rw [c8]; decide) (by decide) ?_
    refine lv_aload_n hx hb dX2_number_84 rfl (lv_at hl 0 rfl) ?_
    refine va_get (D := D) (ci := 2) (v := .int (x0.1 4)) (C := RX2) (T := TX2) (N := 9) hx hb hts inX2_number_2 hown hK.1 hP 0 rfl rfl 8 (by decide) (hts (.fieldLink RX2 64 "LyingScale$State" "answered" "I") (List.mem_of_getElem? (i := 6) rfl)) (fun _ h9 => h9) rfl dX2_number_85 ?_
    exact W.iret hx hb hr (fun t ht hW => ⟨_, rfl, Option.some.inj h, ht⟩) (fun q hq => absurd hq List.not_mem_nil) dX2_number_88 hlocks
  replace h := im c8 h
  by_cases c9 : v1 = 7
  · replace h := ip c9 h
    refine lv_tableIn (off := 88) (tgt := 89) hx hb dX2_number_1 (by rw [c9]; decide) (by rw [c9]; decide) (by rw [c9]; decide) (by decide) ?_
    refine lv_aload_n hx hb dX2_number_89 rfl (lv_at hl 0 rfl) ?_
    replace h := bd h
    obtain ⟨t10, et10, h⟩ := h
    refine callRi (v := t10) (va_runV (As := []) (rest := []) ⟨hx, hb, hml, hown, hts⟩ (c_X2_falseCoins l D T a0 x0 t10 et10) (cwV 0 hts gX2_number_X2_falseCoins rfl rfl rfl hdV_X2_falseCoins ⟨Nat.le_of_ble_eq_true rfl, Nat.le_of_ble_eq_true rfl⟩) ⟨PB_blind, va_recv hK.1 hP (ci := 2) (q0 := 0) rfl rfl, PB_at hP hK⟩ rfl rfl hl.1 rfl (lv_room (Nat.le_of_ble_eq_true rfl)) dX2_number_90 ⟨Nat.zero_le _, Nat.zero_le _⟩) ?_
    exact W.iret hx hb hr (fun t ht hW => ⟨_, rfl, Option.some.inj h, ht⟩) (fun q hq => absurd hq List.not_mem_nil) dX2_number_93 hlocks
  replace h := im c9 h
  have qc1 := lv_neT c1 (a := 0) (by decide)
  have qc2 := lv_neT c2 (a := 1) (by decide)
  have qc3 := lv_neT c3 (a := 2) (by decide)
  have qc4 := lv_neT c4 (a := 3) (by decide)
  have qc6 := lv_neT c6 (a := 4) (by decide)
  have qc7 := lv_neT c7 (a := 5) (by decide)
  have qc8 := lv_neT c8 (a := 6) (by decide)
  have qc9 := lv_neT c9 (a := 7) (by decide)
  refine lv_tableOut (tgt := 94) hx hb dX2_number_1 (by omega) (by decide) ?_
  refine lv_aload_n hx hb dX2_number_94 rfl (lv_at hl 0 rfl) ?_
  refine lv_iconst (v := 0) hx hb dX2_number_95 (by decide) ?_
  replace h := bd h
  obtain ⟨t11, et11, h⟩ := h
  refine callRi (v := t11) (va_runV (As := [.int 0]) (rest := []) ⟨hx, hb, hml, hown, hts⟩ (c_X2_isLeft l D T a0 x0 0 t11 et11) (cwV 1 hts gX2_number_X2_isLeft rfl rfl rfl hdV_X2_isLeft ⟨Nat.le_of_ble_eq_true rfl, Nat.le_of_ble_eq_true rfl⟩) ⟨PB_blind, va_recv hK.1 hP (ci := 2) (q0 := 0) rfl rfl, PB_at hP hK⟩ rfl rfl hl.1 rfl (lv_room (Nat.le_of_ble_eq_true rfl)) dX2_number_96 ⟨Nat.zero_le _, Nat.zero_le _⟩) ?_
  refine lv_if_eq (tgt := 106) hx hb dX2_number_99 (by decide) (fun c12 => ?_) (fun c12 => ?_)
  · replace h := ip c12 h
    refine lv_iconst (v := 0) hx hb dX2_number_106 (by decide) ?_
    exact W.iret hx hb hr (fun t ht hW => ⟨_, rfl, Option.some.inj h, ht⟩) (fun q hq => absurd hq List.not_mem_nil) dX2_number_107 hlocks
  replace h := im c12 h
  refine lv_iconst (v := 1) hx hb dX2_number_102 (by decide) ?_
  refine lv_goto (tgt := 107) hx hb dX2_number_103 (by decide) ?_
  exact W.iret hx hb hr (fun t ht hW => ⟨_, rfl, Option.some.inj h, ht⟩) (fun q hq => absurd hq List.not_mem_nil) dX2_number_107 hlocks
set_option maxHeartbeats 4000000 in
set_option maxRecDepth 100000 in
theorem c_X2_volumeLeft (l : Launch) (D : va_G) (T : Nat → ClassId) (a0 : Nat → Nat) (x0 : St) (v1 : Int32) (v2 : Int32) (r : Int64) (h : F_X2_volumeLeft x0 v1 v2 = some r) : Met l yX2_volumeLeft wsX2_volumeLeft ({ frames := 2, cells := 0, slots := 0, locals := 50 } : Room) (va_Pc [.ref (a0 0), .int v1, .int v2] (PB D T (stW T a0 (x0)))) (QRl r) 0 0 (fun _ => False) := by
  refine met_of (cc := cX2_volumeLeft) (maxL := 3) (ret := (some .long)) (lv := [(0, .ref (a0 0)), (1, .int v1), (2, .int v2)]) (by decide) rfl (Nat.le_of_ble_eq_true rfl) rfl ?_
  intro p e s m args below meth c ls C0 hl hB
  obtain ⟨hx, hb, hr, hml, hown, hts, hlocks, hname⟩ := C0
  obtain ⟨hP, hK⟩ := hB
  unfold F_X2_volumeLeft at h
  refine lv_iload_n hx hb dX2_volumeLeft_0 rfl (lv_at hl 1 rfl) ?_
  refine lv_aload_n hx hb dX2_volumeLeft_1 rfl (lv_at hl 0 rfl) ?_
  refine va_get (D := D) (ci := 2) (v := .int (x0.1 1)) (C := RX2) (T := TX2) (N := 9) hx hb hts inX2_volumeLeft_2 hown hK.1 hP 0 rfl rfl 5 (by decide) (hts (.fieldLink RX2 37 "LyingScale$State" "limit" "I") (List.mem_of_getElem? (i := 1) rfl)) (fun _ h9 => h9) rfl dX2_volumeLeft_2 ?_
  refine lv_icmp_le (tgt := 12) hx hb dX2_volumeLeft_5 (by decide) (fun c1 => ?_) (fun c1 => ?_)
  · replace h := ip c1 h
    refine lv_iload_n hx hb dX2_volumeLeft_12 rfl (lv_at hl 2 rfl) ?_
    refine lv_aload_n hx hb dX2_volumeLeft_13 rfl (lv_at hl 0 rfl) ?_
    refine va_get (D := D) (ci := 2) (v := .int (x0.1 1)) (C := RX2) (T := TX2) (N := 9) hx hb hts inX2_volumeLeft_2 hown hK.1 hP 0 rfl rfl 5 (by decide) (hts (.fieldLink RX2 37 "LyingScale$State" "limit" "I") (List.mem_of_getElem? (i := 1) rfl)) (fun _ h9 => h9) rfl dX2_volumeLeft_14 ?_
    refine lv_iload_n hx hb dX2_volumeLeft_17 rfl (lv_at hl 1 rfl) ?_
    refine lv_isub hx hb dX2_volumeLeft_18 ?_
    replace h := bd h
    obtain ⟨t2, et2, h⟩ := h
    refine callRl (v := t2) (va_runSN (As := [.int v2, .int ((x0.1 1) - v1)]) (rest := []) ⟨hx, hb, hml, hown, hts⟩ (c_X4_volume l D T v2 ((x0.1 1) - v1) t2 et2) ⟨va_cnB 2 hts gX2_volumeLeft_X4_volume_n141 rfl rfl rfl (hK.2 (.methodLinkNest RX2 141 yX4_volume "LyingScale") (List.mem_of_getElem? (i := 8) rfl)) (hts (.initialized RX4) (List.mem_of_getElem? (i := 3) rfl)) hdS_X4_volume ⟨Nat.le_of_ble_eq_true rfl, Nat.le_of_ble_eq_true rfl⟩, (hts (.static yX4_volume) (List.mem_of_getElem? (i := 2) rfl)), trivial⟩ ⟨PB_blind, PB_at (hP.sub (ws' := ([] : va_W)) [] rfl) hK⟩ rfl rfl hl.1 rfl (lv_room (Nat.le_of_ble_eq_true rfl)) dX2_volumeLeft_19 ⟨Nat.zero_le _, Nat.zero_le _⟩) ?_
    exact W.lret hx hb hr (fun t ht hW => ⟨_, rfl, Option.some.inj h, ht⟩) (fun q hq => absurd hq List.not_mem_nil) dX2_volumeLeft_22 hlocks
  replace h := im c1 h
  refine lv_lconst (v := 0) hx hb dX2_volumeLeft_8 (by decide) ?_
  refine lv_goto (tgt := 22) hx hb dX2_volumeLeft_9 (by decide) ?_
  exact W.lret hx hb hr (fun t ht hW => ⟨_, rfl, Option.some.inj h, ht⟩) (fun q hq => absurd hq List.not_mem_nil) dX2_volumeLeft_22 hlocks
set_option maxHeartbeats 4000000 in
set_option maxRecDepth 100000 in
theorem c_X2_weightAhead (l : Launch) (D : va_G) (T : Nat → ClassId) (a0 : Nat → Nat) (x0 : St) (v1 : Int32) (r : Int64) (h : F_X2_weightAhead x0 v1 = some r) : Met l yX2_weightAhead wsX2_weightAhead ({ frames := 3, cells := 0, slots := 0, locals := 72 } : Room) (va_Pc [.ref (a0 0), .int v1] (PB D T (stW T a0 (x0)))) (QRl r) 0 0 (fun _ => False) := by
  refine met_of (cc := cX2_weightAhead) (maxL := 5) (ret := (some .long)) (lv := [(0, .ref (a0 0)), (1, .int v1)]) (by decide) rfl (Nat.le_of_ble_eq_true rfl) rfl ?_
  intro p e s m args below meth c ls C0 hl hB
  obtain ⟨hx, hb, hr, hml, hown, hts, hlocks, hname⟩ := C0
  obtain ⟨hP, hK⟩ := hB
  unfold F_X2_weightAhead at h
  refine lv_lconst (v := 0) hx hb dX2_weightAhead_0 (by decide) ?_
  refine lv_lstore_n (lv' := [(2, .long 0), (0, .ref (a0 0)), (1, .int v1)]) hx hb dX2_weightAhead_1 rfl hl (by decide) rfl (fun ls hl => ?_)
  refine lv_iconst (v := 0) hx hb dX2_weightAhead_2 (by decide) ?_
  refine lv_istore (lv' := [(4, .int 0), (2, .long 0), (0, .ref (a0 0)), (1, .int v1)]) hx hb dX2_weightAhead_3 hl (by decide) rfl (fun ls hl => ?_)
  have K5 : ∀ (n5 : Nat) (i2_5 : Int64) (i4_5 : Int32) (ls : Array Slot), fx2 (B_X2_weightAhead_5 x0 v1) n5 i2_5 i4_5 = some r → lv_has ls 5 [(0, .ref (a0 0)), (1, .int v1), (2, .long i2_5), (4, .int i4_5)] → W p l e ({ frames := 3, cells := 0, slots := 0, locals := 72 } : Room) s m args below meth c s.heap [] 0 0 (MQ below (QRl r) args s 0 0 (fun _ => False)) (F0 m 5 ls []) := by
    intro n5
    induction n5 with
    | zero =>
        intro i2_5 i4_5 ls h
        cases h
    | succ n5 ih5 =>
        intro i2_5 i4_5 ls h hl
        replace h : B_X2_weightAhead_5 x0 v1 (fx2 (B_X2_weightAhead_5 x0 v1) n5) i2_5 i4_5 = some r := h
        unfold B_X2_weightAhead_5 at h
        refine lv_iload hx hb dX2_weightAhead_5 (lv_at hl 3 rfl) ?_
        refine lv_aload_n hx hb dX2_weightAhead_7 rfl (lv_at hl 0 rfl) ?_
        replace h := bd h
        obtain ⟨t1, et1, h⟩ := h
        refine callRi (v := t1) (va_runV (As := []) (rest := [.int i4_5]) ⟨hx, hb, hml, hown, hts⟩ (c_X2_cases l D T a0 x0 t1 et1) (cwV 0 hts gX2_weightAhead_X2_cases rfl rfl rfl hdV_X2_cases ⟨Nat.le_of_ble_eq_true rfl, Nat.le_of_ble_eq_true rfl⟩) ⟨PB_blind, va_recv hK.1 hP (ci := 2) (q0 := 0) rfl rfl, PB_at hP hK⟩ rfl rfl hl.1 rfl (lv_room (Nat.le_of_ble_eq_true rfl)) dX2_weightAhead_8 ⟨Nat.zero_le _, Nat.zero_le _⟩) ?_
        refine lv_icmp_ge (tgt := 37) hx hb dX2_weightAhead_11 (by decide) (fun c2 => ?_) (fun c2 => ?_)
        · replace h := ip c2 h
          refine lv_lload_n hx hb dX2_weightAhead_37 rfl (lv_at hl 2 rfl) ?_
          exact W.lret hx hb hr (fun t ht hW => ⟨_, rfl, Option.some.inj h, ht⟩) (fun q hq => absurd hq List.not_mem_nil) dX2_weightAhead_38 hlocks
        replace h := im c2 h
        refine lv_lload_n hx hb dX2_weightAhead_14 rfl (lv_at hl 2 rfl) ?_
        refine lv_aload_n hx hb dX2_weightAhead_15 rfl (lv_at hl 0 rfl) ?_
        refine lv_aload_n hx hb dX2_weightAhead_16 rfl (lv_at hl 0 rfl) ?_
        refine va_get (D := D) (ci := 2) (v := .ref (a0 3)) (C := RX2) (T := TX2) (N := 9) hx hb hts inX2_weightAhead_2 hown hK.1 hP 0 rfl rfl 2 (by decide) (hts (.fieldLink RX2 23 "LyingScale$State" "liesOf" "[I") (List.mem_of_getElem? (i := 1) rfl)) (fun _ h9 => h9) rfl dX2_weightAhead_17 ?_
        refine lv_iload hx hb dX2_weightAhead_20 (lv_at hl 3 rfl) ?_
        replace h := bd h
        obtain ⟨t3, et3, h⟩ := h
        refine callRi (v := t3) (va_runSN (As := [.ref (a0 3), .int i4_5]) (rest := [.ref (a0 0), .long i2_5]) ⟨hx, hb, hml, hown, hts⟩ (c_X4_at l D T (a0 3) 33 (x0.2 6) i4_5 (Nat.le_of_ble_eq_true rfl) t3 et3) ⟨va_cnB 2 hts gX2_weightAhead_X4_at_n89 rfl rfl rfl (hK.2 (.methodLinkNest RX2 89 yX4_at "LyingScale") (List.mem_of_getElem? (i := 11) rfl)) (hts (.initialized RX4) (List.mem_of_getElem? (i := 9) rfl)) hdS_X4_at ⟨Nat.le_of_ble_eq_true rfl, Nat.le_of_ble_eq_true rfl⟩, (hts (.static yX4_at) (List.mem_of_getElem? (i := 8) rfl)), trivial⟩ ⟨PB_blind, PB_at (hP.sub (ws' := ([(a0 3, .inl (T 0, 33, .inl (x0.2 6)))] : va_W)) [3] rfl) hK⟩ rfl rfl hl.1 rfl (lv_room (Nat.le_of_ble_eq_true rfl)) dX2_weightAhead_22 ⟨Nat.zero_le _, Nat.zero_le _⟩) ?_
        refine lv_iload_n hx hb dX2_weightAhead_25 rfl (lv_at hl 1 rfl) ?_
        replace h := bd h
        obtain ⟨t4, et4, h⟩ := h
        refine callRl (v := t4) (va_runV (As := [.int t3, .int v1]) (rest := [.long i2_5]) ⟨hx, hb, hml, hown, hts⟩ (c_X2_volumeLeft l D T a0 x0 t3 v1 t4 et4) (cwV 2 hts gX2_weightAhead_X2_volumeLeft rfl rfl rfl hdV_X2_volumeLeft ⟨Nat.le_of_ble_eq_true rfl, Nat.le_of_ble_eq_true rfl⟩) ⟨PB_blind, va_recv hK.1 hP (ci := 2) (q0 := 0) rfl rfl, PB_at hP hK⟩ rfl rfl hl.1 rfl (lv_room (Nat.le_of_ble_eq_true rfl)) dX2_weightAhead_26 ⟨Nat.zero_le _, Nat.zero_le _⟩) ?_
        refine lv_ladd hx hb dX2_weightAhead_29 ?_
        refine lv_lstore_n (lv' := [(2, .long (i2_5 + t4)), (0, .ref (a0 0)), (1, .int v1), (4, .int i4_5)]) hx hb dX2_weightAhead_30 rfl hl (by decide) rfl (fun ls hl => ?_)
        refine lv_iinc (v := i4_5 + 1) (lv' := [(4, .int (i4_5 + 1)), (2, .long (i2_5 + t4)), (0, .ref (a0 0)), (1, .int v1)]) hx hb dX2_weightAhead_31 hl (k := 3) rfl rfl (by decide) rfl (fun ls hl => ?_)
        refine lv_goto (tgt := 5) hx hb dX2_weightAhead_34 (by decide) ?_
        exact ih5 (i2_5 + t4) (i4_5 + 1) ls h (lv_sub hl [2, 3, 1, 0] rfl)
  exact K5 1000 0 0 ls h (lv_sub hl [2, 3, 1, 0] rfl)
set_option maxHeartbeats 4000000 in
set_option maxRecDepth 100000 in
theorem c_X2_weightIfTold (l : Launch) (D : va_G) (T : Nat → ClassId) (a0 : Nat → Nat) (x0 : St) (v1 : Int32) (v2 : Int32) (v3 : Int32) (v4 : Int32) (r : Int64) (h : F_X2_weightIfTold x0 v1 v2 v3 v4 = some r) : Met l yX2_weightIfTold wsX2_weightIfTold ({ frames := 3, cells := 0, slots := 0, locals := 72 } : Room) (va_Pc [.ref (a0 0), .int v1, .int v2, .int v3, .int v4] (PB D T (stW T a0 (x0)))) (QRl r) 0 0 (fun _ => False) := by
  refine met_of (cc := cX2_weightIfTold) (maxL := 8) (ret := (some .long)) (lv := [(0, .ref (a0 0)), (1, .int v1), (2, .int v2), (3, .int v3), (4, .int v4)]) (by decide) rfl (Nat.le_of_ble_eq_true rfl) rfl ?_
  intro p e s m args below meth c ls C0 hl hB
  obtain ⟨hx, hb, hr, hml, hown, hts, hlocks, hname⟩ := C0
  obtain ⟨hP, hK⟩ := hB
  unfold F_X2_weightIfTold at h
  refine lv_lconst (v := 0) hx hb dX2_weightIfTold_0 (by decide) ?_
  refine lv_lstore (lv' := [(5, .long 0), (0, .ref (a0 0)), (1, .int v1), (2, .int v2), (3, .int v3), (4, .int v4)]) hx hb dX2_weightIfTold_1 hl (by decide) rfl (fun ls hl => ?_)
  refine lv_iconst (v := 0) hx hb dX2_weightIfTold_3 (by decide) ?_
  refine lv_istore (lv' := [(7, .int 0), (5, .long 0), (0, .ref (a0 0)), (1, .int v1), (2, .int v2), (3, .int v3), (4, .int v4)]) hx hb dX2_weightIfTold_4 hl (by decide) rfl (fun ls hl => ?_)
  have K6 : ∀ (n6 : Nat) (i5_6 : Int64) (i7_6 : Int32) (ls : Array Slot), fx2 (B_X2_weightIfTold_6 x0 v1 v2 v3 v4) n6 i5_6 i7_6 = some r → lv_has ls 8 [(0, .ref (a0 0)), (1, .int v1), (2, .int v2), (3, .int v3), (4, .int v4), (5, .long i5_6), (7, .int i7_6)] → W p l e ({ frames := 3, cells := 0, slots := 0, locals := 72 } : Room) s m args below meth c s.heap [] 0 0 (MQ below (QRl r) args s 0 0 (fun _ => False)) (F0 m 6 ls []) := by
    intro n6
    induction n6 with
    | zero =>
        intro i5_6 i7_6 ls h
        cases h
    | succ n6 ih6 =>
        intro i5_6 i7_6 ls h hl
        replace h : B_X2_weightIfTold_6 x0 v1 v2 v3 v4 (fx2 (B_X2_weightIfTold_6 x0 v1 v2 v3 v4) n6) i5_6 i7_6 = some r := h
        unfold B_X2_weightIfTold_6 at h
        refine lv_iload hx hb dX2_weightIfTold_6 (lv_at hl 6 rfl) ?_
        refine lv_aload_n hx hb dX2_weightIfTold_8 rfl (lv_at hl 0 rfl) ?_
        replace h := bd h
        obtain ⟨t1, et1, h⟩ := h
        refine callRi (v := t1) (va_runV (As := []) (rest := [.int i7_6]) ⟨hx, hb, hml, hown, hts⟩ (c_X2_cases l D T a0 x0 t1 et1) (cwV 0 hts gX2_weightIfTold_X2_cases rfl rfl rfl hdV_X2_cases ⟨Nat.le_of_ble_eq_true rfl, Nat.le_of_ble_eq_true rfl⟩) ⟨PB_blind, va_recv hK.1 hP (ci := 2) (q0 := 0) rfl rfl, PB_at hP hK⟩ rfl rfl hl.1 rfl (lv_room (Nat.le_of_ble_eq_true rfl)) dX2_weightIfTold_9 ⟨Nat.zero_le _, Nat.zero_le _⟩) ?_
        refine lv_icmp_ge (tgt := 41) hx hb dX2_weightIfTold_12 (by decide) (fun c2 => ?_) (fun c2 => ?_)
        · replace h := ip c2 h
          refine lv_lload hx hb dX2_weightIfTold_41 (lv_at hl 5 rfl) ?_
          exact W.lret hx hb hr (fun t ht hW => ⟨_, rfl, Option.some.inj h, ht⟩) (fun q hq => absurd hq List.not_mem_nil) dX2_weightIfTold_43 hlocks
        replace h := im c2 h
        refine lv_lload hx hb dX2_weightIfTold_15 (lv_at hl 5 rfl) ?_
        refine lv_aload_n hx hb dX2_weightIfTold_17 rfl (lv_at hl 0 rfl) ?_
        refine lv_aload_n hx hb dX2_weightIfTold_18 rfl (lv_at hl 0 rfl) ?_
        refine lv_iload hx hb dX2_weightIfTold_19 (lv_at hl 6 rfl) ?_
        refine lv_iload_n hx hb dX2_weightIfTold_21 rfl (lv_at hl 1 rfl) ?_
        refine lv_iload_n hx hb dX2_weightIfTold_22 rfl (lv_at hl 2 rfl) ?_
        refine lv_iload_n hx hb dX2_weightIfTold_23 rfl (lv_at hl 3 rfl) ?_
        replace h := bd h
        obtain ⟨t3, et3, h⟩ := h
        refine callRi (v := t3) (va_runV (As := [.int i7_6, .int v1, .int v2, .int v3]) (rest := [.ref (a0 0), .long i5_6]) ⟨hx, hb, hml, hown, hts⟩ (c_X2_liesIfTold l D T a0 x0 i7_6 v1 v2 v3 t3 et3) (cwV 4 hts gX2_weightIfTold_X2_liesIfTold rfl rfl rfl hdV_X2_liesIfTold ⟨Nat.le_of_ble_eq_true rfl, Nat.le_of_ble_eq_true rfl⟩) ⟨PB_blind, va_recv hK.1 hP (ci := 2) (q0 := 0) rfl rfl, PB_at hP hK⟩ rfl rfl hl.1 rfl (lv_room (Nat.le_of_ble_eq_true rfl)) dX2_weightIfTold_24 ⟨Nat.zero_le _, Nat.zero_le _⟩) ?_
        refine lv_iload hx hb dX2_weightIfTold_27 (lv_at hl 4 rfl) ?_
        replace h := bd h
        obtain ⟨t4, et4, h⟩ := h
        refine callRl (v := t4) (va_runV (As := [.int t3, .int v4]) (rest := [.long i5_6]) ⟨hx, hb, hml, hown, hts⟩ (c_X2_volumeLeft l D T a0 x0 t3 v4 t4 et4) (cwV 2 hts gX2_weightIfTold_X2_volumeLeft rfl rfl rfl hdV_X2_volumeLeft ⟨Nat.le_of_ble_eq_true rfl, Nat.le_of_ble_eq_true rfl⟩) ⟨PB_blind, va_recv hK.1 hP (ci := 2) (q0 := 0) rfl rfl, PB_at hP hK⟩ rfl rfl hl.1 rfl (lv_room (Nat.le_of_ble_eq_true rfl)) dX2_weightIfTold_29 ⟨Nat.zero_le _, Nat.zero_le _⟩) ?_
        refine lv_ladd hx hb dX2_weightIfTold_32 ?_
        refine lv_lstore (lv' := [(5, .long (i5_6 + t4)), (0, .ref (a0 0)), (1, .int v1), (2, .int v2), (3, .int v3), (4, .int v4), (7, .int i7_6)]) hx hb dX2_weightIfTold_33 hl (by decide) rfl (fun ls hl => ?_)
        refine lv_iinc (v := i7_6 + 1) (lv' := [(7, .int (i7_6 + 1)), (5, .long (i5_6 + t4)), (0, .ref (a0 0)), (1, .int v1), (2, .int v2), (3, .int v3), (4, .int v4)]) hx hb dX2_weightIfTold_35 hl (k := 6) rfl rfl (by decide) rfl (fun ls hl => ?_)
        refine lv_goto (tgt := 6) hx hb dX2_weightIfTold_38 (by decide) ?_
        exact ih6 (i5_6 + t4) (i7_6 + 1) ls h (lv_sub hl [2, 3, 4, 5, 6, 1, 0] rfl)
  exact K6 1000 0 0 ls h (lv_sub hl [2, 3, 4, 5, 6, 1, 0] rfl)
set_option maxHeartbeats 4000000 in
set_option maxRecDepth 100000 in
theorem c_X2_copyFrom (l : Launch) (D : va_G) (T : Nat → ClassId) (a0 : Nat → Nat) (x0 : St) (a1 : Nat → Nat) (x1 : St) (sz : Nat) (r : St) (h : F_X2_copyFrom x0 x1 = some r) : Met l yX2_copyFrom wsX2_copyFrom ({ frames := 3, cells := 0, slots := 0, locals := 65 } : Room) (va_Pc [.ref (a0 0), .ref (a1 0)] (PM D T (stW T a0 (x0) ++ stW T a1 (x1)) sz)) (QMv D (stW T a0 (r) ++ stW T a1 (x1)) (va_A (stW T a0 (x0) ++ stW T a1 (x1)) sz)) 0 0 (va_A (stW T a0 (x0) ++ stW T a1 (x1)) sz) := by
  refine met_of (cc := cX2_copyFrom) (maxL := 2) (ret := none) (lv := [(0, .ref (a0 0)), (1, .ref (a1 0))]) (by decide) rfl (Nat.le_of_ble_eq_true rfl) rfl ?_
  intro p e s m args below meth c ls C0 hl hB
  obtain ⟨hx, hb, hr, hml, hown, hts, hlocks, hname⟩ := C0
  obtain ⟨hsz, hP, hK, hD0⟩ := hB
  subst hsz
  have hD := hD0.self (sz := s.heap.size)
  generalize hAe : va_A (stW T a0 (x0) ++ stW T a1 (x1)) s.heap.size = A at hD ⊢
  have hA : ∀ q : Nat, s.heap.size ≤ q → A q := fun q h => by rw [← hAe]; exact Or.inr h
  obtain ⟨H, hH⟩ : ∃ H, H = s.heap := ⟨_, rfl⟩
  obtain ⟨locs, hlo⟩ : ∃ L : List Loc, L = [] := ⟨_, rfl⟩
  have hS : va_S A s.heap s.heap [] := va_S.rf
  rw [← hH] at hP ⊢
  rw [← hlo]
  replace hS : va_S A s.heap H locs := by rw [hH, hlo]; exact hS
  clear hH hlo
  unfold F_X2_copyFrom at h
  refine lv_aload_n hx hb dX2_copyFrom_0 rfl (lv_at hl 0 rfl) ?_
  refine va_get (D := D) (ci := 2) (v := .ref (a0 1)) (C := RX2) (T := TX2) (N := 9) hx hb hts inX2_copyFrom_2 hown hK.1 hP 0 rfl rfl 0 (by decide) (hts (.fieldLink RX2 14 "LyingScale$State" "told" "LLyingScale$Weighings;") (List.mem_of_getElem? (i := 1) rfl)) (fun _ h9 => h9) rfl dX2_copyFrom_1 ?_
  refine lv_aload_n hx hb dX2_copyFrom_4 rfl (lv_at hl 1 rfl) ?_
  refine va_get (D := D) (ci := 2) (v := .ref (a1 1)) (C := RX2) (T := TX2) (N := 9) hx hb hts inX2_copyFrom_2 hown hK.1 hP 11 rfl rfl 0 (by decide) (hts (.fieldLink RX2 14 "LyingScale$State" "told" "LLyingScale$Weighings;") (List.mem_of_getElem? (i := 1) rfl)) (fun _ h9 => h9) rfl dX2_copyFrom_5 ?_
  replace h := bd h
  obtain ⟨t1, et1, h⟩ := h
  refine callMv (wr := [(a0 0, .inr (2, [.ref (a0 1), .ref (a0 2), .ref (a0 3), .ref (a0 4), .int (x0.1 0), .int (x0.1 1), .int (x0.1 2), .int (x0.1 3), .int (x0.1 4)])), (a0 2, .inr (3, [.ref (a0 8), .ref (a0 9), .ref (a0 10), .int (x0.1 6)])), (a0 3, .inl (T 0, 33, .inl (x0.2 6))), (a0 4, .inl (T 0, 33, .inl (x0.2 7))), (a0 8, .inl (T 0, 8, .inl (x0.2 3))), (a0 9, .inl (T 0, 8, .inl (x0.2 4))), (a0 10, .inl (T 0, 8, .inl (x0.2 5))), (a1 0, .inr (2, [.ref (a1 1), .ref (a1 2), .ref (a1 3), .ref (a1 4), .int (x1.1 0), .int (x1.1 1), .int (x1.1 2), .int (x1.1 3), .int (x1.1 4)])), (a1 2, .inr (3, [.ref (a1 8), .ref (a1 9), .ref (a1 10), .int (x1.1 6)])), (a1 3, .inl (T 0, 33, .inl (x1.2 6))), (a1 4, .inl (T 0, 33, .inl (x1.2 7))), (a1 8, .inl (T 0, 8, .inl (x1.2 3))), (a1 9, .inl (T 0, 8, .inl (x1.2 4))), (a1 10, .inl (T 0, 8, .inl (x1.2 5)))]) (ws' := stW T a0 (tdU x0 t1) ++ stW T a1 (x1)) (va_runV (As := [.ref (a1 1)]) (rest := []) ⟨hx, hb, hml, hown, hts⟩ (c_X3_copyFrom l D T (tdA a0) 40 (tdS x0) (tdA a1) 40 (tdS x1) _ (Nat.le_of_ble_eq_true rfl) (Nat.le_of_ble_eq_true rfl) t1 et1) (cwV 1 hts gX2_copyFrom_X3_copyFrom rfl rfl rfl hdV_X3_copyFrom ⟨Nat.le_of_ble_eq_true rfl, Nat.le_of_ble_eq_true rfl⟩) ⟨PM_blind, va_recv hK.1 hP (ci := 3) (q0 := 1) rfl rfl, PM_at (hP.sub (ws' := wgW T 40 (tdA a0) (tdS x0) ++ wgW T 40 (tdA a1) (tdS x1)) [1, 5, 6, 7, 12, 16, 17, 18] rfl) (hD.sub (ws' := wgW T 40 (tdA a0) (tdS x0) ++ wgW T 40 (tdA a1) (tdS x1)) [1, 5, 6, 7, 12, 16, 17, 18] (by decide) rfl) hK⟩ rfl rfl hl.1 rfl (lv_room (Nat.le_of_ble_eq_true rfl)) dX2_copyFrom_8 ⟨Nat.zero_le _, Nat.zero_le _⟩) hS hA hP hD [1, 5, 6, 7, 12, 16, 17, 18] [0, 2, 3, 4, 8, 9, 10, 11, 13, 14, 15, 19, 20, 21] rfl rfl (by decide) (by decide) [0, 14, 1, 2, 3, 15, 16, 17, 4, 5, 6, 7, 18, 8, 9, 10, 19, 20, 21, 11, 12, 13] (by decide) rfl (fun H locs hP hD hS => ?_)
  refine lv_aload_n hx hb dX2_copyFrom_11 rfl (lv_at hl 0 rfl) ?_
  refine va_get (D := D) (ci := 2) (v := .ref (a0 2)) (C := RX2) (T := TX2) (N := 9) hx hb hts inX2_copyFrom_2 hown hK.1 hP 0 rfl rfl 1 (by decide) (hts (.fieldLink RX2 20 "LyingScale$State" "plan" "LLyingScale$Weighings;") (List.mem_of_getElem? (i := 2) rfl)) (fun _ h9 => h9) rfl dX2_copyFrom_12 ?_
  refine lv_aload_n hx hb dX2_copyFrom_15 rfl (lv_at hl 1 rfl) ?_
  refine va_get (D := D) (ci := 2) (v := .ref (a1 2)) (C := RX2) (T := TX2) (N := 9) hx hb hts inX2_copyFrom_2 hown hK.1 hP 11 rfl rfl 1 (by decide) (hts (.fieldLink RX2 20 "LyingScale$State" "plan" "LLyingScale$Weighings;") (List.mem_of_getElem? (i := 2) rfl)) (fun _ h9 => h9) rfl dX2_copyFrom_16 ?_
  replace h := bd h
  obtain ⟨t2, et2, h⟩ := h
  refine callMv (wr := [(a0 0, .inr (2, [.ref (a0 1), .ref (a0 2), .ref (a0 3), .ref (a0 4), .int ((tdU x0 t1).1 0), .int ((tdU x0 t1).1 1), .int ((tdU x0 t1).1 2), .int ((tdU x0 t1).1 3), .int ((tdU x0 t1).1 4)])), (a0 1, .inr (3, [.ref (a0 5), .ref (a0 6), .ref (a0 7), .int ((tdU x0 t1).1 5)])), (a0 3, .inl (T 0, 33, .inl ((tdU x0 t1).2 6))), (a0 4, .inl (T 0, 33, .inl ((tdU x0 t1).2 7))), (a0 5, .inl (T 0, 40, .inl ((tdU x0 t1).2 0))), (a0 6, .inl (T 0, 40, .inl ((tdU x0 t1).2 1))), (a0 7, .inl (T 0, 40, .inl ((tdU x0 t1).2 2))), (a1 0, .inr (2, [.ref (a1 1), .ref (a1 2), .ref (a1 3), .ref (a1 4), .int (x1.1 0), .int (x1.1 1), .int (x1.1 2), .int (x1.1 3), .int (x1.1 4)])), (a1 1, .inr (3, [.ref (a1 5), .ref (a1 6), .ref (a1 7), .int (x1.1 5)])), (a1 3, .inl (T 0, 33, .inl (x1.2 6))), (a1 4, .inl (T 0, 33, .inl (x1.2 7))), (a1 5, .inl (T 0, 40, .inl (x1.2 0))), (a1 6, .inl (T 0, 40, .inl (x1.2 1))), (a1 7, .inl (T 0, 40, .inl (x1.2 2)))]) (ws' := stW T a0 (plU (tdU x0 t1) t2) ++ stW T a1 (x1)) (va_runV (As := [.ref (a1 2)]) (rest := []) ⟨hx, hb, hml, hown, hts⟩ (c_X3_copyFrom l D T (plA a0) 8 (plS (tdU x0 t1)) (plA a1) 8 (plS x1) _ (Nat.le_of_ble_eq_true rfl) (Nat.le_of_ble_eq_true rfl) t2 et2) (cwV 1 hts gX2_copyFrom_X3_copyFrom rfl rfl rfl hdV_X3_copyFrom ⟨Nat.le_of_ble_eq_true rfl, Nat.le_of_ble_eq_true rfl⟩) ⟨PM_blind, va_recv hK.1 hP (ci := 3) (q0 := 2) rfl rfl, PM_at (hP.sub (ws' := wgW T 8 (plA a0) (plS (tdU x0 t1)) ++ wgW T 8 (plA a1) (plS x1)) [2, 8, 9, 10, 13, 19, 20, 21] rfl) (hD.sub (ws' := wgW T 8 (plA a0) (plS (tdU x0 t1)) ++ wgW T 8 (plA a1) (plS x1)) [2, 8, 9, 10, 13, 19, 20, 21] (by decide) rfl) hK⟩ rfl rfl hl.1 rfl (lv_room (Nat.le_of_ble_eq_true rfl)) dX2_copyFrom_19 ⟨Nat.zero_le _, Nat.zero_le _⟩) hS hA hP hD [2, 8, 9, 10, 13, 19, 20, 21] [0, 1, 3, 4, 5, 6, 7, 11, 12, 14, 15, 16, 17, 18] rfl rfl (by decide) (by decide) [0, 1, 14, 2, 3, 4, 5, 6, 15, 16, 17, 7, 8, 18, 9, 10, 11, 12, 13, 19, 20, 21] (by decide) rfl (fun H locs hP hD hS => ?_)
  refine lv_aload_n hx hb dX2_copyFrom_22 rfl (lv_at hl 1 rfl) ?_
  refine va_get (D := D) (ci := 2) (v := .ref (a1 3)) (C := RX2) (T := TX2) (N := 9) hx hb hts inX2_copyFrom_2 hown hK.1 hP 11 rfl rfl 2 (by decide) (hts (.fieldLink RX2 23 "LyingScale$State" "liesOf" "[I") (List.mem_of_getElem? (i := 3) rfl)) (fun _ h9 => h9) rfl dX2_copyFrom_23 ?_
  refine lv_aload_n hx hb dX2_copyFrom_26 rfl (lv_at hl 0 rfl) ?_
  refine va_get (D := D) (ci := 2) (v := .ref (a0 3)) (C := RX2) (T := TX2) (N := 9) hx hb hts inX2_copyFrom_2 hown hK.1 hP 0 rfl rfl 2 (by decide) (hts (.fieldLink RX2 23 "LyingScale$State" "liesOf" "[I") (List.mem_of_getElem? (i := 3) rfl)) (fun _ h9 => h9) rfl dX2_copyFrom_27 ?_
  replace h := bd h
  obtain ⟨t3, et3, h⟩ := h
  refine callMv (wr := [(a0 0, .inr (2, [.ref (a0 1), .ref (a0 2), .ref (a0 3), .ref (a0 4), .int ((plU (tdU x0 t1) t2).1 0), .int ((plU (tdU x0 t1) t2).1 1), .int ((plU (tdU x0 t1) t2).1 2), .int ((plU (tdU x0 t1) t2).1 3), .int ((plU (tdU x0 t1) t2).1 4)])), (a0 1, .inr (3, [.ref (a0 5), .ref (a0 6), .ref (a0 7), .int ((plU (tdU x0 t1) t2).1 5)])), (a0 2, .inr (3, [.ref (a0 8), .ref (a0 9), .ref (a0 10), .int ((plU (tdU x0 t1) t2).1 6)])), (a0 4, .inl (T 0, 33, .inl ((plU (tdU x0 t1) t2).2 7))), (a0 5, .inl (T 0, 40, .inl ((plU (tdU x0 t1) t2).2 0))), (a0 6, .inl (T 0, 40, .inl ((plU (tdU x0 t1) t2).2 1))), (a0 7, .inl (T 0, 40, .inl ((plU (tdU x0 t1) t2).2 2))), (a0 8, .inl (T 0, 8, .inl ((plU (tdU x0 t1) t2).2 3))), (a0 9, .inl (T 0, 8, .inl ((plU (tdU x0 t1) t2).2 4))), (a0 10, .inl (T 0, 8, .inl ((plU (tdU x0 t1) t2).2 5))), (a1 0, .inr (2, [.ref (a1 1), .ref (a1 2), .ref (a1 3), .ref (a1 4), .int (x1.1 0), .int (x1.1 1), .int (x1.1 2), .int (x1.1 3), .int (x1.1 4)])), (a1 1, .inr (3, [.ref (a1 5), .ref (a1 6), .ref (a1 7), .int (x1.1 5)])), (a1 2, .inr (3, [.ref (a1 8), .ref (a1 9), .ref (a1 10), .int (x1.1 6)])), (a1 4, .inl (T 0, 33, .inl (x1.2 7))), (a1 5, .inl (T 0, 40, .inl (x1.2 0))), (a1 6, .inl (T 0, 40, .inl (x1.2 1))), (a1 7, .inl (T 0, 40, .inl (x1.2 2))), (a1 8, .inl (T 0, 8, .inl (x1.2 3))), (a1 9, .inl (T 0, 8, .inl (x1.2 4))), (a1 10, .inl (T 0, 8, .inl (x1.2 5)))]) (ws' := stW T a0 (sA (plU (tdU x0 t1) t2) 6 t3) ++ stW T a1 (x1)) (va_runSN (As := [.ref (a1 3), .ref (a0 3)]) (rest := []) ⟨hx, hb, hml, hown, hts⟩ (c_X4_copyRow l D T (a1 3) 33 (x1.2 6) (a0 3) 33 ((plU (tdU x0 t1) t2).2 6) _ (Nat.le_of_ble_eq_true rfl) (Nat.le_of_ble_eq_true rfl) t3 et3) ⟨va_cnB 2 hts gX2_copyFrom_X4_copyRow_n54 rfl rfl rfl (hK.2 (.methodLinkNest RX2 54 yX4_copyRow "LyingScale") (List.mem_of_getElem? (i := 9) rfl)) (hts (.initialized RX4) (List.mem_of_getElem? (i := 19) rfl)) hdS_X4_copyRow ⟨Nat.le_of_ble_eq_true rfl, Nat.le_of_ble_eq_true rfl⟩, (hts (.static yX4_copyRow) (List.mem_of_getElem? (i := 18) rfl)), trivial⟩ ⟨PM_blind, PM_at (hP.sub (ws' := ([(a1 3, .inl (T 0, 33, .inl (x1.2 6)))] : va_W) ++ ([(a0 3, .inl (T 0, 33, .inl ((plU (tdU x0 t1) t2).2 6)))] : va_W)) [14, 3] rfl) (hD.sub (ws' := ([(a1 3, .inl (T 0, 33, .inl (x1.2 6)))] : va_W) ++ ([(a0 3, .inl (T 0, 33, .inl ((plU (tdU x0 t1) t2).2 6)))] : va_W)) [14, 3] (by decide) rfl) hK⟩ rfl rfl hl.1 rfl (lv_room (Nat.le_of_ble_eq_true rfl)) dX2_copyFrom_30 ⟨Nat.zero_le _, Nat.zero_le _⟩) hS hA hP hD [14, 3] [0, 1, 2, 4, 5, 6, 7, 8, 9, 10, 11, 12, 13, 15, 16, 17, 18, 19, 20, 21] rfl rfl (by decide) (by decide) [0, 1, 2, 21, 3, 4, 5, 6, 7, 8, 9, 10, 11, 12, 20, 13, 14, 15, 16, 17, 18, 19] (by decide) rfl (fun H locs hP hD hS => ?_)
  refine lv_aload_n hx hb dX2_copyFrom_33 rfl (lv_at hl 0 rfl) ?_
  refine lv_aload_n hx hb dX2_copyFrom_34 rfl (lv_at hl 1 rfl) ?_
  refine va_get (D := D) (ci := 2) (v := .int (x1.1 0)) (C := RX2) (T := TX2) (N := 9) hx hb hts inX2_copyFrom_2 hown hK.1 hP 11 rfl rfl 4 (by decide) (hts (.fieldLink RX2 33 "LyingScale$State" "coins" "I") (List.mem_of_getElem? (i := 4) rfl)) (fun _ h9 => h9) rfl dX2_copyFrom_35 ?_
  refine va_put (D := D) (ci := 2) (v := .int (x1.1 0)) (ty := .int) (C := RX2) (T := TX2) (N := 9) hx hb hts inX2_copyFrom_2 tyX2 tyX2_ok nmX2 hown hK.1 hP hD hS 0 rfl rfl 4 (by decide) (hts (.fieldLink RX2 33 "LyingScale$State" "coins" "I") (List.mem_of_getElem? (i := 4) rfl)) (fun _ h9 => h9) rfl (by decide +kernel) rfl rfl (Nat.le_of_ble_eq_true rfl) dX2_copyFrom_38 (fun H locs hP hD hS => ?_)
  replace hP : va_P D vwCl (stW T a0 (sI (sA (plU (tdU x0 t1) t2) 6 t3) 0 (x1.1 0)) ++ stW T a1 (x1)) H := hP
  replace hD : va_D A (stW T a0 (sI (sA (plU (tdU x0 t1) t2) 6 t3) 0 (x1.1 0)) ++ stW T a1 (x1)) := hD
  replace h := bd h
  obtain ⟨y4, ey4, h⟩ := h
  rw [Option.some.inj ey4] at hP hD
  refine lv_aload_n hx hb dX2_copyFrom_41 rfl (lv_at hl 0 rfl) ?_
  refine lv_aload_n hx hb dX2_copyFrom_42 rfl (lv_at hl 1 rfl) ?_
  refine va_get (D := D) (ci := 2) (v := .int (x1.1 1)) (C := RX2) (T := TX2) (N := 9) hx hb hts inX2_copyFrom_2 hown hK.1 hP 11 rfl rfl 5 (by decide) (hts (.fieldLink RX2 37 "LyingScale$State" "limit" "I") (List.mem_of_getElem? (i := 5) rfl)) (fun _ h9 => h9) rfl dX2_copyFrom_43 ?_
  refine va_put (D := D) (ci := 2) (v := .int (x1.1 1)) (ty := .int) (C := RX2) (T := TX2) (N := 9) hx hb hts inX2_copyFrom_2 tyX2 tyX2_ok nmX2 hown hK.1 hP hD hS 0 rfl rfl 5 (by decide) (hts (.fieldLink RX2 37 "LyingScale$State" "limit" "I") (List.mem_of_getElem? (i := 5) rfl)) (fun _ h9 => h9) rfl (by decide +kernel) rfl rfl (Nat.le_of_ble_eq_true rfl) dX2_copyFrom_46 (fun H locs hP hD hS => ?_)
  replace hP : va_P D vwCl (stW T a0 (sI y4 1 (x1.1 1)) ++ stW T a1 (x1)) H := hP
  replace hD : va_D A (stW T a0 (sI y4 1 (x1.1 1)) ++ stW T a1 (x1)) := hD
  refine lv_aload_n hx hb dX2_copyFrom_49 rfl (lv_at hl 0 rfl) ?_
  refine lv_aload_n hx hb dX2_copyFrom_50 rfl (lv_at hl 1 rfl) ?_
  refine va_get (D := D) (ci := 2) (v := .int (x1.1 2)) (C := RX2) (T := TX2) (N := 9) hx hb hts inX2_copyFrom_2 hown hK.1 hP 11 rfl rfl 6 (by decide) (hts (.fieldLink RX2 58 "LyingScale$State" "hidden" "I") (List.mem_of_getElem? (i := 6) rfl)) (fun _ h9 => h9) rfl dX2_copyFrom_51 ?_
  refine va_put (D := D) (ci := 2) (v := .int (x1.1 2)) (ty := .int) (C := RX2) (T := TX2) (N := 9) hx hb hts inX2_copyFrom_2 tyX2 tyX2_ok nmX2 hown hK.1 hP hD hS 0 rfl rfl 6 (by decide) (hts (.fieldLink RX2 58 "LyingScale$State" "hidden" "I") (List.mem_of_getElem? (i := 6) rfl)) (fun _ h9 => h9) rfl (by decide +kernel) rfl rfl (Nat.le_of_ble_eq_true rfl) dX2_copyFrom_54 (fun H locs hP hD hS => ?_)
  replace hP : va_P D vwCl (stW T a0 (sI (sI y4 1 (x1.1 1)) 2 (x1.1 2)) ++ stW T a1 (x1)) H := hP
  replace hD : va_D A (stW T a0 (sI (sI y4 1 (x1.1 1)) 2 (x1.1 2)) ++ stW T a1 (x1)) := hD
  refine lv_aload_n hx hb dX2_copyFrom_57 rfl (lv_at hl 0 rfl) ?_
  refine lv_aload_n hx hb dX2_copyFrom_58 rfl (lv_at hl 1 rfl) ?_
  refine va_get (D := D) (ci := 2) (v := .int (x1.1 3)) (C := RX2) (T := TX2) (N := 9) hx hb hts inX2_copyFrom_2 hown hK.1 hP 11 rfl rfl 7 (by decide) (hts (.fieldLink RX2 61 "LyingScale$State" "lieSet" "I") (List.mem_of_getElem? (i := 7) rfl)) (fun _ h9 => h9) rfl dX2_copyFrom_59 ?_
  refine va_put (D := D) (ci := 2) (v := .int (x1.1 3)) (ty := .int) (C := RX2) (T := TX2) (N := 9) hx hb hts inX2_copyFrom_2 tyX2 tyX2_ok nmX2 hown hK.1 hP hD hS 0 rfl rfl 7 (by decide) (hts (.fieldLink RX2 61 "LyingScale$State" "lieSet" "I") (List.mem_of_getElem? (i := 7) rfl)) (fun _ h9 => h9) rfl (by decide +kernel) rfl rfl (Nat.le_of_ble_eq_true rfl) dX2_copyFrom_62 (fun H locs hP hD hS => ?_)
  replace hP : va_P D vwCl (stW T a0 (sI (sI (sI y4 1 (x1.1 1)) 2 (x1.1 2)) 3 (x1.1 3)) ++ stW T a1 (x1)) H := hP
  replace hD : va_D A (stW T a0 (sI (sI (sI y4 1 (x1.1 1)) 2 (x1.1 2)) 3 (x1.1 3)) ++ stW T a1 (x1)) := hD
  replace h := bd h
  obtain ⟨y5, ey5, h⟩ := h
  rw [Option.some.inj ey5] at hP hD
  refine lv_aload_n hx hb dX2_copyFrom_65 rfl (lv_at hl 0 rfl) ?_
  refine lv_aload_n hx hb dX2_copyFrom_66 rfl (lv_at hl 1 rfl) ?_
  refine va_get (D := D) (ci := 2) (v := .int (x1.1 4)) (C := RX2) (T := TX2) (N := 9) hx hb hts inX2_copyFrom_2 hown hK.1 hP 11 rfl rfl 8 (by decide) (hts (.fieldLink RX2 64 "LyingScale$State" "answered" "I") (List.mem_of_getElem? (i := 8) rfl)) (fun _ h9 => h9) rfl dX2_copyFrom_67 ?_
  refine va_put (D := D) (ci := 2) (v := .int (x1.1 4)) (ty := .int) (C := RX2) (T := TX2) (N := 9) hx hb hts inX2_copyFrom_2 tyX2 tyX2_ok nmX2 hown hK.1 hP hD hS 0 rfl rfl 8 (by decide) (hts (.fieldLink RX2 64 "LyingScale$State" "answered" "I") (List.mem_of_getElem? (i := 8) rfl)) (fun _ h9 => h9) rfl (by decide +kernel) rfl rfl (Nat.le_of_ble_eq_true rfl) dX2_copyFrom_70 (fun H locs hP hD hS => ?_)
  replace hP : va_P D vwCl (stW T a0 (sI y5 4 (x1.1 4)) ++ stW T a1 (x1)) H := hP
  replace hD : va_D A (stW T a0 (sI y5 4 (x1.1 4)) ++ stW T a1 (x1)) := hD
  obtain rfl := Option.some.inj h
  exact W.vret hx hb hr (fun t ht hW => ⟨⟨(), rfl, trivial, by rw [ht]; exact hP, hD⟩, hS.F ht⟩) hS.2.2 dX2_copyFrom_73 hlocks
