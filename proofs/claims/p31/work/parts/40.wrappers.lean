def F_L_asks (Z0 : Nat → St) (v1 : Int32) (v2 : Int32) : Option (Int32 × (Nat → St)) :=
  (F_X4_ask Z0 v1 v2).bind fun t1 => some (t1.1, t1.2)
def F_L_hides (Z0 : Nat → St) (v1 : Int32) (v2 : Int32) : Option (Int32 × (Nat → St)) :=
  (F_X4_hide Z0 v1 v2).bind fun t1 => some (t1.1, t1.2)
def F_L_begins (Z0 : Nat → St) (v1 : Int32) : Option (Int32 × (Nat → St)) :=
  (F_X4_begin Z0 v1).bind fun t1 => some (t1.1, t1.2)
def F_L_limits (Z0 : Nat → St) (v1 : Int32) : Option (Int32 × (Nat → St)) :=
  (F_X4_setLimit Z0 v1).bind fun t1 => some (t1.1, t1.2)
def F_L_undoes (Z0 : Nat → St) : Option (Int32 × (Nat → St)) :=
  (F_X4_undo Z0).bind fun t1 => some (t1.1, t1.2)
def F_L_liesOf (Z0 : Nat → St) (v1 : Int32) : Option (Int32 × (Nat → St)) :=
  (F_X4_lies Z0 v1).bind fun t1 => some (t1.1, t1.2)
def F_L_value (Z0 : Nat → St) (v1 : Int32) : Option (Int32 × (Nat → St)) :=
  (F_X4_value Z0 v1).bind fun t1 => some (t1.1, t1.2)
def F_L_weighs (Z0 : Nat → St) (v1 : Int32) : Option (Int64 × (Nat → St)) :=
  (F_X4_weight Z0 v1).bind fun t1 => some (t1.1, t1.2)
def F_L_behind (Z0 : Nat → St) (v1 : Int32) (v2 : Int32) (v3 : Int32) (v4 : Int32) : Option (Int64 × (Nat → St)) :=
  (F_X4_weightBehind Z0 v1 v2 v3 v4).bind fun t1 => some (t1.1, t1.2)
theorem hdS_L_asks : yL_asks.cls ≠ "java/lang/invoke/MethodHandle" ∧ yL_asks.cls ≠ "java/lang/invoke/VarHandle" ∧ (parseMethodDescriptor yL_asks.desc).map (fun d => d.parameters.length) = some 3 := by decide +kernel
theorem hdV_L_asks : yL_asks.cls = RL ∧ yL_asks.cls ≠ "java/lang/invoke/MethodHandle" ∧ yL_asks.cls ≠ "java/lang/invoke/VarHandle" ∧ (parseMethodDescriptor yL_asks.desc).map (fun d => d.parameters.length) = some 3 := by decide +kernel
theorem hdS_L_hides : yL_hides.cls ≠ "java/lang/invoke/MethodHandle" ∧ yL_hides.cls ≠ "java/lang/invoke/VarHandle" ∧ (parseMethodDescriptor yL_hides.desc).map (fun d => d.parameters.length) = some 3 := by decide +kernel
theorem hdV_L_hides : yL_hides.cls = RL ∧ yL_hides.cls ≠ "java/lang/invoke/MethodHandle" ∧ yL_hides.cls ≠ "java/lang/invoke/VarHandle" ∧ (parseMethodDescriptor yL_hides.desc).map (fun d => d.parameters.length) = some 3 := by decide +kernel
theorem hdS_L_begins : yL_begins.cls ≠ "java/lang/invoke/MethodHandle" ∧ yL_begins.cls ≠ "java/lang/invoke/VarHandle" ∧ (parseMethodDescriptor yL_begins.desc).map (fun d => d.parameters.length) = some 2 := by decide +kernel
theorem hdV_L_begins : yL_begins.cls = RL ∧ yL_begins.cls ≠ "java/lang/invoke/MethodHandle" ∧ yL_begins.cls ≠ "java/lang/invoke/VarHandle" ∧ (parseMethodDescriptor yL_begins.desc).map (fun d => d.parameters.length) = some 2 := by decide +kernel
theorem hdS_L_limits : yL_limits.cls ≠ "java/lang/invoke/MethodHandle" ∧ yL_limits.cls ≠ "java/lang/invoke/VarHandle" ∧ (parseMethodDescriptor yL_limits.desc).map (fun d => d.parameters.length) = some 2 := by decide +kernel
theorem hdV_L_limits : yL_limits.cls = RL ∧ yL_limits.cls ≠ "java/lang/invoke/MethodHandle" ∧ yL_limits.cls ≠ "java/lang/invoke/VarHandle" ∧ (parseMethodDescriptor yL_limits.desc).map (fun d => d.parameters.length) = some 2 := by decide +kernel
theorem hdS_L_undoes : yL_undoes.cls ≠ "java/lang/invoke/MethodHandle" ∧ yL_undoes.cls ≠ "java/lang/invoke/VarHandle" ∧ (parseMethodDescriptor yL_undoes.desc).map (fun d => d.parameters.length) = some 1 := by decide +kernel
theorem hdV_L_undoes : yL_undoes.cls = RL ∧ yL_undoes.cls ≠ "java/lang/invoke/MethodHandle" ∧ yL_undoes.cls ≠ "java/lang/invoke/VarHandle" ∧ (parseMethodDescriptor yL_undoes.desc).map (fun d => d.parameters.length) = some 1 := by decide +kernel
theorem hdS_L_liesOf : yL_liesOf.cls ≠ "java/lang/invoke/MethodHandle" ∧ yL_liesOf.cls ≠ "java/lang/invoke/VarHandle" ∧ (parseMethodDescriptor yL_liesOf.desc).map (fun d => d.parameters.length) = some 2 := by decide +kernel
theorem hdV_L_liesOf : yL_liesOf.cls = RL ∧ yL_liesOf.cls ≠ "java/lang/invoke/MethodHandle" ∧ yL_liesOf.cls ≠ "java/lang/invoke/VarHandle" ∧ (parseMethodDescriptor yL_liesOf.desc).map (fun d => d.parameters.length) = some 2 := by decide +kernel
theorem hdS_L_value : yL_value.cls ≠ "java/lang/invoke/MethodHandle" ∧ yL_value.cls ≠ "java/lang/invoke/VarHandle" ∧ (parseMethodDescriptor yL_value.desc).map (fun d => d.parameters.length) = some 2 := by decide +kernel
theorem hdV_L_value : yL_value.cls = RL ∧ yL_value.cls ≠ "java/lang/invoke/MethodHandle" ∧ yL_value.cls ≠ "java/lang/invoke/VarHandle" ∧ (parseMethodDescriptor yL_value.desc).map (fun d => d.parameters.length) = some 2 := by decide +kernel
theorem hdS_L_weighs : yL_weighs.cls ≠ "java/lang/invoke/MethodHandle" ∧ yL_weighs.cls ≠ "java/lang/invoke/VarHandle" ∧ (parseMethodDescriptor yL_weighs.desc).map (fun d => d.parameters.length) = some 2 := by decide +kernel
theorem hdV_L_weighs : yL_weighs.cls = RL ∧ yL_weighs.cls ≠ "java/lang/invoke/MethodHandle" ∧ yL_weighs.cls ≠ "java/lang/invoke/VarHandle" ∧ (parseMethodDescriptor yL_weighs.desc).map (fun d => d.parameters.length) = some 2 := by decide +kernel
theorem hdS_L_behind : yL_behind.cls ≠ "java/lang/invoke/MethodHandle" ∧ yL_behind.cls ≠ "java/lang/invoke/VarHandle" ∧ (parseMethodDescriptor yL_behind.desc).map (fun d => d.parameters.length) = some 5 := by decide +kernel
theorem hdV_L_behind : yL_behind.cls = RL ∧ yL_behind.cls ≠ "java/lang/invoke/MethodHandle" ∧ yL_behind.cls ≠ "java/lang/invoke/VarHandle" ∧ (parseMethodDescriptor yL_behind.desc).map (fun d => d.parameters.length) = some 5 := by decide +kernel
set_option maxHeartbeats 4000000 in
set_option maxRecDepth 100000 in
theorem c_L_asks (l : Launch) (D : va_G) (T : Nat → ClassId) (h0 : Nat) (A0 : Nat → Nat → Nat) (Z0 : Nat → St) (v1 : Int32) (v2 : Int32) (sz : Nat) (r : Int32 × (Nat → St)) (h : F_L_asks Z0 v1 v2 = some r) : Met l yL_asks wsL_asks ({ frames := 7, cells := 0, slots := 0, locals := 138 } : Room) (va_Pc [.ref h0, .int v1, .int v2] (PM D T (scW T h0 A0 (Z0)) sz)) (QEi D (scW T h0) r.1 r.2 (va_A (scW T h0 A0 (Z0)) sz)) 0 0 (va_A (scW T h0 A0 (Z0)) sz) := by
  refine met_ofH (cc := cL_asks) (maxL := 4) (ret := (some .int)) (hh := [(0, 6, 7, 15), (0, 6, 11, 18)]) (lv := [(0, .ref h0), (1, .int v1), (2, .int v2)]) (by decide) rfl (Nat.le_of_ble_eq_true rfl) rfl ?_
  intro p e s m args below meth c ls C0 htab hl hB
  obtain ⟨hx, hb, hr, hml, hown, hts, hlocks, hname⟩ := C0
  obtain ⟨hsz, hP, hK, hD0⟩ := hB
  subst hsz
  have hD := hD0.self (sz := s.heap.size)
  generalize hAe : va_A (scW T h0 A0 (Z0)) s.heap.size = A at hD ⊢
  have hA : ∀ q : Nat, s.heap.size ≤ q → A q := fun q h => by rw [← hAe]; exact Or.inr h
  have hS : va_S A s.heap s.heap [] := va_S.rf
  unfold F_L_asks at h
  refine lv_aload_n hx hb dL_asks_0 rfl (lv_at hl 0 rfl) ?_
  refine lv_iload_n hx hb dL_asks_1 rfl (lv_at hl 1 rfl) ?_
  refine lv_iload_n hx hb dL_asks_2 rfl (lv_at hl 2 rfl) ?_
  replace h := bd h
  obtain ⟨t1, et1, h⟩ := h
  refine callEi (va_runV (As := [.int v1, .int v2]) (rest := []) ⟨hx, hb, hml, hown, hts⟩ (c_X4_ask l D T h0 A0 Z0 v1 v2 _ t1 et1) (cwV 2 hts gL_asks_X4_ask rfl rfl rfl hdV_X4_ask ⟨Nat.le_of_ble_eq_true rfl, Nat.le_of_ble_eq_true rfl⟩) ⟨PM_blind, va_recv hK.1 hP (ci := 4) (q0 := 0) rfl rfl, PM_at hP hD hK⟩ rfl rfl hl.1 rfl (lv_room (Nat.le_of_ble_eq_true rfl)) dL_asks_3 ⟨Nat.zero_le _, Nat.zero_le _⟩) hS hA hP hD (fun u2 H locs hP hD hS => ?_)
  obtain rfl := Option.some.inj h
  exact W.iret hx hb hr (fun t ht hW => ⟨⟨_, u2, rfl, rfl, by rw [ht]; exact hP, hD⟩, hS.F ht⟩) hS.2.2 dL_asks_6 hlocks
set_option maxHeartbeats 4000000 in
set_option maxRecDepth 100000 in
theorem c_L_hides (l : Launch) (D : va_G) (T : Nat → ClassId) (h0 : Nat) (A0 : Nat → Nat → Nat) (Z0 : Nat → St) (v1 : Int32) (v2 : Int32) (sz : Nat) (r : Int32 × (Nat → St)) (h : F_L_hides Z0 v1 v2 = some r) : Met l yL_hides wsL_hides ({ frames := 7, cells := 0, slots := 0, locals := 131 } : Room) (va_Pc [.ref h0, .int v1, .int v2] (PM D T (scW T h0 A0 (Z0)) sz)) (QEi D (scW T h0) r.1 r.2 (va_A (scW T h0 A0 (Z0)) sz)) 0 0 (va_A (scW T h0 A0 (Z0)) sz) := by
  refine met_ofH (cc := cL_hides) (maxL := 4) (ret := (some .int)) (hh := [(0, 6, 7, 24), (0, 6, 11, 15)]) (lv := [(0, .ref h0), (1, .int v1), (2, .int v2)]) (by decide) rfl (Nat.le_of_ble_eq_true rfl) rfl ?_
  intro p e s m args below meth c ls C0 htab hl hB
  obtain ⟨hx, hb, hr, hml, hown, hts, hlocks, hname⟩ := C0
  obtain ⟨hsz, hP, hK, hD0⟩ := hB
  subst hsz
  have hD := hD0.self (sz := s.heap.size)
  generalize hAe : va_A (scW T h0 A0 (Z0)) s.heap.size = A at hD ⊢
  have hA : ∀ q : Nat, s.heap.size ≤ q → A q := fun q h => by rw [← hAe]; exact Or.inr h
  have hS : va_S A s.heap s.heap [] := va_S.rf
  unfold F_L_hides at h
  refine lv_aload_n hx hb dL_hides_0 rfl (lv_at hl 0 rfl) ?_
  refine lv_iload_n hx hb dL_hides_1 rfl (lv_at hl 1 rfl) ?_
  refine lv_iload_n hx hb dL_hides_2 rfl (lv_at hl 2 rfl) ?_
  replace h := bd h
  obtain ⟨t1, et1, h⟩ := h
  refine callEi (va_runV (As := [.int v1, .int v2]) (rest := []) ⟨hx, hb, hml, hown, hts⟩ (c_X4_hide l D T h0 A0 Z0 v1 v2 _ t1 et1) (cwV 2 hts gL_hides_X4_hide rfl rfl rfl hdV_X4_hide ⟨Nat.le_of_ble_eq_true rfl, Nat.le_of_ble_eq_true rfl⟩) ⟨PM_blind, va_recv hK.1 hP (ci := 4) (q0 := 0) rfl rfl, PM_at hP hD hK⟩ rfl rfl hl.1 rfl (lv_room (Nat.le_of_ble_eq_true rfl)) dL_hides_3 ⟨Nat.zero_le _, Nat.zero_le _⟩) hS hA hP hD (fun u2 H locs hP hD hS => ?_)
  obtain rfl := Option.some.inj h
  exact W.iret hx hb hr (fun t ht hW => ⟨⟨_, u2, rfl, rfl, by rw [ht]; exact hP, hD⟩, hS.F ht⟩) hS.2.2 dL_hides_6 hlocks
set_option maxHeartbeats 4000000 in
set_option maxRecDepth 100000 in
theorem c_L_begins (l : Launch) (D : va_G) (T : Nat → ClassId) (h0 : Nat) (A0 : Nat → Nat → Nat) (Z0 : Nat → St) (v1 : Int32) (sz : Nat) (r : Int32 × (Nat → St)) (h : F_L_begins Z0 v1 = some r) : Met l yL_begins wsL_begins ({ frames := 7, cells := 0, slots := 0, locals := 130 } : Room) (va_Pc [.ref h0, .int v1] (PM D T (scW T h0 A0 (Z0)) sz)) (QEi D (scW T h0) r.1 r.2 (va_A (scW T h0 A0 (Z0)) sz)) 0 0 (va_A (scW T h0 A0 (Z0)) sz) := by
  refine met_ofH (cc := cL_begins) (maxL := 3) (ret := (some .int)) (hh := [(0, 5, 6, 15)]) (lv := [(0, .ref h0), (1, .int v1)]) (by decide) rfl (Nat.le_of_ble_eq_true rfl) rfl ?_
  intro p e s m args below meth c ls C0 htab hl hB
  obtain ⟨hx, hb, hr, hml, hown, hts, hlocks, hname⟩ := C0
  obtain ⟨hsz, hP, hK, hD0⟩ := hB
  subst hsz
  have hD := hD0.self (sz := s.heap.size)
  generalize hAe : va_A (scW T h0 A0 (Z0)) s.heap.size = A at hD ⊢
  have hA : ∀ q : Nat, s.heap.size ≤ q → A q := fun q h => by rw [← hAe]; exact Or.inr h
  have hS : va_S A s.heap s.heap [] := va_S.rf
  unfold F_L_begins at h
  refine lv_aload_n hx hb dL_begins_0 rfl (lv_at hl 0 rfl) ?_
  refine lv_iload_n hx hb dL_begins_1 rfl (lv_at hl 1 rfl) ?_
  replace h := bd h
  obtain ⟨t1, et1, h⟩ := h
  refine callEi (va_runV (As := [.int v1]) (rest := []) ⟨hx, hb, hml, hown, hts⟩ (c_X4_begin l D T h0 A0 Z0 v1 _ t1 et1) (cwV 1 hts gL_begins_X4_begin rfl rfl rfl hdV_X4_begin ⟨Nat.le_of_ble_eq_true rfl, Nat.le_of_ble_eq_true rfl⟩) ⟨PM_blind, va_recv hK.1 hP (ci := 4) (q0 := 0) rfl rfl, PM_at hP hD hK⟩ rfl rfl hl.1 rfl (lv_room (Nat.le_of_ble_eq_true rfl)) dL_begins_2 ⟨Nat.zero_le _, Nat.zero_le _⟩) hS hA hP hD (fun u2 H locs hP hD hS => ?_)
  obtain rfl := Option.some.inj h
  exact W.iret hx hb hr (fun t ht hW => ⟨⟨_, u2, rfl, rfl, by rw [ht]; exact hP, hD⟩, hS.F ht⟩) hS.2.2 dL_begins_5 hlocks
set_option maxHeartbeats 4000000 in
set_option maxRecDepth 100000 in
theorem c_L_limits (l : Launch) (D : va_G) (T : Nat → ClassId) (h0 : Nat) (A0 : Nat → Nat → Nat) (Z0 : Nat → St) (v1 : Int32) (sz : Nat) (r : Int32 × (Nat → St)) (h : F_L_limits Z0 v1 = some r) : Met l yL_limits wsL_limits ({ frames := 7, cells := 0, slots := 0, locals := 129 } : Room) (va_Pc [.ref h0, .int v1] (PM D T (scW T h0 A0 (Z0)) sz)) (QEi D (scW T h0) r.1 r.2 (va_A (scW T h0 A0 (Z0)) sz)) 0 0 (va_A (scW T h0 A0 (Z0)) sz) := by
  refine met_ofH (cc := cL_limits) (maxL := 3) (ret := (some .int)) (hh := [(0, 5, 6, 15)]) (lv := [(0, .ref h0), (1, .int v1)]) (by decide) rfl (Nat.le_of_ble_eq_true rfl) rfl ?_
  intro p e s m args below meth c ls C0 htab hl hB
  obtain ⟨hx, hb, hr, hml, hown, hts, hlocks, hname⟩ := C0
  obtain ⟨hsz, hP, hK, hD0⟩ := hB
  subst hsz
  have hD := hD0.self (sz := s.heap.size)
  generalize hAe : va_A (scW T h0 A0 (Z0)) s.heap.size = A at hD ⊢
  have hA : ∀ q : Nat, s.heap.size ≤ q → A q := fun q h => by rw [← hAe]; exact Or.inr h
  have hS : va_S A s.heap s.heap [] := va_S.rf
  unfold F_L_limits at h
  refine lv_aload_n hx hb dL_limits_0 rfl (lv_at hl 0 rfl) ?_
  refine lv_iload_n hx hb dL_limits_1 rfl (lv_at hl 1 rfl) ?_
  replace h := bd h
  obtain ⟨t1, et1, h⟩ := h
  refine callEi (va_runV (As := [.int v1]) (rest := []) ⟨hx, hb, hml, hown, hts⟩ (c_X4_setLimit l D T h0 A0 Z0 v1 _ t1 et1) (cwV 1 hts gL_limits_X4_setLimit rfl rfl rfl hdV_X4_setLimit ⟨Nat.le_of_ble_eq_true rfl, Nat.le_of_ble_eq_true rfl⟩) ⟨PM_blind, va_recv hK.1 hP (ci := 4) (q0 := 0) rfl rfl, PM_at hP hD hK⟩ rfl rfl hl.1 rfl (lv_room (Nat.le_of_ble_eq_true rfl)) dL_limits_2 ⟨Nat.zero_le _, Nat.zero_le _⟩) hS hA hP hD (fun u2 H locs hP hD hS => ?_)
  obtain rfl := Option.some.inj h
  exact W.iret hx hb hr (fun t ht hW => ⟨⟨_, u2, rfl, rfl, by rw [ht]; exact hP, hD⟩, hS.F ht⟩) hS.2.2 dL_limits_5 hlocks
set_option maxHeartbeats 4000000 in
set_option maxRecDepth 100000 in
theorem c_L_undoes (l : Launch) (D : va_G) (T : Nat → ClassId) (h0 : Nat) (A0 : Nat → Nat → Nat) (Z0 : Nat → St) (sz : Nat) (r : Int32 × (Nat → St)) (h : F_L_undoes Z0 = some r) : Met l yL_undoes wsL_undoes ({ frames := 7, cells := 0, slots := 0, locals := 128 } : Room) (va_Pc [.ref h0] (PM D T (scW T h0 A0 (Z0)) sz)) (QEi D (scW T h0) r.1 r.2 (va_A (scW T h0 A0 (Z0)) sz)) 0 0 (va_A (scW T h0 A0 (Z0)) sz) := by
  refine met_ofH (cc := cL_undoes) (maxL := 2) (ret := (some .int)) (hh := [(0, 4, 5, 18)]) (lv := [(0, .ref h0)]) (by decide) rfl (Nat.le_of_ble_eq_true rfl) rfl ?_
  intro p e s m args below meth c ls C0 htab hl hB
  obtain ⟨hx, hb, hr, hml, hown, hts, hlocks, hname⟩ := C0
  obtain ⟨hsz, hP, hK, hD0⟩ := hB
  subst hsz
  have hD := hD0.self (sz := s.heap.size)
  generalize hAe : va_A (scW T h0 A0 (Z0)) s.heap.size = A at hD ⊢
  have hA : ∀ q : Nat, s.heap.size ≤ q → A q := fun q h => by rw [← hAe]; exact Or.inr h
  have hS : va_S A s.heap s.heap [] := va_S.rf
  unfold F_L_undoes at h
  refine lv_aload_n hx hb dL_undoes_0 rfl (lv_at hl 0 rfl) ?_
  replace h := bd h
  obtain ⟨t1, et1, h⟩ := h
  refine callEi (va_runV (As := []) (rest := []) ⟨hx, hb, hml, hown, hts⟩ (c_X4_undo l D T h0 A0 Z0 _ t1 et1) (cwV 0 hts gL_undoes_X4_undo rfl rfl rfl hdV_X4_undo ⟨Nat.le_of_ble_eq_true rfl, Nat.le_of_ble_eq_true rfl⟩) ⟨PM_blind, va_recv hK.1 hP (ci := 4) (q0 := 0) rfl rfl, PM_at hP hD hK⟩ rfl rfl hl.1 rfl (lv_room (Nat.le_of_ble_eq_true rfl)) dL_undoes_1 ⟨Nat.zero_le _, Nat.zero_le _⟩) hS hA hP hD (fun u2 H locs hP hD hS => ?_)
  obtain rfl := Option.some.inj h
  exact W.iret hx hb hr (fun t ht hW => ⟨⟨_, u2, rfl, rfl, by rw [ht]; exact hP, hD⟩, hS.F ht⟩) hS.2.2 dL_undoes_4 hlocks
set_option maxHeartbeats 4000000 in
set_option maxRecDepth 100000 in
theorem c_L_liesOf (l : Launch) (D : va_G) (T : Nat → ClassId) (h0 : Nat) (A0 : Nat → Nat → Nat) (Z0 : Nat → St) (v1 : Int32) (sz : Nat) (r : Int32 × (Nat → St)) (h : F_L_liesOf Z0 v1 = some r) : Met l yL_liesOf wsL_liesOf ({ frames := 7, cells := 0, slots := 0, locals := 103 } : Room) (va_Pc [.ref h0, .int v1] (PM D T (scW T h0 A0 (Z0)) sz)) (QEi D (scW T h0) r.1 r.2 (va_A (scW T h0 A0 (Z0)) sz)) 0 0 (va_A (scW T h0 A0 (Z0)) sz) := by
  refine met_ofH (cc := cL_liesOf) (maxL := 3) (ret := (some .int)) (hh := [(0, 5, 6, 24)]) (lv := [(0, .ref h0), (1, .int v1)]) (by decide) rfl (Nat.le_of_ble_eq_true rfl) rfl ?_
  intro p e s m args below meth c ls C0 htab hl hB
  obtain ⟨hx, hb, hr, hml, hown, hts, hlocks, hname⟩ := C0
  obtain ⟨hsz, hP, hK, hD0⟩ := hB
  subst hsz
  have hD := hD0.self (sz := s.heap.size)
  generalize hAe : va_A (scW T h0 A0 (Z0)) s.heap.size = A at hD ⊢
  have hA : ∀ q : Nat, s.heap.size ≤ q → A q := fun q h => by rw [← hAe]; exact Or.inr h
  have hS : va_S A s.heap s.heap [] := va_S.rf
  unfold F_L_liesOf at h
  refine lv_aload_n hx hb dL_liesOf_0 rfl (lv_at hl 0 rfl) ?_
  refine lv_iload_n hx hb dL_liesOf_1 rfl (lv_at hl 1 rfl) ?_
  replace h := bd h
  obtain ⟨t1, et1, h⟩ := h
  refine callEi (va_runV (As := [.int v1]) (rest := []) ⟨hx, hb, hml, hown, hts⟩ (c_X4_lies l D T h0 A0 Z0 v1 _ t1 et1) (cwV 1 hts gL_liesOf_X4_lies rfl rfl rfl hdV_X4_lies ⟨Nat.le_of_ble_eq_true rfl, Nat.le_of_ble_eq_true rfl⟩) ⟨PM_blind, va_recv hK.1 hP (ci := 4) (q0 := 0) rfl rfl, PM_at hP hD hK⟩ rfl rfl hl.1 rfl (lv_room (Nat.le_of_ble_eq_true rfl)) dL_liesOf_2 ⟨Nat.zero_le _, Nat.zero_le _⟩) hS hA hP hD (fun u2 H locs hP hD hS => ?_)
  obtain rfl := Option.some.inj h
  exact W.iret hx hb hr (fun t ht hW => ⟨⟨_, u2, rfl, rfl, by rw [ht]; exact hP, hD⟩, hS.F ht⟩) hS.2.2 dL_liesOf_5 hlocks
set_option maxHeartbeats 4000000 in
set_option maxRecDepth 100000 in
theorem c_L_value (l : Launch) (D : va_G) (T : Nat → ClassId) (h0 : Nat) (A0 : Nat → Nat → Nat) (Z0 : Nat → St) (v1 : Int32) (sz : Nat) (r : Int32 × (Nat → St)) (h : F_L_value Z0 v1 = some r) : Met l yL_value wsL_value ({ frames := 7, cells := 0, slots := 0, locals := 106 } : Room) (va_Pc [.ref h0, .int v1] (PM D T (scW T h0 A0 (Z0)) sz)) (QEi D (scW T h0) r.1 r.2 (va_A (scW T h0 A0 (Z0)) sz)) 0 0 (va_A (scW T h0 A0 (Z0)) sz) := by
  refine met_ofH (cc := cL_value) (maxL := 3) (ret := (some .int)) (hh := [(0, 5, 6, 15)]) (lv := [(0, .ref h0), (1, .int v1)]) (by decide) rfl (Nat.le_of_ble_eq_true rfl) rfl ?_
  intro p e s m args below meth c ls C0 htab hl hB
  obtain ⟨hx, hb, hr, hml, hown, hts, hlocks, hname⟩ := C0
  obtain ⟨hsz, hP, hK, hD0⟩ := hB
  subst hsz
  have hD := hD0.self (sz := s.heap.size)
  generalize hAe : va_A (scW T h0 A0 (Z0)) s.heap.size = A at hD ⊢
  have hA : ∀ q : Nat, s.heap.size ≤ q → A q := fun q h => by rw [← hAe]; exact Or.inr h
  have hS : va_S A s.heap s.heap [] := va_S.rf
  unfold F_L_value at h
  refine lv_aload_n hx hb dL_value_0 rfl (lv_at hl 0 rfl) ?_
  refine lv_iload_n hx hb dL_value_1 rfl (lv_at hl 1 rfl) ?_
  replace h := bd h
  obtain ⟨t1, et1, h⟩ := h
  refine callEi (va_runV (As := [.int v1]) (rest := []) ⟨hx, hb, hml, hown, hts⟩ (c_X4_value l D T h0 A0 Z0 v1 _ t1 et1) (cwV 1 hts gL_value_X4_value rfl rfl rfl hdV_X4_value ⟨Nat.le_of_ble_eq_true rfl, Nat.le_of_ble_eq_true rfl⟩) ⟨PM_blind, va_recv hK.1 hP (ci := 4) (q0 := 0) rfl rfl, PM_at hP hD hK⟩ rfl rfl hl.1 rfl (lv_room (Nat.le_of_ble_eq_true rfl)) dL_value_2 ⟨Nat.zero_le _, Nat.zero_le _⟩) hS hA hP hD (fun u2 H locs hP hD hS => ?_)
  obtain rfl := Option.some.inj h
  exact W.iret hx hb hr (fun t ht hW => ⟨⟨_, u2, rfl, rfl, by rw [ht]; exact hP, hD⟩, hS.F ht⟩) hS.2.2 dL_value_5 hlocks
set_option maxHeartbeats 4000000 in
set_option maxRecDepth 100000 in
theorem c_L_weighs (l : Launch) (D : va_G) (T : Nat → ClassId) (h0 : Nat) (A0 : Nat → Nat → Nat) (Z0 : Nat → St) (v1 : Int32) (sz : Nat) (r : Int64 × (Nat → St)) (h : F_L_weighs Z0 v1 = some r) : Met l yL_weighs wsL_weighs ({ frames := 7, cells := 0, slots := 0, locals := 117 } : Room) (va_Pc [.ref h0, .int v1] (PM D T (scW T h0 A0 (Z0)) sz)) (QEl D (scW T h0) r.1 r.2 (va_A (scW T h0 A0 (Z0)) sz)) 0 0 (va_A (scW T h0 A0 (Z0)) sz) := by
  refine met_ofH (cc := cL_weighs) (maxL := 3) (ret := (some .long)) (hh := [(0, 5, 6, 15)]) (lv := [(0, .ref h0), (1, .int v1)]) (by decide) rfl (Nat.le_of_ble_eq_true rfl) rfl ?_
  intro p e s m args below meth c ls C0 htab hl hB
  obtain ⟨hx, hb, hr, hml, hown, hts, hlocks, hname⟩ := C0
  obtain ⟨hsz, hP, hK, hD0⟩ := hB
  subst hsz
  have hD := hD0.self (sz := s.heap.size)
  generalize hAe : va_A (scW T h0 A0 (Z0)) s.heap.size = A at hD ⊢
  have hA : ∀ q : Nat, s.heap.size ≤ q → A q := fun q h => by rw [← hAe]; exact Or.inr h
  have hS : va_S A s.heap s.heap [] := va_S.rf
  unfold F_L_weighs at h
  refine lv_aload_n hx hb dL_weighs_0 rfl (lv_at hl 0 rfl) ?_
  refine lv_iload_n hx hb dL_weighs_1 rfl (lv_at hl 1 rfl) ?_
  replace h := bd h
  obtain ⟨t1, et1, h⟩ := h
  refine callEl (va_runV (As := [.int v1]) (rest := []) ⟨hx, hb, hml, hown, hts⟩ (c_X4_weight l D T h0 A0 Z0 v1 _ t1 et1) (cwV 1 hts gL_weighs_X4_weight rfl rfl rfl hdV_X4_weight ⟨Nat.le_of_ble_eq_true rfl, Nat.le_of_ble_eq_true rfl⟩) ⟨PM_blind, va_recv hK.1 hP (ci := 4) (q0 := 0) rfl rfl, PM_at hP hD hK⟩ rfl rfl hl.1 rfl (lv_room (Nat.le_of_ble_eq_true rfl)) dL_weighs_2 ⟨Nat.zero_le _, Nat.zero_le _⟩) hS hA hP hD (fun u2 H locs hP hD hS => ?_)
  obtain rfl := Option.some.inj h
  exact W.lret hx hb hr (fun t ht hW => ⟨⟨_, u2, rfl, rfl, by rw [ht]; exact hP, hD⟩, hS.F ht⟩) hS.2.2 dL_weighs_5 hlocks
set_option maxHeartbeats 4000000 in
set_option maxRecDepth 100000 in
theorem c_L_behind (l : Launch) (D : va_G) (T : Nat → ClassId) (h0 : Nat) (A0 : Nat → Nat → Nat) (Z0 : Nat → St) (v1 : Int32) (v2 : Int32) (v3 : Int32) (v4 : Int32) (sz : Nat) (r : Int64 × (Nat → St)) (h : F_L_behind Z0 v1 v2 v3 v4 = some r) : Met l yL_behind wsL_behind ({ frames := 7, cells := 0, slots := 0, locals := 123 } : Room) (va_Pc [.ref h0, .int v1, .int v2, .int v3, .int v4] (PM D T (scW T h0 A0 (Z0)) sz)) (QEl D (scW T h0) r.1 r.2 (va_A (scW T h0 A0 (Z0)) sz)) 0 0 (va_A (scW T h0 A0 (Z0)) sz) := by
  refine met_ofH (cc := cL_behind) (maxL := 6) (ret := (some .long)) (hh := [(0, 9, 10, 15)]) (lv := [(0, .ref h0), (1, .int v1), (2, .int v2), (3, .int v3), (4, .int v4)]) (by decide) rfl (Nat.le_of_ble_eq_true rfl) rfl ?_
  intro p e s m args below meth c ls C0 htab hl hB
  obtain ⟨hx, hb, hr, hml, hown, hts, hlocks, hname⟩ := C0
  obtain ⟨hsz, hP, hK, hD0⟩ := hB
  subst hsz
  have hD := hD0.self (sz := s.heap.size)
  generalize hAe : va_A (scW T h0 A0 (Z0)) s.heap.size = A at hD ⊢
  have hA : ∀ q : Nat, s.heap.size ≤ q → A q := fun q h => by rw [← hAe]; exact Or.inr h
  have hS : va_S A s.heap s.heap [] := va_S.rf
  unfold F_L_behind at h
  refine lv_aload_n hx hb dL_behind_0 rfl (lv_at hl 0 rfl) ?_
  refine lv_iload_n hx hb dL_behind_1 rfl (lv_at hl 1 rfl) ?_
  refine lv_iload_n hx hb dL_behind_2 rfl (lv_at hl 2 rfl) ?_
  refine lv_iload_n hx hb dL_behind_3 rfl (lv_at hl 3 rfl) ?_
  refine lv_iload hx hb dL_behind_4 (lv_at hl 4 rfl) ?_
  replace h := bd h
  obtain ⟨t1, et1, h⟩ := h
  refine callEl (va_runV (As := [.int v1, .int v2, .int v3, .int v4]) (rest := []) ⟨hx, hb, hml, hown, hts⟩ (c_X4_weightBehind l D T h0 A0 Z0 v1 v2 v3 v4 _ t1 et1) (cwV 4 hts gL_behind_X4_weightBehind rfl rfl rfl hdV_X4_weightBehind ⟨Nat.le_of_ble_eq_true rfl, Nat.le_of_ble_eq_true rfl⟩) ⟨PM_blind, va_recv hK.1 hP (ci := 4) (q0 := 0) rfl rfl, PM_at hP hD hK⟩ rfl rfl hl.1 rfl (lv_room (Nat.le_of_ble_eq_true rfl)) dL_behind_6 ⟨Nat.zero_le _, Nat.zero_le _⟩) hS hA hP hD (fun u2 H locs hP hD hS => ?_)
  obtain rfl := Option.some.inj h
  exact W.lret hx hb hr (fun t ht hW => ⟨⟨_, u2, rfl, rfl, by rw [ht]; exact hP, hD⟩, hS.F ht⟩) hS.2.2 dL_behind_9 hlocks
