def B_L_holds_49 (v1 : Int32) (t1 : Int32 × (Nat → St)) (t3 : Int32 × (Nat → St)) (t5 : Int32 × (Nat → St)) (k49 : Int32 → Int32 → Int32 → (Nat → St) → Option (Int32 × (Nat → St))) (i5_49 : Int32) (i6_49 : Int32) (i7_49 : Int32) (x0_49 : Nat → St) : Option (Int32 × (Nat → St)) :=
  if ((2 * t5.1) + 1) ≤ i7_49 then (if i6_49 = 0 then none else (if i5_49 = t3.1 then ((F_L_value x0_49 1).bind fun t14 => if t14.1 < v1 then ((F_L_weighs t14.2 0).bind fun t17 => if (lg_cmp t17.1 t3.1.toInt64) = 0 then ((F_L_value t17.2 3).bind fun t20 => if 0 < t20.1 then (some (1, t20.2)) else ((F_X4_bound t20.2).bind fun t23 => if t23.1 = 0 then (some (1, t23.2)) else none)) else none) else (if t1.1 < 0 then none else (if t3.1 ≤ 0 then none else ((F_L_weighs t14.2 0).bind fun t28 => if (lg_cmp t28.1 t3.1.toInt64) = 0 then ((F_L_value t28.2 3).bind fun t31 => if 0 < t31.1 then (some (1, t31.2)) else ((F_X4_bound t31.2).bind fun t34 => if t34.1 = 0 then (some (1, t34.2)) else none)) else none)))) else none)) else (if i6_49 = 0 then none else ((F_L_liesOf x0_49 i7_49).bind fun t38 => (F_L_value t38.2 1).bind fun t40 => if t40.1 < t38.1 then (if t38.1 < 0 then none else ((F_L_value t40.2 2).bind fun t44 => if t44.1 < t38.1 then none else (k49 (i5_49 + 0) 1 (i7_49 + 1) t44.2))) else (if t38.1 < 0 then none else ((F_L_value t40.2 2).bind fun t48 => if t48.1 < t38.1 then none else (k49 (i5_49 + 1) 1 (i7_49 + 1) t48.2)))))
def F_L_holds (Z0 : Nat → St) (v1 : Int32) : Option (Int32 × (Nat → St)) :=
  (F_L_value Z0 5).bind fun t1 => (F_L_value t1.2 3).bind fun t3 => (F_L_value t3.2 0).bind fun t5 => if t1.1 < 0 then none else ((F_L_liesOf t5.2 t1.1).bind fun t8 => if t8.1 = v1 then (fx4 (B_L_holds_49 v1 t1 t3 t5) 1000 0 1 0 t8.2) else none)
def F_L_splits (Z0 : Nat → St) (v1 : Int32) (v2 : Int32) (v3 : Int32) : Option (Int32 × (Nat → St)) :=
  (F_L_behind Z0 v1 v2 0 v3).bind fun t1 => (F_L_behind t1.2 v1 v2 1 v3).bind fun t3 => (F_L_behind t3.2 v1 v2 2 v3).bind fun t5 => (F_L_weighs t5.2 (v3 + 1)).bind fun t7 => if (lg_cmp ((t1.1 + t3.1) + t5.1) t7.1) = 0 then (some (1, t7.2)) else none
theorem hdS_L_holds : yL_holds.cls ≠ "java/lang/invoke/MethodHandle" ∧ yL_holds.cls ≠ "java/lang/invoke/VarHandle" ∧ (parseMethodDescriptor yL_holds.desc).map (fun d => d.parameters.length) = some 2 := by decide +kernel
theorem hdV_L_holds : yL_holds.cls = RL ∧ yL_holds.cls ≠ "java/lang/invoke/MethodHandle" ∧ yL_holds.cls ≠ "java/lang/invoke/VarHandle" ∧ (parseMethodDescriptor yL_holds.desc).map (fun d => d.parameters.length) = some 2 := by decide +kernel
theorem hdS_L_splits : yL_splits.cls ≠ "java/lang/invoke/MethodHandle" ∧ yL_splits.cls ≠ "java/lang/invoke/VarHandle" ∧ (parseMethodDescriptor yL_splits.desc).map (fun d => d.parameters.length) = some 4 := by decide +kernel
theorem hdV_L_splits : yL_splits.cls = RL ∧ yL_splits.cls ≠ "java/lang/invoke/MethodHandle" ∧ yL_splits.cls ≠ "java/lang/invoke/VarHandle" ∧ (parseMethodDescriptor yL_splits.desc).map (fun d => d.parameters.length) = some 4 := by decide +kernel
set_option maxHeartbeats 4000000 in
set_option maxRecDepth 100000 in
theorem c_L_holds (l : Launch) (D : va_G) (T : Nat → ClassId) (h0 : Nat) (A0 : Nat → Nat → Nat) (Z0 : Nat → St) (v1 : Int32) (sz : Nat) (r : Int32 × (Nat → St)) (h : F_L_holds Z0 v1 = some r) : Met l yL_holds wsL_holds ({ frames := 8, cells := 0, slots := 0, locals := 139 } : Room) (va_Pc [.ref h0, .int v1] (PM D T (scW T h0 A0 (Z0)) sz)) (QEi D (scW T h0) r.1 r.2 (va_A (scW T h0 A0 (Z0)) sz)) 0 0 (va_A (scW T h0 A0 (Z0)) sz) := by
  refine met_of (cc := cL_holds) (maxL := 9) (ret := (some .boolean)) (lv := [(0, .ref h0), (1, .int v1)]) (by decide) rfl (Nat.le_of_ble_eq_true rfl) rfl ?_
  intro p e s m args below meth c ls C0 hl hB
  obtain ⟨hx, hb, hr, hml, hown, hts, hlocks, hname⟩ := C0
  obtain ⟨hsz, hP, hK, hD0⟩ := hB
  subst hsz
  have hD := hD0.self (sz := s.heap.size)
  generalize hAe : va_A (scW T h0 A0 (Z0)) s.heap.size = A at hD ⊢
  have hA : ∀ q : Nat, s.heap.size ≤ q → A q := fun q h => by rw [← hAe]; exact Or.inr h
  have hS : va_S A s.heap s.heap [] := va_S.rf
  unfold F_L_holds at h
  refine lv_aload_n hx hb dL_holds_0 rfl (lv_at hl 0 rfl) ?_
  refine lv_iconst (v := 5) hx hb dL_holds_1 (by decide) ?_
  replace h := bd h
  obtain ⟨t1, et1, h⟩ := h
  refine callEi (vx_runSW (As := [.ref h0, .int 5]) (rest := []) ⟨hx, hb, hml, hown, hts⟩ (c_L_value l D T h0 A0 Z0 5 _ t1 et1) (vx_cwSW 2 hts gL_holds_L_value rfl rfl rfl hdS_L_value ⟨Nat.le_of_ble_eq_true rfl, Nat.le_of_ble_eq_true rfl⟩) ⟨PM_blind, PM_at hP hD hK⟩ rfl rfl hl.1 rfl (lv_room (Nat.le_of_ble_eq_true rfl)) dL_holds_2 ⟨Nat.zero_le _, Nat.zero_le _⟩) hS hA hP hD (fun u2 H locs hP hD hS => ?_)
  refine lv_istore_n (lv' := [(2, .int t1.1), (0, .ref h0), (1, .int v1)]) hx hb dL_holds_5 rfl hl (by decide) rfl (fun ls hl => ?_)
  refine lv_aload_n hx hb dL_holds_6 rfl (lv_at hl 1 rfl) ?_
  refine lv_iconst (v := 3) hx hb dL_holds_7 (by decide) ?_
  replace h := bd h
  obtain ⟨t3, et3, h⟩ := h
  refine callEi (vx_runSW (As := [.ref h0, .int 3]) (rest := []) ⟨hx, hb, hml, hown, hts⟩ (c_L_value l D T h0 u2 t1.2 3 _ t3 et3) (vx_cwSW 2 hts gL_holds_L_value rfl rfl rfl hdS_L_value ⟨Nat.le_of_ble_eq_true rfl, Nat.le_of_ble_eq_true rfl⟩) ⟨PM_blind, PM_at hP hD hK⟩ rfl rfl hl.1 rfl (lv_room (Nat.le_of_ble_eq_true rfl)) dL_holds_8 ⟨Nat.zero_le _, Nat.zero_le _⟩) hS hA hP hD (fun u4 H locs hP hD hS => ?_)
  refine lv_istore_n (lv' := [(3, .int t3.1), (2, .int t1.1), (0, .ref h0), (1, .int v1)]) hx hb dL_holds_11 rfl hl (by decide) rfl (fun ls hl => ?_)
  refine lv_iconst (v := 2) hx hb dL_holds_12 (by decide) ?_
  refine lv_aload_n hx hb dL_holds_13 rfl (lv_at hl 2 rfl) ?_
  refine lv_iconst (v := 0) hx hb dL_holds_14 (by decide) ?_
  replace h := bd h
  obtain ⟨t5, et5, h⟩ := h
  refine callEi (vx_runSW (As := [.ref h0, .int 0]) (rest := [.int 2]) ⟨hx, hb, hml, hown, hts⟩ (c_L_value l D T h0 u4 t3.2 0 _ t5 et5) (vx_cwSW 2 hts gL_holds_L_value rfl rfl rfl hdS_L_value ⟨Nat.le_of_ble_eq_true rfl, Nat.le_of_ble_eq_true rfl⟩) ⟨PM_blind, PM_at hP hD hK⟩ rfl rfl hl.1 rfl (lv_room (Nat.le_of_ble_eq_true rfl)) dL_holds_15 ⟨Nat.zero_le _, Nat.zero_le _⟩) hS hA hP hD (fun u6 H locs hP hD hS => ?_)
  refine lv_imul hx hb dL_holds_18 ?_
  refine lv_iconst (v := 1) hx hb dL_holds_19 (by decide) ?_
  refine lv_iadd hx hb dL_holds_20 ?_
  refine lv_istore (lv' := [(4, .int ((2 * t5.1) + 1)), (3, .int t3.1), (2, .int t1.1), (0, .ref h0), (1, .int v1)]) hx hb dL_holds_21 hl (by decide) rfl (fun ls hl => ?_)
  refine lv_iconst (v := 0) hx hb dL_holds_23 (by decide) ?_
  refine lv_istore (lv' := [(5, .int 0), (4, .int ((2 * t5.1) + 1)), (3, .int t3.1), (2, .int t1.1), (0, .ref h0), (1, .int v1)]) hx hb dL_holds_24 hl (by decide) rfl (fun ls hl => ?_)
  refine lv_iload_n hx hb dL_holds_26 rfl (lv_at hl 3 rfl) ?_
  refine lv_if_lt (tgt := 39) hx hb dL_holds_27 (by decide) (fun c7 => ?_) (fun c7 => ?_)
  · replace h := ip c7 h
    cases h
  replace h := im c7 h
  refine lv_aload_n hx hb dL_holds_30 rfl (lv_at hl 4 rfl) ?_
  refine lv_iload_n hx hb dL_holds_31 rfl (lv_at hl 3 rfl) ?_
  replace h := bd h
  obtain ⟨t8, et8, h⟩ := h
  refine callEi (vx_runSW (As := [.ref h0, .int t1.1]) (rest := []) ⟨hx, hb, hml, hown, hts⟩ (c_L_liesOf l D T h0 u6 t5.2 t1.1 _ t8 et8) (vx_cwSW 2 hts gL_holds_L_liesOf rfl rfl rfl hdS_L_liesOf ⟨Nat.le_of_ble_eq_true rfl, Nat.le_of_ble_eq_true rfl⟩) ⟨PM_blind, PM_at hP hD hK⟩ rfl rfl hl.1 rfl (lv_room (Nat.le_of_ble_eq_true rfl)) dL_holds_32 ⟨Nat.zero_le _, Nat.zero_le _⟩) hS hA hP hD (fun u9 H locs hP hD hS => ?_)
  refine lv_iload_n hx hb dL_holds_35 rfl (lv_at hl 5 rfl) ?_
  refine lv_icmp_ne (tgt := 43) hx hb dL_holds_36 (by decide) (fun c10 => ?_) (fun c10 => ?_)
  · replace h := im c10 h
    cases h
  replace h := ip c10 h
  refine lv_iconst (v := 1) hx hb dL_holds_39 (by decide) ?_
  refine lv_goto (tgt := 44) hx hb dL_holds_40 (by decide) ?_
  refine lv_istore (lv' := [(6, .int 1), (5, .int 0), (4, .int ((2 * t5.1) + 1)), (3, .int t3.1), (2, .int t1.1), (0, .ref h0), (1, .int v1)]) hx hb dL_holds_44 hl (by decide) rfl (fun ls hl => ?_)
  refine lv_iconst (v := 0) hx hb dL_holds_46 (by decide) ?_
  refine lv_istore (lv' := [(7, .int 0), (6, .int 1), (5, .int 0), (4, .int ((2 * t5.1) + 1)), (3, .int t3.1), (2, .int t1.1), (0, .ref h0), (1, .int v1)]) hx hb dL_holds_47 hl (by decide) rfl (fun ls hl => ?_)
  have K49 : ∀ (n49 : Nat) (i5_49 : Int32) (i6_49 : Int32) (i7_49 : Int32) (x0_49 : Nat → St) (A9_49 : Nat → Nat → Nat) (H : Heap) (locs : List Loc) (ls : Array Slot), fx4 (B_L_holds_49 v1 t1 t3 t5) n49 i5_49 i6_49 i7_49 x0_49 = some r → va_P D vwCl (scW T h0 A9_49 (x0_49)) H → va_D A (scW T h0 A9_49 (x0_49)) → va_S A s.heap H locs → lv_has ls 9 [(0, .ref h0), (1, .int v1), (2, .int t1.1), (3, .int t3.1), (4, .int ((2 * t5.1) + 1)), (5, .int i5_49), (6, .int i6_49), (7, .int i7_49)] → W p l e ({ frames := 8, cells := 0, slots := 0, locals := 139 } : Room) s m args below meth c H locs 0 0 (MQ below (QEi D (scW T h0) r.1 r.2 A) args s 0 0 A) (F0 m 49 ls []) := by
    intro n49
    induction n49 with
    | zero =>
        intro i5_49 i6_49 i7_49 x0_49 A9_49 H locs ls h
        cases h
    | succ n49 ih49 =>
        intro i5_49 i6_49 i7_49 x0_49 A9_49 H locs ls h hP hD hS hl
        replace h : B_L_holds_49 v1 t1 t3 t5 (fx4 (B_L_holds_49 v1 t1 t3 t5) n49) i5_49 i6_49 i7_49 x0_49 = some r := h
        unfold B_L_holds_49 at h
        refine lv_iload hx hb dL_holds_49 (lv_at hl 7 rfl) ?_
        refine lv_iload hx hb dL_holds_51 (lv_at hl 4 rfl) ?_
        refine lv_icmp_ge (tgt := 117) hx hb dL_holds_53 (by decide) (fun c11 => ?_) (fun c11 => ?_)
        · replace h := ip c11 h
          refine lv_iload hx hb dL_holds_117 (lv_at hl 6 rfl) ?_
          refine lv_if_eq (tgt := 175) hx hb dL_holds_119 (by decide) (fun c12 => ?_) (fun c12 => ?_)
          · replace h := ip c12 h
            cases h
          replace h := im c12 h
          refine lv_iload hx hb dL_holds_122 (lv_at hl 5 rfl) ?_
          refine lv_iload_n hx hb dL_holds_124 rfl (lv_at hl 3 rfl) ?_
          refine lv_icmp_ne (tgt := 175) hx hb dL_holds_125 (by decide) (fun c13 => ?_) (fun c13 => ?_)
          · replace h := im c13 h
            cases h
          replace h := ip c13 h
          refine lv_iload_n hx hb dL_holds_128 rfl (lv_at hl 1 rfl) ?_
          refine lv_aload_n hx hb dL_holds_129 rfl (lv_at hl 0 rfl) ?_
          refine lv_iconst (v := 1) hx hb dL_holds_130 (by decide) ?_
          replace h := bd h
          obtain ⟨t14, et14, h⟩ := h
          refine callEi (vx_runSW (As := [.ref h0, .int 1]) (rest := [.int v1]) ⟨hx, hb, hml, hown, hts⟩ (c_L_value l D T h0 A9_49 x0_49 1 _ t14 et14) (vx_cwSW 2 hts gL_holds_L_value rfl rfl rfl hdS_L_value ⟨Nat.le_of_ble_eq_true rfl, Nat.le_of_ble_eq_true rfl⟩) ⟨PM_blind, PM_at hP hD hK⟩ rfl rfl hl.1 rfl (lv_room (Nat.le_of_ble_eq_true rfl)) dL_holds_131 ⟨Nat.zero_le _, Nat.zero_le _⟩) hS hA hP hD (fun u15 H locs hP hD hS => ?_)
          refine lv_icmp_gt (tgt := 145) hx hb dL_holds_134 (by decide) (fun c16 => ?_) (fun c16 => ?_)
          · replace h := ip c16 h
            refine lv_aload_n hx hb dL_holds_145 rfl (lv_at hl 0 rfl) ?_
            refine lv_iconst (v := 0) hx hb dL_holds_146 (by decide) ?_
            replace h := bd h
            obtain ⟨t17, et17, h⟩ := h
            refine callEl (vx_runSW (As := [.ref h0, .int 0]) (rest := []) ⟨hx, hb, hml, hown, hts⟩ (c_L_weighs l D T h0 u15 t14.2 0 _ t17 et17) (vx_cwSW 2 hts gL_holds_L_weighs rfl rfl rfl hdS_L_weighs ⟨Nat.le_of_ble_eq_true rfl, Nat.le_of_ble_eq_true rfl⟩) ⟨PM_blind, PM_at hP hD hK⟩ rfl rfl hl.1 rfl (lv_room (Nat.le_of_ble_eq_true rfl)) dL_holds_147 ⟨Nat.zero_le _, Nat.zero_le _⟩) hS hA hP hD (fun u18 H locs hP hD hS => ?_)
            refine lv_iload_n hx hb dL_holds_150 rfl (lv_at hl 3 rfl) ?_
            refine lv_i2l (v := t3.1.toInt64) hx hb dL_holds_151 rfl ?_
            refine W.lcmp hx hb dL_holds_152 ?_
            refine lv_if_ne (tgt := 175) hx hb dL_holds_153 (by decide) (fun c19 => ?_) (fun c19 => ?_)
            · replace h := im c19 h
              cases h
            replace h := ip c19 h
            refine lv_aload_n hx hb dL_holds_156 rfl (lv_at hl 0 rfl) ?_
            refine lv_iconst (v := 3) hx hb dL_holds_157 (by decide) ?_
            replace h := bd h
            obtain ⟨t20, et20, h⟩ := h
            refine callEi (vx_runSW (As := [.ref h0, .int 3]) (rest := []) ⟨hx, hb, hml, hown, hts⟩ (c_L_value l D T h0 u18 t17.2 3 _ t20 et20) (vx_cwSW 2 hts gL_holds_L_value rfl rfl rfl hdS_L_value ⟨Nat.le_of_ble_eq_true rfl, Nat.le_of_ble_eq_true rfl⟩) ⟨PM_blind, PM_at hP hD hK⟩ rfl rfl hl.1 rfl (lv_room (Nat.le_of_ble_eq_true rfl)) dL_holds_158 ⟨Nat.zero_le _, Nat.zero_le _⟩) hS hA hP hD (fun u21 H locs hP hD hS => ?_)
            refine lv_if_gt (tgt := 171) hx hb dL_holds_161 (by decide) (fun c22 => ?_) (fun c22 => ?_)
            · replace h := ip c22 h
              refine lv_iconst (v := 1) hx hb dL_holds_171 (by decide) ?_
              refine lv_goto (tgt := 176) hx hb dL_holds_172 (by decide) ?_
              obtain rfl := Option.some.inj h
              exact W.zret hx hb hr rfl (fun t ht hW => ⟨⟨_, u21, rfl, rfl, by rw [ht]; exact hP, hD⟩, hS.F ht⟩) hS.2.2 dL_holds_176 hlocks
            replace h := im c22 h
            refine lv_aload_n hx hb dL_holds_164 rfl (lv_at hl 0 rfl) ?_
            replace h := bd h
            obtain ⟨t23, et23, h⟩ := h
            refine callEi (va_runV (As := []) (rest := []) ⟨hx, hb, hml, hown, hts⟩ (c_X4_bound l D T h0 u21 t20.2 _ t23 et23) (cwV 0 hts gL_holds_X4_bound rfl rfl rfl hdV_X4_bound ⟨Nat.le_of_ble_eq_true rfl, Nat.le_of_ble_eq_true rfl⟩) ⟨PM_blind, va_recv hK.1 hP (ci := 4) (q0 := 0) rfl rfl, PM_at hP hD hK⟩ rfl rfl hl.1 rfl (lv_room (Nat.le_of_ble_eq_true rfl)) dL_holds_165 ⟨Nat.zero_le _, Nat.zero_le _⟩) hS hA hP hD (fun u24 H locs hP hD hS => ?_)
            refine lv_if_ne (tgt := 175) hx hb dL_holds_168 (by decide) (fun c25 => ?_) (fun c25 => ?_)
            · replace h := im c25 h
              cases h
            replace h := ip c25 h
            refine lv_iconst (v := 1) hx hb dL_holds_171 (by decide) ?_
            refine lv_goto (tgt := 176) hx hb dL_holds_172 (by decide) ?_
            obtain rfl := Option.some.inj h
            exact W.zret hx hb hr rfl (fun t ht hW => ⟨⟨_, u24, rfl, rfl, by rw [ht]; exact hP, hD⟩, hS.F ht⟩) hS.2.2 dL_holds_176 hlocks
          replace h := im c16 h
          refine lv_iload_n hx hb dL_holds_137 rfl (lv_at hl 2 rfl) ?_
          refine lv_if_lt (tgt := 145) hx hb dL_holds_138 (by decide) (fun c26 => ?_) (fun c26 => ?_)
          · replace h := ip c26 h
            cases h
          replace h := im c26 h
          refine lv_iload_n hx hb dL_holds_141 rfl (lv_at hl 3 rfl) ?_
          refine lv_if_le (tgt := 175) hx hb dL_holds_142 (by decide) (fun c27 => ?_) (fun c27 => ?_)
          · replace h := ip c27 h
            cases h
          replace h := im c27 h
          refine lv_aload_n hx hb dL_holds_145 rfl (lv_at hl 0 rfl) ?_
          refine lv_iconst (v := 0) hx hb dL_holds_146 (by decide) ?_
          replace h := bd h
          obtain ⟨t28, et28, h⟩ := h
          refine callEl (vx_runSW (As := [.ref h0, .int 0]) (rest := []) ⟨hx, hb, hml, hown, hts⟩ (c_L_weighs l D T h0 u15 t14.2 0 _ t28 et28) (vx_cwSW 2 hts gL_holds_L_weighs rfl rfl rfl hdS_L_weighs ⟨Nat.le_of_ble_eq_true rfl, Nat.le_of_ble_eq_true rfl⟩) ⟨PM_blind, PM_at hP hD hK⟩ rfl rfl hl.1 rfl (lv_room (Nat.le_of_ble_eq_true rfl)) dL_holds_147 ⟨Nat.zero_le _, Nat.zero_le _⟩) hS hA hP hD (fun u29 H locs hP hD hS => ?_)
          refine lv_iload_n hx hb dL_holds_150 rfl (lv_at hl 3 rfl) ?_
          refine lv_i2l (v := t3.1.toInt64) hx hb dL_holds_151 rfl ?_
          refine W.lcmp hx hb dL_holds_152 ?_
          refine lv_if_ne (tgt := 175) hx hb dL_holds_153 (by decide) (fun c30 => ?_) (fun c30 => ?_)
          · replace h := im c30 h
            cases h
          replace h := ip c30 h
          refine lv_aload_n hx hb dL_holds_156 rfl (lv_at hl 0 rfl) ?_
          refine lv_iconst (v := 3) hx hb dL_holds_157 (by decide) ?_
          replace h := bd h
          obtain ⟨t31, et31, h⟩ := h
          refine callEi (vx_runSW (As := [.ref h0, .int 3]) (rest := []) ⟨hx, hb, hml, hown, hts⟩ (c_L_value l D T h0 u29 t28.2 3 _ t31 et31) (vx_cwSW 2 hts gL_holds_L_value rfl rfl rfl hdS_L_value ⟨Nat.le_of_ble_eq_true rfl, Nat.le_of_ble_eq_true rfl⟩) ⟨PM_blind, PM_at hP hD hK⟩ rfl rfl hl.1 rfl (lv_room (Nat.le_of_ble_eq_true rfl)) dL_holds_158 ⟨Nat.zero_le _, Nat.zero_le _⟩) hS hA hP hD (fun u32 H locs hP hD hS => ?_)
          refine lv_if_gt (tgt := 171) hx hb dL_holds_161 (by decide) (fun c33 => ?_) (fun c33 => ?_)
          · replace h := ip c33 h
            refine lv_iconst (v := 1) hx hb dL_holds_171 (by decide) ?_
            refine lv_goto (tgt := 176) hx hb dL_holds_172 (by decide) ?_
            obtain rfl := Option.some.inj h
            exact W.zret hx hb hr rfl (fun t ht hW => ⟨⟨_, u32, rfl, rfl, by rw [ht]; exact hP, hD⟩, hS.F ht⟩) hS.2.2 dL_holds_176 hlocks
          replace h := im c33 h
          refine lv_aload_n hx hb dL_holds_164 rfl (lv_at hl 0 rfl) ?_
          replace h := bd h
          obtain ⟨t34, et34, h⟩ := h
          refine callEi (va_runV (As := []) (rest := []) ⟨hx, hb, hml, hown, hts⟩ (c_X4_bound l D T h0 u32 t31.2 _ t34 et34) (cwV 0 hts gL_holds_X4_bound rfl rfl rfl hdV_X4_bound ⟨Nat.le_of_ble_eq_true rfl, Nat.le_of_ble_eq_true rfl⟩) ⟨PM_blind, va_recv hK.1 hP (ci := 4) (q0 := 0) rfl rfl, PM_at hP hD hK⟩ rfl rfl hl.1 rfl (lv_room (Nat.le_of_ble_eq_true rfl)) dL_holds_165 ⟨Nat.zero_le _, Nat.zero_le _⟩) hS hA hP hD (fun u35 H locs hP hD hS => ?_)
          refine lv_if_ne (tgt := 175) hx hb dL_holds_168 (by decide) (fun c36 => ?_) (fun c36 => ?_)
          · replace h := im c36 h
            cases h
          replace h := ip c36 h
          refine lv_iconst (v := 1) hx hb dL_holds_171 (by decide) ?_
          refine lv_goto (tgt := 176) hx hb dL_holds_172 (by decide) ?_
          obtain rfl := Option.some.inj h
          exact W.zret hx hb hr rfl (fun t ht hW => ⟨⟨_, u35, rfl, rfl, by rw [ht]; exact hP, hD⟩, hS.F ht⟩) hS.2.2 dL_holds_176 hlocks
        replace h := im c11 h
        refine lv_iload hx hb dL_holds_56 (lv_at hl 6 rfl) ?_
        refine lv_if_eq (tgt := 117) hx hb dL_holds_58 (by decide) (fun c37 => ?_) (fun c37 => ?_)
        · replace h := ip c37 h
          cases h
        replace h := im c37 h
        refine lv_aload_n hx hb dL_holds_61 rfl (lv_at hl 0 rfl) ?_
        refine lv_iload hx hb dL_holds_62 (lv_at hl 7 rfl) ?_
        replace h := bd h
        obtain ⟨t38, et38, h⟩ := h
        refine callEi (vx_runSW (As := [.ref h0, .int i7_49]) (rest := []) ⟨hx, hb, hml, hown, hts⟩ (c_L_liesOf l D T h0 A9_49 x0_49 i7_49 _ t38 et38) (vx_cwSW 2 hts gL_holds_L_liesOf rfl rfl rfl hdS_L_liesOf ⟨Nat.le_of_ble_eq_true rfl, Nat.le_of_ble_eq_true rfl⟩) ⟨PM_blind, PM_at hP hD hK⟩ rfl rfl hl.1 rfl (lv_room (Nat.le_of_ble_eq_true rfl)) dL_holds_64 ⟨Nat.zero_le _, Nat.zero_le _⟩) hS hA hP hD (fun u39 H locs hP hD hS => ?_)
        refine lv_istore (lv' := [(8, .int t38.1), (0, .ref h0), (1, .int v1), (2, .int t1.1), (3, .int t3.1), (4, .int ((2 * t5.1) + 1)), (5, .int i5_49), (6, .int i6_49), (7, .int i7_49)]) hx hb dL_holds_67 hl (by decide) rfl (fun ls hl => ?_)
        refine lv_iload hx hb dL_holds_69 (lv_at hl 6 rfl) ?_
        refine lv_iload hx hb dL_holds_71 (lv_at hl 0 rfl) ?_
        refine lv_aload_n hx hb dL_holds_73 rfl (lv_at hl 1 rfl) ?_
        refine lv_iconst (v := 1) hx hb dL_holds_74 (by decide) ?_
        replace h := bd h
        obtain ⟨t40, et40, h⟩ := h
        refine callEi (vx_runSW (As := [.ref h0, .int 1]) (rest := [.int t38.1, .int i5_49]) ⟨hx, hb, hml, hown, hts⟩ (c_L_value l D T h0 u39 t38.2 1 _ t40 et40) (vx_cwSW 2 hts gL_holds_L_value rfl rfl rfl hdS_L_value ⟨Nat.le_of_ble_eq_true rfl, Nat.le_of_ble_eq_true rfl⟩) ⟨PM_blind, PM_at hP hD hK⟩ rfl rfl hl.1 rfl (lv_room (Nat.le_of_ble_eq_true rfl)) dL_holds_75 ⟨Nat.zero_le _, Nat.zero_le _⟩) hS hA hP hD (fun u41 H locs hP hD hS => ?_)
        refine lv_icmp_gt (tgt := 85) hx hb dL_holds_78 (by decide) (fun c42 => ?_) (fun c42 => ?_)
        · replace h := ip c42 h
          refine lv_iconst (v := 0) hx hb dL_holds_85 (by decide) ?_
          refine lv_iadd hx hb dL_holds_86 ?_
          refine lv_istore (lv' := [(5, .int (i5_49 + 0)), (8, .int t38.1), (0, .ref h0), (1, .int v1), (2, .int t1.1), (3, .int t3.1), (4, .int ((2 * t5.1) + 1)), (6, .int i6_49), (7, .int i7_49)]) hx hb dL_holds_87 hl (by decide) rfl (fun ls hl => ?_)
          refine lv_iload hx hb dL_holds_89 (lv_at hl 1 rfl) ?_
          refine lv_if_lt (tgt := 108) hx hb dL_holds_91 (by decide) (fun c43 => ?_) (fun c43 => ?_)
          · replace h := ip c43 h
            cases h
          replace h := im c43 h
          refine lv_iload hx hb dL_holds_94 (lv_at hl 1 rfl) ?_
          refine lv_aload_n hx hb dL_holds_96 rfl (lv_at hl 2 rfl) ?_
          refine lv_iconst (v := 2) hx hb dL_holds_97 (by decide) ?_
          replace h := bd h
          obtain ⟨t44, et44, h⟩ := h
          refine callEi (vx_runSW (As := [.ref h0, .int 2]) (rest := [.int t38.1]) ⟨hx, hb, hml, hown, hts⟩ (c_L_value l D T h0 u41 t40.2 2 _ t44 et44) (vx_cwSW 2 hts gL_holds_L_value rfl rfl rfl hdS_L_value ⟨Nat.le_of_ble_eq_true rfl, Nat.le_of_ble_eq_true rfl⟩) ⟨PM_blind, PM_at hP hD hK⟩ rfl rfl hl.1 rfl (lv_room (Nat.le_of_ble_eq_true rfl)) dL_holds_98 ⟨Nat.zero_le _, Nat.zero_le _⟩) hS hA hP hD (fun u45 H locs hP hD hS => ?_)
          refine lv_icmp_gt (tgt := 108) hx hb dL_holds_101 (by decide) (fun c46 => ?_) (fun c46 => ?_)
          · replace h := ip c46 h
            cases h
          replace h := im c46 h
          refine lv_iconst (v := 1) hx hb dL_holds_104 (by decide) ?_
          refine lv_goto (tgt := 109) hx hb dL_holds_105 (by decide) ?_
          refine lv_istore (lv' := [(6, .int 1), (5, .int (i5_49 + 0)), (8, .int t38.1), (0, .ref h0), (1, .int v1), (2, .int t1.1), (3, .int t3.1), (4, .int ((2 * t5.1) + 1)), (7, .int i7_49)]) hx hb dL_holds_109 hl (by decide) rfl (fun ls hl => ?_)
          refine lv_iinc (v := i7_49 + 1) (lv' := [(7, .int (i7_49 + 1)), (6, .int 1), (5, .int (i5_49 + 0)), (8, .int t38.1), (0, .ref h0), (1, .int v1), (2, .int t1.1), (3, .int t3.1), (4, .int ((2 * t5.1) + 1))]) hx hb dL_holds_111 hl (k := 8) rfl rfl (by decide) rfl (fun ls hl => ?_)
          refine lv_goto (tgt := 49) hx hb dL_holds_114 (by decide) ?_
          exact ih49 (i5_49 + 0) 1 (i7_49 + 1) t44.2 _ _ _ ls h hP hD hS (lv_sub hl [4, 5, 6, 7, 8, 2, 1, 0] rfl)
        replace h := im c42 h
        refine lv_iconst (v := 1) hx hb dL_holds_81 (by decide) ?_
        refine lv_goto (tgt := 86) hx hb dL_holds_82 (by decide) ?_
        refine lv_iadd hx hb dL_holds_86 ?_
        refine lv_istore (lv' := [(5, .int (i5_49 + 1)), (8, .int t38.1), (0, .ref h0), (1, .int v1), (2, .int t1.1), (3, .int t3.1), (4, .int ((2 * t5.1) + 1)), (6, .int i6_49), (7, .int i7_49)]) hx hb dL_holds_87 hl (by decide) rfl (fun ls hl => ?_)
        refine lv_iload hx hb dL_holds_89 (lv_at hl 1 rfl) ?_
        refine lv_if_lt (tgt := 108) hx hb dL_holds_91 (by decide) (fun c47 => ?_) (fun c47 => ?_)
        · replace h := ip c47 h
          cases h
        replace h := im c47 h
        refine lv_iload hx hb dL_holds_94 (lv_at hl 1 rfl) ?_
        refine lv_aload_n hx hb dL_holds_96 rfl (lv_at hl 2 rfl) ?_
        refine lv_iconst (v := 2) hx hb dL_holds_97 (by decide) ?_
        replace h := bd h
        obtain ⟨t48, et48, h⟩ := h
        refine callEi (vx_runSW (As := [.ref h0, .int 2]) (rest := [.int t38.1]) ⟨hx, hb, hml, hown, hts⟩ (c_L_value l D T h0 u41 t40.2 2 _ t48 et48) (vx_cwSW 2 hts gL_holds_L_value rfl rfl rfl hdS_L_value ⟨Nat.le_of_ble_eq_true rfl, Nat.le_of_ble_eq_true rfl⟩) ⟨PM_blind, PM_at hP hD hK⟩ rfl rfl hl.1 rfl (lv_room (Nat.le_of_ble_eq_true rfl)) dL_holds_98 ⟨Nat.zero_le _, Nat.zero_le _⟩) hS hA hP hD (fun u49 H locs hP hD hS => ?_)
        refine lv_icmp_gt (tgt := 108) hx hb dL_holds_101 (by decide) (fun c50 => ?_) (fun c50 => ?_)
        · replace h := ip c50 h
          cases h
        replace h := im c50 h
        refine lv_iconst (v := 1) hx hb dL_holds_104 (by decide) ?_
        refine lv_goto (tgt := 109) hx hb dL_holds_105 (by decide) ?_
        refine lv_istore (lv' := [(6, .int 1), (5, .int (i5_49 + 1)), (8, .int t38.1), (0, .ref h0), (1, .int v1), (2, .int t1.1), (3, .int t3.1), (4, .int ((2 * t5.1) + 1)), (7, .int i7_49)]) hx hb dL_holds_109 hl (by decide) rfl (fun ls hl => ?_)
        refine lv_iinc (v := i7_49 + 1) (lv' := [(7, .int (i7_49 + 1)), (6, .int 1), (5, .int (i5_49 + 1)), (8, .int t38.1), (0, .ref h0), (1, .int v1), (2, .int t1.1), (3, .int t3.1), (4, .int ((2 * t5.1) + 1))]) hx hb dL_holds_111 hl (k := 8) rfl rfl (by decide) rfl (fun ls hl => ?_)
        refine lv_goto (tgt := 49) hx hb dL_holds_114 (by decide) ?_
        exact ih49 (i5_49 + 1) 1 (i7_49 + 1) t48.2 _ _ _ ls h hP hD hS (lv_sub hl [4, 5, 6, 7, 8, 2, 1, 0] rfl)
  exact K49 1000 0 1 0 t8.2 _ _ _ ls h hP hD hS (lv_sub hl [6, 7, 5, 4, 3, 2, 1, 0] rfl)
set_option maxHeartbeats 4000000 in
set_option maxRecDepth 100000 in
theorem c_L_splits (l : Launch) (D : va_G) (T : Nat → ClassId) (h0 : Nat) (A0 : Nat → Nat → Nat) (Z0 : Nat → St) (v1 : Int32) (v2 : Int32) (v3 : Int32) (sz : Nat) (r : Int32 × (Nat → St)) (h : F_L_splits Z0 v1 v2 v3 = some r) : Met l yL_splits wsL_splits ({ frames := 8, cells := 0, slots := 0, locals := 148 } : Room) (va_Pc [.ref h0, .int v1, .int v2, .int v3] (PM D T (scW T h0 A0 (Z0)) sz)) (QEi D (scW T h0) r.1 r.2 (va_A (scW T h0 A0 (Z0)) sz)) 0 0 (va_A (scW T h0 A0 (Z0)) sz) := by
  refine met_of (cc := cL_splits) (maxL := 6) (ret := (some .boolean)) (lv := [(0, .ref h0), (1, .int v1), (2, .int v2), (3, .int v3)]) (by decide) rfl (Nat.le_of_ble_eq_true rfl) rfl ?_
  intro p e s m args below meth c ls C0 hl hB
  obtain ⟨hx, hb, hr, hml, hown, hts, hlocks, hname⟩ := C0
  obtain ⟨hsz, hP, hK, hD0⟩ := hB
  subst hsz
  have hD := hD0.self (sz := s.heap.size)
  generalize hAe : va_A (scW T h0 A0 (Z0)) s.heap.size = A at hD ⊢
  have hA : ∀ q : Nat, s.heap.size ≤ q → A q := fun q h => by rw [← hAe]; exact Or.inr h
  have hS : va_S A s.heap s.heap [] := va_S.rf
  unfold F_L_splits at h
  refine lv_aload_n hx hb dL_splits_0 rfl (lv_at hl 0 rfl) ?_
  refine lv_iload_n hx hb dL_splits_1 rfl (lv_at hl 1 rfl) ?_
  refine lv_iload_n hx hb dL_splits_2 rfl (lv_at hl 2 rfl) ?_
  refine lv_iconst (v := 0) hx hb dL_splits_3 (by decide) ?_
  refine lv_iload_n hx hb dL_splits_4 rfl (lv_at hl 3 rfl) ?_
  replace h := bd h
  obtain ⟨t1, et1, h⟩ := h
  refine callEl (vx_runSW (As := [.ref h0, .int v1, .int v2, .int 0, .int v3]) (rest := []) ⟨hx, hb, hml, hown, hts⟩ (c_L_behind l D T h0 A0 Z0 v1 v2 0 v3 _ t1 et1) (vx_cwSW 5 hts gL_splits_L_behind rfl rfl rfl hdS_L_behind ⟨Nat.le_of_ble_eq_true rfl, Nat.le_of_ble_eq_true rfl⟩) ⟨PM_blind, PM_at hP hD hK⟩ rfl rfl hl.1 rfl (lv_room (Nat.le_of_ble_eq_true rfl)) dL_splits_5 ⟨Nat.zero_le _, Nat.zero_le _⟩) hS hA hP hD (fun u2 H locs hP hD hS => ?_)
  refine lv_aload_n hx hb dL_splits_8 rfl (lv_at hl 0 rfl) ?_
  refine lv_iload_n hx hb dL_splits_9 rfl (lv_at hl 1 rfl) ?_
  refine lv_iload_n hx hb dL_splits_10 rfl (lv_at hl 2 rfl) ?_
  refine lv_iconst (v := 1) hx hb dL_splits_11 (by decide) ?_
  refine lv_iload_n hx hb dL_splits_12 rfl (lv_at hl 3 rfl) ?_
  replace h := bd h
  obtain ⟨t3, et3, h⟩ := h
  refine callEl (vx_runSW (As := [.ref h0, .int v1, .int v2, .int 1, .int v3]) (rest := [.long t1.1]) ⟨hx, hb, hml, hown, hts⟩ (c_L_behind l D T h0 u2 t1.2 v1 v2 1 v3 _ t3 et3) (vx_cwSW 5 hts gL_splits_L_behind rfl rfl rfl hdS_L_behind ⟨Nat.le_of_ble_eq_true rfl, Nat.le_of_ble_eq_true rfl⟩) ⟨PM_blind, PM_at hP hD hK⟩ rfl rfl hl.1 rfl (lv_room (Nat.le_of_ble_eq_true rfl)) dL_splits_13 ⟨Nat.zero_le _, Nat.zero_le _⟩) hS hA hP hD (fun u4 H locs hP hD hS => ?_)
  refine lv_ladd hx hb dL_splits_16 ?_
  refine lv_aload_n hx hb dL_splits_17 rfl (lv_at hl 0 rfl) ?_
  refine lv_iload_n hx hb dL_splits_18 rfl (lv_at hl 1 rfl) ?_
  refine lv_iload_n hx hb dL_splits_19 rfl (lv_at hl 2 rfl) ?_
  refine lv_iconst (v := 2) hx hb dL_splits_20 (by decide) ?_
  refine lv_iload_n hx hb dL_splits_21 rfl (lv_at hl 3 rfl) ?_
  replace h := bd h
  obtain ⟨t5, et5, h⟩ := h
  refine callEl (vx_runSW (As := [.ref h0, .int v1, .int v2, .int 2, .int v3]) (rest := [.long (t1.1 + t3.1)]) ⟨hx, hb, hml, hown, hts⟩ (c_L_behind l D T h0 u4 t3.2 v1 v2 2 v3 _ t5 et5) (vx_cwSW 5 hts gL_splits_L_behind rfl rfl rfl hdS_L_behind ⟨Nat.le_of_ble_eq_true rfl, Nat.le_of_ble_eq_true rfl⟩) ⟨PM_blind, PM_at hP hD hK⟩ rfl rfl hl.1 rfl (lv_room (Nat.le_of_ble_eq_true rfl)) dL_splits_22 ⟨Nat.zero_le _, Nat.zero_le _⟩) hS hA hP hD (fun u6 H locs hP hD hS => ?_)
  refine lv_ladd hx hb dL_splits_25 ?_
  refine lv_lstore (lv' := [(4, .long ((t1.1 + t3.1) + t5.1)), (0, .ref h0), (1, .int v1), (2, .int v2), (3, .int v3)]) hx hb dL_splits_26 hl (by decide) rfl (fun ls hl => ?_)
  refine lv_lload hx hb dL_splits_28 (lv_at hl 0 rfl) ?_
  refine lv_aload_n hx hb dL_splits_30 rfl (lv_at hl 1 rfl) ?_
  refine lv_iload_n hx hb dL_splits_31 rfl (lv_at hl 4 rfl) ?_
  refine lv_iconst (v := 1) hx hb dL_splits_32 (by decide) ?_
  refine lv_iadd hx hb dL_splits_33 ?_
  replace h := bd h
  obtain ⟨t7, et7, h⟩ := h
  refine callEl (vx_runSW (As := [.ref h0, .int (v3 + 1)]) (rest := [.long ((t1.1 + t3.1) + t5.1)]) ⟨hx, hb, hml, hown, hts⟩ (c_L_weighs l D T h0 u6 t5.2 (v3 + 1) _ t7 et7) (vx_cwSW 2 hts gL_splits_L_weighs rfl rfl rfl hdS_L_weighs ⟨Nat.le_of_ble_eq_true rfl, Nat.le_of_ble_eq_true rfl⟩) ⟨PM_blind, PM_at hP hD hK⟩ rfl rfl hl.1 rfl (lv_room (Nat.le_of_ble_eq_true rfl)) dL_splits_34 ⟨Nat.zero_le _, Nat.zero_le _⟩) hS hA hP hD (fun u8 H locs hP hD hS => ?_)
  refine W.lcmp hx hb dL_splits_37 ?_
  refine lv_if_ne (tgt := 45) hx hb dL_splits_38 (by decide) (fun c9 => ?_) (fun c9 => ?_)
  · replace h := im c9 h
    cases h
  replace h := ip c9 h
  refine lv_iconst (v := 1) hx hb dL_splits_41 (by decide) ?_
  refine lv_goto (tgt := 46) hx hb dL_splits_42 (by decide) ?_
  obtain rfl := Option.some.inj h
  exact W.zret hx hb hr rfl (fun t ht hW => ⟨⟨_, u8, rfl, rfl, by rw [ht]; exact hP, hD⟩, hS.F ht⟩) hS.2.2 dL_splits_46 hlocks
