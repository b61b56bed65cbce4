/-! the law's body -/
abbrev AA (s : State) : Nat → Prop := fun q => s.heap.size ≤ q
/-- what stands at every point of the law -/
def LX (p : Program) (s : State) (m : MethodId) (c : Code) (b L : Nat) (xs : Nat → Int32) (D : va_G) (T : Nat → ClassId) : Prop :=
  p.tables.exec = Jvm.exec ∧ c.code = cL_law ∧ c.maxLocals = 15 ∧ s.vm.findClass RL = some m.cls ∧ (∀ w ∈ wsL_law, w.before #[Value.ref b] s = true) ∧ va_X b L xs s s.heap ∧ b < s.heap.size ∧ KK D T s ∧ EXF (AA s) s ∧ NC s
set_option maxHeartbeats 4000000 in
set_option maxRecDepth 100000 in
theorem law_walk {p : Program} {l : Launch} {e : Env} {s : State} {m : MethodId} {below : List Frame} {meth : Method} {c : Code} {b L : Nat} {xs : Nat → Int32} {D : va_G} {T : Nat → ClassId} {h0 : Nat} {Q : State → Prop} (hfl : l.stackTraces = false) (C0 : LX p s m c b L xs D T) (hend : ∀ (H : Heap) (ls : Array Slot), W p l e room_1 s m #[Value.ref b] below meth c H [] 600104 7301314 Q (F0 m 428 ls [.int 1])) {A0 : AT} {Z0 : ZT} {H : Heap} {locs : List Loc} {ls : Array Slot} {r : Int32 × (Nat → St)} (h : F_L_law L xs Z0 = some r) (hP : va_P D vwCl (scW T h0 A0 (Z0)) H) (hD : va_D (AA s) (scW T h0 A0 (Z0))) (hS : va_S (AA s) s.heap H locs) (hl : lv_has ls 15 [(1, .ref h0), (0, .ref b)]) : W p l e room_1 s m #[Value.ref b] below meth c H locs 63 1313 Q (F0 m 8 ls []) := by
  obtain ⟨hx, hb, hml, hown, hts, hX, hbl, hK, hE, hN⟩ := C0
  have hA : ∀ q : Nat, s.heap.size ≤ q → AA s q := fun _ h => h
  have hbA : ¬ AA s b := Nat.not_le.mpr hbl
  unfold F_L_law at h
  refine lv_iconst (v := 2) hx hb dL_law_8 (by decide) ?_
  refine lv_aload_n hx hb dL_law_9 rfl (lv_at hl 1 rfl) ?_
  refine lv_iconst (v := 0) hx hb dL_law_10 (by decide) ?_
  replace h := bd h
  obtain ⟨t1, et1, h⟩ := h
  refine callRi (v := t1) (va_runS (As := [.ref b, .int 0]) (rest := [.int 2]) ⟨hx, hb, hml, hown, hts⟩ (c_L_cell l b L xs 0 _ et1) (va_cwS 2 hts gL_law_L_cell rfl rfl rfl hdS_L_cell ⟨Nat.le_of_ble_eq_true rfl, Nat.le_of_ble_eq_true rfl⟩) ⟨PS_blind, PS_at hX hbl hbA hS⟩ rfl rfl hl.1 rfl (lv_room (Nat.le_of_ble_eq_true rfl)) dL_law_11 ⟨Nat.le_of_ble_eq_true rfl, Nat.le_of_ble_eq_true rfl⟩) ?_
  refine lv_bipush (v := 15) hx hb dL_law_14 (by decide) ?_
  refine lv_irem hx hb dL_law_16 (by decide) ?_
  refine lv_iadd hx hb dL_law_17 ?_
  refine lv_istore_n (lv' := [(2, .int (2 + (t1 - t1 / 15 * 15))), (1, .ref h0), (0, .ref b)]) hx hb dL_law_18 rfl hl (by decide) rfl (fun ls hl => ?_)
  refine lv_aload_n hx hb dL_law_19 rfl (lv_at hl 2 rfl) ?_
  refine lv_iconst (v := 1) hx hb dL_law_20 (by decide) ?_
  replace h := bd h
  obtain ⟨t2, et2, h⟩ := h
  refine callRi (v := t2) (va_runS (As := [.ref b, .int 1]) (rest := []) ⟨hx, hb, hml, hown, hts⟩ (c_L_cell l b L xs 1 _ et2) (va_cwS 2 hts gL_law_L_cell rfl rfl rfl hdS_L_cell ⟨Nat.le_of_ble_eq_true rfl, Nat.le_of_ble_eq_true rfl⟩) ⟨PS_blind, PS_at hX hbl hbA hS⟩ rfl rfl hl.1 rfl (lv_room (Nat.le_of_ble_eq_true rfl)) dL_law_21 ⟨Nat.le_of_ble_eq_true rfl, Nat.le_of_ble_eq_true rfl⟩) ?_
  refine lv_iconst (v := 2) hx hb dL_law_24 (by decide) ?_
  refine lv_iload_n hx hb dL_law_25 rfl (lv_at hl 0 rfl) ?_
  refine lv_imul hx hb dL_law_26 ?_
  refine lv_iconst (v := 1) hx hb dL_law_27 (by decide) ?_
  refine lv_iadd hx hb dL_law_28 ?_
  replace h := gd h
  obtain ⟨g3, h⟩ := h
  refine lv_irem hx hb dL_law_29 g3 ?_
  replace h := bd h
  obtain ⟨t4, et4, h⟩ := h
  refine eqi (Option.some.inj et4) ?_
  refine lv_istore_n (lv' := [(3, .int t4), (2, .int (2 + (t1 - t1 / 15 * 15))), (1, .ref h0), (0, .ref b)]) hx hb dL_law_30 rfl hl (by decide) rfl (fun ls hl => ?_)
  refine lv_aload_n hx hb dL_law_31 rfl (lv_at hl 3 rfl) ?_
  refine lv_iconst (v := 2) hx hb dL_law_32 (by decide) ?_
  replace h := bd h
  obtain ⟨t5, et5, h⟩ := h
  refine callRi (v := t5) (va_runS (As := [.ref b, .int 2]) (rest := []) ⟨hx, hb, hml, hown, hts⟩ (c_L_cell l b L xs 2 _ et5) (va_cwS 2 hts gL_law_L_cell rfl rfl rfl hdS_L_cell ⟨Nat.le_of_ble_eq_true rfl, Nat.le_of_ble_eq_true rfl⟩) ⟨PS_blind, PS_at hX hbl hbA hS⟩ rfl rfl hl.1 rfl (lv_room (Nat.le_of_ble_eq_true rfl)) dL_law_33 ⟨Nat.le_of_ble_eq_true rfl, Nat.le_of_ble_eq_true rfl⟩) ?_
  refine lv_aload_n hx hb dL_law_36 rfl (lv_at hl 3 rfl) ?_
  refine lv_iconst (v := 3) hx hb dL_law_37 (by decide) ?_
  replace h := bd h
  obtain ⟨t6, et6, h⟩ := h
  refine callRi (v := t6) (va_runS (As := [.ref b, .int 3]) (rest := [.int t5]) ⟨hx, hb, hml, hown, hts⟩ (c_L_cell l b L xs 3 _ et6) (va_cwS 2 hts gL_law_L_cell rfl rfl rfl hdS_L_cell ⟨Nat.le_of_ble_eq_true rfl, Nat.le_of_ble_eq_true rfl⟩) ⟨PS_blind, PS_at hX hbl hbA hS⟩ rfl rfl hl.1 rfl (lv_room (Nat.le_of_ble_eq_true rfl)) dL_law_38 ⟨Nat.le_of_ble_eq_true rfl, Nat.le_of_ble_eq_true rfl⟩) ?_
  refine lv_iand hx hb dL_law_41 ?_
  refine lv_aload_n hx hb dL_law_42 rfl (lv_at hl 3 rfl) ?_
  refine lv_iconst (v := 4) hx hb dL_law_43 (by decide) ?_
  replace h := bd h
  obtain ⟨t7, et7, h⟩ := h
  refine callRi (v := t7) (va_runS (As := [.ref b, .int 4]) (rest := [.int (t5 &&& t6)]) ⟨hx, hb, hml, hown, hts⟩ (c_L_cell l b L xs 4 _ et7) (va_cwS 2 hts gL_law_L_cell rfl rfl rfl hdS_L_cell ⟨Nat.le_of_ble_eq_true rfl, Nat.le_of_ble_eq_true rfl⟩) ⟨PS_blind, PS_at hX hbl hbA hS⟩ rfl rfl hl.1 rfl (lv_room (Nat.le_of_ble_eq_true rfl)) dL_law_44 ⟨Nat.le_of_ble_eq_true rfl, Nat.le_of_ble_eq_true rfl⟩) ?_
  refine lv_iand hx hb dL_law_47 ?_
  refine lv_ldc hx hb hown (hts (.constant RL 77 (1073741823)) (List.mem_of_getElem? (i := 3) rfl)) dL_law_48 ?_
  refine lv_iand hx hb dL_law_50 ?_
  refine lv_istore (lv' := [(4, .int (((t5 &&& t6) &&& t7) &&& 1073741823)), (3, .int t4), (2, .int (2 + (t1 - t1 / 15 * 15))), (1, .ref h0), (0, .ref b)]) hx hb dL_law_51 hl (by decide) rfl (fun ls hl => ?_)
  refine lv_aload_n hx hb dL_law_53 rfl (lv_at hl 3 rfl) ?_
  refine lv_iload_n hx hb dL_law_54 rfl (lv_at hl 2 rfl) ?_
  replace h := bd h
  obtain ⟨t8, et8, h⟩ := h
  refine callEi (vx_runSW (As := [.ref h0, .int (2 + (t1 - t1 / 15 * 15))]) (rest := []) ⟨hx, hb, hml, hown, hts⟩ (c_L_begins l D T h0 A0 Z0 (2 + (t1 - t1 / 15 * 15)) _ t8 et8) (vx_cwSW 2 hts gL_law_L_begins rfl rfl rfl hdS_L_begins ⟨Nat.le_of_ble_eq_true rfl, Nat.le_of_ble_eq_true rfl⟩) ⟨PM_blind, PM_at hP hD hK⟩ rfl rfl hl.1 rfl (lv_room (Nat.le_of_ble_eq_true rfl)) dL_law_55 ⟨Nat.le_of_ble_eq_true rfl, Nat.le_of_ble_eq_true rfl⟩) hS hA hP hD (fun u9 H locs hP hD hS => ?_)
  refine lv_if_ne (tgt := 114) hx hb dL_law_58 (by decide) (fun c10 => ?_) (fun c10 => ?_)
  · replace h := im c10 h
    cases h
  replace h := ip c10 h
  refine lv_aload_n hx hb dL_law_61 rfl (lv_at hl 3 rfl) ?_
  refine lv_iconst (v := 1) hx hb dL_law_62 (by decide) ?_
  refine lv_iconst (v := 2) hx hb dL_law_63 (by decide) ?_
  replace h := bd h
  obtain ⟨t11, et11, h⟩ := h
  refine callEi (vx_runSW (As := [.ref h0, .int 1, .int 2]) (rest := []) ⟨hx, hb, hml, hown, hts⟩ (cx_L_asks l hfl D T h0 u9 t8.2 1 2 _ t11 et11) (vx_cwSW 3 hts gL_law_L_asks rfl rfl rfl hdS_L_asks ⟨Nat.le_of_ble_eq_true rfl, Nat.le_of_ble_eq_true rfl⟩) ⟨PW_blind, PW_at hP hD hK hE hN hS (va_self hD hS hA)⟩ rfl rfl hl.1 rfl (lv_room (Nat.le_of_ble_eq_true rfl)) dL_law_64 ⟨Nat.le_of_ble_eq_true rfl, Nat.le_of_ble_eq_true rfl⟩) hS hA hP hD (fun u12 H locs hP hD hS => ?_)
  refine lv_ldc hx hb hown (hts (.constant RL 20 (-2000002)) (List.mem_of_getElem? (i := 4) rfl)) dL_law_67 ?_
  refine lv_icmp_ne (tgt := 114) hx hb dL_law_69 (by decide) (fun c13 => ?_) (fun c13 => ?_)
  · replace h := im c13 h
    cases h
  replace h := ip c13 h
  refine lv_aload_n hx hb dL_law_72 rfl (lv_at hl 3 rfl) ?_
  refine lv_aload_n hx hb dL_law_73 rfl (lv_at hl 4 rfl) ?_
  refine lv_iconst (v := 5) hx hb dL_law_74 (by decide) ?_
  replace h := bd h
  obtain ⟨t14, et14, h⟩ := h
  refine callRi (v := t14) (va_runS (As := [.ref b, .int 5]) (rest := [.ref h0]) ⟨hx, hb, hml, hown, hts⟩ (c_L_cell l b L xs 5 _ et14) (va_cwS 2 hts gL_law_L_cell rfl rfl rfl hdS_L_cell ⟨Nat.le_of_ble_eq_true rfl, Nat.le_of_ble_eq_true rfl⟩) ⟨PS_blind, PS_at hX hbl hbA hS⟩ rfl rfl hl.1 rfl (lv_room (Nat.le_of_ble_eq_true rfl)) dL_law_75 ⟨Nat.le_of_ble_eq_true rfl, Nat.le_of_ble_eq_true rfl⟩) ?_
  refine lv_iconst (v := 3) hx hb dL_law_78 (by decide) ?_
  refine lv_irem hx hb dL_law_79 (by decide) ?_
  replace h := bd h
  obtain ⟨t15, et15, h⟩ := h
  refine callEi (vx_runSW (As := [.ref h0, .int (t14 - t14 / 3 * 3)]) (rest := []) ⟨hx, hb, hml, hown, hts⟩ (c_L_limits l D T h0 u12 t8.2 (t14 - t14 / 3 * 3) _ t15 et15) (vx_cwSW 2 hts gL_law_L_limits rfl rfl rfl hdS_L_limits ⟨Nat.le_of_ble_eq_true rfl, Nat.le_of_ble_eq_true rfl⟩) ⟨PM_blind, PM_at hP hD hK⟩ rfl rfl hl.1 rfl (lv_room (Nat.le_of_ble_eq_true rfl)) dL_law_80 ⟨Nat.le_of_ble_eq_true rfl, Nat.le_of_ble_eq_true rfl⟩) hS hA hP hD (fun u16 H locs hP hD hS => ?_)
  refine lv_iconst (v := 2) hx hb dL_law_83 (by decide) ?_
  refine lv_iload_n hx hb dL_law_84 rfl (lv_at hl 2 rfl) ?_
  refine lv_imul hx hb dL_law_85 ?_
  refine lv_iconst (v := 1) hx hb dL_law_86 (by decide) ?_
  refine lv_iadd hx hb dL_law_87 ?_
  refine lv_icmp_ne (tgt := 114) hx hb dL_law_88 (by decide) (fun c17 => ?_) (fun c17 => ?_)
  · replace h := im c17 h
    cases h
  replace h := ip c17 h
  refine lv_aload_n hx hb dL_law_91 rfl (lv_at hl 3 rfl) ?_
  refine lv_iload_n hx hb dL_law_92 rfl (lv_at hl 1 rfl) ?_
  refine lv_iload hx hb dL_law_93 (lv_at hl 0 rfl) ?_
  replace h := bd h
  obtain ⟨t18, et18, h⟩ := h
  refine callEi (vx_runSW (As := [.ref h0, .int t4, .int (((t5 &&& t6) &&& t7) &&& 1073741823)]) (rest := []) ⟨hx, hb, hml, hown, hts⟩ (c_L_hides l D T h0 u16 t15.2 t4 (((t5 &&& t6) &&& t7) &&& 1073741823) _ t18 et18) (vx_cwSW 3 hts gL_law_L_hides rfl rfl rfl hdS_L_hides ⟨Nat.le_of_ble_eq_true rfl, Nat.le_of_ble_eq_true rfl⟩) ⟨PM_blind, PM_at hP hD hK⟩ rfl rfl hl.1 rfl (lv_room (Nat.le_of_ble_eq_true rfl)) dL_law_95 ⟨Nat.le_of_ble_eq_true rfl, Nat.le_of_ble_eq_true rfl⟩) hS hA hP hD (fun u19 H locs hP hD hS => ?_)
  refine lv_iconst (v := (-1)) hx hb dL_law_98 (by decide) ?_
  refine lv_icmp_ne (tgt := 114) hx hb dL_law_99 (by decide) (fun c20 => ?_) (fun c20 => ?_)
  · replace h := im c20 h
    cases h
  replace h := ip c20 h
  refine lv_aload_n hx hb dL_law_102 rfl (lv_at hl 3 rfl) ?_
  refine lv_iconst (v := 0) hx hb dL_law_103 (by decide) ?_
  replace h := bd h
  obtain ⟨t21, et21, h⟩ := h
  refine callEi (va_runS (As := [.ref h0, .int 0]) (rest := []) ⟨hx, hb, hml, hown, hts⟩ (c_L_holds l D T h0 u19 t18.2 0 _ t21 et21) (va_cwS 2 hts gL_law_L_holds rfl rfl rfl hdS_L_holds ⟨Nat.le_of_ble_eq_true rfl, Nat.le_of_ble_eq_true rfl⟩) ⟨PM_blind, PM_at hP hD hK⟩ rfl rfl hl.1 rfl (lv_room (Nat.le_of_ble_eq_true rfl)) dL_law_104 ⟨Nat.le_of_ble_eq_true rfl, Nat.le_of_ble_eq_true rfl⟩) hS hA hP hD (fun u22 H locs hP hD hS => ?_)
  refine lv_if_eq (tgt := 114) hx hb dL_law_107 (by decide) (fun c23 => ?_) (fun c23 => ?_)
  · replace h := ip c23 h
    cases h
  replace h := im c23 h
  refine lv_iconst (v := 1) hx hb dL_law_110 (by decide) ?_
  refine lv_goto (tgt := 115) hx hb dL_law_111 (by decide) ?_
  refine lv_istore (lv' := [(5, .int 1), (4, .int (((t5 &&& t6) &&& t7) &&& 1073741823)), (3, .int t4), (2, .int (2 + (t1 - t1 / 15 * 15))), (1, .ref h0), (0, .ref b)]) hx hb dL_law_115 hl (by decide) rfl (fun ls hl => ?_)
  refine lv_iconst (v := 0) hx hb dL_law_117 (by decide) ?_
  refine lv_istore (lv' := [(6, .int 0), (5, .int 1), (4, .int (((t5 &&& t6) &&& t7) &&& 1073741823)), (3, .int t4), (2, .int (2 + (t1 - t1 / 15 * 15))), (1, .ref h0), (0, .ref b)]) hx hb dL_law_118 hl (by decide) rfl (fun ls hl => ?_)
  refine lv_iconst (v := 0) hx hb dL_law_120 (by decide) ?_
  refine lv_istore (lv' := [(7, .int 0), (6, .int 0), (5, .int 1), (4, .int (((t5 &&& t6) &&& t7) &&& 1073741823)), (3, .int t4), (2, .int (2 + (t1 - t1 / 15 * 15))), (1, .ref h0), (0, .ref b)]) hx hb dL_law_121 hl (by decide) rfl (fun ls hl => ?_)
  have K123 : ∀ (n123 : Nat) (i5_123 : Int32) (i6_123 : Int32) (i7_123 : Int32) (x0_123 : Nat → St) (A9_123 : Nat → Nat → Nat) (H : Heap) (locs : List Loc) (ls : Array Slot), fx4 (B_L_law_123 L xs t1 t5 t6 t7) n123 i5_123 i6_123 i7_123 x0_123 = some r → va_P D vwCl (scW T h0 A9_123 (x0_123)) H → va_D (AA s) (scW T h0 A9_123 (x0_123)) → va_S (AA s) s.heap H locs → lv_has ls 15 [(0, .ref b), (1, .ref h0), (2, .int (2 + (t1 - t1 / 15 * 15))), (3, .int t4), (4, .int (((t5 &&& t6) &&& t7) &&& 1073741823)), (5, .int i5_123), (6, .int i6_123), (7, .int i7_123)] → W p l e room_1 s m #[Value.ref b] below meth c H locs 64 1319 Q (F0 m 123 ls []) := by
    intro n123
    induction n123 with
    | zero =>
        intro i5_123 i6_123 i7_123 x0_123 A9_123 H locs ls h
        cases h
    | succ n123 ih123 =>
        intro i5_123 i6_123 i7_123 x0_123 A9_123 H locs ls h hP hD hS hl
        replace h : B_L_law_123 L xs t1 t5 t6 t7 (fx4 (B_L_law_123 L xs t1 t5 t6 t7) n123) i5_123 i6_123 i7_123 x0_123 = some r := h
        unfold B_L_law_123 at h
        refine lv_iload hx hb dL_law_123 (lv_at hl 7 rfl) ?_
        refine lv_bipush (v := 24) hx hb dL_law_125 (by decide) ?_
        refine lv_icmp_ge (tgt := 311) hx hb dL_law_127 (by decide) (fun c24 => ?_) (fun c24 => ?_)
        · replace h := ip c24 h
          refine lv_aload_n hx hb dL_law_311 rfl (lv_at hl 1 rfl) ?_
          refine lv_iconst (v := 3) hx hb dL_law_312 (by decide) ?_
          replace h := bd h
          obtain ⟨t25, et25, h⟩ := h
          refine callEi (vx_runSW (As := [.ref h0, .int 3]) (rest := []) ⟨hx, hb, hml, hown, hts⟩ (c_L_value l D T h0 A9_123 x0_123 3 _ t25 et25) (vx_cwSW 2 hts gL_law_L_value rfl rfl rfl hdS_L_value ⟨Nat.le_of_ble_eq_true rfl, Nat.le_of_ble_eq_true rfl⟩) ⟨PM_blind, PM_at hP hD hK⟩ rfl rfl hl.1 rfl (lv_room (Nat.le_of_ble_eq_true rfl)) dL_law_313 ⟨Nat.le_of_ble_eq_true rfl, Nat.le_of_ble_eq_true rfl⟩) hS hA hP hD (fun u26 H locs hP hD hS => ?_)
          refine lv_istore (lv' := [(7, .int t25.1), (0, .ref b), (1, .ref h0), (2, .int (2 + (t1 - t1 / 15 * 15))), (3, .int t4), (4, .int (((t5 &&& t6) &&& t7) &&& 1073741823)), (5, .int i5_123), (6, .int i6_123)]) hx hb dL_law_316 hl (by decide) rfl (fun ls hl => ?_)
          refine lv_iload hx hb dL_law_318 (lv_at hl 6 rfl) ?_
          refine lv_if_eq (tgt := 384) hx hb dL_law_320 (by decide) (fun c27 => ?_) (fun c27 => ?_)
          · replace h := ip c27 h
            cases h
          replace h := im c27 h
          refine lv_aload_n hx hb dL_law_323 rfl (lv_at hl 2 rfl) ?_
          replace h := bd h
          obtain ⟨t28, et28, h⟩ := h
          refine callEi (va_runV (As := []) (rest := []) ⟨hx, hb, hml, hown, hts⟩ (c_X4_forget l D T h0 u26 t25.2 _ t28 et28) (cwV 0 hts gL_law_X4_forget rfl rfl rfl hdV_X4_forget ⟨Nat.le_of_ble_eq_true rfl, Nat.le_of_ble_eq_true rfl⟩) ⟨PM_blind, va_recv hK.1 hP (ci := 4) (q0 := 0) rfl rfl, PM_at hP hD hK⟩ rfl rfl hl.1 rfl (lv_room (Nat.le_of_ble_eq_true rfl)) dL_law_324 ⟨Nat.le_of_ble_eq_true rfl, Nat.le_of_ble_eq_true rfl⟩) hS hA hP hD (fun u29 H locs hP hD hS => ?_)
          refine lv_bipush (v := 24) hx hb dL_law_327 (by decide) ?_
          refine lv_icmp_ne (tgt := 384) hx hb dL_law_329 (by decide) (fun c30 => ?_) (fun c30 => ?_)
          · replace h := im c30 h
            cases h
          replace h := ip c30 h
          refine lv_aload_n hx hb dL_law_332 rfl (lv_at hl 2 rfl) ?_
          refine lv_iconst (v := 3) hx hb dL_law_333 (by decide) ?_
          replace h := bd h
          obtain ⟨t31, et31, h⟩ := h
          refine callEi (vx_runSW (As := [.ref h0, .int 3]) (rest := []) ⟨hx, hb, hml, hown, hts⟩ (c_L_value l D T h0 u29 t28.2 3 _ t31 et31) (vx_cwSW 2 hts gL_law_L_value rfl rfl rfl hdS_L_value ⟨Nat.le_of_ble_eq_true rfl, Nat.le_of_ble_eq_true rfl⟩) ⟨PM_blind, PM_at hP hD hK⟩ rfl rfl hl.1 rfl (lv_room (Nat.le_of_ble_eq_true rfl)) dL_law_334 ⟨Nat.le_of_ble_eq_true rfl, Nat.le_of_ble_eq_true rfl⟩) hS hA hP hD (fun u32 H locs hP hD hS => ?_)
          refine lv_iconst (v := 2) hx hb dL_law_337 (by decide) ?_
          refine lv_iload_n hx hb dL_law_338 rfl (lv_at hl 3 rfl) ?_
          refine lv_imul hx hb dL_law_339 ?_
          refine lv_iconst (v := 1) hx hb dL_law_340 (by decide) ?_
          refine lv_iadd hx hb dL_law_341 ?_
          refine lv_icmp_ne (tgt := 384) hx hb dL_law_342 (by decide) (fun c33 => ?_) (fun c33 => ?_)
          · replace h := im c33 h
            cases h
          replace h := ip c33 h
          refine lv_aload_n hx hb dL_law_345 rfl (lv_at hl 2 rfl) ?_
          refine lv_iconst (v := 2) hx hb dL_law_346 (by decide) ?_
          replace h := bd h
          obtain ⟨t34, et34, h⟩ := h
          refine callEi (vx_runSW (As := [.ref h0, .int 2]) (rest := []) ⟨hx, hb, hml, hown, hts⟩ (c_L_value l D T h0 u32 t31.2 2 _ t34 et34) (vx_cwSW 2 hts gL_law_L_value rfl rfl rfl hdS_L_value ⟨Nat.le_of_ble_eq_true rfl, Nat.le_of_ble_eq_true rfl⟩) ⟨PM_blind, PM_at hP hD hK⟩ rfl rfl hl.1 rfl (lv_room (Nat.le_of_ble_eq_true rfl)) dL_law_347 ⟨Nat.le_of_ble_eq_true rfl, Nat.le_of_ble_eq_true rfl⟩) hS hA hP hD (fun u35 H locs hP hD hS => ?_)
          refine lv_if_ne (tgt := 384) hx hb dL_law_350 (by decide) (fun c36 => ?_) (fun c36 => ?_)
          · replace h := im c36 h
            cases h
          replace h := ip c36 h
          refine lv_aload_n hx hb dL_law_353 rfl (lv_at hl 2 rfl) ?_
          replace h := bd h
          obtain ⟨t37, et37, h⟩ := h
          refine callEi (vx_runSW (As := [.ref h0]) (rest := []) ⟨hx, hb, hml, hown, hts⟩ (c_L_undoes l D T h0 u35 t34.2 _ t37 et37) (vx_cwSW 1 hts gL_law_L_undoes rfl rfl rfl hdS_L_undoes ⟨Nat.le_of_ble_eq_true rfl, Nat.le_of_ble_eq_true rfl⟩) ⟨PM_blind, PM_at hP hD hK⟩ rfl rfl hl.1 rfl (lv_room (Nat.le_of_ble_eq_true rfl)) dL_law_354 ⟨Nat.le_of_ble_eq_true rfl, Nat.le_of_ble_eq_true rfl⟩) hS hA hP hD (fun u38 H locs hP hD hS => ?_)
          refine lv_if_lt (tgt := 384) hx hb dL_law_357 (by decide) (fun c39 => ?_) (fun c39 => ?_)
          · replace h := ip c39 h
            cases h
          replace h := im c39 h
          refine lv_aload_n hx hb dL_law_360 rfl (lv_at hl 2 rfl) ?_
          refine lv_iconst (v := 3) hx hb dL_law_361 (by decide) ?_
          replace h := bd h
          obtain ⟨t40, et40, h⟩ := h
          refine callEi (vx_runSW (As := [.ref h0, .int 3]) (rest := []) ⟨hx, hb, hml, hown, hts⟩ (c_L_value l D T h0 u38 t37.2 3 _ t40 et40) (vx_cwSW 2 hts gL_law_L_value rfl rfl rfl hdS_L_value ⟨Nat.le_of_ble_eq_true rfl, Nat.le_of_ble_eq_true rfl⟩) ⟨PM_blind, PM_at hP hD hK⟩ rfl rfl hl.1 rfl (lv_room (Nat.le_of_ble_eq_true rfl)) dL_law_362 ⟨Nat.le_of_ble_eq_true rfl, Nat.le_of_ble_eq_true rfl⟩) hS hA hP hD (fun u41 H locs hP hD hS => ?_)
          refine lv_iload hx hb dL_law_365 (lv_at hl 0 rfl) ?_
          refine lv_icmp_ne (tgt := 384) hx hb dL_law_367 (by decide) (fun c42 => ?_) (fun c42 => ?_)
          · replace h := im c42 h
            cases h
          replace h := ip c42 h
          refine lv_aload_n hx hb dL_law_370 rfl (lv_at hl 2 rfl) ?_
          refine lv_iconst (v := 2) hx hb dL_law_371 (by decide) ?_
          replace h := bd h
          obtain ⟨t43, et43, h⟩ := h
          refine callEi (vx_runSW (As := [.ref h0, .int 2]) (rest := []) ⟨hx, hb, hml, hown, hts⟩ (c_L_value l D T h0 u41 t40.2 2 _ t43 et43) (vx_cwSW 2 hts gL_law_L_value rfl rfl rfl hdS_L_value ⟨Nat.le_of_ble_eq_true rfl, Nat.le_of_ble_eq_true rfl⟩) ⟨PM_blind, PM_at hP hD hK⟩ rfl rfl hl.1 rfl (lv_room (Nat.le_of_ble_eq_true rfl)) dL_law_372 ⟨Nat.le_of_ble_eq_true rfl, Nat.le_of_ble_eq_true rfl⟩) hS hA hP hD (fun u44 H locs hP hD hS => ?_)
          refine lv_bipush (v := 24) hx hb dL_law_375 (by decide) ?_
          refine lv_icmp_ne (tgt := 384) hx hb dL_law_377 (by decide) (fun c45 => ?_) (fun c45 => ?_)
          · replace h := im c45 h
            cases h
          replace h := ip c45 h
          refine lv_iconst (v := 1) hx hb dL_law_380 (by decide) ?_
          refine lv_goto (tgt := 385) hx hb dL_law_381 (by decide) ?_
          refine lv_istore (lv' := [(5, .int 1), (7, .int t25.1), (0, .ref b), (1, .ref h0), (2, .int (2 + (t1 - t1 / 15 * 15))), (3, .int t4), (4, .int (((t5 &&& t6) &&& t7) &&& 1073741823)), (6, .int i6_123)]) hx hb dL_law_385 hl (by decide) rfl (fun ls hl => ?_)
          refine lv_iload hx hb dL_law_387 (lv_at hl 0 rfl) ?_
          refine lv_if_eq (tgt := 427) hx hb dL_law_389 (by decide) (fun c => absurd c (by decide)) (fun _ => ?_)
          refine lv_aload_n hx hb dL_law_392 rfl (lv_at hl 3 rfl) ?_
          refine lv_iconst (v := 0) hx hb dL_law_393 (by decide) ?_
          refine lv_iconst (v := 1) hx hb dL_law_394 (by decide) ?_
          replace h := bd h
          obtain ⟨t46, et46, h⟩ := h
          refine callEi (vx_runSW (As := [.ref h0, .int 0, .int 1]) (rest := []) ⟨hx, hb, hml, hown, hts⟩ (cx_L_asks l hfl D T h0 u44 t43.2 0 1 _ t46 et46) (vx_cwSW 3 hts gL_law_L_asks rfl rfl rfl hdS_L_asks ⟨Nat.le_of_ble_eq_true rfl, Nat.le_of_ble_eq_true rfl⟩) ⟨PW_blind, PW_at hP hD hK hE hN hS (va_self hD hS hA)⟩ rfl rfl hl.1 rfl (lv_room (Nat.le_of_ble_eq_true rfl)) dL_law_395 ⟨Nat.le_of_ble_eq_true rfl, Nat.le_of_ble_eq_true rfl⟩) hS hA hP hD (fun u47 H locs hP hD hS => ?_)
          refine lv_ldc hx hb hown (hts (.constant RL 17 (-2000001)) (List.mem_of_getElem? (i := 5) rfl)) dL_law_398 ?_
          refine lv_icmp_ne (tgt := 427) hx hb dL_law_400 (by decide) (fun c48 => ?_) (fun c48 => ?_)
          · replace h := im c48 h
            cases h
          replace h := ip c48 h
          refine lv_aload_n hx hb dL_law_403 rfl (lv_at hl 3 rfl) ?_
          refine lv_iconst (v := 1) hx hb dL_law_404 (by decide) ?_
          refine lv_iconst (v := 1) hx hb dL_law_405 (by decide) ?_
          replace h := bd h
          obtain ⟨t49, et49, h⟩ := h
          refine callEi (vx_runSW (As := [.ref h0, .int 1, .int 1]) (rest := []) ⟨hx, hb, hml, hown, hts⟩ (cx_L_asks l hfl D T h0 u47 t43.2 1 1 _ t49 et49) (vx_cwSW 3 hts gL_law_L_asks rfl rfl rfl hdS_L_asks ⟨Nat.le_of_ble_eq_true rfl, Nat.le_of_ble_eq_true rfl⟩) ⟨PW_blind, PW_at hP hD hK hE hN hS (va_self hD hS hA)⟩ rfl rfl hl.1 rfl (lv_room (Nat.le_of_ble_eq_true rfl)) dL_law_406 ⟨Nat.le_of_ble_eq_true rfl, Nat.le_of_ble_eq_true rfl⟩) hS hA hP hD (fun u50 H locs hP hD hS => ?_)
          refine lv_ldc hx hb hown (hts (.constant RL 17 (-2000001)) (List.mem_of_getElem? (i := 5) rfl)) dL_law_409 ?_
          refine lv_icmp_ne (tgt := 427) hx hb dL_law_411 (by decide) (fun c51 => ?_) (fun c51 => ?_)
          · replace h := im c51 h
            cases h
          replace h := ip c51 h
          refine lv_aload_n hx hb dL_law_414 rfl (lv_at hl 3 rfl) ?_
          refine lv_iload hx hb dL_law_415 (lv_at hl 7 rfl) ?_
          replace h := bd h
          obtain ⟨t52, et52, h⟩ := h
          refine callEi (va_runS (As := [.ref h0, .int i6_123]) (rest := []) ⟨hx, hb, hml, hown, hts⟩ (c_L_holds l D T h0 u50 t43.2 i6_123 _ t52 et52) (va_cwS 2 hts gL_law_L_holds rfl rfl rfl hdS_L_holds ⟨Nat.le_of_ble_eq_true rfl, Nat.le_of_ble_eq_true rfl⟩) ⟨PM_blind, PM_at hP hD hK⟩ rfl rfl hl.1 rfl (lv_room (Nat.le_of_ble_eq_true rfl)) dL_law_417 ⟨Nat.le_of_ble_eq_true rfl, Nat.le_of_ble_eq_true rfl⟩) hS hA hP hD (fun u53 H locs hP hD hS => ?_)
          refine lv_if_eq (tgt := 427) hx hb dL_law_420 (by decide) (fun c54 => ?_) (fun c54 => ?_)
          · replace h := ip c54 h
            cases h
          replace h := im c54 h
          refine lv_iconst (v := 1) hx hb dL_law_423 (by decide) ?_
          refine lv_goto (tgt := 428) hx hb dL_law_424 (by decide) ?_
          refine va_forget (fun q hq => hS.2.2 q hq) ?_
          refine W.widen (k := 600104) (n := 7301314) (Nat.le_of_ble_eq_true rfl) (Nat.le_of_ble_eq_true rfl) ?_
          exact hend _ _
        replace h := im c24 h
        refine lv_iload hx hb dL_law_130 (lv_at hl 5 rfl) ?_
        refine lv_if_eq (tgt := 311) hx hb dL_law_132 (by decide) (fun c55 => ?_) (fun c55 => ?_)
        · replace h := ip c55 h
          cases h
        replace h := im c55 h
        refine lv_aload_n hx hb dL_law_135 rfl (lv_at hl 0 rfl) ?_
        refine lv_bipush (v := 6) hx hb dL_law_136 (by decide) ?_
        refine lv_iload hx hb dL_law_138 (lv_at hl 7 rfl) ?_
        refine lv_iadd hx hb dL_law_140 ?_
        replace h := bd h
        obtain ⟨t56, et56, h⟩ := h
        refine callRi (v := t56) (va_runS (As := [.ref b, .int (6 + i7_123)]) (rest := []) ⟨hx, hb, hml, hown, hts⟩ (c_L_cell l b L xs (6 + i7_123) _ et56) (va_cwS 2 hts gL_law_L_cell rfl rfl rfl hdS_L_cell ⟨Nat.le_of_ble_eq_true rfl, Nat.le_of_ble_eq_true rfl⟩) ⟨PS_blind, PS_at hX hbl hbA hS⟩ rfl rfl hl.1 rfl (lv_room (Nat.le_of_ble_eq_true rfl)) dL_law_141 ⟨Nat.le_of_ble_eq_true rfl, Nat.le_of_ble_eq_true rfl⟩) ?_
        refine lv_istore (lv' := [(8, .int t56), (0, .ref b), (1, .ref h0), (2, .int (2 + (t1 - t1 / 15 * 15))), (3, .int t4), (4, .int (((t5 &&& t6) &&& t7) &&& 1073741823)), (5, .int i5_123), (6, .int i6_123), (7, .int i7_123)]) hx hb dL_law_144 hl (by decide) rfl (fun ls hl => ?_)
        refine lv_iconst (v := 1) hx hb dL_law_146 (by decide) ?_
        refine lv_iload hx hb dL_law_147 (lv_at hl 0 rfl) ?_
        refine lv_iload_n hx hb dL_law_149 rfl (lv_at hl 3 rfl) ?_
        refine lv_iconst (v := 2) hx hb dL_law_150 (by decide) ?_
        refine lv_idiv hx hb dL_law_151 (by decide) ?_
        replace h := gd h
        obtain ⟨g57, h⟩ := h
        refine lv_irem hx hb dL_law_152 g57 ?_
        refine lv_iadd hx hb dL_law_153 ?_
        replace h := bd h
        obtain ⟨t58, et58, h⟩ := h
        refine eqi (Option.some.inj et58) ?_
        refine lv_istore (lv' := [(9, .int t58), (8, .int t56), (0, .ref b), (1, .ref h0), (2, .int (2 + (t1 - t1 / 15 * 15))), (3, .int t4), (4, .int (((t5 &&& t6) &&& t7) &&& 1073741823)), (5, .int i5_123), (6, .int i6_123), (7, .int i7_123)]) hx hb dL_law_154 hl (by decide) rfl (fun ls hl => ?_)
        refine lv_iload hx hb dL_law_156 (lv_at hl 1 rfl) ?_
        refine lv_bipush (v := 32) hx hb dL_law_158 (by decide) ?_
        refine lv_idiv hx hb dL_law_160 (by decide) ?_
        refine lv_iload_n hx hb dL_law_161 rfl (lv_at hl 4 rfl) ?_
        refine lv_iconst (v := 2) hx hb dL_law_162 (by decide) ?_
        refine lv_iload hx hb dL_law_163 (lv_at hl 0 rfl) ?_
        refine lv_imul hx hb dL_law_165 ?_
        refine lv_isub hx hb dL_law_166 ?_
        refine lv_iconst (v := 1) hx hb dL_law_167 (by decide) ?_
        refine lv_iadd hx hb dL_law_168 ?_
        replace h := gd h
        obtain ⟨g59, h⟩ := h
        refine lv_irem hx hb dL_law_169 g59 ?_
        replace h := bd h
        obtain ⟨t60, et60, h⟩ := h
        refine eqi (Option.some.inj et60) ?_
        refine lv_istore (lv' := [(10, .int t60), (9, .int t58), (8, .int t56), (0, .ref b), (1, .ref h0), (2, .int (2 + (t1 - t1 / 15 * 15))), (3, .int t4), (4, .int (((t5 &&& t6) &&& t7) &&& 1073741823)), (5, .int i5_123), (6, .int i6_123), (7, .int i7_123)]) hx hb dL_law_170 hl (by decide) rfl (fun ls hl => ?_)
        refine lv_iconst (v := 1) hx hb dL_law_172 (by decide) ?_
        refine lv_iload hx hb dL_law_173 (lv_at hl 1 rfl) ?_
        refine lv_ishl hx hb dL_law_175 ?_
        refine lv_iconst (v := 1) hx hb dL_law_176 (by decide) ?_
        refine lv_isub hx hb dL_law_177 ?_
        refine lv_iload hx hb dL_law_178 (lv_at hl 0 rfl) ?_
        refine lv_ishl hx hb dL_law_180 ?_
        refine lv_istore (lv' := [(11, .int (((1 <<< (t58 &&& 31)) - 1) <<< (t60 &&& 31))), (10, .int t60), (9, .int t58), (8, .int t56), (0, .ref b), (1, .ref h0), (2, .int (2 + (t1 - t1 / 15 * 15))), (3, .int t4), (4, .int (((t5 &&& t6) &&& t7) &&& 1073741823)), (5, .int i5_123), (6, .int i6_123), (7, .int i7_123)]) hx hb dL_law_181 hl (by decide) rfl (fun ls hl => ?_)
        refine lv_iload hx hb dL_law_183 (lv_at hl 0 rfl) ?_
        refine lv_iload hx hb dL_law_185 (lv_at hl 2 rfl) ?_
        refine lv_ishl hx hb dL_law_187 ?_
        replace h := bd h
        obtain ⟨t61, et61, h⟩ := h
        refine eqi (Option.some.inj et61) ?_
        refine lv_istore (lv' := [(12, .int t61), (11, .int (((1 <<< (t58 &&& 31)) - 1) <<< (t60 &&& 31))), (10, .int t60), (9, .int t58), (8, .int t56), (0, .ref b), (1, .ref h0), (2, .int (2 + (t1 - t1 / 15 * 15))), (3, .int t4), (4, .int (((t5 &&& t6) &&& t7) &&& 1073741823)), (5, .int i5_123), (6, .int i6_123), (7, .int i7_123)]) hx hb dL_law_188 hl (by decide) rfl (fun ls hl => ?_)
        refine lv_aload_n hx hb dL_law_190 rfl (lv_at hl 6 rfl) ?_
        refine lv_iconst (v := 3) hx hb dL_law_191 (by decide) ?_
        replace h := bd h
        obtain ⟨t62, et62, h⟩ := h
        refine callEi (vx_runSW (As := [.ref h0, .int 3]) (rest := []) ⟨hx, hb, hml, hown, hts⟩ (c_L_value l D T h0 A9_123 x0_123 3 _ t62 et62) (vx_cwSW 2 hts gL_law_L_value rfl rfl rfl hdS_L_value ⟨Nat.le_of_ble_eq_true rfl, Nat.le_of_ble_eq_true rfl⟩) ⟨PM_blind, PM_at hP hD hK⟩ rfl rfl hl.1 rfl (lv_room (Nat.le_of_ble_eq_true rfl)) dL_law_192 ⟨Nat.le_of_ble_eq_true rfl, Nat.le_of_ble_eq_true rfl⟩) hS hA hP hD (fun u63 H locs hP hD hS => ?_)
        refine lv_istore (lv' := [(13, .int t62.1), (12, .int t61), (11, .int (((1 <<< (t58 &&& 31)) - 1) <<< (t60 &&& 31))), (10, .int t60), (9, .int t58), (8, .int t56), (0, .ref b), (1, .ref h0), (2, .int (2 + (t1 - t1 / 15 * 15))), (3, .int t4), (4, .int (((t5 &&& t6) &&& t7) &&& 1073741823)), (5, .int i5_123), (6, .int i6_123), (7, .int i7_123)]) hx hb dL_law_195 hl (by decide) rfl (fun ls hl => ?_)
        refine lv_aload_n hx hb dL_law_197 rfl (lv_at hl 7 rfl) ?_
        refine lv_iload hx hb dL_law_198 (lv_at hl 2 rfl) ?_
        refine lv_iload hx hb dL_law_200 (lv_at hl 1 rfl) ?_
        refine lv_iload hx hb dL_law_202 (lv_at hl 5 rfl) ?_
        refine lv_sipush (v := 1024) hx hb dL_law_204 (by decide) ?_
        refine lv_idiv hx hb dL_law_207 (by decide) ?_
        refine lv_bipush (v := 20) hx hb dL_law_208 (by decide) ?_
        refine lv_irem hx hb dL_law_210 (by decide) ?_
        replace h := bd h
        obtain ⟨t64, et64, h⟩ := h
        refine callEi (va_runS (As := [.ref h0, .int (((1 <<< (t58 &&& 31)) - 1) <<< (t60 &&& 31)), .int t61, .int ((t56 / 1024) - (t56 / 1024) / 20 * 20)]) (rest := []) ⟨hx, hb, hml, hown, hts⟩ (c_L_splits l D T h0 u63 t62.2 (((1 <<< (t58 &&& 31)) - 1) <<< (t60 &&& 31)) t61 ((t56 / 1024) - (t56 / 1024) / 20 * 20) _ t64 et64) (va_cwS 4 hts gL_law_L_splits rfl rfl rfl hdS_L_splits ⟨Nat.le_of_ble_eq_true rfl, Nat.le_of_ble_eq_true rfl⟩) ⟨PM_blind, PM_at hP hD hK⟩ rfl rfl hl.1 rfl (lv_room (Nat.le_of_ble_eq_true rfl)) dL_law_211 ⟨Nat.le_of_ble_eq_true rfl, Nat.le_of_ble_eq_true rfl⟩) hS hA hP hD (fun u65 H locs hP hD hS => ?_)
        refine lv_istore (lv' := [(5, .int t64.1), (13, .int t62.1), (12, .int t61), (11, .int (((1 <<< (t58 &&& 31)) - 1) <<< (t60 &&& 31))), (10, .int t60), (9, .int t58), (8, .int t56), (0, .ref b), (1, .ref h0), (2, .int (2 + (t1 - t1 / 15 * 15))), (3, .int t4), (4, .int (((t5 &&& t6) &&& t7) &&& 1073741823)), (6, .int i6_123), (7, .int i7_123)]) hx hb dL_law_214 hl (by decide) rfl (fun ls hl => ?_)
        refine lv_iload hx hb dL_law_216 (lv_at hl 12 rfl) ?_
        refine lv_iload hx hb dL_law_218 (lv_at hl 11 rfl) ?_
        refine lv_iload hx hb dL_law_220 (lv_at hl 13 rfl) ?_
        refine lv_ishr hx hb dL_law_222 ?_
        refine lv_iconst (v := 1) hx hb dL_law_223 (by decide) ?_
        refine lv_iand hx hb dL_law_224 ?_
        refine lv_iadd hx hb dL_law_225 ?_
        replace h := bd h
        obtain ⟨t66, et66, h⟩ := h
        refine eqi (Option.some.inj et66) ?_
        refine lv_istore (lv' := [(6, .int t66), (5, .int t64.1), (13, .int t62.1), (12, .int t61), (11, .int (((1 <<< (t58 &&& 31)) - 1) <<< (t60 &&& 31))), (10, .int t60), (9, .int t58), (8, .int t56), (0, .ref b), (1, .ref h0), (2, .int (2 + (t1 - t1 / 15 * 15))), (3, .int t4), (4, .int (((t5 &&& t6) &&& t7) &&& 1073741823)), (7, .int i7_123)]) hx hb dL_law_226 hl (by decide) rfl (fun ls hl => ?_)
        refine lv_aload_n hx hb dL_law_228 rfl (lv_at hl 9 rfl) ?_
        refine lv_iload hx hb dL_law_229 (lv_at hl 4 rfl) ?_
        refine lv_iload hx hb dL_law_231 (lv_at hl 3 rfl) ?_
        replace h := bd h
        obtain ⟨t67, et67, h⟩ := h
        refine callEi (vx_runSW (As := [.ref h0, .int (((1 <<< (t58 &&& 31)) - 1) <<< (t60 &&& 31)), .int t61]) (rest := []) ⟨hx, hb, hml, hown, hts⟩ (c_L_asks l D T h0 u65 t64.2 (((1 <<< (t58 &&& 31)) - 1) <<< (t60 &&& 31)) t61 _ t67 et67) (vx_cwSW 3 hts gL_law_L_asks rfl rfl rfl hdS_L_asks ⟨Nat.le_of_ble_eq_true rfl, Nat.le_of_ble_eq_true rfl⟩) ⟨PM_blind, PM_at hP hD hK⟩ rfl rfl hl.1 rfl (lv_room (Nat.le_of_ble_eq_true rfl)) dL_law_233 ⟨Nat.le_of_ble_eq_true rfl, Nat.le_of_ble_eq_true rfl⟩) hS hA hP hD (fun u68 H locs hP hD hS => ?_)
        refine lv_istore (lv' := [(14, .int t67.1), (6, .int t66), (5, .int t64.1), (13, .int t62.1), (12, .int t61), (11, .int (((1 <<< (t58 &&& 31)) - 1) <<< (t60 &&& 31))), (10, .int t60), (9, .int t58), (8, .int t56), (0, .ref b), (1, .ref h0), (2, .int (2 + (t1 - t1 / 15 * 15))), (3, .int t4), (4, .int (((t5 &&& t6) &&& t7) &&& 1073741823)), (7, .int i7_123)]) hx hb dL_law_236 hl (by decide) rfl (fun ls hl => ?_)
        refine lv_iload hx hb dL_law_238 (lv_at hl 2 rfl) ?_
        refine lv_if_eq (tgt := 302) hx hb dL_law_240 (by decide) (fun c69 => ?_) (fun c69 => ?_)
        · replace h := ip c69 h
          cases h
        replace h := im c69 h
        refine lv_iload hx hb dL_law_243 (lv_at hl 0 rfl) ?_
        refine lv_if_lt (tgt := 302) hx hb dL_law_245 (by decide) (fun c70 => ?_) (fun c70 => ?_)
        · replace h := ip c70 h
          cases h
        replace h := im c70 h
        refine lv_iload hx hb dL_law_248 (lv_at hl 0 rfl) ?_
        refine lv_iconst (v := 2) hx hb dL_law_250 (by decide) ?_
        refine lv_icmp_gt (tgt := 302) hx hb dL_law_251 (by decide) (fun c71 => ?_) (fun c71 => ?_)
        · replace h := ip c71 h
          cases h
        replace h := im c71 h
        refine lv_aload_n hx hb dL_law_254 rfl (lv_at hl 10 rfl) ?_
        refine lv_iconst (v := 2) hx hb dL_law_255 (by decide) ?_
        replace h := bd h
        obtain ⟨t72, et72, h⟩ := h
        refine callEi (vx_runSW (As := [.ref h0, .int 2]) (rest := []) ⟨hx, hb, hml, hown, hts⟩ (c_L_value l D T h0 u68 t67.2 2 _ t72 et72) (vx_cwSW 2 hts gL_law_L_value rfl rfl rfl hdS_L_value ⟨Nat.le_of_ble_eq_true rfl, Nat.le_of_ble_eq_true rfl⟩) ⟨PM_blind, PM_at hP hD hK⟩ rfl rfl hl.1 rfl (lv_room (Nat.le_of_ble_eq_true rfl)) dL_law_256 ⟨Nat.le_of_ble_eq_true rfl, Nat.le_of_ble_eq_true rfl⟩) hS hA hP hD (fun u73 H locs hP hD hS => ?_)
        refine lv_iload hx hb dL_law_259 (lv_at hl 14 rfl) ?_
        refine lv_iconst (v := 1) hx hb dL_law_261 (by decide) ?_
        refine lv_iadd hx hb dL_law_262 ?_
        refine lv_icmp_ne (tgt := 302) hx hb dL_law_263 (by decide) (fun c74 => ?_) (fun c74 => ?_)
        · replace h := im c74 h
          cases h
        replace h := ip c74 h
        refine lv_aload_n hx hb dL_law_266 rfl (lv_at hl 10 rfl) ?_
        refine lv_bipush (v := 6) hx hb dL_law_267 (by decide) ?_
        replace h := bd h
        obtain ⟨t75, et75, h⟩ := h
        refine callEi (vx_runSW (As := [.ref h0, .int 6]) (rest := []) ⟨hx, hb, hml, hown, hts⟩ (c_L_value l D T h0 u73 t72.2 6 _ t75 et75) (vx_cwSW 2 hts gL_law_L_value rfl rfl rfl hdS_L_value ⟨Nat.le_of_ble_eq_true rfl, Nat.le_of_ble_eq_true rfl⟩) ⟨PM_blind, PM_at hP hD hK⟩ rfl rfl hl.1 rfl (lv_room (Nat.le_of_ble_eq_true rfl)) dL_law_269 ⟨Nat.le_of_ble_eq_true rfl, Nat.le_of_ble_eq_true rfl⟩) hS hA hP hD (fun u76 H locs hP hD hS => ?_)
        refine lv_iload hx hb dL_law_272 (lv_at hl 14 rfl) ?_
        refine lv_iconst (v := 1) hx hb dL_law_274 (by decide) ?_
        refine lv_iadd hx hb dL_law_275 ?_
        refine lv_icmp_ne (tgt := 302) hx hb dL_law_276 (by decide) (fun c77 => ?_) (fun c77 => ?_)
        · replace h := im c77 h
          cases h
        replace h := ip c77 h
        refine lv_aload_n hx hb dL_law_279 rfl (lv_at hl 10 rfl) ?_
        refine lv_iconst (v := 3) hx hb dL_law_280 (by decide) ?_
        replace h := bd h
        obtain ⟨t78, et78, h⟩ := h
        refine callEi (vx_runSW (As := [.ref h0, .int 3]) (rest := []) ⟨hx, hb, hml, hown, hts⟩ (c_L_value l D T h0 u76 t75.2 3 _ t78 et78) (vx_cwSW 2 hts gL_law_L_value rfl rfl rfl hdS_L_value ⟨Nat.le_of_ble_eq_true rfl, Nat.le_of_ble_eq_true rfl⟩) ⟨PM_blind, PM_at hP hD hK⟩ rfl rfl hl.1 rfl (lv_room (Nat.le_of_ble_eq_true rfl)) dL_law_281 ⟨Nat.le_of_ble_eq_true rfl, Nat.le_of_ble_eq_true rfl⟩) hS hA hP hD (fun u79 H locs hP hD hS => ?_)
        refine lv_iload hx hb dL_law_284 (lv_at hl 3 rfl) ?_
        refine lv_icmp_gt (tgt := 302) hx hb dL_law_286 (by decide) (fun c80 => ?_) (fun c80 => ?_)
        · replace h := ip c80 h
          cases h
        replace h := im c80 h
        refine lv_aload_n hx hb dL_law_289 rfl (lv_at hl 10 rfl) ?_
        refine lv_iload hx hb dL_law_290 (lv_at hl 1 rfl) ?_
        replace h := bd h
        obtain ⟨t81, et81, h⟩ := h
        refine callEi (va_runS (As := [.ref h0, .int t66]) (rest := []) ⟨hx, hb, hml, hown, hts⟩ (c_L_holds l D T h0 u79 t78.2 t66 _ t81 et81) (va_cwS 2 hts gL_law_L_holds rfl rfl rfl hdS_L_holds ⟨Nat.le_of_ble_eq_true rfl, Nat.le_of_ble_eq_true rfl⟩) ⟨PM_blind, PM_at hP hD hK⟩ rfl rfl hl.1 rfl (lv_room (Nat.le_of_ble_eq_true rfl)) dL_law_292 ⟨Nat.le_of_ble_eq_true rfl, Nat.le_of_ble_eq_true rfl⟩) hS hA hP hD (fun u82 H locs hP hD hS => ?_)
        refine lv_if_eq (tgt := 302) hx hb dL_law_295 (by decide) (fun c83 => ?_) (fun c83 => ?_)
        · replace h := ip c83 h
          cases h
        replace h := im c83 h
        refine lv_iconst (v := 1) hx hb dL_law_298 (by decide) ?_
        refine lv_goto (tgt := 303) hx hb dL_law_299 (by decide) ?_
        refine lv_istore (lv' := [(5, .int 1), (14, .int t67.1), (6, .int t66), (13, .int t62.1), (12, .int t61), (11, .int (((1 <<< (t58 &&& 31)) - 1) <<< (t60 &&& 31))), (10, .int t60), (9, .int t58), (8, .int t56), (0, .ref b), (1, .ref h0), (2, .int (2 + (t1 - t1 / 15 * 15))), (3, .int t4), (4, .int (((t5 &&& t6) &&& t7) &&& 1073741823)), (7, .int i7_123)]) hx hb dL_law_303 hl (by decide) rfl (fun ls hl => ?_)
        refine lv_iinc (v := i7_123 + 1) (lv' := [(7, .int (i7_123 + 1)), (5, .int 1), (14, .int t67.1), (6, .int t66), (13, .int t62.1), (12, .int t61), (11, .int (((1 <<< (t58 &&& 31)) - 1) <<< (t60 &&& 31))), (10, .int t60), (9, .int t58), (8, .int t56), (0, .ref b), (1, .ref h0), (2, .int (2 + (t1 - t1 / 15 * 15))), (3, .int t4), (4, .int (((t5 &&& t6) &&& t7) &&& 1073741823))]) hx hb dL_law_305 hl (k := 14) rfl rfl (by decide) rfl (fun ls hl => ?_)
        refine lv_goto (tgt := 123) hx hb dL_law_308 (by decide) ?_
        exact ih123 1 t66 (i7_123 + 1) t81.2 _ _ _ ls h hP hD hS (lv_sub hl [10, 11, 12, 13, 14, 1, 3, 0] rfl)
  exact K123 1000 1 0 0 t21.2 _ _ _ ls h hP hD hS (lv_sub hl [7, 6, 5, 4, 3, 2, 1, 0] rfl)
