/-! the law's script, a number of it -/
def F_L_cell (L : Nat) (xs : Nat → Int32) (v1 : Int32) : Option Int32 := if nI L ≤ v1 then some ((214013 * (v1 + 43)) &&& 2147483647) else if v1 < 0 ∨ L ≤ v1.toNatClampNeg then none else some (xs v1.toNatClampNeg &&& 2147483647)
def PS (b L : Nat) (xs : Nat → Int32) (U : State) : Prop := va_X b L xs U U.heap ∧ b < U.heap.size
theorem PS_blind {b L : Nat} {xs : Nat → Int32} {av : List Value} : FrameBlind (va_Pc av (PS b L xs)) := fun _ U g mk q => ⟨q.1, va_X.moved (u := U) (U := U.calling g mk _) (Vm.Alike.refl U.vm) q.2.1, q.2.2⟩
theorem PS_at {b L : Nat} {xs : Nat → Int32} {av : List Value} {s : State} {H : Heap} {locs : List Loc} {A : Nat → Prop} (hX : va_X b L xs s s.heap) (hbl : b < s.heap.size) (hbA : ¬ A b) (hS : va_S A s.heap H locs) : ∀ U : State, U.heap = H → s.WarmedH U.vm → va_Pc av (PS b L xs) av.toArray U := fun U hU hW => ⟨rfl, va_X.moved hW.alike (hX.kept (by rw [hU]; exact hS.2.1 b hbl hbA)), by rw [hU]; exact Nat.lt_of_lt_of_le hbl hS.1⟩
theorem hdS_L_cell : yL_cell.cls ≠ "java/lang/invoke/MethodHandle" ∧ yL_cell.cls ≠ "java/lang/invoke/VarHandle" ∧ (parseMethodDescriptor yL_cell.desc).map (fun d => d.parameters.length) = some 2 := by decide +kernel
set_option maxHeartbeats 4000000 in
set_option maxRecDepth 100000 in
theorem c_L_cell (l : Launch) (b L : Nat) (xs : Nat → Int32) (v1 : Int32) (r : Int32) (h : F_L_cell L xs v1 = some r) : Met l yL_cell wsL_cell ({ frames := 0, cells := 0, slots := 0, locals := 0 } : Room) (va_Pc [.ref b, .int v1] (PS b L xs)) (QRi r) 0 0 (fun _ => False) := by
  refine met_of (cc := cL_cell) (maxL := 2) (ret := (some .int)) (lv := [(0, .ref b), (1, .int v1)]) (by decide) rfl (Nat.le_of_ble_eq_true rfl) rfl ?_
  intro p e s m args below meth c ls C0 hl hB
  obtain ⟨hx, hb, hr, hml, hown, hts, hlocks, hname⟩ := C0
  obtain ⟨hX, hbl⟩ := hB
  have hS : va_S (fun q => s.heap.size ≤ q) s.heap s.heap [] := va_S.rf
  have hbA : ¬ (fun q => s.heap.size ≤ q) b := Nat.not_le.mpr hbl
  unfold F_L_cell at h
  refine lv_iload_n hx hb dL_cell_0 rfl (lv_at hl 1 rfl) ?_
  refine lv_aload_n hx hb dL_cell_1 rfl (lv_at hl 0 rfl) ?_
  refine va_slen hx hb hX hbl hbA hS dL_cell_2 ?_
  refine lv_icmp_ge (tgt := 12) hx hb dL_cell_3 (by decide) (fun c1 => ?_) (fun c1 => ?_)
  · replace h := ip c1 h
    refine lv_ldc hx hb hown (hts (.constant RL 7 (214013)) (List.mem_of_getElem? (i := 1) rfl)) dL_cell_12 ?_
    refine lv_iload_n hx hb dL_cell_14 rfl (lv_at hl 1 rfl) ?_
    refine lv_bipush (v := 43) hx hb dL_cell_15 (by decide) ?_
    refine lv_iadd hx hb dL_cell_17 ?_
    refine lv_imul hx hb dL_cell_18 ?_
    refine lv_ldc hx hb hown (hts (.constant RL 8 (2147483647)) (List.mem_of_getElem? (i := 2) rfl)) dL_cell_19 ?_
    refine lv_iand hx hb dL_cell_21 ?_
    exact W.iret hx hb hr (fun t ht hW => ⟨_, rfl, Option.some.inj h, ht⟩) (fun q hq => absurd hq List.not_mem_nil) dL_cell_22 hlocks
  replace h := im c1 h
  replace h := gd h
  obtain ⟨g1, h⟩ := h
  refine lv_aload_n hx hb dL_cell_6 rfl (lv_at hl 0 rfl) ?_
  refine lv_iload_n hx hb dL_cell_7 rfl (lv_at hl 1 rfl) ?_
  refine va_sld hx hb hX hbl hbA hS g1 dL_cell_8 ?_
  refine lv_goto (tgt := 19) hx hb dL_cell_9 (by decide) ?_
  refine lv_ldc hx hb hown (hts (.constant RL 8 (2147483647)) (List.mem_of_getElem? (i := 2) rfl)) dL_cell_19 ?_
  refine lv_iand hx hb dL_cell_21 ?_
  exact W.iret hx hb hr (fun t ht hW => ⟨_, rfl, Option.some.inj h, ht⟩) (fun q hq => absurd hq List.not_mem_nil) dL_cell_22 hlocks
def B_L_law_123 (L : Nat) (xs : Nat → Int32) (t1 : Int32) (t5 : Int32) (t6 : Int32) (t7 : Int32) (k123 : Int32 → Int32 → Int32 → (Nat → St) → Option (Int32 × (Nat → St))) (i5_123 : Int32) (i6_123 : Int32) (i7_123 : Int32) (x0_123 : Nat → St) : Option (Int32 × (Nat → St)) :=
  if 24 ≤ i7_123 then ((F_L_value x0_123 3).bind fun t25 => if i5_123 = 0 then none else ((F_X4_forget t25.2).bind fun t28 => if t28.1 = 24 then ((F_L_value t28.2 3).bind fun t31 => if t31.1 = ((2 * (2 + (t1 - t1 / 15 * 15))) + 1) then ((F_L_value t31.2 2).bind fun t34 => if t34.1 = 0 then ((F_L_undoes t34.2).bind fun t37 => if t37.1 < 0 then none else ((F_L_value t37.2 3).bind fun t40 => if t40.1 = t25.1 then ((F_L_value t40.2 2).bind fun t43 => if t43.1 = 24 then ((T_L_asks t43.2 0 1).bind fun t46 => if t46 = ((-2000001)) then ((T_L_asks t43.2 1 1).bind fun t49 => if t49 = ((-2000001)) then ((F_L_holds t43.2 i6_123).bind fun t52 => if t52.1 = 0 then none else (some (1, t52.2))) else none) else none) else none) else none)) else none) else none) else none)) else (if i5_123 = 0 then none else ((F_L_cell L xs (6 + i7_123)).bind fun t56 => if (2 + (t1 - t1 / 15 * 15)) / 2 = 0 then none else (some (1 + (t56 - t56 / ((2 + (t1 - t1 / 15 * 15)) / 2) * ((2 + (t1 - t1 / 15 * 15)) / 2)))).bind fun t58 => if ((2 + (t1 - t1 / 15 * 15)) - (2 * t58)) + 1 = 0 then none else (some ((t56 / 32) - (t56 / 32) / (((2 + (t1 - t1 / 15 * 15)) - (2 * t58)) + 1) * (((2 + (t1 - t1 / 15 * 15)) - (2 * t58)) + 1))).bind fun t60 => (some ((((1 <<< (t58 &&& 31)) - 1) <<< (t60 &&& 31)) <<< (t58 &&& 31))).bind fun t61 => (F_L_value x0_123 3).bind fun t62 => (F_L_splits t62.2 (((1 <<< (t58 &&& 31)) - 1) <<< (t60 &&& 31)) t61 ((t56 / 1024) - (t56 / 1024) / 20 * 20)).bind fun t64 => (some (i6_123 + (((((t5 &&& t6) &&& t7) &&& 1073741823) >>> (i7_123 &&& 31)) &&& 1))).bind fun t66 => (F_L_asks t64.2 (((1 <<< (t58 &&& 31)) - 1) <<< (t60 &&& 31)) t61).bind fun t67 => if t64.1 = 0 then none else (if t67.1 < 0 then none else (if 2 < t67.1 then none else ((F_L_value t67.2 2).bind fun t72 => if t72.1 = (i7_123 + 1) then ((F_L_value t72.2 6).bind fun t75 => if t75.1 = (i7_123 + 1) then ((F_L_value t75.2 3).bind fun t78 => if t62.1 < t78.1 then none else ((F_L_holds t78.2 t66).bind fun t81 => if t81.1 = 0 then none else (k123 1 t66 (i7_123 + 1) t81.2))) else none) else none)))))
def F_L_law (L : Nat) (xs : Nat → Int32) (Z0 : Nat → St) : Option (Int32 × (Nat → St)) :=
  (F_L_cell L xs 0).bind fun t1 => (F_L_cell L xs 1).bind fun t2 => if (2 * (2 + (t1 - t1 / 15 * 15))) + 1 = 0 then none else (some (t2 - t2 / ((2 * (2 + (t1 - t1 / 15 * 15))) + 1) * ((2 * (2 + (t1 - t1 / 15 * 15))) + 1))).bind fun t4 => (F_L_cell L xs 2).bind fun t5 => (F_L_cell L xs 3).bind fun t6 => (F_L_cell L xs 4).bind fun t7 => (F_L_begins Z0 (2 + (t1 - t1 / 15 * 15))).bind fun t8 => if t8.1 = 0 then ((T_L_asks t8.2 1 2).bind fun t11 => if t11 = ((-2000002)) then ((F_L_cell L xs 5).bind fun t14 => (F_L_limits t8.2 (t14 - t14 / 3 * 3)).bind fun t15 => if t15.1 = ((2 * (2 + (t1 - t1 / 15 * 15))) + 1) then ((F_L_hides t15.2 t4 (((t5 &&& t6) &&& t7) &&& 1073741823)).bind fun t18 => if t18.1 = ((-1)) then ((F_L_holds t18.2 0).bind fun t21 => if t21.1 = 0 then none else (fx4 (B_L_law_123 L xs t1 t5 t6 t7) 1000 1 0 0 t21.2)) else none) else none) else none) else none
