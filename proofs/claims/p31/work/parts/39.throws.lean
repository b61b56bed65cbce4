/-! methods with a table, a call that throws -/
def NC (U : State) : Prop := ∀ a ∈ exCls, ∀ b ∈ exCls, a ≠ b → va_Nc a b U
theorem NC.warm {s U : State} (hW : s.WarmedH U.vm) (h : NC s) : NC U := fun a ha b hb n => va_Nc.moved hW.alike (h a ha b hb n)
theorem NC.calling {U : State} {g : JFrame} {mk : MethodId} {a : Array Value} (h : NC U) : NC (U.calling g mk a) := fun x hx y hy n => va_Nc.moved (u := U) (U := U.calling g mk a) (Vm.Alike.refl U.vm) (h x hx y hy n)
def PW (D : va_G) (T : Nat → ClassId) (wc : va_W) (sz : Nat) (U : State) : Prop := PM D T wc sz U ∧ EXF (va_A wc sz) U ∧ NC U
theorem PW_blind {D : va_G} {T : Nat → ClassId} {wc : va_W} {sz : Nat} {av : List Value} : FrameBlind (va_Pc av (PW D T wc sz)) := fun _ _ _ _ q => ⟨q.1, ⟨q.2.1.1, q.2.1.2.1, q.2.1.2.2.1.calling, q.2.1.2.2.2⟩, q.2.2.1.calling, q.2.2.2.calling⟩
theorem PW_at {D : va_G} {T : Nat → ClassId} {wc : va_W} {av : List Value} {s : State} {H : Heap} {locs : List Loc} {A A0 : Nat → Prop} (hP : va_P D vwCl wc H) (hD : va_D A wc) (hK : KK D T s) (hE : EXF A0 s) (hN : NC s) (hS : va_S A0 s.heap H locs) (hAB : ∀ q, va_A wc H.size q → A0 q) : ∀ U : State, U.heap = H → s.WarmedH U.vm → va_Pc av (PW D T wc H.size) av.toArray U := fun U hU hW => ⟨rfl, ⟨by rw [hU], by rw [hU]; exact hP, hK.warm hW, hD.weaken (fun _ _ _ _ => trivial)⟩, hE.at hS hAB hU hW, hN.warm hW⟩
theorem met_ofH {l : Launch} {y : MethodName} {ws ws' : List Cond} {rm : Room} {av : List Value} {B : State → Prop} {Qc : Array Value → State → Outcome → State → Prop} {mc ms : Nat} {free : Addr → Prop} {cc : ByteArray} {maxL : Nat} {ret : Option FieldType} {hh : List (Nat × Nat × Nat × Nat)} {lv : List (Nat × Value)}
    (hy : plainName y.cls = true) (hw : ws = Cond.codeWith y cc maxL ret hh :: ws') (hn : (lg_sl av).length ≤ maxL) (hlv : lv_args 0 av = lv)
    (body : ∀ (p : Program) (e : Env) (s : State) (m : MethodId) (args : Array Value) (below : List Frame) (meth : Method) (c : Code) (ls : Array Slot), CX p s m args meth c cc maxL ret ws y → c.exceptionTable.toList = tableOf hh → lv_has ls maxL lv → B s →
      W p l e rm s m args below meth c s.heap [] 0 0 (MQ below Qc args s mc ms free) (F0 m 0 ls [])) : Met l y ws rm (va_Pc av B) Qc mc ms free := by
  refine MetFree.of_bodyS (code := cc) (maxLocals := maxL) (ret := ret) hy ?_ ?_
  · intro args s m h hn
    obtain ⟨m9, meth, c, hn9, h1, h2, h3, h4, -, h5, h6, -⟩ := Cond.codeWith_spec (atoms_spec (ws := ws) h _ (by rw [hw]; exact List.mem_cons_self))
    cases hn.symm.trans hn9
    exact ⟨meth, c, h1, h2, h3, h4, h5, h6⟩
  · intro p e s m args below meth c s₁ C0 hml hv _
    have hh0 : s₁.heap = s.heap := by rw [C0.state]; rfl
    obtain ⟨rfl, hB⟩ := hv
    have hl := lv_entry av (n := maxL) hn
    rw [hlv] at hl
    have K := body p e s m _ below meth c _ ⟨C0.exec, C0.bytes, C0.returns, hml, findClass_of_methodNamed C0.named, atoms_spec (ws := ws) C0.pre, C0.notSynchronized, (name_of_methodNamed C0.named C0.method).1⟩ (vx_table (x := y) C0 (atoms_spec (ws := ws) C0.pre _ (by rw [hw]; exact List.mem_cons_self))) hl hB
    rw [← lg_entry_eq] at K
    obtain ⟨t, a1, o, b1, b2, b3⟩ := K s₁ hh0 (Stand.of_body C0)
    exact ⟨t, o, a1, b1, b2, ⟨b3.1, b3.2⟩⟩
def F_T4_ask (Z0 : Nat → St) (v1 : Int32) (v2 : Int32) : Option (Sum String (Int32 × (Nat → St))) :=
  (F_X2_isWeighing (Z0 0) v1 v2).bind fun t1 => if t1 = 0 then (some (.inl "java/lang/IllegalArgumentException")) else ((F_X2_canReply (Z0 0)).bind fun t3 => if t3 = 0 then (some (.inl "java/lang/IllegalStateException")) else ((F_X0_save Z0).bind fun t5 => (F_X2_reply (t5 0) v1 v2).bind fun t7 => some (.inr (t7.1, zU t5 0 t7.2))))
theorem atmX4_ask_34 : ∀ w ∈ (vx_atS RX4 34 "java/lang/IllegalArgumentException" ["java/lang/RuntimeException", "java/lang/Exception"]).filter goodWord, w ∈ wsX4_ask := fun w h => by
  unfold wsX4_ask
  refine List.mem_cons_of_mem _ ?_
  first | exact List.mem_append_right _ h | exact List.mem_append_left _ (List.mem_append_right _ h) | exact List.mem_append_left _ (List.mem_append_left _ (List.mem_append_right _ h))
theorem atmX4_ask_82 : ∀ w ∈ (vx_atS RX4 82 "java/lang/IllegalStateException" ["java/lang/RuntimeException", "java/lang/Exception"]).filter goodWord, w ∈ wsX4_ask := fun w h => by
  unfold wsX4_ask
  refine List.mem_cons_of_mem _ ?_
  first | exact List.mem_append_right _ h | exact List.mem_append_left _ (List.mem_append_right _ h) | exact List.mem_append_left _ (List.mem_append_left _ (List.mem_append_right _ h))
set_option maxHeartbeats 4000000 in
set_option maxRecDepth 100000 in
theorem cx_X4_ask (l : Launch) (hfl : l.stackTraces = false) (D : va_G) (T : Nat → ClassId) (h0 : Nat) (A0 : Nat → Nat → Nat) (Z0 : Nat → St) (v1 : Int32) (v2 : Int32) (sz : Nat) (r : Sum String (Int32 × (Nat → St))) (h : F_T4_ask Z0 v1 v2 = some r) : vx_Met l yX4_ask wsX4_ask ({ frames := 6, cells := 1, slots := 6, locals := 116 } : Room) (va_Pc [.ref h0, .int v1, .int v2] (PX D T (scW T h0 A0 (Z0)) sz)) (QXi D (scW T h0) r (va_A (scW T h0 A0 (Z0)) sz)) (XXq r) 1 6 (va_A (scW T h0 A0 (Z0)) sz) := by
  refine met_ofX (cc := cX4_ask) (maxL := 3) (ret := (some .int)) (lv := [(0, .ref h0), (1, .int v1), (2, .int v2)]) (by decide) rfl (Nat.le_of_ble_eq_true rfl) rfl ?_
  intro p e s m args below meth c ls C0 hno hl hB
  obtain ⟨hx, hb, hr, hml, hown, hts, hlocks, hname⟩ := C0
  obtain ⟨⟨hsz, hP, hK, hD0⟩, hE⟩ := hB
  subst hsz
  have hD := hD0.self (sz := s.heap.size)
  generalize hAe : va_A (scW T h0 A0 (Z0)) s.heap.size = A at hD hE ⊢
  have hA : ∀ q : Nat, s.heap.size ≤ q → A q := fun q h => by rw [← hAe]; exact Or.inr h
  have hS : va_S A s.heap s.heap [] := va_S.rf
  unfold F_T4_ask at h
  refine lv_aload_n hx hb dX4_ask_0 rfl (lv_at hl 0 rfl) ?_
  refine va_get (D := D) (ci := 4) (v := .ref (A0 0 0)) (C := RX4) (T := TX4) (N := 3) hx hb hts inX4_ask_4 hown hK.1 hP 0 rfl rfl 0 (by decide) (hts (.fieldLink RX4 12 "LyingScale" "now" "LLyingScale$State;") (List.mem_of_getElem? (i := 5) rfl)) (fun _ h9 => h9) rfl dX4_ask_1 ?_
  refine lv_iload_n hx hb dX4_ask_4 rfl (lv_at hl 1 rfl) ?_
  refine lv_iload_n hx hb dX4_ask_5 rfl (lv_at hl 2 rfl) ?_
  replace h := bd h
  obtain ⟨t1, et1, h⟩ := h
  refine callRi (v := t1) (va_runV (As := [.int v1, .int v2]) (rest := []) ⟨hx, hb, hml, hown, hts⟩ (c_X2_isWeighing l D T (A0 0) (Z0 0) v1 v2 t1 et1) (cwV 2 hts gX4_ask_X2_isWeighing rfl rfl rfl hdV_X2_isWeighing ⟨Nat.le_of_ble_eq_true rfl, Nat.le_of_ble_eq_true rfl⟩) ⟨PB_blind, va_recv hK.1 hP (ci := 2) (q0 := 3) rfl rfl, PB_at (hP.sub (ws' := stW T (A0 0) (Z0 0)) [3, 4, 5, 6, 7, 8, 9, 10, 11, 12, 13] rfl) hK⟩ rfl rfl hl.1 rfl (lv_room (Nat.le_of_ble_eq_true rfl)) dX4_ask_6 ⟨Nat.zero_le _, Nat.zero_le _⟩) ?_
  refine lv_if_ne (tgt := 22) hx hb dX4_ask_9 (by decide) (fun c2 => ?_) (fun c2 => ?_)
  · replace h := im c2 h
    refine lv_aload_n hx hb dX4_ask_22 rfl (lv_at hl 0 rfl) ?_
    refine va_get (D := D) (ci := 4) (v := .ref (A0 0 0)) (C := RX4) (T := TX4) (N := 3) hx hb hts inX4_ask_4 hown hK.1 hP 0 rfl rfl 0 (by decide) (hts (.fieldLink RX4 12 "LyingScale" "now" "LLyingScale$State;") (List.mem_of_getElem? (i := 5) rfl)) (fun _ h9 => h9) rfl dX4_ask_23 ?_
    replace h := bd h
    obtain ⟨t3, et3, h⟩ := h
    refine callRi (v := t3) (va_runV (As := []) (rest := []) ⟨hx, hb, hml, hown, hts⟩ (c_X2_canReply l D T (A0 0) (Z0 0) t3 et3) (cwV 0 hts gX4_ask_X2_canReply rfl rfl rfl hdV_X2_canReply ⟨Nat.le_of_ble_eq_true rfl, Nat.le_of_ble_eq_true rfl⟩) ⟨PB_blind, va_recv hK.1 hP (ci := 2) (q0 := 3) rfl rfl, PB_at (hP.sub (ws' := stW T (A0 0) (Z0 0)) [3, 4, 5, 6, 7, 8, 9, 10, 11, 12, 13] rfl) hK⟩ rfl rfl hl.1 rfl (lv_room (Nat.le_of_ble_eq_true rfl)) dX4_ask_26 ⟨Nat.zero_le _, Nat.zero_le _⟩) ?_
    refine lv_if_ne (tgt := 42) hx hb dX4_ask_29 (by decide) (fun c4 => ?_) (fun c4 => ?_)
    · replace h := im c4 h
      refine lv_aload_n hx hb dX4_ask_42 rfl (lv_at hl 0 rfl) ?_
      refine va_get (D := D) (ci := 4) (v := .ref (A0 6 1)) (C := RX4) (T := TX4) (N := 3) hx hb hts inX4_ask_4 hown hK.1 hP 0 rfl rfl 1 (by decide) (hts (.fieldLink RX4 19 "LyingScale" "history" "LLyingScale$History;") (List.mem_of_getElem? (i := 6) rfl)) (fun _ h9 => h9) rfl dX4_ask_43 ?_
      refine lv_aload_n hx hb dX4_ask_46 rfl (lv_at hl 0 rfl) ?_
      refine va_get (D := D) (ci := 4) (v := .ref (A0 0 0)) (C := RX4) (T := TX4) (N := 3) hx hb hts inX4_ask_4 hown hK.1 hP 0 rfl rfl 0 (by decide) (hts (.fieldLink RX4 12 "LyingScale" "now" "LLyingScale$State;") (List.mem_of_getElem? (i := 5) rfl)) (fun _ h9 => h9) rfl dX4_ask_47 ?_
      replace h := bd h
      obtain ⟨t5, et5, h⟩ := h
      refine callEv (va_runV (As := [.ref (A0 0 0)]) (rest := []) ⟨hx, hb, hml, hown, hts⟩ (c_X0_save l D T h0 A0 Z0 _ t5 et5) (cwV 1 hts gX4_ask_X0_save rfl rfl rfl hdV_X0_save ⟨Nat.le_of_ble_eq_true rfl, Nat.le_of_ble_eq_true rfl⟩) ⟨PM_blind, va_recv hK.1 hP (ci := 0) (q0 := 1) rfl rfl, PM_at hP hD hK⟩ rfl rfl hl.1 rfl (lv_room (Nat.le_of_ble_eq_true rfl)) dX4_ask_50 ⟨Nat.zero_le _, Nat.zero_le _⟩) hS hA hP hD (fun u6 H locs hP hD hS => ?_)
      refine lv_aload_n hx hb dX4_ask_53 rfl (lv_at hl 0 rfl) ?_
      refine va_get (D := D) (ci := 4) (v := .ref (u6 0 0)) (C := RX4) (T := TX4) (N := 3) hx hb hts inX4_ask_4 hown hK.1 hP 0 rfl rfl 0 (by decide) (hts (.fieldLink RX4 12 "LyingScale" "now" "LLyingScale$State;") (List.mem_of_getElem? (i := 5) rfl)) (fun _ h9 => h9) rfl dX4_ask_54 ?_
      refine lv_iload_n hx hb dX4_ask_57 rfl (lv_at hl 1 rfl) ?_
      refine lv_iload_n hx hb dX4_ask_58 rfl (lv_at hl 2 rfl) ?_
      replace h := bd h
      obtain ⟨t7, et7, h⟩ := h
      refine callMi (wr := [(h0, .inr (4, [.ref (u6 0 0), .ref (u6 6 1), .ref (u6 5 0)])), (u6 6 1, .inr (0, [.ref (u6 6 2), .int ((t5 6).1 0)])), (u6 6 2, .inl (T 3, 4, .inr (.inr (.inr (.inr (hsQ u6)))))), (u6 1 0, .inr (2, [.ref (u6 1 1), .ref (u6 1 2), .ref (u6 1 3), .ref (u6 1 4), .int ((t5 1).1 0), .int ((t5 1).1 1), .int ((t5 1).1 2), .int ((t5 1).1 3), .int ((t5 1).1 4)])), (u6 1 1, .inr (3, [.ref (u6 1 5), .ref (u6 1 6), .ref (u6 1 7), .int ((t5 1).1 5)])), (u6 1 2, .inr (3, [.ref (u6 1 8), .ref (u6 1 9), .ref (u6 1 10), .int ((t5 1).1 6)])), (u6 1 3, .inl (T 0, 33, .inl ((t5 1).2 6))), (u6 1 4, .inl (T 0, 33, .inl ((t5 1).2 7))), (u6 1 5, .inl (T 0, 40, .inl ((t5 1).2 0))), (u6 1 6, .inl (T 0, 40, .inl ((t5 1).2 1))), (u6 1 7, .inl (T 0, 40, .inl ((t5 1).2 2))), (u6 1 8, .inl (T 0, 8, .inl ((t5 1).2 3))), (u6 1 9, .inl (T 0, 8, .inl ((t5 1).2 4))), (u6 1 10, .inl (T 0, 8, .inl ((t5 1).2 5))), (u6 2 0, .inr (2, [.ref (u6 2 1), .ref (u6 2 2), .ref (u6 2 3), .ref (u6 2 4), .int ((t5 2).1 0), .int ((t5 2).1 1), .int ((t5 2).1 2), .int ((t5 2).1 3), .int ((t5 2).1 4)])), (u6 2 1, .inr (3, [.ref (u6 2 5), .ref (u6 2 6), .ref (u6 2 7), .int ((t5 2).1 5)])), (u6 2 2, .inr (3, [.ref (u6 2 8), .ref (u6 2 9), .ref (u6 2 10), .int ((t5 2).1 6)])), (u6 2 3, .inl (T 0, 33, .inl ((t5 2).2 6))), (u6 2 4, .inl (T 0, 33, .inl ((t5 2).2 7))), (u6 2 5, .inl (T 0, 40, .inl ((t5 2).2 0))), (u6 2 6, .inl (T 0, 40, .inl ((t5 2).2 1))), (u6 2 7, .inl (T 0, 40, .inl ((t5 2).2 2))), (u6 2 8, .inl (T 0, 8, .inl ((t5 2).2 3))), (u6 2 9, .inl (T 0, 8, .inl ((t5 2).2 4))), (u6 2 10, .inl (T 0, 8, .inl ((t5 2).2 5))), (u6 3 0, .inr (2, [.ref (u6 3 1), .ref (u6 3 2), .ref (u6 3 3), .ref (u6 3 4), .int ((t5 3).1 0), .int ((t5 3).1 1), .int ((t5 3).1 2), .int ((t5 3).1 3), .int ((t5 3).1 4)])), (u6 3 1, .inr (3, [.ref (u6 3 5), .ref (u6 3 6), .ref (u6 3 7), .int ((t5 3).1 5)])), (u6 3 2, .inr (3, [.ref (u6 3 8), .ref (u6 3 9), .ref (u6 3 10), .int ((t5 3).1 6)])), (u6 3 3, .inl (T 0, 33, .inl ((t5 3).2 6))), (u6 3 4, .inl (T 0, 33, .inl ((t5 3).2 7))), (u6 3 5, .inl (T 0, 40, .inl ((t5 3).2 0))), (u6 3 6, .inl (T 0, 40, .inl ((t5 3).2 1))), (u6 3 7, .inl (T 0, 40, .inl ((t5 3).2 2))), (u6 3 8, .inl (T 0, 8, .inl ((t5 3).2 3))), (u6 3 9, .inl (T 0, 8, .inl ((t5 3).2 4))), (u6 3 10, .inl (T 0, 8, .inl ((t5 3).2 5))), (u6 4 0, .inr (2, [.ref (u6 4 1), .ref (u6 4 2), .ref (u6 4 3), .ref (u6 4 4), .int ((t5 4).1 0), .int ((t5 4).1 1), .int ((t5 4).1 2), .int ((t5 4).1 3), .int ((t5 4).1 4)])), (u6 4 1, .inr (3, [.ref (u6 4 5), .ref (u6 4 6), .ref (u6 4 7), .int ((t5 4).1 5)])), (u6 4 2, .inr (3, [.ref (u6 4 8), .ref (u6 4 9), .ref (u6 4 10), .int ((t5 4).1 6)])), (u6 4 3, .inl (T 0, 33, .inl ((t5 4).2 6))), (u6 4 4, .inl (T 0, 33, .inl ((t5 4).2 7))), (u6 4 5, .inl (T 0, 40, .inl ((t5 4).2 0))), (u6 4 6, .inl (T 0, 40, .inl ((t5 4).2 1))), (u6 4 7, .inl (T 0, 40, .inl ((t5 4).2 2))), (u6 4 8, .inl (T 0, 8, .inl ((t5 4).2 3))), (u6 4 9, .inl (T 0, 8, .inl ((t5 4).2 4))), (u6 4 10, .inl (T 0, 8, .inl ((t5 4).2 5))), (u6 5 0, .inr (1, [.ref (u6 5 1), .ref (u6 5 2), .ref (u6 5 3), .ref (u6 5 4), .int ((t5 5).1 0), .int ((t5 5).1 1), .int ((t5 5).1 2), .int ((t5 5).1 3), .int ((t5 5).1 4)])), (u6 5 1, .inl (T 0, 100, .inl ((t5 5).2 0))), (u6 5 2, .inl (T 0, 20, .inl ((t5 5).2 1))), (u6 5 3, .inl (T 0, 20, .inl ((t5 5).2 2))), (u6 5 4, .inl (T 0, 20, .inl ((t5 5).2 3)))]) (ws' := scW T h0 u6 (zU t5 0 t7.2)) (va_runV (As := [.int v1, .int v2]) (rest := []) ⟨hx, hb, hml, hown, hts⟩ (c_X2_reply l D T (u6 0) (t5 0) v1 v2 _ t7 et7) (cwV 2 hts gX4_ask_X2_reply rfl rfl rfl hdV_X2_reply ⟨Nat.le_of_ble_eq_true rfl, Nat.le_of_ble_eq_true rfl⟩) ⟨PM_blind, va_recv hK.1 hP (ci := 2) (q0 := 3) rfl rfl, PM_at (hP.sub (ws' := stW T (u6 0) (t5 0)) [3, 4, 5, 6, 7, 8, 9, 10, 11, 12, 13] rfl) (hD.sub (ws' := stW T (u6 0) (t5 0)) [3, 4, 5, 6, 7, 8, 9, 10, 11, 12, 13] (by decide) rfl) hK⟩ rfl rfl hl.1 rfl (lv_room (Nat.le_of_ble_eq_true rfl)) dX4_ask_59 ⟨Nat.zero_le _, Nat.zero_le _⟩) hS hA hP hD [3, 4, 5, 6, 7, 8, 9, 10, 11, 12, 13] [0, 1, 2, 14, 15, 16, 17, 18, 19, 20, 21, 22, 23, 24, 25, 26, 27, 28, 29, 30, 31, 32, 33, 34, 35, 36, 37, 38, 39, 40, 41, 42, 43, 44, 45, 46, 47, 48, 49, 50, 51, 52, 53, 54, 55, 56, 57, 58, 59, 60, 61, 62] rfl rfl (by decide) (by decide) [0, 1, 2, 52, 53, 54, 55, 56, 57, 58, 59, 60, 61, 62, 3, 4, 5, 6, 7, 8, 9, 10, 11, 12, 13, 14, 15, 16, 17, 18, 19, 20, 21, 22, 23, 24, 25, 26, 27, 28, 29, 30, 31, 32, 33, 34, 35, 36, 37, 38, 39, 40, 41, 42, 43, 44, 45, 46, 47, 48, 49, 50, 51] (by decide) rfl (fun H locs hP hD hS => ?_)
      obtain rfl := Option.some.inj h
      refine vx_ret ?_
      refine W.widen (k := 1) (n := 6) (Nat.zero_le _) (Nat.zero_le _) ?_
      exact W.iret hx hb hr (fun t ht hW => ⟨⟨_, (u6, zU t5 0 t7.2), rfl, rfl, by rw [ht]; exact hP, hD⟩, hS.F ht⟩) hS.2.2 dX4_ask_62 hlocks
    replace h := ip c4 h
    obtain rfl := Option.some.inj h
    obtain ⟨sa, hsa⟩ := hE.2.2.1 (111, "the scale cannot answer") (List.mem_of_getElem? (i := 4) rfl)
    exact vx_throwS (A := A) (names := exNm) (ik := 78) (is := 111) (ic := 82) (sa := sa) hx hb hfl hown (by decide +kernel) exFit (hts (.classLink RX4 78 "java/lang/IllegalStateException") (List.mem_of_getElem? (i := 3) rfl)) (hts (.initialized "java/lang/IllegalStateException") (List.mem_of_getElem? (i := 4) rfl)) hsa (vx_hat (fun w hw => hts w (atmX4_ask_82 w hw)) bad_82 (exB82 hE.2.2.2)) ot_82 hE.1 hE.2.1 hS (hl.1.trans hml.symm) dX4_ask_32 dX4_ask_35 dX4_ask_36 dX4_ask_38 dX4_ask_41 (fun x hx => (hno x hx).elim) (Nat.le_of_ble_eq_true rfl) (Nat.le_of_ble_eq_true rfl) (Nat.le_of_ble_eq_true rfl) (Nat.le_of_ble_eq_true rfl) hlocks (fun t hv hz hk => ⟨(), trivial, rfl, hz, fun q hq _ => hk q hq⟩) hS.2.2 (Nat.le_of_ble_eq_true rfl) (Nat.le_of_ble_eq_true rfl)
  replace h := ip c2 h
  obtain rfl := Option.some.inj h
  obtain ⟨sa, hsa⟩ := hE.2.2.1 (106, "no weighing") (List.mem_of_getElem? (i := 3) rfl)
  exact vx_throwS (A := A) (names := exNm) (ik := 30) (is := 106) (ic := 34) (sa := sa) hx hb hfl hown (by decide +kernel) exFit (hts (.classLink RX4 30 "java/lang/IllegalArgumentException") (List.mem_of_getElem? (i := 1) rfl)) (hts (.initialized "java/lang/IllegalArgumentException") (List.mem_of_getElem? (i := 2) rfl)) hsa (vx_hat (fun w hw => hts w (atmX4_ask_34 w hw)) bad_34 (exB34 hE.2.2.2)) ot_34 hE.1 hE.2.1 hS (hl.1.trans hml.symm) dX4_ask_12 dX4_ask_15 dX4_ask_16 dX4_ask_18 dX4_ask_21 (fun x hx => (hno x hx).elim) (Nat.le_of_ble_eq_true rfl) (Nat.le_of_ble_eq_true rfl) (Nat.le_of_ble_eq_true rfl) (Nat.le_of_ble_eq_true rfl) hlocks (fun t hv hz hk => ⟨(), trivial, rfl, hz, fun q hq _ => hk q hq⟩) hS.2.2 (Nat.le_of_ble_eq_true rfl) (Nat.le_of_ble_eq_true rfl)
def T_L_asks (Z0 : ZT) (v1 v2 : Int32) : Option Int32 :=
  (F_T4_ask Z0 v1 v2).bind fun t => match t with
    | .inl E => if E = "java/lang/IllegalArgumentException" then some (-2000001) else if E = "java/lang/IllegalStateException" then some (-2000002) else none
    | .inr _ => none
set_option maxHeartbeats 4000000 in
set_option maxRecDepth 100000 in
theorem cx_L_asks (l : Launch) (hfl : l.stackTraces = false) (D : va_G) (T : Nat → ClassId) (h0 : Nat) (A0 : AT) (Z0 : ZT) (v1 v2 : Int32) (sz : Nat) (r : Int32) (h : T_L_asks Z0 v1 v2 = some r) : Met l yL_asks wsL_asks ({ frames := 7, cells := 1, slots := 6, locals := 138 } : Room) (va_Pc [.ref h0, .int v1, .int v2] (PW D T (scW T h0 A0 Z0) sz)) (QEi D (scW T h0) r Z0 (va_A (scW T h0 A0 Z0) sz)) 1 6 (va_A (scW T h0 A0 Z0) sz) := by
  refine met_ofH (cc := cL_asks) (maxL := 4) (ret := (some .int)) (hh := [(0, 6, 7, 15), (0, 6, 11, 18)]) (lv := [(0, .ref h0), (1, .int v1), (2, .int v2)]) (by decide) rfl (Nat.le_of_ble_eq_true rfl) rfl ?_
  intro p e s m args below meth c ls C0 htab hl hB
  obtain ⟨hx, hb, hr, hml, hown, hts, hlocks, hname⟩ := C0
  obtain ⟨⟨hsz, hP, hK, hD0⟩, hE, hNC⟩ := hB
  subst hsz
  have hD := hD0.self (sz := s.heap.size)
  generalize hAe : va_A (scW T h0 A0 Z0) s.heap.size = A at hD hE ⊢
  have hA : ∀ q : Nat, s.heap.size ≤ q → A q := fun q h => by rw [← hAe]; exact Or.inr h
  have hS : va_S A s.heap s.heap [] := va_S.rf
  unfold T_L_asks at h
  refine lv_aload_n hx hb dL_asks_0 rfl (lv_at hl 0 rfl) ?_
  refine lv_iload_n hx hb dL_asks_1 rfl (lv_at hl 1 rfl) ?_
  refine lv_iload_n hx hb dL_asks_2 rfl (lv_at hl 2 rfl) ?_
  replace h := bd h
  obtain ⟨t, et, h⟩ := h
  have hF : ∀ q, va_A (scW T h0 A0 Z0) s.heap.size q → A q := va_self hD hS hA
  refine vx_calli (vx_runV (As := [.int v1, .int v2]) (rest := []) ⟨hx, hb, hml, hown, hts⟩ (cx_X4_ask l hfl D T h0 A0 Z0 v1 v2 _ t et) (cwV 2 hts gL_asks_X4_ask rfl rfl rfl hdV_X4_ask ⟨Nat.le_of_ble_eq_true rfl, Nat.le_of_ble_eq_true rfl⟩) ⟨PX_blind, va_recv hK.1 hP (ci := 4) (q0 := 0) rfl rfl, PX_at hP hD hK hE hS hF⟩ rfl rfl hl.1 rfl (lv_room (Nat.le_of_ble_eq_true rfl)) dL_asks_3 ⟨Nat.le_of_ble_eq_true rfl, Nat.le_of_ble_eq_true rfl⟩) hS (fun q _ h => hF q h) hF (fun q _ h => h.elim) (fun E ce q9 u t9 H locs ht hvm hu hBX hz hk hS hce hcv hcl => ?_) (fun r9 u t9 H locs ht hvm hw hB hz hk hS => ?_)
  · have hP : va_P D vwCl (scW T h0 A0 Z0) H := hP.kept (fun k q hq => hk q.1 (hP k q hq).lt not_false)
    subst hBX
    replace h : (if E = "java/lang/IllegalArgumentException" then some (-2000001) else if E = "java/lang/IllegalStateException" then some (-2000002) else none) = some r := h
    by_cases c0 : E = "java/lang/IllegalArgumentException"
    · subst c0
      replace h := ip rfl h
      obtain rfl := Option.some.inj h
      refine vx_catch (own := RL) (name := "java/lang/IllegalArgumentException") hown [] ⟨0, 6, 7, 15⟩ [⟨0, 6, 11, 18⟩] (by rw [htab]; rfl) (fun z hz => absurd hz List.not_mem_nil) (by decide) (by decide) (hts (.classLink RL 15 "java/lang/IllegalArgumentException") (List.mem_of_getElem? (i := 1) rfl)) (va_Nw.use rfl (hE.2.2.2 (.castable "java/lang/IllegalArgumentException" "java/lang/IllegalArgumentException") (List.mem_of_getElem? (i := 3) rfl))) hce hcv hcl ?_
      refine lv_astore_n (lv' := [(3, .ref q9), (0, .ref h0), (1, .int v1), (2, .int v2)]) hx hb dL_asks_7 rfl hl (by decide) rfl (fun ls hl => ?_)
      refine lv_ldc hx hb hown (hts (.constant RL 17 (-2000001)) (List.mem_of_getElem? (i := 3) rfl)) dL_asks_8 ?_
      exact W.iret hx hb hr (fun t ht2 hW => ⟨⟨_, A0, rfl, rfl, by rw [ht2]; exact hP, hD⟩, hS.F ht2⟩) hS.2.2 dL_asks_10 hlocks
    replace h := im c0 h
    by_cases c1 : E = "java/lang/IllegalStateException"
    · subst c1
      replace h := ip rfl h
      obtain rfl := Option.some.inj h
      refine vx_catch (own := RL) (name := "java/lang/IllegalStateException") hown [⟨0, 6, 7, 15⟩] ⟨0, 6, 11, 18⟩ [] (by rw [htab]; rfl) (fun z hz => by rcases List.mem_singleton.mp hz with rfl; exact Or.inr ⟨by decide, _, (hts (.classLink RL 15 "java/lang/IllegalArgumentException") (List.mem_of_getElem? (i := 1) rfl)), hNC "java/lang/IllegalStateException" (List.mem_of_getElem? (i := 1) rfl) "java/lang/IllegalArgumentException" (List.mem_of_getElem? (i := 0) rfl) (by decide)⟩) (by decide) (by decide) (hts (.classLink RL 18 "java/lang/IllegalStateException") (List.mem_of_getElem? (i := 2) rfl)) (va_Nw.use rfl (hE.2.2.2 (.castable "java/lang/IllegalStateException" "java/lang/IllegalStateException") (List.mem_of_getElem? (i := 4) rfl))) hce hcv hcl ?_
      refine lv_astore_n (lv' := [(3, .ref q9), (0, .ref h0), (1, .int v1), (2, .int v2)]) hx hb dL_asks_11 rfl hl (by decide) rfl (fun ls hl => ?_)
      refine lv_ldc hx hb hown (hts (.constant RL 20 (-2000002)) (List.mem_of_getElem? (i := 4) rfl)) dL_asks_12 ?_
      exact W.iret hx hb hr (fun t ht2 hW => ⟨⟨_, A0, rfl, rfl, by rw [ht2]; exact hP, hD⟩, hS.F ht2⟩) hS.2.2 dL_asks_14 hlocks
    replace h := im c1 h
    cases h
  subst hw
  cases h
