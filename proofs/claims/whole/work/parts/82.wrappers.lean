/-! the law's callers -/
def NC (U : State) : Prop := ∀ a ∈ exCls, ∀ b ∈ exCls, a ≠ b → va_Nc a b U
theorem NC.warm {s U : State} (hW : s.WarmedH U.vm) (h : NC s) : NC U := fun a ha b hb n => va_Nc.moved hW.alike (h a ha b hb n)
theorem NC.calling {U : State} {g : JFrame} {mk : MethodId} {a : Array Value} (h : NC U) : NC (U.calling g mk a) := fun x hx y hy n => va_Nc.moved (u := U) (U := U.calling g mk a) (Vm.Alike.refl U.vm) (h x hx y hy n)
def PW (D : va_G) (T : Nat → ClassId) (wc : va_W) (sz : Nat) (U : State) : Prop := PM D T wc sz U ∧ EXF (va_A wc sz) U ∧ NC U
theorem PW_blind {D : va_G} {T : Nat → ClassId} {wc : va_W} {sz : Nat} {av : List Value} : FrameBlind (va_Pc av (PW D T wc sz)) := fun _ _ _ _ q => ⟨q.1, ⟨q.2.1.1, q.2.1.2.1, q.2.1.2.2.1.calling, q.2.1.2.2.2⟩, q.2.2.1.calling, q.2.2.2.calling⟩
theorem PW_at {D : va_G} {T : Nat → ClassId} {wc : va_W} {av : List Value} {s : State} {H : Heap} {locs : List Loc} {A A0 : Nat → Prop} (hP : va_P D vwCl wc H) (hD : va_D A wc) (hK : KK D T s) (hE : EXF A0 s) (hN : NC s) (hS : va_S A0 s.heap H locs) (hAB : ∀ q, va_A wc H.size q → A0 q) : ∀ U : State, U.heap = H → s.WarmedH U.vm → va_Pc av (PW D T wc H.size) av.toArray U := fun U hU hW => ⟨rfl, ⟨by rw [hU], by rw [hU]; exact hP, hK.warm hW, hD.weaken (fun _ _ _ _ => trivial)⟩, hE.at hS hAB hU hW, hN.warm hW⟩
def QW (D : va_G) (T : Nat → ClassId) (h0 ho : Nat) (r : Int32 × ZT × (Nat → Int64)) (A : Nat → Prop) : Array Value → State → Outcome → State → Prop := va_Qi (fun (v : Int32) (_ : AT) => v = r.1) (fun u t => va_P D vwCl (scW T h0 u r.2.1 ++ ([(ho, .inl (T 2, 1, .inr (.inl r.2.2)))] : va_W)) t.heap ∧ va_D A (scW T h0 u r.2.1 ++ ([(ho, .inl (T 2, 1, .inr (.inl r.2.2)))] : va_W))) A
theorem met_ofH {l : Launch} {y : MethodName} {ws ws' : List Cond} {rm : Room} {av : List Value} {B : State → Prop} {Qc : Array Value → State → Outcome → State → Prop} {mc ms : Nat} {free : Addr → Prop} {cc : ByteArray} {maxL : Nat} {ret : Option FieldType} {hh : List (Nat × Nat × Nat × Nat)} {lv : List (Nat × Value)}
    (hy : plainName y.cls = true) (hw : ws = Cond.codeWith y cc maxL ret hh :: ws') (hn : (lg_sl av).length ≤ maxL) (hlv : lv_args 0 av = lv)
    (body : ∀ (p : Program) (e : Env) (s : State) (m : MethodId) (args : Array Value) (below : List Frame) (meth : Method) (c : Code) (ls : Array Slot), CX p s m args meth c cc maxL ret ws y → c.exceptionTable.toList = tableOf hh → lv_has ls maxL lv → B s →
      W p l e rm s m args below meth c s.heap [] 0 0 (MQ below Qc args s mc ms free) (F0 m 0 ls [])) : Met l y ws rm (va_Pc av B) Qc mc ms free := by
  refine MetFree.of_bodyS (code := cc) (maxLocals := maxL) (ret := ret) hy ?_ ?_
  · intro args s m h hn
    obtain ⟨m9, meth, c, hn9, h1, h2, h3, h4, -, h5, h6, -⟩ := Cond.codeWith_spec (atoms_spec (ws := ws) h _ (by rw [hw]; exact List.mem_cons_self))
    cases hn.symm.trans hn9
    exact ⟨meth, c, h1, h2, h3, h4, h5, h6⟩
  · intro p e s m args below meth c s₁ C0 hml hv _
    have hh0 : s₁.heap = s.heap := by rw [C0.state]; rfl
    obtain ⟨rfl, hB⟩ := hv
    have hl := lv_entry av (n := maxL) hn
    rw [hlv] at hl
    have K := body p e s m _ below meth c _ ⟨C0.exec, C0.bytes, C0.returns, hml, findClass_of_methodNamed C0.named, atoms_spec (ws := ws) C0.pre, C0.notSynchronized, (name_of_methodNamed C0.named C0.method).1⟩ (vx_table (x := y) C0 (atoms_spec (ws := ws) C0.pre _ (by rw [hw]; exact List.mem_cons_self))) hl hB
    rw [← lg_entry_eq] at K
    obtain ⟨t, a1, o, b1, b2, b3⟩ := K s₁ hh0 (Stand.of_body C0)
    exact ⟨t, o, a1, b1, b2, ⟨b3.1, b3.2⟩⟩
theorem hdS_L_begin : yL_begin.cls ≠ "java/lang/invoke/MethodHandle" ∧ yL_begin.cls ≠ "java/lang/invoke/VarHandle" ∧ (parseMethodDescriptor yL_begin.desc).map (fun d => d.parameters.length) = some 3 := by decide +kernel
theorem hdS_L_setLimit : yL_setLimit.cls ≠ "java/lang/invoke/MethodHandle" ∧ yL_setLimit.cls ≠ "java/lang/invoke/VarHandle" ∧ (parseMethodDescriptor yL_setLimit.desc).map (fun d => d.parameters.length) = some 3 := by decide +kernel
theorem hdS_L_tell : yL_tell.cls ≠ "java/lang/invoke/MethodHandle" ∧ yL_tell.cls ≠ "java/lang/invoke/VarHandle" ∧ (parseMethodDescriptor yL_tell.desc).map (fun d => d.parameters.length) = some 5 := by decide +kernel
theorem hdS_L_hide : yL_hide.cls ≠ "java/lang/invoke/MethodHandle" ∧ yL_hide.cls ≠ "java/lang/invoke/VarHandle" ∧ (parseMethodDescriptor yL_hide.desc).map (fun d => d.parameters.length) = some 4 := by decide +kernel
theorem hdS_L_ask : yL_ask.cls ≠ "java/lang/invoke/MethodHandle" ∧ yL_ask.cls ≠ "java/lang/invoke/VarHandle" ∧ (parseMethodDescriptor yL_ask.desc).map (fun d => d.parameters.length) = some 4 := by decide +kernel
theorem hdS_L_add : yL_add.cls ≠ "java/lang/invoke/MethodHandle" ∧ yL_add.cls ≠ "java/lang/invoke/VarHandle" ∧ (parseMethodDescriptor yL_add.desc).map (fun d => d.parameters.length) = some 4 := by decide +kernel
theorem hdS_L_removeLast : yL_removeLast.cls ≠ "java/lang/invoke/MethodHandle" ∧ yL_removeLast.cls ≠ "java/lang/invoke/VarHandle" ∧ (parseMethodDescriptor yL_removeLast.desc).map (fun d => d.parameters.length) = some 2 := by decide +kernel
theorem hdS_L_lies : yL_lies.cls ≠ "java/lang/invoke/MethodHandle" ∧ yL_lies.cls ≠ "java/lang/invoke/VarHandle" ∧ (parseMethodDescriptor yL_lies.desc).map (fun d => d.parameters.length) = some 3 := by decide +kernel
theorem hdS_L_answer : yL_answer.cls ≠ "java/lang/invoke/MethodHandle" ∧ yL_answer.cls ≠ "java/lang/invoke/VarHandle" ∧ (parseMethodDescriptor yL_answer.desc).map (fun d => d.parameters.length) = some 5 := by decide +kernel
theorem hdS_L_leftCase : yL_leftCase.cls ≠ "java/lang/invoke/MethodHandle" ∧ yL_leftCase.cls ≠ "java/lang/invoke/VarHandle" ∧ (parseMethodDescriptor yL_leftCase.desc).map (fun d => d.parameters.length) = some 3 := by decide +kernel
theorem hdS_L_weighing : yL_weighing.cls ≠ "java/lang/invoke/MethodHandle" ∧ yL_weighing.cls ≠ "java/lang/invoke/VarHandle" ∧ (parseMethodDescriptor yL_weighing.desc).map (fun d => d.parameters.length) = some 4 := by decide +kernel
theorem hdS_L_value : yL_value.cls ≠ "java/lang/invoke/MethodHandle" ∧ yL_value.cls ≠ "java/lang/invoke/VarHandle" ∧ (parseMethodDescriptor yL_value.desc).map (fun d => d.parameters.length) = some 3 := by decide +kernel
theorem hdS_L_weight : yL_weight.cls ≠ "java/lang/invoke/MethodHandle" ∧ yL_weight.cls ≠ "java/lang/invoke/VarHandle" ∧ (parseMethodDescriptor yL_weight.desc).map (fun d => d.parameters.length) = some 3 := by decide +kernel
theorem hdS_L_weightBehind : yL_weightBehind.cls ≠ "java/lang/invoke/MethodHandle" ∧ yL_weightBehind.cls ≠ "java/lang/invoke/VarHandle" ∧ (parseMethodDescriptor yL_weightBehind.desc).map (fun d => d.parameters.length) = some 6 := by decide +kernel
theorem hdS_L_bestGroup : yL_bestGroup.cls ≠ "java/lang/invoke/MethodHandle" ∧ yL_bestGroup.cls ≠ "java/lang/invoke/VarHandle" ∧ (parseMethodDescriptor yL_bestGroup.desc).map (fun d => d.parameters.length) = some 3 := by decide +kernel
theorem hdS_L_teaches : yL_teaches.cls ≠ "java/lang/invoke/MethodHandle" ∧ yL_teaches.cls ≠ "java/lang/invoke/VarHandle" ∧ (parseMethodDescriptor yL_teaches.desc).map (fun d => d.parameters.length) = some 4 := by decide +kernel
theorem hdS_L_distance : yL_distance.cls ≠ "java/lang/invoke/MethodHandle" ∧ yL_distance.cls ≠ "java/lang/invoke/VarHandle" ∧ (parseMethodDescriptor yL_distance.desc).map (fun d => d.parameters.length) = some 4 := by decide +kernel
theorem hdS_L_decode : yL_decode.cls ≠ "java/lang/invoke/MethodHandle" ∧ yL_decode.cls ≠ "java/lang/invoke/VarHandle" ∧ (parseMethodDescriptor yL_decode.desc).map (fun d => d.parameters.length) = some 3 := by decide +kernel
theorem hdS_L_append : yL_append.cls ≠ "java/lang/invoke/MethodHandle" ∧ yL_append.cls ≠ "java/lang/invoke/VarHandle" ∧ (parseMethodDescriptor yL_append.desc).map (fun d => d.parameters.length) = some 3 := by decide +kernel
theorem hdS_L_undo : yL_undo.cls ≠ "java/lang/invoke/MethodHandle" ∧ yL_undo.cls ≠ "java/lang/invoke/VarHandle" ∧ (parseMethodDescriptor yL_undo.desc).map (fun d => d.parameters.length) = some 2 := by decide +kernel
set_option maxHeartbeats 4000000 in
set_option maxRecDepth 100000 in
theorem c_L_begin (l : Launch) (hfl : l.stackTraces = false) (D : va_G) (T : Nat → ClassId) (h0 : Nat) (A0 : AT) (Z0 : ZT) (ho : Nat) (g0 : Nat → Int64) (v1 : Int32) (sz : Nat) (r : Int32 × ZT × (Nat → Int64)) (h : F_L_begin Z0 g0 v1 = some r) : Met l yL_begin wsL_begin ({ frames := 7, cells := 1, slots := 6, locals := 130 } : Room) (va_Pc [.ref h0, .int v1, .ref ho] (PW D T (scW T h0 A0 Z0 ++ ([(ho, .inl (T 2, 1, .inr (.inl (g0))))] : va_W)) sz)) (QW D T h0 ho r (va_A (scW T h0 A0 Z0 ++ ([(ho, .inl (T 2, 1, .inr (.inl (g0))))] : va_W)) sz)) 1 6 (va_A (scW T h0 A0 Z0 ++ ([(ho, .inl (T 2, 1, .inr (.inl (g0))))] : va_W)) sz) := by
  refine met_ofH (cc := cL_begin) (maxL := 4) (ret := (some .int)) (hh := [(0, 9, 12, 13)]) (lv := [(0, .ref h0), (1, .int v1), (2, .ref ho)]) (by decide) rfl (Nat.le_of_ble_eq_true rfl) rfl ?_
  intro p e s m args below meth c ls C0 htab hl hB
  obtain ⟨hx, hb, hr, hml, hown, hts, hlocks, hname⟩ := C0
  obtain ⟨⟨hsz, hP, hK, hD0⟩, hE, hNC⟩ := hB
  subst hsz
  have hD := hD0.self (sz := s.heap.size)
  generalize hAe : va_A (scW T h0 A0 Z0 ++ ([(ho, .inl (T 2, 1, .inr (.inl (g0))))] : va_W)) s.heap.size = A at hD hE ⊢
  have hA : ∀ q : Nat, s.heap.size ≤ q → A q := fun q h => by rw [← hAe]; exact Or.inr h
  have hS : va_S A s.heap s.heap [] := va_S.rf
  unfold F_L_begin at h
  refine lv_aload_n hx hb dL_begin_0 rfl (lv_at hl 2 rfl) ?_
  refine lv_iconst (v := 0) hx hb dL_begin_1 (by decide) ?_
  refine lv_aload_n hx hb dL_begin_2 rfl (lv_at hl 0 rfl) ?_
  refine lv_iload_n hx hb dL_begin_3 rfl (lv_at hl 1 rfl) ?_
  replace h := bd h
  obtain ⟨t, et, h⟩ := h
  have hF := va_free (wc := scW T h0 A0 Z0) hD hS hA [0, 1, 2, 3, 4, 5, 6, 7, 8, 9, 10, 11, 12, 13, 14, 15, 16, 17, 18, 19, 20, 21, 22, 23, 24, 25, 26, 27, 28, 29, 30, 31, 32, 33, 34, 35, 36, 37, 38, 39, 40, 41, 42, 43, 44, 45, 46, 47, 48, 49, 50, 51, 52, 53, 54, 55, 56, 57, 58, 59, 60, 61, 62] rfl
  refine vx_calli (vx_runV (As := [.int v1]) (rest := [.int 0, .ref ho]) ⟨hx, hb, hml, hown, hts⟩ (c_X4_begin l hfl D T h0 A0 Z0 v1 _ t et) (cwV 1 hts gL_begin_X4_begin rfl rfl rfl hdV_X4_begin ⟨Nat.le_of_ble_eq_true rfl, Nat.le_of_ble_eq_true rfl⟩) ⟨PX_blind, va_recv hK.1 hP (ci := 4) (q0 := 0) rfl rfl, PX_at (hP.sub (ws' := scW T h0 A0 Z0) [0, 1, 2, 3, 4, 5, 6, 7, 8, 9, 10, 11, 12, 13, 14, 15, 16, 17, 18, 19, 20, 21, 22, 23, 24, 25, 26, 27, 28, 29, 30, 31, 32, 33, 34, 35, 36, 37, 38, 39, 40, 41, 42, 43, 44, 45, 46, 47, 48, 49, 50, 51, 52, 53, 54, 55, 56, 57, 58, 59, 60, 61, 62] rfl) (hD.sub (ws' := scW T h0 A0 Z0) [0, 1, 2, 3, 4, 5, 6, 7, 8, 9, 10, 11, 12, 13, 14, 15, 16, 17, 18, 19, 20, 21, 22, 23, 24, 25, 26, 27, 28, 29, 30, 31, 32, 33, 34, 35, 36, 37, 38, 39, 40, 41, 42, 43, 44, 45, 46, 47, 48, 49, 50, 51, 52, 53, 54, 55, 56, 57, 58, 59, 60, 61, 62] (by decide +kernel) rfl) hK hE hS hF⟩ rfl rfl hl.1 rfl (lv_room (Nat.le_of_ble_eq_true rfl)) dL_begin_4 ⟨Nat.le_of_ble_eq_true rfl, Nat.le_of_ble_eq_true rfl⟩) hS (fun q _ h => hF q h) hF (fun q _ h => h.elim) (fun E ce q9 u t9 H locs ht hvm hu hBX hz hk hS hce hcv hcl => ?_) (fun r9 u t9 H locs ht hvm hw hB hz hk hS => ?_)
  · have hP : va_P D vwCl (scW T h0 A0 Z0 ++ ([(ho, .inl (T 2, 1, .inr (.inl (g0))))] : va_W)) H := hP.kept (fun k q hq => hk q.1 (hP k q hq).lt not_false)
    subst hBX
    replace h : (if E = "java/lang/IllegalArgumentException" then some (1, Z0, g0) else none) = some r := h
    by_cases c0 : E = "java/lang/IllegalArgumentException"
    · subst c0
      replace h := ip rfl h
      obtain rfl := Option.some.inj h
      refine vx_catch (own := RL) (name := "java/lang/IllegalArgumentException") hown [] ⟨0, 9, 12, 13⟩ [] (by rw [htab]; rfl) (fun z hz => absurd hz List.not_mem_nil) (by decide) (by decide) (hts (.classLink RL 13 "java/lang/IllegalArgumentException") (List.mem_of_getElem? (i := 1) rfl)) (va_Nw.use rfl (hE.2.2.2 (.castable "java/lang/IllegalArgumentException" "java/lang/IllegalArgumentException") (List.mem_of_getElem? (i := 3) rfl))) hce hcv hcl ?_
      refine lv_astore_n (lv' := [(3, .ref q9), (0, .ref h0), (1, .int v1), (2, .ref ho)]) hx hb dL_begin_12 rfl hl (by decide) rfl (fun ls hl => ?_)
      refine lv_iconst (v := 1) hx hb dL_begin_13 (by decide) ?_
      exact W.iret hx hb hr (fun t ht2 hW => ⟨⟨_, A0, rfl, rfl, by rw [ht2]; exact hP, hD⟩, hS.F ht2⟩) hS.2.2 dL_begin_14 hlocks
    replace h := im c0 h
    cases h
  subst hw
  rw [ht] at hB
  obtain ⟨hP, hD⟩ := reord (wr := [(ho, .inl (T 2, 1, .inr (.inl g0)))]) (ws' := scW T h0 u.1 u.2 ++ ([(ho, .inl (T 2, 1, .inr (.inl (g0))))] : va_W)) hP hD [0, 1, 2, 3, 4, 5, 6, 7, 8, 9, 10, 11, 12, 13, 14, 15, 16, 17, 18, 19, 20, 21, 22, 23, 24, 25, 26, 27, 28, 29, 30, 31, 32, 33, 34, 35, 36, 37, 38, 39, 40, 41, 42, 43, 44, 45, 46, 47, 48, 49, 50, 51, 52, 53, 54, 55, 56, 57, 58, 59, 60, 61, 62] [63] rfl rfl (by decide) (by decide) hk hF hB.1 hB.2 [1, 2, 3, 4, 5, 6, 7, 8, 9, 10, 11, 12, 13, 14, 15, 16, 17, 18, 19, 20, 21, 22, 23, 24, 25, 26, 27, 28, 29, 30, 31, 32, 33, 34, 35, 36, 37, 38, 39, 40, 41, 42, 43, 44, 45, 46, 47, 48, 49, 50, 51, 52, 53, 54, 55, 56, 57, 58, 59, 60, 61, 62, 63, 0] (by decide +kernel) rfl
  refine lv_i2l (v := r9.toInt64) hx hb dL_begin_7 rfl ?_
  replace h : some (0, u.2, vp_updL g0 0 r9.toInt64) = some r := h
  obtain rfl := Option.some.inj h
  refine va_last hx hb hK.1 hP hD hS 63 2 rfl rfl (show ¬ ((0 : Int32) < 0 ∨ 1 ≤ Int32.toNatClampNeg 0) from by decide) dL_begin_8 (fun H locs hP hD hS => ?_)
  rw [show Int32.toNatClampNeg 0 = 0 from by decide] at hP hD
  replace hP : va_P D vwCl (scW T h0 u.1 u.2 ++ ([(ho, .inl (T 2, 1, .inr (.inl (vp_updL g0 0 r9.toInt64))))] : va_W)) H := hP
  replace hD : va_D A (scW T h0 u.1 u.2 ++ ([(ho, .inl (T 2, 1, .inr (.inl (vp_updL g0 0 r9.toInt64))))] : va_W)) := hD
  refine lv_goto (tgt := 15) hx hb dL_begin_9 (by decide) ?_
  refine lv_iconst (v := 0) hx hb dL_begin_15 (by decide) ?_
  exact W.iret hx hb hr (fun t ht2 hW => ⟨⟨_, u.1, rfl, rfl, by rw [ht2]; exact hP, hD⟩, hS.F ht2⟩) hS.2.2 dL_begin_16 hlocks
set_option maxHeartbeats 4000000 in
set_option maxRecDepth 100000 in
theorem c_L_setLimit (l : Launch) (hfl : l.stackTraces = false) (D : va_G) (T : Nat → ClassId) (h0 : Nat) (A0 : AT) (Z0 : ZT) (ho : Nat) (g0 : Nat → Int64) (v1 : Int32) (sz : Nat) (r : Int32 × ZT × (Nat → Int64)) (h : F_L_setLimit Z0 g0 v1 = some r) : Met l yL_setLimit wsL_setLimit ({ frames := 7, cells := 1, slots := 6, locals := 129 } : Room) (va_Pc [.ref h0, .int v1, .ref ho] (PW D T (scW T h0 A0 Z0 ++ ([(ho, .inl (T 2, 1, .inr (.inl (g0))))] : va_W)) sz)) (QW D T h0 ho r (va_A (scW T h0 A0 Z0 ++ ([(ho, .inl (T 2, 1, .inr (.inl (g0))))] : va_W)) sz)) 1 6 (va_A (scW T h0 A0 Z0 ++ ([(ho, .inl (T 2, 1, .inr (.inl (g0))))] : va_W)) sz) := by
  refine met_ofH (cc := cL_setLimit) (maxL := 4) (ret := (some .int)) (hh := [(0, 9, 12, 13)]) (lv := [(0, .ref h0), (1, .int v1), (2, .ref ho)]) (by decide) rfl (Nat.le_of_ble_eq_true rfl) rfl ?_
  intro p e s m args below meth c ls C0 htab hl hB
  obtain ⟨hx, hb, hr, hml, hown, hts, hlocks, hname⟩ := C0
  obtain ⟨⟨hsz, hP, hK, hD0⟩, hE, hNC⟩ := hB
  subst hsz
  have hD := hD0.self (sz := s.heap.size)
  generalize hAe : va_A (scW T h0 A0 Z0 ++ ([(ho, .inl (T 2, 1, .inr (.inl (g0))))] : va_W)) s.heap.size = A at hD hE ⊢
  have hA : ∀ q : Nat, s.heap.size ≤ q → A q := fun q h => by rw [← hAe]; exact Or.inr h
  have hS : va_S A s.heap s.heap [] := va_S.rf
  unfold F_L_setLimit at h
  refine lv_aload_n hx hb dL_setLimit_0 rfl (lv_at hl 2 rfl) ?_
  refine lv_iconst (v := 0) hx hb dL_setLimit_1 (by decide) ?_
  refine lv_aload_n hx hb dL_setLimit_2 rfl (lv_at hl 0 rfl) ?_
  refine lv_iload_n hx hb dL_setLimit_3 rfl (lv_at hl 1 rfl) ?_
  replace h := bd h
  obtain ⟨t, et, h⟩ := h
  have hF := va_free (wc := scW T h0 A0 Z0) hD hS hA [0, 1, 2, 3, 4, 5, 6, 7, 8, 9, 10, 11, 12, 13, 14, 15, 16, 17, 18, 19, 20, 21, 22, 23, 24, 25, 26, 27, 28, 29, 30, 31, 32, 33, 34, 35, 36, 37, 38, 39, 40, 41, 42, 43, 44, 45, 46, 47, 48, 49, 50, 51, 52, 53, 54, 55, 56, 57, 58, 59, 60, 61, 62] rfl
  refine vx_calli (vx_runV (As := [.int v1]) (rest := [.int 0, .ref ho]) ⟨hx, hb, hml, hown, hts⟩ (c_X4_setLimit l hfl D T h0 A0 Z0 v1 _ t et) (cwV 1 hts gL_setLimit_X4_setLimit rfl rfl rfl hdV_X4_setLimit ⟨Nat.le_of_ble_eq_true rfl, Nat.le_of_ble_eq_true rfl⟩) ⟨PX_blind, va_recv hK.1 hP (ci := 4) (q0 := 0) rfl rfl, PX_at (hP.sub (ws' := scW T h0 A0 Z0) [0, 1, 2, 3, 4, 5, 6, 7, 8, 9, 10, 11, 12, 13, 14, 15, 16, 17, 18, 19, 20, 21, 22, 23, 24, 25, 26, 27, 28, 29, 30, 31, 32, 33, 34, 35, 36, 37, 38, 39, 40, 41, 42, 43, 44, 45, 46, 47, 48, 49, 50, 51, 52, 53, 54, 55, 56, 57, 58, 59, 60, 61, 62] rfl) (hD.sub (ws' := scW T h0 A0 Z0) [0, 1, 2, 3, 4, 5, 6, 7, 8, 9, 10, 11, 12, 13, 14, 15, 16, 17, 18, 19, 20, 21, 22, 23, 24, 25, 26, 27, 28, 29, 30, 31, 32, 33, 34, 35, 36, 37, 38, 39, 40, 41, 42, 43, 44, 45, 46, 47, 48, 49, 50, 51, 52, 53, 54, 55, 56, 57, 58, 59, 60, 61, 62] (by decide +kernel) rfl) hK hE hS hF⟩ rfl rfl hl.1 rfl (lv_room (Nat.le_of_ble_eq_true rfl)) dL_setLimit_4 ⟨Nat.le_of_ble_eq_true rfl, Nat.le_of_ble_eq_true rfl⟩) hS (fun q _ h => hF q h) hF (fun q _ h => h.elim) (fun E ce q9 u t9 H locs ht hvm hu hBX hz hk hS hce hcv hcl => ?_) (fun r9 u t9 H locs ht hvm hw hB hz hk hS => ?_)
  · have hP : va_P D vwCl (scW T h0 A0 Z0 ++ ([(ho, .inl (T 2, 1, .inr (.inl (g0))))] : va_W)) H := hP.kept (fun k q hq => hk q.1 (hP k q hq).lt not_false)
    subst hBX
    replace h : (if E = "java/lang/IllegalArgumentException" then some (1, Z0, g0) else none) = some r := h
    by_cases c0 : E = "java/lang/IllegalArgumentException"
    · subst c0
      replace h := ip rfl h
      obtain rfl := Option.some.inj h
      refine vx_catch (own := RL) (name := "java/lang/IllegalArgumentException") hown [] ⟨0, 9, 12, 13⟩ [] (by rw [htab]; rfl) (fun z hz => absurd hz List.not_mem_nil) (by decide) (by decide) (hts (.classLink RL 13 "java/lang/IllegalArgumentException") (List.mem_of_getElem? (i := 1) rfl)) (va_Nw.use rfl (hE.2.2.2 (.castable "java/lang/IllegalArgumentException" "java/lang/IllegalArgumentException") (List.mem_of_getElem? (i := 3) rfl))) hce hcv hcl ?_
      refine lv_astore_n (lv' := [(3, .ref q9), (0, .ref h0), (1, .int v1), (2, .ref ho)]) hx hb dL_setLimit_12 rfl hl (by decide) rfl (fun ls hl => ?_)
      refine lv_iconst (v := 1) hx hb dL_setLimit_13 (by decide) ?_
      exact W.iret hx hb hr (fun t ht2 hW => ⟨⟨_, A0, rfl, rfl, by rw [ht2]; exact hP, hD⟩, hS.F ht2⟩) hS.2.2 dL_setLimit_14 hlocks
    replace h := im c0 h
    cases h
  subst hw
  rw [ht] at hB
  obtain ⟨hP, hD⟩ := reord (wr := [(ho, .inl (T 2, 1, .inr (.inl g0)))]) (ws' := scW T h0 u.1 u.2 ++ ([(ho, .inl (T 2, 1, .inr (.inl (g0))))] : va_W)) hP hD [0, 1, 2, 3, 4, 5, 6, 7, 8, 9, 10, 11, 12, 13, 14, 15, 16, 17, 18, 19, 20, 21, 22, 23, 24, 25, 26, 27, 28, 29, 30, 31, 32, 33, 34, 35, 36, 37, 38, 39, 40, 41, 42, 43, 44, 45, 46, 47, 48, 49, 50, 51, 52, 53, 54, 55, 56, 57, 58, 59, 60, 61, 62] [63] rfl rfl (by decide) (by decide) hk hF hB.1 hB.2 [1, 2, 3, 4, 5, 6, 7, 8, 9, 10, 11, 12, 13, 14, 15, 16, 17, 18, 19, 20, 21, 22, 23, 24, 25, 26, 27, 28, 29, 30, 31, 32, 33, 34, 35, 36, 37, 38, 39, 40, 41, 42, 43, 44, 45, 46, 47, 48, 49, 50, 51, 52, 53, 54, 55, 56, 57, 58, 59, 60, 61, 62, 63, 0] (by decide +kernel) rfl
  refine lv_i2l (v := r9.toInt64) hx hb dL_setLimit_7 rfl ?_
  replace h : some (0, u.2, vp_updL g0 0 r9.toInt64) = some r := h
  obtain rfl := Option.some.inj h
  refine va_last hx hb hK.1 hP hD hS 63 2 rfl rfl (show ¬ ((0 : Int32) < 0 ∨ 1 ≤ Int32.toNatClampNeg 0) from by decide) dL_setLimit_8 (fun H locs hP hD hS => ?_)
  rw [show Int32.toNatClampNeg 0 = 0 from by decide] at hP hD
  replace hP : va_P D vwCl (scW T h0 u.1 u.2 ++ ([(ho, .inl (T 2, 1, .inr (.inl (vp_updL g0 0 r9.toInt64))))] : va_W)) H := hP
  replace hD : va_D A (scW T h0 u.1 u.2 ++ ([(ho, .inl (T 2, 1, .inr (.inl (vp_updL g0 0 r9.toInt64))))] : va_W)) := hD
  refine lv_goto (tgt := 15) hx hb dL_setLimit_9 (by decide) ?_
  refine lv_iconst (v := 0) hx hb dL_setLimit_15 (by decide) ?_
  exact W.iret hx hb hr (fun t ht2 hW => ⟨⟨_, u.1, rfl, rfl, by rw [ht2]; exact hP, hD⟩, hS.F ht2⟩) hS.2.2 dL_setLimit_16 hlocks
set_option maxHeartbeats 4000000 in
set_option maxRecDepth 100000 in
theorem c_L_tell (l : Launch) (hfl : l.stackTraces = false) (D : va_G) (T : Nat → ClassId) (h0 : Nat) (A0 : AT) (Z0 : ZT) (ho : Nat) (g0 : Nat → Int64) (v1 : Int32) (v2 : Int32) (v3 : Int32) (sz : Nat) (r : Int32 × ZT × (Nat → Int64)) (h : F_L_tell Z0 g0 v1 v2 v3 = some r) : Met l yL_tell wsL_tell ({ frames := 7, cells := 1, slots := 6, locals := 131 } : Room) (va_Pc [.ref h0, .int v1, .int v2, .int v3, .ref ho] (PW D T (scW T h0 A0 Z0 ++ ([(ho, .inl (T 2, 1, .inr (.inl (g0))))] : va_W)) sz)) (QW D T h0 ho r (va_A (scW T h0 A0 Z0 ++ ([(ho, .inl (T 2, 1, .inr (.inl (g0))))] : va_W)) sz)) 1 6 (va_A (scW T h0 A0 Z0 ++ ([(ho, .inl (T 2, 1, .inr (.inl (g0))))] : va_W)) sz) := by
  refine met_ofH (cc := cL_tell) (maxL := 6) (ret := (some .int)) (hh := [(0, 12, 15, 13), (0, 12, 19, 22)]) (lv := [(0, .ref h0), (1, .int v1), (2, .int v2), (3, .int v3), (4, .ref ho)]) (by decide) rfl (Nat.le_of_ble_eq_true rfl) rfl ?_
  intro p e s m args below meth c ls C0 htab hl hB
  obtain ⟨hx, hb, hr, hml, hown, hts, hlocks, hname⟩ := C0
  obtain ⟨⟨hsz, hP, hK, hD0⟩, hE, hNC⟩ := hB
  subst hsz
  have hD := hD0.self (sz := s.heap.size)
  generalize hAe : va_A (scW T h0 A0 Z0 ++ ([(ho, .inl (T 2, 1, .inr (.inl (g0))))] : va_W)) s.heap.size = A at hD hE ⊢
  have hA : ∀ q : Nat, s.heap.size ≤ q → A q := fun q h => by rw [← hAe]; exact Or.inr h
  have hS : va_S A s.heap s.heap [] := va_S.rf
  unfold F_L_tell at h
  refine lv_aload hx hb dL_tell_0 (lv_at hl 4 rfl) ?_
  refine lv_iconst (v := 0) hx hb dL_tell_2 (by decide) ?_
  refine lv_aload_n hx hb dL_tell_3 rfl (lv_at hl 0 rfl) ?_
  refine lv_iload_n hx hb dL_tell_4 rfl (lv_at hl 1 rfl) ?_
  refine lv_iload_n hx hb dL_tell_5 rfl (lv_at hl 2 rfl) ?_
  refine lv_iload_n hx hb dL_tell_6 rfl (lv_at hl 3 rfl) ?_
  replace h := bd h
  obtain ⟨t, et, h⟩ := h
  have hF := va_free (wc := scW T h0 A0 Z0) hD hS hA [0, 1, 2, 3, 4, 5, 6, 7, 8, 9, 10, 11, 12, 13, 14, 15, 16, 17, 18, 19, 20, 21, 22, 23, 24, 25, 26, 27, 28, 29, 30, 31, 32, 33, 34, 35, 36, 37, 38, 39, 40, 41, 42, 43, 44, 45, 46, 47, 48, 49, 50, 51, 52, 53, 54, 55, 56, 57, 58, 59, 60, 61, 62] rfl
  refine vx_calli (vx_runV (As := [.int v1, .int v2, .int v3]) (rest := [.int 0, .ref ho]) ⟨hx, hb, hml, hown, hts⟩ (c_X4_tell l hfl D T h0 A0 Z0 v1 v2 v3 _ t et) (cwV 3 hts gL_tell_X4_tell rfl rfl rfl hdV_X4_tell ⟨Nat.le_of_ble_eq_true rfl, Nat.le_of_ble_eq_true rfl⟩) ⟨PX_blind, va_recv hK.1 hP (ci := 4) (q0 := 0) rfl rfl, PX_at (hP.sub (ws' := scW T h0 A0 Z0) [0, 1, 2, 3, 4, 5, 6, 7, 8, 9, 10, 11, 12, 13, 14, 15, 16, 17, 18, 19, 20, 21, 22, 23, 24, 25, 26, 27, 28, 29, 30, 31, 32, 33, 34, 35, 36, 37, 38, 39, 40, 41, 42, 43, 44, 45, 46, 47, 48, 49, 50, 51, 52, 53, 54, 55, 56, 57, 58, 59, 60, 61, 62] rfl) (hD.sub (ws' := scW T h0 A0 Z0) [0, 1, 2, 3, 4, 5, 6, 7, 8, 9, 10, 11, 12, 13, 14, 15, 16, 17, 18, 19, 20, 21, 22, 23, 24, 25, 26, 27, 28, 29, 30, 31, 32, 33, 34, 35, 36, 37, 38, 39, 40, 41, 42, 43, 44, 45, 46, 47, 48, 49, 50, 51, 52, 53, 54, 55, 56, 57, 58, 59, 60, 61, 62] (by decide +kernel) rfl) hK hE hS hF⟩ rfl rfl hl.1 rfl (lv_room (Nat.le_of_ble_eq_true rfl)) dL_tell_7 ⟨Nat.le_of_ble_eq_true rfl, Nat.le_of_ble_eq_true rfl⟩) hS (fun q _ h => hF q h) hF (fun q _ h => h.elim) (fun E ce q9 u t9 H locs ht hvm hu hBX hz hk hS hce hcv hcl => ?_) (fun r9 u t9 H locs ht hvm hw hB hz hk hS => ?_)
  · have hP : va_P D vwCl (scW T h0 A0 Z0 ++ ([(ho, .inl (T 2, 1, .inr (.inl (g0))))] : va_W)) H := hP.kept (fun k q hq => hk q.1 (hP k q hq).lt not_false)
    subst hBX
    replace h : (if E = "java/lang/IllegalArgumentException" then some (1, Z0, g0) else if E = "java/lang/IllegalStateException" then some (2, Z0, g0) else none) = some r := h
    by_cases c0 : E = "java/lang/IllegalArgumentException"
    · subst c0
      replace h := ip rfl h
      obtain rfl := Option.some.inj h
      refine vx_catch (own := RL) (name := "java/lang/IllegalArgumentException") hown [] ⟨0, 12, 15, 13⟩ [⟨0, 12, 19, 22⟩] (by rw [htab]; rfl) (fun z hz => absurd hz List.not_mem_nil) (by decide) (by decide) (hts (.classLink RL 13 "java/lang/IllegalArgumentException") (List.mem_of_getElem? (i := 1) rfl)) (va_Nw.use rfl (hE.2.2.2 (.castable "java/lang/IllegalArgumentException" "java/lang/IllegalArgumentException") (List.mem_of_getElem? (i := 3) rfl))) hce hcv hcl ?_
      refine lv_astore (lv' := [(5, .ref q9), (0, .ref h0), (1, .int v1), (2, .int v2), (3, .int v3), (4, .ref ho)]) hx hb dL_tell_15 hl (by decide) rfl (fun ls hl => ?_)
      refine lv_iconst (v := 1) hx hb dL_tell_17 (by decide) ?_
      exact W.iret hx hb hr (fun t ht2 hW => ⟨⟨_, A0, rfl, rfl, by rw [ht2]; exact hP, hD⟩, hS.F ht2⟩) hS.2.2 dL_tell_18 hlocks
    replace h := im c0 h
    by_cases c1 : E = "java/lang/IllegalStateException"
    · subst c1
      replace h := ip rfl h
      obtain rfl := Option.some.inj h
      refine vx_catch (own := RL) (name := "java/lang/IllegalStateException") hown [⟨0, 12, 15, 13⟩] ⟨0, 12, 19, 22⟩ [] (by rw [htab]; rfl) (fun z hz => by rcases List.mem_singleton.mp hz with rfl; exact Or.inr ⟨by decide, _, (hts (.classLink RL 13 "java/lang/IllegalArgumentException") (List.mem_of_getElem? (i := 1) rfl)), hNC "java/lang/IllegalStateException" (List.mem_of_getElem? (i := 1) rfl) "java/lang/IllegalArgumentException" (List.mem_of_getElem? (i := 0) rfl) (by decide)⟩) (by decide) (by decide) (hts (.classLink RL 22 "java/lang/IllegalStateException") (List.mem_of_getElem? (i := 2) rfl)) (va_Nw.use rfl (hE.2.2.2 (.castable "java/lang/IllegalStateException" "java/lang/IllegalStateException") (List.mem_of_getElem? (i := 4) rfl))) hce hcv hcl ?_
      refine lv_astore (lv' := [(5, .ref q9), (0, .ref h0), (1, .int v1), (2, .int v2), (3, .int v3), (4, .ref ho)]) hx hb dL_tell_19 hl (by decide) rfl (fun ls hl => ?_)
      refine lv_iconst (v := 2) hx hb dL_tell_21 (by decide) ?_
      exact W.iret hx hb hr (fun t ht2 hW => ⟨⟨_, A0, rfl, rfl, by rw [ht2]; exact hP, hD⟩, hS.F ht2⟩) hS.2.2 dL_tell_22 hlocks
    replace h := im c1 h
    cases h
  subst hw
  rw [ht] at hB
  obtain ⟨hP, hD⟩ := reord (wr := [(ho, .inl (T 2, 1, .inr (.inl g0)))]) (ws' := scW T h0 u.1 u.2 ++ ([(ho, .inl (T 2, 1, .inr (.inl (g0))))] : va_W)) hP hD [0, 1, 2, 3, 4, 5, 6, 7, 8, 9, 10, 11, 12, 13, 14, 15, 16, 17, 18, 19, 20, 21, 22, 23, 24, 25, 26, 27, 28, 29, 30, 31, 32, 33, 34, 35, 36, 37, 38, 39, 40, 41, 42, 43, 44, 45, 46, 47, 48, 49, 50, 51, 52, 53, 54, 55, 56, 57, 58, 59, 60, 61, 62] [63] rfl rfl (by decide) (by decide) hk hF hB.1 hB.2 [1, 2, 3, 4, 5, 6, 7, 8, 9, 10, 11, 12, 13, 14, 15, 16, 17, 18, 19, 20, 21, 22, 23, 24, 25, 26, 27, 28, 29, 30, 31, 32, 33, 34, 35, 36, 37, 38, 39, 40, 41, 42, 43, 44, 45, 46, 47, 48, 49, 50, 51, 52, 53, 54, 55, 56, 57, 58, 59, 60, 61, 62, 63, 0] (by decide +kernel) rfl
  refine lv_i2l (v := r9.toInt64) hx hb dL_tell_10 rfl ?_
  replace h : some (0, u.2, vp_updL g0 0 r9.toInt64) = some r := h
  obtain rfl := Option.some.inj h
  refine va_last hx hb hK.1 hP hD hS 63 2 rfl rfl (show ¬ ((0 : Int32) < 0 ∨ 1 ≤ Int32.toNatClampNeg 0) from by decide) dL_tell_11 (fun H locs hP hD hS => ?_)
  rw [show Int32.toNatClampNeg 0 = 0 from by decide] at hP hD
  replace hP : va_P D vwCl (scW T h0 u.1 u.2 ++ ([(ho, .inl (T 2, 1, .inr (.inl (vp_updL g0 0 r9.toInt64))))] : va_W)) H := hP
  replace hD : va_D A (scW T h0 u.1 u.2 ++ ([(ho, .inl (T 2, 1, .inr (.inl (vp_updL g0 0 r9.toInt64))))] : va_W)) := hD
  refine lv_goto (tgt := 23) hx hb dL_tell_12 (by decide) ?_
  refine lv_iconst (v := 0) hx hb dL_tell_23 (by decide) ?_
  exact W.iret hx hb hr (fun t ht2 hW => ⟨⟨_, u.1, rfl, rfl, by rw [ht2]; exact hP, hD⟩, hS.F ht2⟩) hS.2.2 dL_tell_24 hlocks
set_option maxHeartbeats 4000000 in
set_option maxRecDepth 100000 in
theorem c_L_hide (l : Launch) (hfl : l.stackTraces = false) (D : va_G) (T : Nat → ClassId) (h0 : Nat) (A0 : AT) (Z0 : ZT) (ho : Nat) (g0 : Nat → Int64) (v1 : Int32) (v2 : Int32) (sz : Nat) (r : Int32 × ZT × (Nat → Int64)) (h : F_L_hide Z0 g0 v1 v2 = some r) : Met l yL_hide wsL_hide ({ frames := 7, cells := 1, slots := 6, locals := 131 } : Room) (va_Pc [.ref h0, .int v1, .int v2, .ref ho] (PW D T (scW T h0 A0 Z0 ++ ([(ho, .inl (T 2, 1, .inr (.inl (g0))))] : va_W)) sz)) (QW D T h0 ho r (va_A (scW T h0 A0 Z0 ++ ([(ho, .inl (T 2, 1, .inr (.inl (g0))))] : va_W)) sz)) 1 6 (va_A (scW T h0 A0 Z0 ++ ([(ho, .inl (T 2, 1, .inr (.inl (g0))))] : va_W)) sz) := by
  refine met_ofH (cc := cL_hide) (maxL := 5) (ret := (some .int)) (hh := [(0, 10, 13, 28), (0, 10, 17, 13)]) (lv := [(0, .ref h0), (1, .int v1), (2, .int v2), (3, .ref ho)]) (by decide) rfl (Nat.le_of_ble_eq_true rfl) rfl ?_
  intro p e s m args below meth c ls C0 htab hl hB
  obtain ⟨hx, hb, hr, hml, hown, hts, hlocks, hname⟩ := C0
  obtain ⟨⟨hsz, hP, hK, hD0⟩, hE, hNC⟩ := hB
  subst hsz
  have hD := hD0.self (sz := s.heap.size)
  generalize hAe : va_A (scW T h0 A0 Z0 ++ ([(ho, .inl (T 2, 1, .inr (.inl (g0))))] : va_W)) s.heap.size = A at hD hE ⊢
  have hA : ∀ q : Nat, s.heap.size ≤ q → A q := fun q h => by rw [← hAe]; exact Or.inr h
  have hS : va_S A s.heap s.heap [] := va_S.rf
  unfold F_L_hide at h
  refine lv_aload_n hx hb dL_hide_0 rfl (lv_at hl 3 rfl) ?_
  refine lv_iconst (v := 0) hx hb dL_hide_1 (by decide) ?_
  refine lv_aload_n hx hb dL_hide_2 rfl (lv_at hl 0 rfl) ?_
  refine lv_iload_n hx hb dL_hide_3 rfl (lv_at hl 1 rfl) ?_
  refine lv_iload_n hx hb dL_hide_4 rfl (lv_at hl 2 rfl) ?_
  replace h := bd h
  obtain ⟨t, et, h⟩ := h
  have hF := va_free (wc := scW T h0 A0 Z0) hD hS hA [0, 1, 2, 3, 4, 5, 6, 7, 8, 9, 10, 11, 12, 13, 14, 15, 16, 17, 18, 19, 20, 21, 22, 23, 24, 25, 26, 27, 28, 29, 30, 31, 32, 33, 34, 35, 36, 37, 38, 39, 40, 41, 42, 43, 44, 45, 46, 47, 48, 49, 50, 51, 52, 53, 54, 55, 56, 57, 58, 59, 60, 61, 62] rfl
  refine vx_calli (vx_runV (As := [.int v1, .int v2]) (rest := [.int 0, .ref ho]) ⟨hx, hb, hml, hown, hts⟩ (c_X4_hide l hfl D T h0 A0 Z0 v1 v2 _ t et) (cwV 2 hts gL_hide_X4_hide rfl rfl rfl hdV_X4_hide ⟨Nat.le_of_ble_eq_true rfl, Nat.le_of_ble_eq_true rfl⟩) ⟨PX_blind, va_recv hK.1 hP (ci := 4) (q0 := 0) rfl rfl, PX_at (hP.sub (ws' := scW T h0 A0 Z0) [0, 1, 2, 3, 4, 5, 6, 7, 8, 9, 10, 11, 12, 13, 14, 15, 16, 17, 18, 19, 20, 21, 22, 23, 24, 25, 26, 27, 28, 29, 30, 31, 32, 33, 34, 35, 36, 37, 38, 39, 40, 41, 42, 43, 44, 45, 46, 47, 48, 49, 50, 51, 52, 53, 54, 55, 56, 57, 58, 59, 60, 61, 62] rfl) (hD.sub (ws' := scW T h0 A0 Z0) [0, 1, 2, 3, 4, 5, 6, 7, 8, 9, 10, 11, 12, 13, 14, 15, 16, 17, 18, 19, 20, 21, 22, 23, 24, 25, 26, 27, 28, 29, 30, 31, 32, 33, 34, 35, 36, 37, 38, 39, 40, 41, 42, 43, 44, 45, 46, 47, 48, 49, 50, 51, 52, 53, 54, 55, 56, 57, 58, 59, 60, 61, 62] (by decide +kernel) rfl) hK hE hS hF⟩ rfl rfl hl.1 rfl (lv_room (Nat.le_of_ble_eq_true rfl)) dL_hide_5 ⟨Nat.le_of_ble_eq_true rfl, Nat.le_of_ble_eq_true rfl⟩) hS (fun q _ h => hF q h) hF (fun q _ h => h.elim) (fun E ce q9 u t9 H locs ht hvm hu hBX hz hk hS hce hcv hcl => ?_) (fun r9 u t9 H locs ht hvm hw hB hz hk hS => ?_)
  · have hP : va_P D vwCl (scW T h0 A0 Z0 ++ ([(ho, .inl (T 2, 1, .inr (.inl (g0))))] : va_W)) H := hP.kept (fun k q hq => hk q.1 (hP k q hq).lt not_false)
    subst hBX
    replace h : (if E = "java/lang/IndexOutOfBoundsException" then some (1, Z0, g0) else if E = "java/lang/IllegalArgumentException" then some (2, Z0, g0) else none) = some r := h
    by_cases c0 : E = "java/lang/IndexOutOfBoundsException"
    · subst c0
      replace h := ip rfl h
      obtain rfl := Option.some.inj h
      refine vx_catch (own := RL) (name := "java/lang/IndexOutOfBoundsException") hown [] ⟨0, 10, 13, 28⟩ [⟨0, 10, 17, 13⟩] (by rw [htab]; rfl) (fun z hz => absurd hz List.not_mem_nil) (by decide) (by decide) (hts (.classLink RL 28 "java/lang/IndexOutOfBoundsException") (List.mem_of_getElem? (i := 1) rfl)) (va_Nw.use rfl (hE.2.2.2 (.castable "java/lang/IndexOutOfBoundsException" "java/lang/IndexOutOfBoundsException") (List.mem_of_getElem? (i := 5) rfl))) hce hcv hcl ?_
      refine lv_astore (lv' := [(4, .ref q9), (0, .ref h0), (1, .int v1), (2, .int v2), (3, .ref ho)]) hx hb dL_hide_13 hl (by decide) rfl (fun ls hl => ?_)
      refine lv_iconst (v := 1) hx hb dL_hide_15 (by decide) ?_
      exact W.iret hx hb hr (fun t ht2 hW => ⟨⟨_, A0, rfl, rfl, by rw [ht2]; exact hP, hD⟩, hS.F ht2⟩) hS.2.2 dL_hide_16 hlocks
    replace h := im c0 h
    by_cases c1 : E = "java/lang/IllegalArgumentException"
    · subst c1
      replace h := ip rfl h
      obtain rfl := Option.some.inj h
      refine vx_catch (own := RL) (name := "java/lang/IllegalArgumentException") hown [⟨0, 10, 13, 28⟩] ⟨0, 10, 17, 13⟩ [] (by rw [htab]; rfl) (fun z hz => by rcases List.mem_singleton.mp hz with rfl; exact Or.inr ⟨by decide, _, (hts (.classLink RL 28 "java/lang/IndexOutOfBoundsException") (List.mem_of_getElem? (i := 1) rfl)), hNC "java/lang/IllegalArgumentException" (List.mem_of_getElem? (i := 0) rfl) "java/lang/IndexOutOfBoundsException" (List.mem_of_getElem? (i := 2) rfl) (by decide)⟩) (by decide) (by decide) (hts (.classLink RL 13 "java/lang/IllegalArgumentException") (List.mem_of_getElem? (i := 2) rfl)) (va_Nw.use rfl (hE.2.2.2 (.castable "java/lang/IllegalArgumentException" "java/lang/IllegalArgumentException") (List.mem_of_getElem? (i := 3) rfl))) hce hcv hcl ?_
      refine lv_astore (lv' := [(4, .ref q9), (0, .ref h0), (1, .int v1), (2, .int v2), (3, .ref ho)]) hx hb dL_hide_17 hl (by decide) rfl (fun ls hl => ?_)
      refine lv_iconst (v := 2) hx hb dL_hide_19 (by decide) ?_
      exact W.iret hx hb hr (fun t ht2 hW => ⟨⟨_, A0, rfl, rfl, by rw [ht2]; exact hP, hD⟩, hS.F ht2⟩) hS.2.2 dL_hide_20 hlocks
    replace h := im c1 h
    cases h
  subst hw
  rw [ht] at hB
  obtain ⟨hP, hD⟩ := reord (wr := [(ho, .inl (T 2, 1, .inr (.inl g0)))]) (ws' := scW T h0 u.1 u.2 ++ ([(ho, .inl (T 2, 1, .inr (.inl (g0))))] : va_W)) hP hD [0, 1, 2, 3, 4, 5, 6, 7, 8, 9, 10, 11, 12, 13, 14, 15, 16, 17, 18, 19, 20, 21, 22, 23, 24, 25, 26, 27, 28, 29, 30, 31, 32, 33, 34, 35, 36, 37, 38, 39, 40, 41, 42, 43, 44, 45, 46, 47, 48, 49, 50, 51, 52, 53, 54, 55, 56, 57, 58, 59, 60, 61, 62] [63] rfl rfl (by decide) (by decide) hk hF hB.1 hB.2 [1, 2, 3, 4, 5, 6, 7, 8, 9, 10, 11, 12, 13, 14, 15, 16, 17, 18, 19, 20, 21, 22, 23, 24, 25, 26, 27, 28, 29, 30, 31, 32, 33, 34, 35, 36, 37, 38, 39, 40, 41, 42, 43, 44, 45, 46, 47, 48, 49, 50, 51, 52, 53, 54, 55, 56, 57, 58, 59, 60, 61, 62, 63, 0] (by decide +kernel) rfl
  refine lv_i2l (v := r9.toInt64) hx hb dL_hide_8 rfl ?_
  replace h : some (0, u.2, vp_updL g0 0 r9.toInt64) = some r := h
  obtain rfl := Option.some.inj h
  refine va_last hx hb hK.1 hP hD hS 63 2 rfl rfl (show ¬ ((0 : Int32) < 0 ∨ 1 ≤ Int32.toNatClampNeg 0) from by decide) dL_hide_9 (fun H locs hP hD hS => ?_)
  rw [show Int32.toNatClampNeg 0 = 0 from by decide] at hP hD
  replace hP : va_P D vwCl (scW T h0 u.1 u.2 ++ ([(ho, .inl (T 2, 1, .inr (.inl (vp_updL g0 0 r9.toInt64))))] : va_W)) H := hP
  replace hD : va_D A (scW T h0 u.1 u.2 ++ ([(ho, .inl (T 2, 1, .inr (.inl (vp_updL g0 0 r9.toInt64))))] : va_W)) := hD
  refine lv_goto (tgt := 21) hx hb dL_hide_10 (by decide) ?_
  refine lv_iconst (v := 0) hx hb dL_hide_21 (by decide) ?_
  exact W.iret hx hb hr (fun t ht2 hW => ⟨⟨_, u.1, rfl, rfl, by rw [ht2]; exact hP, hD⟩, hS.F ht2⟩) hS.2.2 dL_hide_22 hlocks
set_option maxHeartbeats 4000000 in
set_option maxRecDepth 100000 in
theorem c_L_ask (l : Launch) (hfl : l.stackTraces = false) (D : va_G) (T : Nat → ClassId) (h0 : Nat) (A0 : AT) (Z0 : ZT) (ho : Nat) (g0 : Nat → Int64) (v1 : Int32) (v2 : Int32) (sz : Nat) (r : Int32 × ZT × (Nat → Int64)) (h : F_L_ask Z0 g0 v1 v2 = some r) : Met l yL_ask wsL_ask ({ frames := 7, cells := 1, slots := 6, locals := 138 } : Room) (va_Pc [.ref h0, .int v1, .int v2, .ref ho] (PW D T (scW T h0 A0 Z0 ++ ([(ho, .inl (T 2, 1, .inr (.inl (g0))))] : va_W)) sz)) (QW D T h0 ho r (va_A (scW T h0 A0 Z0 ++ ([(ho, .inl (T 2, 1, .inr (.inl (g0))))] : va_W)) sz)) 1 6 (va_A (scW T h0 A0 Z0 ++ ([(ho, .inl (T 2, 1, .inr (.inl (g0))))] : va_W)) sz) := by
  refine met_ofH (cc := cL_ask) (maxL := 5) (ret := (some .int)) (hh := [(0, 10, 13, 13), (0, 10, 17, 22)]) (lv := [(0, .ref h0), (1, .int v1), (2, .int v2), (3, .ref ho)]) (by decide) rfl (Nat.le_of_ble_eq_true rfl) rfl ?_
  intro p e s m args below meth c ls C0 htab hl hB
  obtain ⟨hx, hb, hr, hml, hown, hts, hlocks, hname⟩ := C0
  obtain ⟨⟨hsz, hP, hK, hD0⟩, hE, hNC⟩ := hB
  subst hsz
  have hD := hD0.self (sz := s.heap.size)
  generalize hAe : va_A (scW T h0 A0 Z0 ++ ([(ho, .inl (T 2, 1, .inr (.inl (g0))))] : va_W)) s.heap.size = A at hD hE ⊢
  have hA : ∀ q : Nat, s.heap.size ≤ q → A q := fun q h => by rw [← hAe]; exact Or.inr h
  have hS : va_S A s.heap s.heap [] := va_S.rf
  unfold F_L_ask at h
  refine lv_aload_n hx hb dL_ask_0 rfl (lv_at hl 3 rfl) ?_
  refine lv_iconst (v := 0) hx hb dL_ask_1 (by decide) ?_
  refine lv_aload_n hx hb dL_ask_2 rfl (lv_at hl 0 rfl) ?_
  refine lv_iload_n hx hb dL_ask_3 rfl (lv_at hl 1 rfl) ?_
  refine lv_iload_n hx hb dL_ask_4 rfl (lv_at hl 2 rfl) ?_
  replace h := bd h
  obtain ⟨t, et, h⟩ := h
  have hF := va_free (wc := scW T h0 A0 Z0) hD hS hA [0, 1, 2, 3, 4, 5, 6, 7, 8, 9, 10, 11, 12, 13, 14, 15, 16, 17, 18, 19, 20, 21, 22, 23, 24, 25, 26, 27, 28, 29, 30, 31, 32, 33, 34, 35, 36, 37, 38, 39, 40, 41, 42, 43, 44, 45, 46, 47, 48, 49, 50, 51, 52, 53, 54, 55, 56, 57, 58, 59, 60, 61, 62] rfl
  refine vx_calli (vx_runV (As := [.int v1, .int v2]) (rest := [.int 0, .ref ho]) ⟨hx, hb, hml, hown, hts⟩ (c_X4_ask l hfl D T h0 A0 Z0 v1 v2 _ t et) (cwV 2 hts gL_ask_X4_ask rfl rfl rfl hdV_X4_ask ⟨Nat.le_of_ble_eq_true rfl, Nat.le_of_ble_eq_true rfl⟩) ⟨PX_blind, va_recv hK.1 hP (ci := 4) (q0 := 0) rfl rfl, PX_at (hP.sub (ws' := scW T h0 A0 Z0) [0, 1, 2, 3, 4, 5, 6, 7, 8, 9, 10, 11, 12, 13, 14, 15, 16, 17, 18, 19, 20, 21, 22, 23, 24, 25, 26, 27, 28, 29, 30, 31, 32, 33, 34, 35, 36, 37, 38, 39, 40, 41, 42, 43, 44, 45, 46, 47, 48, 49, 50, 51, 52, 53, 54, 55, 56, 57, 58, 59, 60, 61, 62] rfl) (hD.sub (ws' := scW T h0 A0 Z0) [0, 1, 2, 3, 4, 5, 6, 7, 8, 9, 10, 11, 12, 13, 14, 15, 16, 17, 18, 19, 20, 21, 22, 23, 24, 25, 26, 27, 28, 29, 30, 31, 32, 33, 34, 35, 36, 37, 38, 39, 40, 41, 42, 43, 44, 45, 46, 47, 48, 49, 50, 51, 52, 53, 54, 55, 56, 57, 58, 59, 60, 61, 62] (by decide +kernel) rfl) hK hE hS hF⟩ rfl rfl hl.1 rfl (lv_room (Nat.le_of_ble_eq_true rfl)) dL_ask_5 ⟨Nat.le_of_ble_eq_true rfl, Nat.le_of_ble_eq_true rfl⟩) hS (fun q _ h => hF q h) hF (fun q _ h => h.elim) (fun E ce q9 u t9 H locs ht hvm hu hBX hz hk hS hce hcv hcl => ?_) (fun r9 u t9 H locs ht hvm hw hB hz hk hS => ?_)
  · have hP : va_P D vwCl (scW T h0 A0 Z0 ++ ([(ho, .inl (T 2, 1, .inr (.inl (g0))))] : va_W)) H := hP.kept (fun k q hq => hk q.1 (hP k q hq).lt not_false)
    subst hBX
    replace h : (if E = "java/lang/IllegalArgumentException" then some (1, Z0, g0) else if E = "java/lang/IllegalStateException" then some (2, Z0, g0) else none) = some r := h
    by_cases c0 : E = "java/lang/IllegalArgumentException"
    · subst c0
      replace h := ip rfl h
      obtain rfl := Option.some.inj h
      refine vx_catch (own := RL) (name := "java/lang/IllegalArgumentException") hown [] ⟨0, 10, 13, 13⟩ [⟨0, 10, 17, 22⟩] (by rw [htab]; rfl) (fun z hz => absurd hz List.not_mem_nil) (by decide) (by decide) (hts (.classLink RL 13 "java/lang/IllegalArgumentException") (List.mem_of_getElem? (i := 1) rfl)) (va_Nw.use rfl (hE.2.2.2 (.castable "java/lang/IllegalArgumentException" "java/lang/IllegalArgumentException") (List.mem_of_getElem? (i := 3) rfl))) hce hcv hcl ?_
      refine lv_astore (lv' := [(4, .ref q9), (0, .ref h0), (1, .int v1), (2, .int v2), (3, .ref ho)]) hx hb dL_ask_13 hl (by decide) rfl (fun ls hl => ?_)
      refine lv_iconst (v := 1) hx hb dL_ask_15 (by decide) ?_
      exact W.iret hx hb hr (fun t ht2 hW => ⟨⟨_, A0, rfl, rfl, by rw [ht2]; exact hP, hD⟩, hS.F ht2⟩) hS.2.2 dL_ask_16 hlocks
    replace h := im c0 h
    by_cases c1 : E = "java/lang/IllegalStateException"
    · subst c1
      replace h := ip rfl h
      obtain rfl := Option.some.inj h
      refine vx_catch (own := RL) (name := "java/lang/IllegalStateException") hown [⟨0, 10, 13, 13⟩] ⟨0, 10, 17, 22⟩ [] (by rw [htab]; rfl) (fun z hz => by rcases List.mem_singleton.mp hz with rfl; exact Or.inr ⟨by decide, _, (hts (.classLink RL 13 "java/lang/IllegalArgumentException") (List.mem_of_getElem? (i := 1) rfl)), hNC "java/lang/IllegalStateException" (List.mem_of_getElem? (i := 1) rfl) "java/lang/IllegalArgumentException" (List.mem_of_getElem? (i := 0) rfl) (by decide)⟩) (by decide) (by decide) (hts (.classLink RL 22 "java/lang/IllegalStateException") (List.mem_of_getElem? (i := 2) rfl)) (va_Nw.use rfl (hE.2.2.2 (.castable "java/lang/IllegalStateException" "java/lang/IllegalStateException") (List.mem_of_getElem? (i := 4) rfl))) hce hcv hcl ?_
      refine lv_astore (lv' := [(4, .ref q9), (0, .ref h0), (1, .int v1), (2, .int v2), (3, .ref ho)]) hx hb dL_ask_17 hl (by decide) rfl (fun ls hl => ?_)
      refine lv_iconst (v := 2) hx hb dL_ask_19 (by decide) ?_
      exact W.iret hx hb hr (fun t ht2 hW => ⟨⟨_, A0, rfl, rfl, by rw [ht2]; exact hP, hD⟩, hS.F ht2⟩) hS.2.2 dL_ask_20 hlocks
    replace h := im c1 h
    cases h
  subst hw
  rw [ht] at hB
  obtain ⟨hP, hD⟩ := reord (wr := [(ho, .inl (T 2, 1, .inr (.inl g0)))]) (ws' := scW T h0 u.1 u.2 ++ ([(ho, .inl (T 2, 1, .inr (.inl (g0))))] : va_W)) hP hD [0, 1, 2, 3, 4, 5, 6, 7, 8, 9, 10, 11, 12, 13, 14, 15, 16, 17, 18, 19, 20, 21, 22, 23, 24, 25, 26, 27, 28, 29, 30, 31, 32, 33, 34, 35, 36, 37, 38, 39, 40, 41, 42, 43, 44, 45, 46, 47, 48, 49, 50, 51, 52, 53, 54, 55, 56, 57, 58, 59, 60, 61, 62] [63] rfl rfl (by decide) (by decide) hk hF hB.1 hB.2 [1, 2, 3, 4, 5, 6, 7, 8, 9, 10, 11, 12, 13, 14, 15, 16, 17, 18, 19, 20, 21, 22, 23, 24, 25, 26, 27, 28, 29, 30, 31, 32, 33, 34, 35, 36, 37, 38, 39, 40, 41, 42, 43, 44, 45, 46, 47, 48, 49, 50, 51, 52, 53, 54, 55, 56, 57, 58, 59, 60, 61, 62, 63, 0] (by decide +kernel) rfl
  refine lv_i2l (v := r9.toInt64) hx hb dL_ask_8 rfl ?_
  replace h : some (0, u.2, vp_updL g0 0 r9.toInt64) = some r := h
  obtain rfl := Option.some.inj h
  refine va_last hx hb hK.1 hP hD hS 63 2 rfl rfl (show ¬ ((0 : Int32) < 0 ∨ 1 ≤ Int32.toNatClampNeg 0) from by decide) dL_ask_9 (fun H locs hP hD hS => ?_)
  rw [show Int32.toNatClampNeg 0 = 0 from by decide] at hP hD
  replace hP : va_P D vwCl (scW T h0 u.1 u.2 ++ ([(ho, .inl (T 2, 1, .inr (.inl (vp_updL g0 0 r9.toInt64))))] : va_W)) H := hP
  replace hD : va_D A (scW T h0 u.1 u.2 ++ ([(ho, .inl (T 2, 1, .inr (.inl (vp_updL g0 0 r9.toInt64))))] : va_W)) := hD
  refine lv_goto (tgt := 21) hx hb dL_ask_10 (by decide) ?_
  refine lv_iconst (v := 0) hx hb dL_ask_21 (by decide) ?_
  exact W.iret hx hb hr (fun t ht2 hW => ⟨⟨_, u.1, rfl, rfl, by rw [ht2]; exact hP, hD⟩, hS.F ht2⟩) hS.2.2 dL_ask_22 hlocks
set_option maxHeartbeats 4000000 in
set_option maxRecDepth 100000 in
theorem c_L_add (l : Launch) (hfl : l.stackTraces = false) (D : va_G) (T : Nat → ClassId) (h0 : Nat) (A0 : AT) (Z0 : ZT) (ho : Nat) (g0 : Nat → Int64) (v1 : Int32) (v2 : Int32) (sz : Nat) (r : Int32 × ZT × (Nat → Int64)) (h : F_L_add Z0 g0 v1 v2 = some r) : Met l yL_add wsL_add ({ frames := 7, cells := 1, slots := 6, locals := 131 } : Room) (va_Pc [.ref h0, .int v1, .int v2, .ref ho] (PW D T (scW T h0 A0 Z0 ++ ([(ho, .inl (T 2, 1, .inr (.inl (g0))))] : va_W)) sz)) (QW D T h0 ho r (va_A (scW T h0 A0 Z0 ++ ([(ho, .inl (T 2, 1, .inr (.inl (g0))))] : va_W)) sz)) 1 6 (va_A (scW T h0 A0 Z0 ++ ([(ho, .inl (T 2, 1, .inr (.inl (g0))))] : va_W)) sz) := by
  refine met_ofH (cc := cL_add) (maxL := 5) (ret := (some .int)) (hh := [(0, 10, 13, 13), (0, 10, 17, 22)]) (lv := [(0, .ref h0), (1, .int v1), (2, .int v2), (3, .ref ho)]) (by decide) rfl (Nat.le_of_ble_eq_true rfl) rfl ?_
  intro p e s m args below meth c ls C0 htab hl hB
  obtain ⟨hx, hb, hr, hml, hown, hts, hlocks, hname⟩ := C0
  obtain ⟨⟨hsz, hP, hK, hD0⟩, hE, hNC⟩ := hB
  subst hsz
  have hD := hD0.self (sz := s.heap.size)
  generalize hAe : va_A (scW T h0 A0 Z0 ++ ([(ho, .inl (T 2, 1, .inr (.inl (g0))))] : va_W)) s.heap.size = A at hD hE ⊢
  have hA : ∀ q : Nat, s.heap.size ≤ q → A q := fun q h => by rw [← hAe]; exact Or.inr h
  have hS : va_S A s.heap s.heap [] := va_S.rf
  unfold F_L_add at h
  refine lv_aload_n hx hb dL_add_0 rfl (lv_at hl 3 rfl) ?_
  refine lv_iconst (v := 0) hx hb dL_add_1 (by decide) ?_
  refine lv_aload_n hx hb dL_add_2 rfl (lv_at hl 0 rfl) ?_
  refine lv_iload_n hx hb dL_add_3 rfl (lv_at hl 1 rfl) ?_
  refine lv_iload_n hx hb dL_add_4 rfl (lv_at hl 2 rfl) ?_
  replace h := bd h
  obtain ⟨t, et, h⟩ := h
  have hF := va_free (wc := scW T h0 A0 Z0) hD hS hA [0, 1, 2, 3, 4, 5, 6, 7, 8, 9, 10, 11, 12, 13, 14, 15, 16, 17, 18, 19, 20, 21, 22, 23, 24, 25, 26, 27, 28, 29, 30, 31, 32, 33, 34, 35, 36, 37, 38, 39, 40, 41, 42, 43, 44, 45, 46, 47, 48, 49, 50, 51, 52, 53, 54, 55, 56, 57, 58, 59, 60, 61, 62] rfl
  refine vx_calli (vx_runV (As := [.int v1, .int v2]) (rest := [.int 0, .ref ho]) ⟨hx, hb, hml, hown, hts⟩ (c_X4_add l hfl D T h0 A0 Z0 v1 v2 _ t et) (cwV 2 hts gL_add_X4_add rfl rfl rfl hdV_X4_add ⟨Nat.le_of_ble_eq_true rfl, Nat.le_of_ble_eq_true rfl⟩) ⟨PX_blind, va_recv hK.1 hP (ci := 4) (q0 := 0) rfl rfl, PX_at (hP.sub (ws' := scW T h0 A0 Z0) [0, 1, 2, 3, 4, 5, 6, 7, 8, 9, 10, 11, 12, 13, 14, 15, 16, 17, 18, 19, 20, 21, 22, 23, 24, 25, 26, 27, 28, 29, 30, 31, 32, 33, 34, 35, 36, 37, 38, 39, 40, 41, 42, 43, 44, 45, 46, 47, 48, 49, 50, 51, 52, 53, 54, 55, 56, 57, 58, 59, 60, 61, 62] rfl) (hD.sub (ws' := scW T h0 A0 Z0) [0, 1, 2, 3, 4, 5, 6, 7, 8, 9, 10, 11, 12, 13, 14, 15, 16, 17, 18, 19, 20, 21, 22, 23, 24, 25, 26, 27, 28, 29, 30, 31, 32, 33, 34, 35, 36, 37, 38, 39, 40, 41, 42, 43, 44, 45, 46, 47, 48, 49, 50, 51, 52, 53, 54, 55, 56, 57, 58, 59, 60, 61, 62] (by decide +kernel) rfl) hK hE hS hF⟩ rfl rfl hl.1 rfl (lv_room (Nat.le_of_ble_eq_true rfl)) dL_add_5 ⟨Nat.le_of_ble_eq_true rfl, Nat.le_of_ble_eq_true rfl⟩) hS (fun q _ h => hF q h) hF (fun q _ h => h.elim) (fun E ce q9 u t9 H locs ht hvm hu hBX hz hk hS hce hcv hcl => ?_) (fun r9 u t9 H locs ht hvm hw hB hz hk hS => ?_)
  · have hP : va_P D vwCl (scW T h0 A0 Z0 ++ ([(ho, .inl (T 2, 1, .inr (.inl (g0))))] : va_W)) H := hP.kept (fun k q hq => hk q.1 (hP k q hq).lt not_false)
    subst hBX
    replace h : (if E = "java/lang/IllegalArgumentException" then some (1, Z0, g0) else if E = "java/lang/IllegalStateException" then some (2, Z0, g0) else none) = some r := h
    by_cases c0 : E = "java/lang/IllegalArgumentException"
    · subst c0
      replace h := ip rfl h
      obtain rfl := Option.some.inj h
      refine vx_catch (own := RL) (name := "java/lang/IllegalArgumentException") hown [] ⟨0, 10, 13, 13⟩ [⟨0, 10, 17, 22⟩] (by rw [htab]; rfl) (fun z hz => absurd hz List.not_mem_nil) (by decide) (by decide) (hts (.classLink RL 13 "java/lang/IllegalArgumentException") (List.mem_of_getElem? (i := 1) rfl)) (va_Nw.use rfl (hE.2.2.2 (.castable "java/lang/IllegalArgumentException" "java/lang/IllegalArgumentException") (List.mem_of_getElem? (i := 3) rfl))) hce hcv hcl ?_
      refine lv_astore (lv' := [(4, .ref q9), (0, .ref h0), (1, .int v1), (2, .int v2), (3, .ref ho)]) hx hb dL_add_13 hl (by decide) rfl (fun ls hl => ?_)
      refine lv_iconst (v := 1) hx hb dL_add_15 (by decide) ?_
      exact W.iret hx hb hr (fun t ht2 hW => ⟨⟨_, A0, rfl, rfl, by rw [ht2]; exact hP, hD⟩, hS.F ht2⟩) hS.2.2 dL_add_16 hlocks
    replace h := im c0 h
    by_cases c1 : E = "java/lang/IllegalStateException"
    · subst c1
      replace h := ip rfl h
      obtain rfl := Option.some.inj h
      refine vx_catch (own := RL) (name := "java/lang/IllegalStateException") hown [⟨0, 10, 13, 13⟩] ⟨0, 10, 17, 22⟩ [] (by rw [htab]; rfl) (fun z hz => by rcases List.mem_singleton.mp hz with rfl; exact Or.inr ⟨by decide, _, (hts (.classLink RL 13 "java/lang/IllegalArgumentException") (List.mem_of_getElem? (i := 1) rfl)), hNC "java/lang/IllegalStateException" (List.mem_of_getElem? (i := 1) rfl) "java/lang/IllegalArgumentException" (List.mem_of_getElem? (i := 0) rfl) (by decide)⟩) (by decide) (by decide) (hts (.classLink RL 22 "java/lang/IllegalStateException") (List.mem_of_getElem? (i := 2) rfl)) (va_Nw.use rfl (hE.2.2.2 (.castable "java/lang/IllegalStateException" "java/lang/IllegalStateException") (List.mem_of_getElem? (i := 4) rfl))) hce hcv hcl ?_
      refine lv_astore (lv' := [(4, .ref q9), (0, .ref h0), (1, .int v1), (2, .int v2), (3, .ref ho)]) hx hb dL_add_17 hl (by decide) rfl (fun ls hl => ?_)
      refine lv_iconst (v := 2) hx hb dL_add_19 (by decide) ?_
      exact W.iret hx hb hr (fun t ht2 hW => ⟨⟨_, A0, rfl, rfl, by rw [ht2]; exact hP, hD⟩, hS.F ht2⟩) hS.2.2 dL_add_20 hlocks
    replace h := im c1 h
    cases h
  subst hw
  rw [ht] at hB
  obtain ⟨hP, hD⟩ := reord (wr := [(ho, .inl (T 2, 1, .inr (.inl g0)))]) (ws' := scW T h0 u.1 u.2 ++ ([(ho, .inl (T 2, 1, .inr (.inl (g0))))] : va_W)) hP hD [0, 1, 2, 3, 4, 5, 6, 7, 8, 9, 10, 11, 12, 13, 14, 15, 16, 17, 18, 19, 20, 21, 22, 23, 24, 25, 26, 27, 28, 29, 30, 31, 32, 33, 34, 35, 36, 37, 38, 39, 40, 41, 42, 43, 44, 45, 46, 47, 48, 49, 50, 51, 52, 53, 54, 55, 56, 57, 58, 59, 60, 61, 62] [63] rfl rfl (by decide) (by decide) hk hF hB.1 hB.2 [1, 2, 3, 4, 5, 6, 7, 8, 9, 10, 11, 12, 13, 14, 15, 16, 17, 18, 19, 20, 21, 22, 23, 24, 25, 26, 27, 28, 29, 30, 31, 32, 33, 34, 35, 36, 37, 38, 39, 40, 41, 42, 43, 44, 45, 46, 47, 48, 49, 50, 51, 52, 53, 54, 55, 56, 57, 58, 59, 60, 61, 62, 63, 0] (by decide +kernel) rfl
  refine lv_i2l (v := r9.toInt64) hx hb dL_add_8 rfl ?_
  replace h : some (0, u.2, vp_updL g0 0 r9.toInt64) = some r := h
  obtain rfl := Option.some.inj h
  refine va_last hx hb hK.1 hP hD hS 63 2 rfl rfl (show ¬ ((0 : Int32) < 0 ∨ 1 ≤ Int32.toNatClampNeg 0) from by decide) dL_add_9 (fun H locs hP hD hS => ?_)
  rw [show Int32.toNatClampNeg 0 = 0 from by decide] at hP hD
  replace hP : va_P D vwCl (scW T h0 u.1 u.2 ++ ([(ho, .inl (T 2, 1, .inr (.inl (vp_updL g0 0 r9.toInt64))))] : va_W)) H := hP
  replace hD : va_D A (scW T h0 u.1 u.2 ++ ([(ho, .inl (T 2, 1, .inr (.inl (vp_updL g0 0 r9.toInt64))))] : va_W)) := hD
  refine lv_goto (tgt := 21) hx hb dL_add_10 (by decide) ?_
  refine lv_iconst (v := 0) hx hb dL_add_21 (by decide) ?_
  exact W.iret hx hb hr (fun t ht2 hW => ⟨⟨_, u.1, rfl, rfl, by rw [ht2]; exact hP, hD⟩, hS.F ht2⟩) hS.2.2 dL_add_22 hlocks
set_option maxHeartbeats 4000000 in
set_option maxRecDepth 100000 in
theorem c_L_removeLast (l : Launch) (hfl : l.stackTraces = false) (D : va_G) (T : Nat → ClassId) (h0 : Nat) (A0 : AT) (Z0 : ZT) (ho : Nat) (g0 : Nat → Int64) (sz : Nat) (r : Int32 × ZT × (Nat → Int64)) (h : F_L_removeLast Z0 g0 = some r) : Met l yL_removeLast wsL_removeLast ({ frames := 7, cells := 1, slots := 6, locals := 128 } : Room) (va_Pc [.ref h0, .ref ho] (PW D T (scW T h0 A0 Z0 ++ ([(ho, .inl (T 2, 1, .inr (.inl (g0))))] : va_W)) sz)) (QW D T h0 ho r (va_A (scW T h0 A0 Z0 ++ ([(ho, .inl (T 2, 1, .inr (.inl (g0))))] : va_W)) sz)) 1 6 (va_A (scW T h0 A0 Z0 ++ ([(ho, .inl (T 2, 1, .inr (.inl (g0))))] : va_W)) sz) := by
  refine met_ofH (cc := cL_removeLast) (maxL := 3) (ret := (some .int)) (hh := [(0, 8, 11, 22)]) (lv := [(0, .ref h0), (1, .ref ho)]) (by decide) rfl (Nat.le_of_ble_eq_true rfl) rfl ?_
  intro p e s m args below meth c ls C0 htab hl hB
  obtain ⟨hx, hb, hr, hml, hown, hts, hlocks, hname⟩ := C0
  obtain ⟨⟨hsz, hP, hK, hD0⟩, hE, hNC⟩ := hB
  subst hsz
  have hD := hD0.self (sz := s.heap.size)
  generalize hAe : va_A (scW T h0 A0 Z0 ++ ([(ho, .inl (T 2, 1, .inr (.inl (g0))))] : va_W)) s.heap.size = A at hD hE ⊢
  have hA : ∀ q : Nat, s.heap.size ≤ q → A q := fun q h => by rw [← hAe]; exact Or.inr h
  have hS : va_S A s.heap s.heap [] := va_S.rf
  unfold F_L_removeLast at h
  refine lv_aload_n hx hb dL_removeLast_0 rfl (lv_at hl 1 rfl) ?_
  refine lv_iconst (v := 0) hx hb dL_removeLast_1 (by decide) ?_
  refine lv_aload_n hx hb dL_removeLast_2 rfl (lv_at hl 0 rfl) ?_
  replace h := bd h
  obtain ⟨t, et, h⟩ := h
  have hF := va_free (wc := scW T h0 A0 Z0) hD hS hA [0, 1, 2, 3, 4, 5, 6, 7, 8, 9, 10, 11, 12, 13, 14, 15, 16, 17, 18, 19, 20, 21, 22, 23, 24, 25, 26, 27, 28, 29, 30, 31, 32, 33, 34, 35, 36, 37, 38, 39, 40, 41, 42, 43, 44, 45, 46, 47, 48, 49, 50, 51, 52, 53, 54, 55, 56, 57, 58, 59, 60, 61, 62] rfl
  refine vx_calli (vx_runV (As := []) (rest := [.int 0, .ref ho]) ⟨hx, hb, hml, hown, hts⟩ (c_X4_removeLast l hfl D T h0 A0 Z0 _ t et) (cwV 0 hts gL_removeLast_X4_removeLast rfl rfl rfl hdV_X4_removeLast ⟨Nat.le_of_ble_eq_true rfl, Nat.le_of_ble_eq_true rfl⟩) ⟨PX_blind, va_recv hK.1 hP (ci := 4) (q0 := 0) rfl rfl, PX_at (hP.sub (ws' := scW T h0 A0 Z0) [0, 1, 2, 3, 4, 5, 6, 7, 8, 9, 10, 11, 12, 13, 14, 15, 16, 17, 18, 19, 20, 21, 22, 23, 24, 25, 26, 27, 28, 29, 30, 31, 32, 33, 34, 35, 36, 37, 38, 39, 40, 41, 42, 43, 44, 45, 46, 47, 48, 49, 50, 51, 52, 53, 54, 55, 56, 57, 58, 59, 60, 61, 62] rfl) (hD.sub (ws' := scW T h0 A0 Z0) [0, 1, 2, 3, 4, 5, 6, 7, 8, 9, 10, 11, 12, 13, 14, 15, 16, 17, 18, 19, 20, 21, 22, 23, 24, 25, 26, 27, 28, 29, 30, 31, 32, 33, 34, 35, 36, 37, 38, 39, 40, 41, 42, 43, 44, 45, 46, 47, 48, 49, 50, 51, 52, 53, 54, 55, 56, 57, 58, 59, 60, 61, 62] (by decide +kernel) rfl) hK hE hS hF⟩ rfl rfl hl.1 rfl (lv_room (Nat.le_of_ble_eq_true rfl)) dL_removeLast_3 ⟨Nat.le_of_ble_eq_true rfl, Nat.le_of_ble_eq_true rfl⟩) hS (fun q _ h => hF q h) hF (fun q _ h => h.elim) (fun E ce q9 u t9 H locs ht hvm hu hBX hz hk hS hce hcv hcl => ?_) (fun r9 u t9 H locs ht hvm hw hB hz hk hS => ?_)
  · have hP : va_P D vwCl (scW T h0 A0 Z0 ++ ([(ho, .inl (T 2, 1, .inr (.inl (g0))))] : va_W)) H := hP.kept (fun k q hq => hk q.1 (hP k q hq).lt not_false)
    subst hBX
    replace h : (if E = "java/lang/IllegalStateException" then some (1, Z0, g0) else none) = some r := h
    by_cases c0 : E = "java/lang/IllegalStateException"
    · subst c0
      replace h := ip rfl h
      obtain rfl := Option.some.inj h
      refine vx_catch (own := RL) (name := "java/lang/IllegalStateException") hown [] ⟨0, 8, 11, 22⟩ [] (by rw [htab]; rfl) (fun z hz => absurd hz List.not_mem_nil) (by decide) (by decide) (hts (.classLink RL 22 "java/lang/IllegalStateException") (List.mem_of_getElem? (i := 1) rfl)) (va_Nw.use rfl (hE.2.2.2 (.castable "java/lang/IllegalStateException" "java/lang/IllegalStateException") (List.mem_of_getElem? (i := 4) rfl))) hce hcv hcl ?_
      refine lv_astore_n (lv' := [(2, .ref q9), (0, .ref h0), (1, .ref ho)]) hx hb dL_removeLast_11 rfl hl (by decide) rfl (fun ls hl => ?_)
      refine lv_iconst (v := 1) hx hb dL_removeLast_12 (by decide) ?_
      exact W.iret hx hb hr (fun t ht2 hW => ⟨⟨_, A0, rfl, rfl, by rw [ht2]; exact hP, hD⟩, hS.F ht2⟩) hS.2.2 dL_removeLast_13 hlocks
    replace h := im c0 h
    cases h
  subst hw
  rw [ht] at hB
  obtain ⟨hP, hD⟩ := reord (wr := [(ho, .inl (T 2, 1, .inr (.inl g0)))]) (ws' := scW T h0 u.1 u.2 ++ ([(ho, .inl (T 2, 1, .inr (.inl (g0))))] : va_W)) hP hD [0, 1, 2, 3, 4, 5, 6, 7, 8, 9, 10, 11, 12, 13, 14, 15, 16, 17, 18, 19, 20, 21, 22, 23, 24, 25, 26, 27, 28, 29, 30, 31, 32, 33, 34, 35, 36, 37, 38, 39, 40, 41, 42, 43, 44, 45, 46, 47, 48, 49, 50, 51, 52, 53, 54, 55, 56, 57, 58, 59, 60, 61, 62] [63] rfl rfl (by decide) (by decide) hk hF hB.1 hB.2 [1, 2, 3, 4, 5, 6, 7, 8, 9, 10, 11, 12, 13, 14, 15, 16, 17, 18, 19, 20, 21, 22, 23, 24, 25, 26, 27, 28, 29, 30, 31, 32, 33, 34, 35, 36, 37, 38, 39, 40, 41, 42, 43, 44, 45, 46, 47, 48, 49, 50, 51, 52, 53, 54, 55, 56, 57, 58, 59, 60, 61, 62, 63, 0] (by decide +kernel) rfl
  refine lv_i2l (v := r9.toInt64) hx hb dL_removeLast_6 rfl ?_
  replace h : some (0, u.2, vp_updL g0 0 r9.toInt64) = some r := h
  obtain rfl := Option.some.inj h
  refine va_last hx hb hK.1 hP hD hS 63 2 rfl rfl (show ¬ ((0 : Int32) < 0 ∨ 1 ≤ Int32.toNatClampNeg 0) from by decide) dL_removeLast_7 (fun H locs hP hD hS => ?_)
  rw [show Int32.toNatClampNeg 0 = 0 from by decide] at hP hD
  replace hP : va_P D vwCl (scW T h0 u.1 u.2 ++ ([(ho, .inl (T 2, 1, .inr (.inl (vp_updL g0 0 r9.toInt64))))] : va_W)) H := hP
  replace hD : va_D A (scW T h0 u.1 u.2 ++ ([(ho, .inl (T 2, 1, .inr (.inl (vp_updL g0 0 r9.toInt64))))] : va_W)) := hD
  refine lv_goto (tgt := 14) hx hb dL_removeLast_8 (by decide) ?_
  refine lv_iconst (v := 0) hx hb dL_removeLast_14 (by decide) ?_
  exact W.iret hx hb hr (fun t ht2 hW => ⟨⟨_, u.1, rfl, rfl, by rw [ht2]; exact hP, hD⟩, hS.F ht2⟩) hS.2.2 dL_removeLast_15 hlocks
set_option maxHeartbeats 4000000 in
set_option maxRecDepth 100000 in
theorem c_L_lies (l : Launch) (hfl : l.stackTraces = false) (D : va_G) (T : Nat → ClassId) (h0 : Nat) (A0 : AT) (Z0 : ZT) (ho : Nat) (g0 : Nat → Int64) (v1 : Int32) (sz : Nat) (r : Int32 × ZT × (Nat → Int64)) (h : F_L_lies Z0 g0 v1 = some r) : Met l yL_lies wsL_lies ({ frames := 7, cells := 1, slots := 6, locals := 103 } : Room) (va_Pc [.ref h0, .int v1, .ref ho] (PW D T (scW T h0 A0 Z0 ++ ([(ho, .inl (T 2, 1, .inr (.inl (g0))))] : va_W)) sz)) (QW D T h0 ho r (va_A (scW T h0 A0 Z0 ++ ([(ho, .inl (T 2, 1, .inr (.inl (g0))))] : va_W)) sz)) 1 6 (va_A (scW T h0 A0 Z0 ++ ([(ho, .inl (T 2, 1, .inr (.inl (g0))))] : va_W)) sz) := by
  refine met_ofH (cc := cL_lies) (maxL := 4) (ret := (some .int)) (hh := [(0, 9, 12, 28)]) (lv := [(0, .ref h0), (1, .int v1), (2, .ref ho)]) (by decide) rfl (Nat.le_of_ble_eq_true rfl) rfl ?_
  intro p e s m args below meth c ls C0 htab hl hB
  obtain ⟨hx, hb, hr, hml, hown, hts, hlocks, hname⟩ := C0
  obtain ⟨⟨hsz, hP, hK, hD0⟩, hE, hNC⟩ := hB
  subst hsz
  have hD := hD0.self (sz := s.heap.size)
  generalize hAe : va_A (scW T h0 A0 Z0 ++ ([(ho, .inl (T 2, 1, .inr (.inl (g0))))] : va_W)) s.heap.size = A at hD hE ⊢
  have hA : ∀ q : Nat, s.heap.size ≤ q → A q := fun q h => by rw [← hAe]; exact Or.inr h
  have hS : va_S A s.heap s.heap [] := va_S.rf
  unfold F_L_lies at h
  refine lv_aload_n hx hb dL_lies_0 rfl (lv_at hl 2 rfl) ?_
  refine lv_iconst (v := 0) hx hb dL_lies_1 (by decide) ?_
  refine lv_aload_n hx hb dL_lies_2 rfl (lv_at hl 0 rfl) ?_
  refine lv_iload_n hx hb dL_lies_3 rfl (lv_at hl 1 rfl) ?_
  replace h := bd h
  obtain ⟨t, et, h⟩ := h
  have hF := va_free (wc := scW T h0 A0 Z0) hD hS hA [0, 1, 2, 3, 4, 5, 6, 7, 8, 9, 10, 11, 12, 13, 14, 15, 16, 17, 18, 19, 20, 21, 22, 23, 24, 25, 26, 27, 28, 29, 30, 31, 32, 33, 34, 35, 36, 37, 38, 39, 40, 41, 42, 43, 44, 45, 46, 47, 48, 49, 50, 51, 52, 53, 54, 55, 56, 57, 58, 59, 60, 61, 62] rfl
  refine vx_calli (vx_runV (As := [.int v1]) (rest := [.int 0, .ref ho]) ⟨hx, hb, hml, hown, hts⟩ (c_X4_lies l hfl D T h0 A0 Z0 v1 _ t et) (cwV 1 hts gL_lies_X4_lies rfl rfl rfl hdV_X4_lies ⟨Nat.le_of_ble_eq_true rfl, Nat.le_of_ble_eq_true rfl⟩) ⟨PX_blind, va_recv hK.1 hP (ci := 4) (q0 := 0) rfl rfl, PX_at (hP.sub (ws' := scW T h0 A0 Z0) [0, 1, 2, 3, 4, 5, 6, 7, 8, 9, 10, 11, 12, 13, 14, 15, 16, 17, 18, 19, 20, 21, 22, 23, 24, 25, 26, 27, 28, 29, 30, 31, 32, 33, 34, 35, 36, 37, 38, 39, 40, 41, 42, 43, 44, 45, 46, 47, 48, 49, 50, 51, 52, 53, 54, 55, 56, 57, 58, 59, 60, 61, 62] rfl) (hD.sub (ws' := scW T h0 A0 Z0) [0, 1, 2, 3, 4, 5, 6, 7, 8, 9, 10, 11, 12, 13, 14, 15, 16, 17, 18, 19, 20, 21, 22, 23, 24, 25, 26, 27, 28, 29, 30, 31, 32, 33, 34, 35, 36, 37, 38, 39, 40, 41, 42, 43, 44, 45, 46, 47, 48, 49, 50, 51, 52, 53, 54, 55, 56, 57, 58, 59, 60, 61, 62] (by decide +kernel) rfl) hK hE hS hF⟩ rfl rfl hl.1 rfl (lv_room (Nat.le_of_ble_eq_true rfl)) dL_lies_4 ⟨Nat.le_of_ble_eq_true rfl, Nat.le_of_ble_eq_true rfl⟩) hS (fun q _ h => hF q h) hF (fun q _ h => h.elim) (fun E ce q9 u t9 H locs ht hvm hu hBX hz hk hS hce hcv hcl => ?_) (fun r9 u t9 H locs ht hvm hw hB hz hk hS => ?_)
  · have hP : va_P D vwCl (scW T h0 A0 Z0 ++ ([(ho, .inl (T 2, 1, .inr (.inl (g0))))] : va_W)) H := hP.kept (fun k q hq => hk q.1 (hP k q hq).lt not_false)
    subst hBX
    replace h : (if E = "java/lang/IndexOutOfBoundsException" then some (1, Z0, g0) else none) = some r := h
    by_cases c0 : E = "java/lang/IndexOutOfBoundsException"
    · subst c0
      replace h := ip rfl h
      obtain rfl := Option.some.inj h
      refine vx_catch (own := RL) (name := "java/lang/IndexOutOfBoundsException") hown [] ⟨0, 9, 12, 28⟩ [] (by rw [htab]; rfl) (fun z hz => absurd hz List.not_mem_nil) (by decide) (by decide) (hts (.classLink RL 28 "java/lang/IndexOutOfBoundsException") (List.mem_of_getElem? (i := 1) rfl)) (va_Nw.use rfl (hE.2.2.2 (.castable "java/lang/IndexOutOfBoundsException" "java/lang/IndexOutOfBoundsException") (List.mem_of_getElem? (i := 5) rfl))) hce hcv hcl ?_
      refine lv_astore_n (lv' := [(3, .ref q9), (0, .ref h0), (1, .int v1), (2, .ref ho)]) hx hb dL_lies_12 rfl hl (by decide) rfl (fun ls hl => ?_)
      refine lv_iconst (v := 1) hx hb dL_lies_13 (by decide) ?_
      exact W.iret hx hb hr (fun t ht2 hW => ⟨⟨_, A0, rfl, rfl, by rw [ht2]; exact hP, hD⟩, hS.F ht2⟩) hS.2.2 dL_lies_14 hlocks
    replace h := im c0 h
    cases h
  subst hw
  rw [ht] at hB
  obtain ⟨hP, hD⟩ := reord (wr := [(ho, .inl (T 2, 1, .inr (.inl g0)))]) (ws' := scW T h0 u.1 u.2 ++ ([(ho, .inl (T 2, 1, .inr (.inl (g0))))] : va_W)) hP hD [0, 1, 2, 3, 4, 5, 6, 7, 8, 9, 10, 11, 12, 13, 14, 15, 16, 17, 18, 19, 20, 21, 22, 23, 24, 25, 26, 27, 28, 29, 30, 31, 32, 33, 34, 35, 36, 37, 38, 39, 40, 41, 42, 43, 44, 45, 46, 47, 48, 49, 50, 51, 52, 53, 54, 55, 56, 57, 58, 59, 60, 61, 62] [63] rfl rfl (by decide) (by decide) hk hF hB.1 hB.2 [1, 2, 3, 4, 5, 6, 7, 8, 9, 10, 11, 12, 13, 14, 15, 16, 17, 18, 19, 20, 21, 22, 23, 24, 25, 26, 27, 28, 29, 30, 31, 32, 33, 34, 35, 36, 37, 38, 39, 40, 41, 42, 43, 44, 45, 46, 47, 48, 49, 50, 51, 52, 53, 54, 55, 56, 57, 58, 59, 60, 61, 62, 63, 0] (by decide +kernel) rfl
  refine lv_i2l (v := r9.toInt64) hx hb dL_lies_7 rfl ?_
  replace h : some (0, u.2, vp_updL g0 0 r9.toInt64) = some r := h
  obtain rfl := Option.some.inj h
  refine va_last hx hb hK.1 hP hD hS 63 2 rfl rfl (show ¬ ((0 : Int32) < 0 ∨ 1 ≤ Int32.toNatClampNeg 0) from by decide) dL_lies_8 (fun H locs hP hD hS => ?_)
  rw [show Int32.toNatClampNeg 0 = 0 from by decide] at hP hD
  replace hP : va_P D vwCl (scW T h0 u.1 u.2 ++ ([(ho, .inl (T 2, 1, .inr (.inl (vp_updL g0 0 r9.toInt64))))] : va_W)) H := hP
  replace hD : va_D A (scW T h0 u.1 u.2 ++ ([(ho, .inl (T 2, 1, .inr (.inl (vp_updL g0 0 r9.toInt64))))] : va_W)) := hD
  refine lv_goto (tgt := 15) hx hb dL_lies_9 (by decide) ?_
  refine lv_iconst (v := 0) hx hb dL_lies_15 (by decide) ?_
  exact W.iret hx hb hr (fun t ht2 hW => ⟨⟨_, u.1, rfl, rfl, by rw [ht2]; exact hP, hD⟩, hS.F ht2⟩) hS.2.2 dL_lies_16 hlocks
set_option maxHeartbeats 4000000 in
set_option maxRecDepth 100000 in
theorem c_L_answer (l : Launch) (hfl : l.stackTraces = false) (D : va_G) (T : Nat → ClassId) (h0 : Nat) (A0 : AT) (Z0 : ZT) (ho : Nat) (g0 : Nat → Int64) (v1 : Int32) (v2 : Int32) (v3 : Int32) (sz : Nat) (r : Int32 × ZT × (Nat → Int64)) (h : F_L_answer Z0 g0 v1 v2 v3 = some r) : Met l yL_answer wsL_answer ({ frames := 7, cells := 1, slots := 6, locals := 105 } : Room) (va_Pc [.ref h0, .int v1, .int v2, .int v3, .ref ho] (PW D T (scW T h0 A0 Z0 ++ ([(ho, .inl (T 2, 1, .inr (.inl (g0))))] : va_W)) sz)) (QW D T h0 ho r (va_A (scW T h0 A0 Z0 ++ ([(ho, .inl (T 2, 1, .inr (.inl (g0))))] : va_W)) sz)) 1 6 (va_A (scW T h0 A0 Z0 ++ ([(ho, .inl (T 2, 1, .inr (.inl (g0))))] : va_W)) sz) := by
  refine met_ofH (cc := cL_answer) (maxL := 6) (ret := (some .int)) (hh := [(0, 12, 15, 28), (0, 12, 19, 13)]) (lv := [(0, .ref h0), (1, .int v1), (2, .int v2), (3, .int v3), (4, .ref ho)]) (by decide) rfl (Nat.le_of_ble_eq_true rfl) rfl ?_
  intro p e s m args below meth c ls C0 htab hl hB
  obtain ⟨hx, hb, hr, hml, hown, hts, hlocks, hname⟩ := C0
  obtain ⟨⟨hsz, hP, hK, hD0⟩, hE, hNC⟩ := hB
  subst hsz
  have hD := hD0.self (sz := s.heap.size)
  generalize hAe : va_A (scW T h0 A0 Z0 ++ ([(ho, .inl (T 2, 1, .inr (.inl (g0))))] : va_W)) s.heap.size = A at hD hE ⊢
  have hA : ∀ q : Nat, s.heap.size ≤ q → A q := fun q h => by rw [← hAe]; exact Or.inr h
  have hS : va_S A s.heap s.heap [] := va_S.rf
  unfold F_L_answer at h
  refine lv_aload hx hb dL_answer_0 (lv_at hl 4 rfl) ?_
  refine lv_iconst (v := 0) hx hb dL_answer_2 (by decide) ?_
  refine lv_aload_n hx hb dL_answer_3 rfl (lv_at hl 0 rfl) ?_
  refine lv_iload_n hx hb dL_answer_4 rfl (lv_at hl 1 rfl) ?_
  refine lv_iload_n hx hb dL_answer_5 rfl (lv_at hl 2 rfl) ?_
  refine lv_iload_n hx hb dL_answer_6 rfl (lv_at hl 3 rfl) ?_
  replace h := bd h
  obtain ⟨t, et, h⟩ := h
  have hF := va_free (wc := scW T h0 A0 Z0) hD hS hA [0, 1, 2, 3, 4, 5, 6, 7, 8, 9, 10, 11, 12, 13, 14, 15, 16, 17, 18, 19, 20, 21, 22, 23, 24, 25, 26, 27, 28, 29, 30, 31, 32, 33, 34, 35, 36, 37, 38, 39, 40, 41, 42, 43, 44, 45, 46, 47, 48, 49, 50, 51, 52, 53, 54, 55, 56, 57, 58, 59, 60, 61, 62] rfl
  refine vx_calli (vx_runV (As := [.int v1, .int v2, .int v3]) (rest := [.int 0, .ref ho]) ⟨hx, hb, hml, hown, hts⟩ (c_X4_answer l hfl D T h0 A0 Z0 v1 v2 v3 _ t et) (cwV 3 hts gL_answer_X4_answer rfl rfl rfl hdV_X4_answer ⟨Nat.le_of_ble_eq_true rfl, Nat.le_of_ble_eq_true rfl⟩) ⟨PX_blind, va_recv hK.1 hP (ci := 4) (q0 := 0) rfl rfl, PX_at (hP.sub (ws' := scW T h0 A0 Z0) [0, 1, 2, 3, 4, 5, 6, 7, 8, 9, 10, 11, 12, 13, 14, 15, 16, 17, 18, 19, 20, 21, 22, 23, 24, 25, 26, 27, 28, 29, 30, 31, 32, 33, 34, 35, 36, 37, 38, 39, 40, 41, 42, 43, 44, 45, 46, 47, 48, 49, 50, 51, 52, 53, 54, 55, 56, 57, 58, 59, 60, 61, 62] rfl) (hD.sub (ws' := scW T h0 A0 Z0) [0, 1, 2, 3, 4, 5, 6, 7, 8, 9, 10, 11, 12, 13, 14, 15, 16, 17, 18, 19, 20, 21, 22, 23, 24, 25, 26, 27, 28, 29, 30, 31, 32, 33, 34, 35, 36, 37, 38, 39, 40, 41, 42, 43, 44, 45, 46, 47, 48, 49, 50, 51, 52, 53, 54, 55, 56, 57, 58, 59, 60, 61, 62] (by decide +kernel) rfl) hK hE hS hF⟩ rfl rfl hl.1 rfl (lv_room (Nat.le_of_ble_eq_true rfl)) dL_answer_7 ⟨Nat.le_of_ble_eq_true rfl, Nat.le_of_ble_eq_true rfl⟩) hS (fun q _ h => hF q h) hF (fun q _ h => h.elim) (fun E ce q9 u t9 H locs ht hvm hu hBX hz hk hS hce hcv hcl => ?_) (fun r9 u t9 H locs ht hvm hw hB hz hk hS => ?_)
  · have hP : va_P D vwCl (scW T h0 A0 Z0 ++ ([(ho, .inl (T 2, 1, .inr (.inl (g0))))] : va_W)) H := hP.kept (fun k q hq => hk q.1 (hP k q hq).lt not_false)
    subst hBX
    replace h : (if E = "java/lang/IndexOutOfBoundsException" then some (1, Z0, g0) else if E = "java/lang/IllegalArgumentException" then some (2, Z0, g0) else none) = some r := h
    by_cases c0 : E = "java/lang/IndexOutOfBoundsException"
    · subst c0
      replace h := ip rfl h
      obtain rfl := Option.some.inj h
      refine vx_catch (own := RL) (name := "java/lang/IndexOutOfBoundsException") hown [] ⟨0, 12, 15, 28⟩ [⟨0, 12, 19, 13⟩] (by rw [htab]; rfl) (fun z hz => absurd hz List.not_mem_nil) (by decide) (by decide) (hts (.classLink RL 28 "java/lang/IndexOutOfBoundsException") (List.mem_of_getElem? (i := 1) rfl)) (va_Nw.use rfl (hE.2.2.2 (.castable "java/lang/IndexOutOfBoundsException" "java/lang/IndexOutOfBoundsException") (List.mem_of_getElem? (i := 5) rfl))) hce hcv hcl ?_
      refine lv_astore (lv' := [(5, .ref q9), (0, .ref h0), (1, .int v1), (2, .int v2), (3, .int v3), (4, .ref ho)]) hx hb dL_answer_15 hl (by decide) rfl (fun ls hl => ?_)
      refine lv_iconst (v := 1) hx hb dL_answer_17 (by decide) ?_
      exact W.iret hx hb hr (fun t ht2 hW => ⟨⟨_, A0, rfl, rfl, by rw [ht2]; exact hP, hD⟩, hS.F ht2⟩) hS.2.2 dL_answer_18 hlocks
    replace h := im c0 h
    by_cases c1 : E = "java/lang/IllegalArgumentException"
    · subst c1
      replace h := ip rfl h
      obtain rfl := Option.some.inj h
      refine vx_catch (own := RL) (name := "java/lang/IllegalArgumentException") hown [⟨0, 12, 15, 28⟩] ⟨0, 12, 19, 13⟩ [] (by rw [htab]; rfl) (fun z hz => by rcases List.mem_singleton.mp hz with rfl; exact Or.inr ⟨by decide, _, (hts (.classLink RL 28 "java/lang/IndexOutOfBoundsException") (List.mem_of_getElem? (i := 1) rfl)), hNC "java/lang/IllegalArgumentException" (List.mem_of_getElem? (i := 0) rfl) "java/lang/IndexOutOfBoundsException" (List.mem_of_getElem? (i := 2) rfl) (by decide)⟩) (by decide) (by decide) (hts (.classLink RL 13 "java/lang/IllegalArgumentException") (List.mem_of_getElem? (i := 2) rfl)) (va_Nw.use rfl (hE.2.2.2 (.castable "java/lang/IllegalArgumentException" "java/lang/IllegalArgumentException") (List.mem_of_getElem? (i := 3) rfl))) hce hcv hcl ?_
      refine lv_astore (lv' := [(5, .ref q9), (0, .ref h0), (1, .int v1), (2, .int v2), (3, .int v3), (4, .ref ho)]) hx hb dL_answer_19 hl (by decide) rfl (fun ls hl => ?_)
      refine lv_iconst (v := 2) hx hb dL_answer_21 (by decide) ?_
      exact W.iret hx hb hr (fun t ht2 hW => ⟨⟨_, A0, rfl, rfl, by rw [ht2]; exact hP, hD⟩, hS.F ht2⟩) hS.2.2 dL_answer_22 hlocks
    replace h := im c1 h
    cases h
  subst hw
  rw [ht] at hB
  obtain ⟨hP, hD⟩ := reord (wr := [(ho, .inl (T 2, 1, .inr (.inl g0)))]) (ws' := scW T h0 u.1 u.2 ++ ([(ho, .inl (T 2, 1, .inr (.inl (g0))))] : va_W)) hP hD [0, 1, 2, 3, 4, 5, 6, 7, 8, 9, 10, 11, 12, 13, 14, 15, 16, 17, 18, 19, 20, 21, 22, 23, 24, 25, 26, 27, 28, 29, 30, 31, 32, 33, 34, 35, 36, 37, 38, 39, 40, 41, 42, 43, 44, 45, 46, 47, 48, 49, 50, 51, 52, 53, 54, 55, 56, 57, 58, 59, 60, 61, 62] [63] rfl rfl (by decide) (by decide) hk hF hB.1 hB.2 [1, 2, 3, 4, 5, 6, 7, 8, 9, 10, 11, 12, 13, 14, 15, 16, 17, 18, 19, 20, 21, 22, 23, 24, 25, 26, 27, 28, 29, 30, 31, 32, 33, 34, 35, 36, 37, 38, 39, 40, 41, 42, 43, 44, 45, 46, 47, 48, 49, 50, 51, 52, 53, 54, 55, 56, 57, 58, 59, 60, 61, 62, 63, 0] (by decide +kernel) rfl
  refine lv_i2l (v := r9.toInt64) hx hb dL_answer_10 rfl ?_
  replace h : some (0, u.2, vp_updL g0 0 r9.toInt64) = some r := h
  obtain rfl := Option.some.inj h
  refine va_last hx hb hK.1 hP hD hS 63 2 rfl rfl (show ¬ ((0 : Int32) < 0 ∨ 1 ≤ Int32.toNatClampNeg 0) from by decide) dL_answer_11 (fun H locs hP hD hS => ?_)
  rw [show Int32.toNatClampNeg 0 = 0 from by decide] at hP hD
  replace hP : va_P D vwCl (scW T h0 u.1 u.2 ++ ([(ho, .inl (T 2, 1, .inr (.inl (vp_updL g0 0 r9.toInt64))))] : va_W)) H := hP
  replace hD : va_D A (scW T h0 u.1 u.2 ++ ([(ho, .inl (T 2, 1, .inr (.inl (vp_updL g0 0 r9.toInt64))))] : va_W)) := hD
  refine lv_goto (tgt := 23) hx hb dL_answer_12 (by decide) ?_
  refine lv_iconst (v := 0) hx hb dL_answer_23 (by decide) ?_
  exact W.iret hx hb hr (fun t ht2 hW => ⟨⟨_, u.1, rfl, rfl, by rw [ht2]; exact hP, hD⟩, hS.F ht2⟩) hS.2.2 dL_answer_24 hlocks
set_option maxHeartbeats 4000000 in
set_option maxRecDepth 100000 in
theorem c_L_leftCase (l : Launch) (hfl : l.stackTraces = false) (D : va_G) (T : Nat → ClassId) (h0 : Nat) (A0 : AT) (Z0 : ZT) (ho : Nat) (g0 : Nat → Int64) (v1 : Int32) (sz : Nat) (r : Int32 × ZT × (Nat → Int64)) (h : F_L_leftCase Z0 g0 v1 = some r) : Met l yL_leftCase wsL_leftCase ({ frames := 7, cells := 1, slots := 6, locals := 104 } : Room) (va_Pc [.ref h0, .int v1, .ref ho] (PW D T (scW T h0 A0 Z0 ++ ([(ho, .inl (T 2, 1, .inr (.inl (g0))))] : va_W)) sz)) (QW D T h0 ho r (va_A (scW T h0 A0 Z0 ++ ([(ho, .inl (T 2, 1, .inr (.inl (g0))))] : va_W)) sz)) 1 6 (va_A (scW T h0 A0 Z0 ++ ([(ho, .inl (T 2, 1, .inr (.inl (g0))))] : va_W)) sz) := by
  refine met_ofH (cc := cL_leftCase) (maxL := 4) (ret := (some .int)) (hh := [(0, 9, 12, 28)]) (lv := [(0, .ref h0), (1, .int v1), (2, .ref ho)]) (by decide) rfl (Nat.le_of_ble_eq_true rfl) rfl ?_
  intro p e s m args below meth c ls C0 htab hl hB
  obtain ⟨hx, hb, hr, hml, hown, hts, hlocks, hname⟩ := C0
  obtain ⟨⟨hsz, hP, hK, hD0⟩, hE, hNC⟩ := hB
  subst hsz
  have hD := hD0.self (sz := s.heap.size)
  generalize hAe : va_A (scW T h0 A0 Z0 ++ ([(ho, .inl (T 2, 1, .inr (.inl (g0))))] : va_W)) s.heap.size = A at hD hE ⊢
  have hA : ∀ q : Nat, s.heap.size ≤ q → A q := fun q h => by rw [← hAe]; exact Or.inr h
  have hS : va_S A s.heap s.heap [] := va_S.rf
  unfold F_L_leftCase at h
  refine lv_aload_n hx hb dL_leftCase_0 rfl (lv_at hl 2 rfl) ?_
  refine lv_iconst (v := 0) hx hb dL_leftCase_1 (by decide) ?_
  refine lv_aload_n hx hb dL_leftCase_2 rfl (lv_at hl 0 rfl) ?_
  refine lv_iload_n hx hb dL_leftCase_3 rfl (lv_at hl 1 rfl) ?_
  replace h := bd h
  obtain ⟨t, et, h⟩ := h
  have hF := va_free (wc := scW T h0 A0 Z0) hD hS hA [0, 1, 2, 3, 4, 5, 6, 7, 8, 9, 10, 11, 12, 13, 14, 15, 16, 17, 18, 19, 20, 21, 22, 23, 24, 25, 26, 27, 28, 29, 30, 31, 32, 33, 34, 35, 36, 37, 38, 39, 40, 41, 42, 43, 44, 45, 46, 47, 48, 49, 50, 51, 52, 53, 54, 55, 56, 57, 58, 59, 60, 61, 62] rfl
  refine vx_calli (vx_runV (As := [.int v1]) (rest := [.int 0, .ref ho]) ⟨hx, hb, hml, hown, hts⟩ (c_X4_leftCase l hfl D T h0 A0 Z0 v1 _ t et) (cwV 1 hts gL_leftCase_X4_leftCase rfl rfl rfl hdV_X4_leftCase ⟨Nat.le_of_ble_eq_true rfl, Nat.le_of_ble_eq_true rfl⟩) ⟨PX_blind, va_recv hK.1 hP (ci := 4) (q0 := 0) rfl rfl, PX_at (hP.sub (ws' := scW T h0 A0 Z0) [0, 1, 2, 3, 4, 5, 6, 7, 8, 9, 10, 11, 12, 13, 14, 15, 16, 17, 18, 19, 20, 21, 22, 23, 24, 25, 26, 27, 28, 29, 30, 31, 32, 33, 34, 35, 36, 37, 38, 39, 40, 41, 42, 43, 44, 45, 46, 47, 48, 49, 50, 51, 52, 53, 54, 55, 56, 57, 58, 59, 60, 61, 62] rfl) (hD.sub (ws' := scW T h0 A0 Z0) [0, 1, 2, 3, 4, 5, 6, 7, 8, 9, 10, 11, 12, 13, 14, 15, 16, 17, 18, 19, 20, 21, 22, 23, 24, 25, 26, 27, 28, 29, 30, 31, 32, 33, 34, 35, 36, 37, 38, 39, 40, 41, 42, 43, 44, 45, 46, 47, 48, 49, 50, 51, 52, 53, 54, 55, 56, 57, 58, 59, 60, 61, 62] (by decide +kernel) rfl) hK hE hS hF⟩ rfl rfl hl.1 rfl (lv_room (Nat.le_of_ble_eq_true rfl)) dL_leftCase_4 ⟨Nat.le_of_ble_eq_true rfl, Nat.le_of_ble_eq_true rfl⟩) hS (fun q _ h => hF q h) hF (fun q _ h => h.elim) (fun E ce q9 u t9 H locs ht hvm hu hBX hz hk hS hce hcv hcl => ?_) (fun r9 u t9 H locs ht hvm hw hB hz hk hS => ?_)
  · have hP : va_P D vwCl (scW T h0 A0 Z0 ++ ([(ho, .inl (T 2, 1, .inr (.inl (g0))))] : va_W)) H := hP.kept (fun k q hq => hk q.1 (hP k q hq).lt not_false)
    subst hBX
    replace h : (if E = "java/lang/IndexOutOfBoundsException" then some (1, Z0, g0) else none) = some r := h
    by_cases c0 : E = "java/lang/IndexOutOfBoundsException"
    · subst c0
      replace h := ip rfl h
      obtain rfl := Option.some.inj h
      refine vx_catch (own := RL) (name := "java/lang/IndexOutOfBoundsException") hown [] ⟨0, 9, 12, 28⟩ [] (by rw [htab]; rfl) (fun z hz => absurd hz List.not_mem_nil) (by decide) (by decide) (hts (.classLink RL 28 "java/lang/IndexOutOfBoundsException") (List.mem_of_getElem? (i := 1) rfl)) (va_Nw.use rfl (hE.2.2.2 (.castable "java/lang/IndexOutOfBoundsException" "java/lang/IndexOutOfBoundsException") (List.mem_of_getElem? (i := 5) rfl))) hce hcv hcl ?_
      refine lv_astore_n (lv' := [(3, .ref q9), (0, .ref h0), (1, .int v1), (2, .ref ho)]) hx hb dL_leftCase_12 rfl hl (by decide) rfl (fun ls hl => ?_)
      refine lv_iconst (v := 1) hx hb dL_leftCase_13 (by decide) ?_
      exact W.iret hx hb hr (fun t ht2 hW => ⟨⟨_, A0, rfl, rfl, by rw [ht2]; exact hP, hD⟩, hS.F ht2⟩) hS.2.2 dL_leftCase_14 hlocks
    replace h := im c0 h
    cases h
  subst hw
  rw [ht] at hB
  obtain ⟨hP, hD⟩ := reord (wr := [(ho, .inl (T 2, 1, .inr (.inl g0)))]) (ws' := scW T h0 u.1 u.2 ++ ([(ho, .inl (T 2, 1, .inr (.inl (g0))))] : va_W)) hP hD [0, 1, 2, 3, 4, 5, 6, 7, 8, 9, 10, 11, 12, 13, 14, 15, 16, 17, 18, 19, 20, 21, 22, 23, 24, 25, 26, 27, 28, 29, 30, 31, 32, 33, 34, 35, 36, 37, 38, 39, 40, 41, 42, 43, 44, 45, 46, 47, 48, 49, 50, 51, 52, 53, 54, 55, 56, 57, 58, 59, 60, 61, 62] [63] rfl rfl (by decide) (by decide) hk hF hB.1 hB.2 [1, 2, 3, 4, 5, 6, 7, 8, 9, 10, 11, 12, 13, 14, 15, 16, 17, 18, 19, 20, 21, 22, 23, 24, 25, 26, 27, 28, 29, 30, 31, 32, 33, 34, 35, 36, 37, 38, 39, 40, 41, 42, 43, 44, 45, 46, 47, 48, 49, 50, 51, 52, 53, 54, 55, 56, 57, 58, 59, 60, 61, 62, 63, 0] (by decide +kernel) rfl
  refine lv_i2l (v := r9.toInt64) hx hb dL_leftCase_7 rfl ?_
  replace h : some (0, u.2, vp_updL g0 0 r9.toInt64) = some r := h
  obtain rfl := Option.some.inj h
  refine va_last hx hb hK.1 hP hD hS 63 2 rfl rfl (show ¬ ((0 : Int32) < 0 ∨ 1 ≤ Int32.toNatClampNeg 0) from by decide) dL_leftCase_8 (fun H locs hP hD hS => ?_)
  rw [show Int32.toNatClampNeg 0 = 0 from by decide] at hP hD
  replace hP : va_P D vwCl (scW T h0 u.1 u.2 ++ ([(ho, .inl (T 2, 1, .inr (.inl (vp_updL g0 0 r9.toInt64))))] : va_W)) H := hP
  replace hD : va_D A (scW T h0 u.1 u.2 ++ ([(ho, .inl (T 2, 1, .inr (.inl (vp_updL g0 0 r9.toInt64))))] : va_W)) := hD
  refine lv_goto (tgt := 15) hx hb dL_leftCase_9 (by decide) ?_
  refine lv_iconst (v := 0) hx hb dL_leftCase_15 (by decide) ?_
  exact W.iret hx hb hr (fun t ht2 hW => ⟨⟨_, u.1, rfl, rfl, by rw [ht2]; exact hP, hD⟩, hS.F ht2⟩) hS.2.2 dL_leftCase_16 hlocks
set_option maxHeartbeats 4000000 in
set_option maxRecDepth 100000 in
theorem c_L_weighing (l : Launch) (hfl : l.stackTraces = false) (D : va_G) (T : Nat → ClassId) (h0 : Nat) (A0 : AT) (Z0 : ZT) (ho : Nat) (g0 : Nat → Int64) (v1 : Int32) (v2 : Int32) (sz : Nat) (r : Int32 × ZT × (Nat → Int64)) (h : F_L_weighing Z0 g0 v1 v2 = some r) : Met l yL_weighing wsL_weighing ({ frames := 7, cells := 1, slots := 6, locals := 104 } : Room) (va_Pc [.ref h0, .int v1, .int v2, .ref ho] (PW D T (scW T h0 A0 Z0 ++ ([(ho, .inl (T 2, 1, .inr (.inl (g0))))] : va_W)) sz)) (QW D T h0 ho r (va_A (scW T h0 A0 Z0 ++ ([(ho, .inl (T 2, 1, .inr (.inl (g0))))] : va_W)) sz)) 1 6 (va_A (scW T h0 A0 Z0 ++ ([(ho, .inl (T 2, 1, .inr (.inl (g0))))] : va_W)) sz) := by
  refine met_ofH (cc := cL_weighing) (maxL := 5) (ret := (some .int)) (hh := [(0, 10, 13, 28), (0, 10, 17, 13)]) (lv := [(0, .ref h0), (1, .int v1), (2, .int v2), (3, .ref ho)]) (by decide) rfl (Nat.le_of_ble_eq_true rfl) rfl ?_
  intro p e s m args below meth c ls C0 htab hl hB
  obtain ⟨hx, hb, hr, hml, hown, hts, hlocks, hname⟩ := C0
  obtain ⟨⟨hsz, hP, hK, hD0⟩, hE, hNC⟩ := hB
  subst hsz
  have hD := hD0.self (sz := s.heap.size)
  generalize hAe : va_A (scW T h0 A0 Z0 ++ ([(ho, .inl (T 2, 1, .inr (.inl (g0))))] : va_W)) s.heap.size = A at hD hE ⊢
  have hA : ∀ q : Nat, s.heap.size ≤ q → A q := fun q h => by rw [← hAe]; exact Or.inr h
  have hS : va_S A s.heap s.heap [] := va_S.rf
  unfold F_L_weighing at h
  refine lv_aload_n hx hb dL_weighing_0 rfl (lv_at hl 3 rfl) ?_
  refine lv_iconst (v := 0) hx hb dL_weighing_1 (by decide) ?_
  refine lv_aload_n hx hb dL_weighing_2 rfl (lv_at hl 0 rfl) ?_
  refine lv_iload_n hx hb dL_weighing_3 rfl (lv_at hl 1 rfl) ?_
  refine lv_iload_n hx hb dL_weighing_4 rfl (lv_at hl 2 rfl) ?_
  replace h := bd h
  obtain ⟨t, et, h⟩ := h
  have hF := va_free (wc := scW T h0 A0 Z0) hD hS hA [0, 1, 2, 3, 4, 5, 6, 7, 8, 9, 10, 11, 12, 13, 14, 15, 16, 17, 18, 19, 20, 21, 22, 23, 24, 25, 26, 27, 28, 29, 30, 31, 32, 33, 34, 35, 36, 37, 38, 39, 40, 41, 42, 43, 44, 45, 46, 47, 48, 49, 50, 51, 52, 53, 54, 55, 56, 57, 58, 59, 60, 61, 62] rfl
  refine vx_calli (vx_runV (As := [.int v1, .int v2]) (rest := [.int 0, .ref ho]) ⟨hx, hb, hml, hown, hts⟩ (c_X4_weighing l hfl D T h0 A0 Z0 v1 v2 _ t et) (cwV 2 hts gL_weighing_X4_weighing rfl rfl rfl hdV_X4_weighing ⟨Nat.le_of_ble_eq_true rfl, Nat.le_of_ble_eq_true rfl⟩) ⟨PX_blind, va_recv hK.1 hP (ci := 4) (q0 := 0) rfl rfl, PX_at (hP.sub (ws' := scW T h0 A0 Z0) [0, 1, 2, 3, 4, 5, 6, 7, 8, 9, 10, 11, 12, 13, 14, 15, 16, 17, 18, 19, 20, 21, 22, 23, 24, 25, 26, 27, 28, 29, 30, 31, 32, 33, 34, 35, 36, 37, 38, 39, 40, 41, 42, 43, 44, 45, 46, 47, 48, 49, 50, 51, 52, 53, 54, 55, 56, 57, 58, 59, 60, 61, 62] rfl) (hD.sub (ws' := scW T h0 A0 Z0) [0, 1, 2, 3, 4, 5, 6, 7, 8, 9, 10, 11, 12, 13, 14, 15, 16, 17, 18, 19, 20, 21, 22, 23, 24, 25, 26, 27, 28, 29, 30, 31, 32, 33, 34, 35, 36, 37, 38, 39, 40, 41, 42, 43, 44, 45, 46, 47, 48, 49, 50, 51, 52, 53, 54, 55, 56, 57, 58, 59, 60, 61, 62] (by decide +kernel) rfl) hK hE hS hF⟩ rfl rfl hl.1 rfl (lv_room (Nat.le_of_ble_eq_true rfl)) dL_weighing_5 ⟨Nat.le_of_ble_eq_true rfl, Nat.le_of_ble_eq_true rfl⟩) hS (fun q _ h => hF q h) hF (fun q _ h => h.elim) (fun E ce q9 u t9 H locs ht hvm hu hBX hz hk hS hce hcv hcl => ?_) (fun r9 u t9 H locs ht hvm hw hB hz hk hS => ?_)
  · have hP : va_P D vwCl (scW T h0 A0 Z0 ++ ([(ho, .inl (T 2, 1, .inr (.inl (g0))))] : va_W)) H := hP.kept (fun k q hq => hk q.1 (hP k q hq).lt not_false)
    subst hBX
    replace h : (if E = "java/lang/IndexOutOfBoundsException" then some (1, Z0, g0) else if E = "java/lang/IllegalArgumentException" then some (2, Z0, g0) else none) = some r := h
    by_cases c0 : E = "java/lang/IndexOutOfBoundsException"
    · subst c0
      replace h := ip rfl h
      obtain rfl := Option.some.inj h
      refine vx_catch (own := RL) (name := "java/lang/IndexOutOfBoundsException") hown [] ⟨0, 10, 13, 28⟩ [⟨0, 10, 17, 13⟩] (by rw [htab]; rfl) (fun z hz => absurd hz List.not_mem_nil) (by decide) (by decide) (hts (.classLink RL 28 "java/lang/IndexOutOfBoundsException") (List.mem_of_getElem? (i := 1) rfl)) (va_Nw.use rfl (hE.2.2.2 (.castable "java/lang/IndexOutOfBoundsException" "java/lang/IndexOutOfBoundsException") (List.mem_of_getElem? (i := 5) rfl))) hce hcv hcl ?_
      refine lv_astore (lv' := [(4, .ref q9), (0, .ref h0), (1, .int v1), (2, .int v2), (3, .ref ho)]) hx hb dL_weighing_13 hl (by decide) rfl (fun ls hl => ?_)
      refine lv_iconst (v := 1) hx hb dL_weighing_15 (by decide) ?_
      exact W.iret hx hb hr (fun t ht2 hW => ⟨⟨_, A0, rfl, rfl, by rw [ht2]; exact hP, hD⟩, hS.F ht2⟩) hS.2.2 dL_weighing_16 hlocks
    replace h := im c0 h
    by_cases c1 : E = "java/lang/IllegalArgumentException"
    · subst c1
      replace h := ip rfl h
      obtain rfl := Option.some.inj h
      refine vx_catch (own := RL) (name := "java/lang/IllegalArgumentException") hown [⟨0, 10, 13, 28⟩] ⟨0, 10, 17, 13⟩ [] (by rw [htab]; rfl) (fun z hz => by rcases List.mem_singleton.mp hz with rfl; exact Or.inr ⟨by decide, _, (hts (.classLink RL 28 "java/lang/IndexOutOfBoundsException") (List.mem_of_getElem? (i := 1) rfl)), hNC "java/lang/IllegalArgumentException" (List.mem_of_getElem? (i := 0) rfl) "java/lang/IndexOutOfBoundsException" (List.mem_of_getElem? (i := 2) rfl) (by decide)⟩) (by decide) (by decide) (hts (.classLink RL 13 "java/lang/IllegalArgumentException") (List.mem_of_getElem? (i := 2) rfl)) (va_Nw.use rfl (hE.2.2.2 (.castable "java/lang/IllegalArgumentException" "java/lang/IllegalArgumentException") (List.mem_of_getElem? (i := 3) rfl))) hce hcv hcl ?_
      refine lv_astore (lv' := [(4, .ref q9), (0, .ref h0), (1, .int v1), (2, .int v2), (3, .ref ho)]) hx hb dL_weighing_17 hl (by decide) rfl (fun ls hl => ?_)
      refine lv_iconst (v := 2) hx hb dL_weighing_19 (by decide) ?_
      exact W.iret hx hb hr (fun t ht2 hW => ⟨⟨_, A0, rfl, rfl, by rw [ht2]; exact hP, hD⟩, hS.F ht2⟩) hS.2.2 dL_weighing_20 hlocks
    replace h := im c1 h
    cases h
  subst hw
  rw [ht] at hB
  obtain ⟨hP, hD⟩ := reord (wr := [(ho, .inl (T 2, 1, .inr (.inl g0)))]) (ws' := scW T h0 u.1 u.2 ++ ([(ho, .inl (T 2, 1, .inr (.inl (g0))))] : va_W)) hP hD [0, 1, 2, 3, 4, 5, 6, 7, 8, 9, 10, 11, 12, 13, 14, 15, 16, 17, 18, 19, 20, 21, 22, 23, 24, 25, 26, 27, 28, 29, 30, 31, 32, 33, 34, 35, 36, 37, 38, 39, 40, 41, 42, 43, 44, 45, 46, 47, 48, 49, 50, 51, 52, 53, 54, 55, 56, 57, 58, 59, 60, 61, 62] [63] rfl rfl (by decide) (by decide) hk hF hB.1 hB.2 [1, 2, 3, 4, 5, 6, 7, 8, 9, 10, 11, 12, 13, 14, 15, 16, 17, 18, 19, 20, 21, 22, 23, 24, 25, 26, 27, 28, 29, 30, 31, 32, 33, 34, 35, 36, 37, 38, 39, 40, 41, 42, 43, 44, 45, 46, 47, 48, 49, 50, 51, 52, 53, 54, 55, 56, 57, 58, 59, 60, 61, 62, 63, 0] (by decide +kernel) rfl
  refine lv_i2l (v := r9.toInt64) hx hb dL_weighing_8 rfl ?_
  replace h : some (0, u.2, vp_updL g0 0 r9.toInt64) = some r := h
  obtain rfl := Option.some.inj h
  refine va_last hx hb hK.1 hP hD hS 63 2 rfl rfl (show ¬ ((0 : Int32) < 0 ∨ 1 ≤ Int32.toNatClampNeg 0) from by decide) dL_weighing_9 (fun H locs hP hD hS => ?_)
  rw [show Int32.toNatClampNeg 0 = 0 from by decide] at hP hD
  replace hP : va_P D vwCl (scW T h0 u.1 u.2 ++ ([(ho, .inl (T 2, 1, .inr (.inl (vp_updL g0 0 r9.toInt64))))] : va_W)) H := hP
  replace hD : va_D A (scW T h0 u.1 u.2 ++ ([(ho, .inl (T 2, 1, .inr (.inl (vp_updL g0 0 r9.toInt64))))] : va_W)) := hD
  refine lv_goto (tgt := 21) hx hb dL_weighing_10 (by decide) ?_
  refine lv_iconst (v := 0) hx hb dL_weighing_21 (by decide) ?_
  exact W.iret hx hb hr (fun t ht2 hW => ⟨⟨_, u.1, rfl, rfl, by rw [ht2]; exact hP, hD⟩, hS.F ht2⟩) hS.2.2 dL_weighing_22 hlocks
set_option maxHeartbeats 4000000 in
set_option maxRecDepth 100000 in
theorem c_L_value (l : Launch) (hfl : l.stackTraces = false) (D : va_G) (T : Nat → ClassId) (h0 : Nat) (A0 : AT) (Z0 : ZT) (ho : Nat) (g0 : Nat → Int64) (v1 : Int32) (sz : Nat) (r : Int32 × ZT × (Nat → Int64)) (h : F_L_value Z0 g0 v1 = some r) : Met l yL_value wsL_value ({ frames := 7, cells := 1, slots := 6, locals := 106 } : Room) (va_Pc [.ref h0, .int v1, .ref ho] (PW D T (scW T h0 A0 Z0 ++ ([(ho, .inl (T 2, 1, .inr (.inl (g0))))] : va_W)) sz)) (QW D T h0 ho r (va_A (scW T h0 A0 Z0 ++ ([(ho, .inl (T 2, 1, .inr (.inl (g0))))] : va_W)) sz)) 1 6 (va_A (scW T h0 A0 Z0 ++ ([(ho, .inl (T 2, 1, .inr (.inl (g0))))] : va_W)) sz) := by
  refine met_ofH (cc := cL_value) (maxL := 4) (ret := (some .int)) (hh := [(0, 9, 12, 13)]) (lv := [(0, .ref h0), (1, .int v1), (2, .ref ho)]) (by decide) rfl (Nat.le_of_ble_eq_true rfl) rfl ?_
  intro p e s m args below meth c ls C0 htab hl hB
  obtain ⟨hx, hb, hr, hml, hown, hts, hlocks, hname⟩ := C0
  obtain ⟨⟨hsz, hP, hK, hD0⟩, hE, hNC⟩ := hB
  subst hsz
  have hD := hD0.self (sz := s.heap.size)
  generalize hAe : va_A (scW T h0 A0 Z0 ++ ([(ho, .inl (T 2, 1, .inr (.inl (g0))))] : va_W)) s.heap.size = A at hD hE ⊢
  have hA : ∀ q : Nat, s.heap.size ≤ q → A q := fun q h => by rw [← hAe]; exact Or.inr h
  have hS : va_S A s.heap s.heap [] := va_S.rf
  unfold F_L_value at h
  refine lv_aload_n hx hb dL_value_0 rfl (lv_at hl 2 rfl) ?_
  refine lv_iconst (v := 0) hx hb dL_value_1 (by decide) ?_
  refine lv_aload_n hx hb dL_value_2 rfl (lv_at hl 0 rfl) ?_
  refine lv_iload_n hx hb dL_value_3 rfl (lv_at hl 1 rfl) ?_
  replace h := bd h
  obtain ⟨t, et, h⟩ := h
  have hF := va_free (wc := scW T h0 A0 Z0) hD hS hA [0, 1, 2, 3, 4, 5, 6, 7, 8, 9, 10, 11, 12, 13, 14, 15, 16, 17, 18, 19, 20, 21, 22, 23, 24, 25, 26, 27, 28, 29, 30, 31, 32, 33, 34, 35, 36, 37, 38, 39, 40, 41, 42, 43, 44, 45, 46, 47, 48, 49, 50, 51, 52, 53, 54, 55, 56, 57, 58, 59, 60, 61, 62] rfl
  refine vx_calli (vx_runV (As := [.int v1]) (rest := [.int 0, .ref ho]) ⟨hx, hb, hml, hown, hts⟩ (c_X4_value l hfl D T h0 A0 Z0 v1 _ t et) (cwV 1 hts gL_value_X4_value rfl rfl rfl hdV_X4_value ⟨Nat.le_of_ble_eq_true rfl, Nat.le_of_ble_eq_true rfl⟩) ⟨PX_blind, va_recv hK.1 hP (ci := 4) (q0 := 0) rfl rfl, PX_at (hP.sub (ws' := scW T h0 A0 Z0) [0, 1, 2, 3, 4, 5, 6, 7, 8, 9, 10, 11, 12, 13, 14, 15, 16, 17, 18, 19, 20, 21, 22, 23, 24, 25, 26, 27, 28, 29, 30, 31, 32, 33, 34, 35, 36, 37, 38, 39, 40, 41, 42, 43, 44, 45, 46, 47, 48, 49, 50, 51, 52, 53, 54, 55, 56, 57, 58, 59, 60, 61, 62] rfl) (hD.sub (ws' := scW T h0 A0 Z0) [0, 1, 2, 3, 4, 5, 6, 7, 8, 9, 10, 11, 12, 13, 14, 15, 16, 17, 18, 19, 20, 21, 22, 23, 24, 25, 26, 27, 28, 29, 30, 31, 32, 33, 34, 35, 36, 37, 38, 39, 40, 41, 42, 43, 44, 45, 46, 47, 48, 49, 50, 51, 52, 53, 54, 55, 56, 57, 58, 59, 60, 61, 62] (by decide +kernel) rfl) hK hE hS hF⟩ rfl rfl hl.1 rfl (lv_room (Nat.le_of_ble_eq_true rfl)) dL_value_4 ⟨Nat.le_of_ble_eq_true rfl, Nat.le_of_ble_eq_true rfl⟩) hS (fun q _ h => hF q h) hF (fun q _ h => h.elim) (fun E ce q9 u t9 H locs ht hvm hu hBX hz hk hS hce hcv hcl => ?_) (fun r9 u t9 H locs ht hvm hw hB hz hk hS => ?_)
  · have hP : va_P D vwCl (scW T h0 A0 Z0 ++ ([(ho, .inl (T 2, 1, .inr (.inl (g0))))] : va_W)) H := hP.kept (fun k q hq => hk q.1 (hP k q hq).lt not_false)
    subst hBX
    replace h : (if E = "java/lang/IllegalArgumentException" then some (1, Z0, g0) else none) = some r := h
    by_cases c0 : E = "java/lang/IllegalArgumentException"
    · subst c0
      replace h := ip rfl h
      obtain rfl := Option.some.inj h
      refine vx_catch (own := RL) (name := "java/lang/IllegalArgumentException") hown [] ⟨0, 9, 12, 13⟩ [] (by rw [htab]; rfl) (fun z hz => absurd hz List.not_mem_nil) (by decide) (by decide) (hts (.classLink RL 13 "java/lang/IllegalArgumentException") (List.mem_of_getElem? (i := 1) rfl)) (va_Nw.use rfl (hE.2.2.2 (.castable "java/lang/IllegalArgumentException" "java/lang/IllegalArgumentException") (List.mem_of_getElem? (i := 3) rfl))) hce hcv hcl ?_
      refine lv_astore_n (lv' := [(3, .ref q9), (0, .ref h0), (1, .int v1), (2, .ref ho)]) hx hb dL_value_12 rfl hl (by decide) rfl (fun ls hl => ?_)
      refine lv_iconst (v := 1) hx hb dL_value_13 (by decide) ?_
      exact W.iret hx hb hr (fun t ht2 hW => ⟨⟨_, A0, rfl, rfl, by rw [ht2]; exact hP, hD⟩, hS.F ht2⟩) hS.2.2 dL_value_14 hlocks
    replace h := im c0 h
    cases h
  subst hw
  rw [ht] at hB
  obtain ⟨hP, hD⟩ := reord (wr := [(ho, .inl (T 2, 1, .inr (.inl g0)))]) (ws' := scW T h0 u.1 u.2 ++ ([(ho, .inl (T 2, 1, .inr (.inl (g0))))] : va_W)) hP hD [0, 1, 2, 3, 4, 5, 6, 7, 8, 9, 10, 11, 12, 13, 14, 15, 16, 17, 18, 19, 20, 21, 22, 23, 24, 25, 26, 27, 28, 29, 30, 31, 32, 33, 34, 35, 36, 37, 38, 39, 40, 41, 42, 43, 44, 45, 46, 47, 48, 49, 50, 51, 52, 53, 54, 55, 56, 57, 58, 59, 60, 61, 62] [63] rfl rfl (by decide) (by decide) hk hF hB.1 hB.2 [1, 2, 3, 4, 5, 6, 7, 8, 9, 10, 11, 12, 13, 14, 15, 16, 17, 18, 19, 20, 21, 22, 23, 24, 25, 26, 27, 28, 29, 30, 31, 32, 33, 34, 35, 36, 37, 38, 39, 40, 41, 42, 43, 44, 45, 46, 47, 48, 49, 50, 51, 52, 53, 54, 55, 56, 57, 58, 59, 60, 61, 62, 63, 0] (by decide +kernel) rfl
  refine lv_i2l (v := r9.toInt64) hx hb dL_value_7 rfl ?_
  replace h : some (0, u.2, vp_updL g0 0 r9.toInt64) = some r := h
  obtain rfl := Option.some.inj h
  refine va_last hx hb hK.1 hP hD hS 63 2 rfl rfl (show ¬ ((0 : Int32) < 0 ∨ 1 ≤ Int32.toNatClampNeg 0) from by decide) dL_value_8 (fun H locs hP hD hS => ?_)
  rw [show Int32.toNatClampNeg 0 = 0 from by decide] at hP hD
  replace hP : va_P D vwCl (scW T h0 u.1 u.2 ++ ([(ho, .inl (T 2, 1, .inr (.inl (vp_updL g0 0 r9.toInt64))))] : va_W)) H := hP
  replace hD : va_D A (scW T h0 u.1 u.2 ++ ([(ho, .inl (T 2, 1, .inr (.inl (vp_updL g0 0 r9.toInt64))))] : va_W)) := hD
  refine lv_goto (tgt := 15) hx hb dL_value_9 (by decide) ?_
  refine lv_iconst (v := 0) hx hb dL_value_15 (by decide) ?_
  exact W.iret hx hb hr (fun t ht2 hW => ⟨⟨_, u.1, rfl, rfl, by rw [ht2]; exact hP, hD⟩, hS.F ht2⟩) hS.2.2 dL_value_16 hlocks
set_option maxHeartbeats 4000000 in
set_option maxRecDepth 100000 in
theorem c_L_weight (l : Launch) (hfl : l.stackTraces = false) (D : va_G) (T : Nat → ClassId) (h0 : Nat) (A0 : AT) (Z0 : ZT) (ho : Nat) (g0 : Nat → Int64) (v1 : Int32) (sz : Nat) (r : Int32 × ZT × (Nat → Int64)) (h : F_L_weight Z0 g0 v1 = some r) : Met l yL_weight wsL_weight ({ frames := 7, cells := 1, slots := 6, locals := 117 } : Room) (va_Pc [.ref h0, .int v1, .ref ho] (PW D T (scW T h0 A0 Z0 ++ ([(ho, .inl (T 2, 1, .inr (.inl (g0))))] : va_W)) sz)) (QW D T h0 ho r (va_A (scW T h0 A0 Z0 ++ ([(ho, .inl (T 2, 1, .inr (.inl (g0))))] : va_W)) sz)) 1 6 (va_A (scW T h0 A0 Z0 ++ ([(ho, .inl (T 2, 1, .inr (.inl (g0))))] : va_W)) sz) := by
  refine met_ofH (cc := cL_weight) (maxL := 4) (ret := (some .int)) (hh := [(0, 8, 11, 13)]) (lv := [(0, .ref h0), (1, .int v1), (2, .ref ho)]) (by decide) rfl (Nat.le_of_ble_eq_true rfl) rfl ?_
  intro p e s m args below meth c ls C0 htab hl hB
  obtain ⟨hx, hb, hr, hml, hown, hts, hlocks, hname⟩ := C0
  obtain ⟨⟨hsz, hP, hK, hD0⟩, hE, hNC⟩ := hB
  subst hsz
  have hD := hD0.self (sz := s.heap.size)
  generalize hAe : va_A (scW T h0 A0 Z0 ++ ([(ho, .inl (T 2, 1, .inr (.inl (g0))))] : va_W)) s.heap.size = A at hD hE ⊢
  have hA : ∀ q : Nat, s.heap.size ≤ q → A q := fun q h => by rw [← hAe]; exact Or.inr h
  have hS : va_S A s.heap s.heap [] := va_S.rf
  unfold F_L_weight at h
  refine lv_aload_n hx hb dL_weight_0 rfl (lv_at hl 2 rfl) ?_
  refine lv_iconst (v := 0) hx hb dL_weight_1 (by decide) ?_
  refine lv_aload_n hx hb dL_weight_2 rfl (lv_at hl 0 rfl) ?_
  refine lv_iload_n hx hb dL_weight_3 rfl (lv_at hl 1 rfl) ?_
  replace h := bd h
  obtain ⟨t, et, h⟩ := h
  have hF := va_free (wc := scW T h0 A0 Z0) hD hS hA [0, 1, 2, 3, 4, 5, 6, 7, 8, 9, 10, 11, 12, 13, 14, 15, 16, 17, 18, 19, 20, 21, 22, 23, 24, 25, 26, 27, 28, 29, 30, 31, 32, 33, 34, 35, 36, 37, 38, 39, 40, 41, 42, 43, 44, 45, 46, 47, 48, 49, 50, 51, 52, 53, 54, 55, 56, 57, 58, 59, 60, 61, 62] rfl
  refine vx_calll (vx_runV (As := [.int v1]) (rest := [.int 0, .ref ho]) ⟨hx, hb, hml, hown, hts⟩ (c_X4_weight l hfl D T h0 A0 Z0 v1 _ t et) (cwV 1 hts gL_weight_X4_weight rfl rfl rfl hdV_X4_weight ⟨Nat.le_of_ble_eq_true rfl, Nat.le_of_ble_eq_true rfl⟩) ⟨PX_blind, va_recv hK.1 hP (ci := 4) (q0 := 0) rfl rfl, PX_at (hP.sub (ws' := scW T h0 A0 Z0) [0, 1, 2, 3, 4, 5, 6, 7, 8, 9, 10, 11, 12, 13, 14, 15, 16, 17, 18, 19, 20, 21, 22, 23, 24, 25, 26, 27, 28, 29, 30, 31, 32, 33, 34, 35, 36, 37, 38, 39, 40, 41, 42, 43, 44, 45, 46, 47, 48, 49, 50, 51, 52, 53, 54, 55, 56, 57, 58, 59, 60, 61, 62] rfl) (hD.sub (ws' := scW T h0 A0 Z0) [0, 1, 2, 3, 4, 5, 6, 7, 8, 9, 10, 11, 12, 13, 14, 15, 16, 17, 18, 19, 20, 21, 22, 23, 24, 25, 26, 27, 28, 29, 30, 31, 32, 33, 34, 35, 36, 37, 38, 39, 40, 41, 42, 43, 44, 45, 46, 47, 48, 49, 50, 51, 52, 53, 54, 55, 56, 57, 58, 59, 60, 61, 62] (by decide +kernel) rfl) hK hE hS hF⟩ rfl rfl hl.1 rfl (lv_room (Nat.le_of_ble_eq_true rfl)) dL_weight_4 ⟨Nat.le_of_ble_eq_true rfl, Nat.le_of_ble_eq_true rfl⟩) hS (fun q _ h => hF q h) hF (fun q _ h => h.elim) (fun E ce q9 u t9 H locs ht hvm hu hBX hz hk hS hce hcv hcl => ?_) (fun r9 u t9 H locs ht hvm hw hB hz hk hS => ?_)
  · have hP : va_P D vwCl (scW T h0 A0 Z0 ++ ([(ho, .inl (T 2, 1, .inr (.inl (g0))))] : va_W)) H := hP.kept (fun k q hq => hk q.1 (hP k q hq).lt not_false)
    subst hBX
    replace h : (if E = "java/lang/IllegalArgumentException" then some (1, Z0, g0) else none) = some r := h
    by_cases c0 : E = "java/lang/IllegalArgumentException"
    · subst c0
      replace h := ip rfl h
      obtain rfl := Option.some.inj h
      refine vx_catch (own := RL) (name := "java/lang/IllegalArgumentException") hown [] ⟨0, 8, 11, 13⟩ [] (by rw [htab]; rfl) (fun z hz => absurd hz List.not_mem_nil) (by decide) (by decide) (hts (.classLink RL 13 "java/lang/IllegalArgumentException") (List.mem_of_getElem? (i := 1) rfl)) (va_Nw.use rfl (hE.2.2.2 (.castable "java/lang/IllegalArgumentException" "java/lang/IllegalArgumentException") (List.mem_of_getElem? (i := 3) rfl))) hce hcv hcl ?_
      refine lv_astore_n (lv' := [(3, .ref q9), (0, .ref h0), (1, .int v1), (2, .ref ho)]) hx hb dL_weight_11 rfl hl (by decide) rfl (fun ls hl => ?_)
      refine lv_iconst (v := 1) hx hb dL_weight_12 (by decide) ?_
      exact W.iret hx hb hr (fun t ht2 hW => ⟨⟨_, A0, rfl, rfl, by rw [ht2]; exact hP, hD⟩, hS.F ht2⟩) hS.2.2 dL_weight_13 hlocks
    replace h := im c0 h
    cases h
  subst hw
  rw [ht] at hB
  obtain ⟨hP, hD⟩ := reord (wr := [(ho, .inl (T 2, 1, .inr (.inl g0)))]) (ws' := scW T h0 u.1 u.2 ++ ([(ho, .inl (T 2, 1, .inr (.inl (g0))))] : va_W)) hP hD [0, 1, 2, 3, 4, 5, 6, 7, 8, 9, 10, 11, 12, 13, 14, 15, 16, 17, 18, 19, 20, 21, 22, 23, 24, 25, 26, 27, 28, 29, 30, 31, 32, 33, 34, 35, 36, 37, 38, 39, 40, 41, 42, 43, 44, 45, 46, 47, 48, 49, 50, 51, 52, 53, 54, 55, 56, 57, 58, 59, 60, 61, 62] [63] rfl rfl (by decide) (by decide) hk hF hB.1 hB.2 [1, 2, 3, 4, 5, 6, 7, 8, 9, 10, 11, 12, 13, 14, 15, 16, 17, 18, 19, 20, 21, 22, 23, 24, 25, 26, 27, 28, 29, 30, 31, 32, 33, 34, 35, 36, 37, 38, 39, 40, 41, 42, 43, 44, 45, 46, 47, 48, 49, 50, 51, 52, 53, 54, 55, 56, 57, 58, 59, 60, 61, 62, 63, 0] (by decide +kernel) rfl
  replace h : some (0, u.2, vp_updL g0 0 r9) = some r := h
  obtain rfl := Option.some.inj h
  refine va_last hx hb hK.1 hP hD hS 63 2 rfl rfl (show ¬ ((0 : Int32) < 0 ∨ 1 ≤ Int32.toNatClampNeg 0) from by decide) dL_weight_7 (fun H locs hP hD hS => ?_)
  rw [show Int32.toNatClampNeg 0 = 0 from by decide] at hP hD
  replace hP : va_P D vwCl (scW T h0 u.1 u.2 ++ ([(ho, .inl (T 2, 1, .inr (.inl (vp_updL g0 0 r9))))] : va_W)) H := hP
  replace hD : va_D A (scW T h0 u.1 u.2 ++ ([(ho, .inl (T 2, 1, .inr (.inl (vp_updL g0 0 r9))))] : va_W)) := hD
  refine lv_goto (tgt := 14) hx hb dL_weight_8 (by decide) ?_
  refine lv_iconst (v := 0) hx hb dL_weight_14 (by decide) ?_
  exact W.iret hx hb hr (fun t ht2 hW => ⟨⟨_, u.1, rfl, rfl, by rw [ht2]; exact hP, hD⟩, hS.F ht2⟩) hS.2.2 dL_weight_15 hlocks
set_option maxHeartbeats 4000000 in
set_option maxRecDepth 100000 in
theorem c_L_weightBehind (l : Launch) (hfl : l.stackTraces = false) (D : va_G) (T : Nat → ClassId) (h0 : Nat) (A0 : AT) (Z0 : ZT) (ho : Nat) (g0 : Nat → Int64) (v1 : Int32) (v2 : Int32) (v3 : Int32) (v4 : Int32) (sz : Nat) (r : Int32 × ZT × (Nat → Int64)) (h : F_L_weightBehind Z0 g0 v1 v2 v3 v4 = some r) : Met l yL_weightBehind wsL_weightBehind ({ frames := 7, cells := 1, slots := 6, locals := 123 } : Room) (va_Pc [.ref h0, .int v1, .int v2, .int v3, .int v4, .ref ho] (PW D T (scW T h0 A0 Z0 ++ ([(ho, .inl (T 2, 1, .inr (.inl (g0))))] : va_W)) sz)) (QW D T h0 ho r (va_A (scW T h0 A0 Z0 ++ ([(ho, .inl (T 2, 1, .inr (.inl (g0))))] : va_W)) sz)) 1 6 (va_A (scW T h0 A0 Z0 ++ ([(ho, .inl (T 2, 1, .inr (.inl (g0))))] : va_W)) sz) := by
  refine met_ofH (cc := cL_weightBehind) (maxL := 7) (ret := (some .int)) (hh := [(0, 13, 16, 13)]) (lv := [(0, .ref h0), (1, .int v1), (2, .int v2), (3, .int v3), (4, .int v4), (5, .ref ho)]) (by decide) rfl (Nat.le_of_ble_eq_true rfl) rfl ?_
  intro p e s m args below meth c ls C0 htab hl hB
  obtain ⟨hx, hb, hr, hml, hown, hts, hlocks, hname⟩ := C0
  obtain ⟨⟨hsz, hP, hK, hD0⟩, hE, hNC⟩ := hB
  subst hsz
  have hD := hD0.self (sz := s.heap.size)
  generalize hAe : va_A (scW T h0 A0 Z0 ++ ([(ho, .inl (T 2, 1, .inr (.inl (g0))))] : va_W)) s.heap.size = A at hD hE ⊢
  have hA : ∀ q : Nat, s.heap.size ≤ q → A q := fun q h => by rw [← hAe]; exact Or.inr h
  have hS : va_S A s.heap s.heap [] := va_S.rf
  unfold F_L_weightBehind at h
  refine lv_aload hx hb dL_weightBehind_0 (lv_at hl 5 rfl) ?_
  refine lv_iconst (v := 0) hx hb dL_weightBehind_2 (by decide) ?_
  refine lv_aload_n hx hb dL_weightBehind_3 rfl (lv_at hl 0 rfl) ?_
  refine lv_iload_n hx hb dL_weightBehind_4 rfl (lv_at hl 1 rfl) ?_
  refine lv_iload_n hx hb dL_weightBehind_5 rfl (lv_at hl 2 rfl) ?_
  refine lv_iload_n hx hb dL_weightBehind_6 rfl (lv_at hl 3 rfl) ?_
  refine lv_iload hx hb dL_weightBehind_7 (lv_at hl 4 rfl) ?_
  replace h := bd h
  obtain ⟨t, et, h⟩ := h
  have hF := va_free (wc := scW T h0 A0 Z0) hD hS hA [0, 1, 2, 3, 4, 5, 6, 7, 8, 9, 10, 11, 12, 13, 14, 15, 16, 17, 18, 19, 20, 21, 22, 23, 24, 25, 26, 27, 28, 29, 30, 31, 32, 33, 34, 35, 36, 37, 38, 39, 40, 41, 42, 43, 44, 45, 46, 47, 48, 49, 50, 51, 52, 53, 54, 55, 56, 57, 58, 59, 60, 61, 62] rfl
  refine vx_calll (vx_runV (As := [.int v1, .int v2, .int v3, .int v4]) (rest := [.int 0, .ref ho]) ⟨hx, hb, hml, hown, hts⟩ (c_X4_weightBehind l hfl D T h0 A0 Z0 v1 v2 v3 v4 _ t et) (cwV 4 hts gL_weightBehind_X4_weightBehind rfl rfl rfl hdV_X4_weightBehind ⟨Nat.le_of_ble_eq_true rfl, Nat.le_of_ble_eq_true rfl⟩) ⟨PX_blind, va_recv hK.1 hP (ci := 4) (q0 := 0) rfl rfl, PX_at (hP.sub (ws' := scW T h0 A0 Z0) [0, 1, 2, 3, 4, 5, 6, 7, 8, 9, 10, 11, 12, 13, 14, 15, 16, 17, 18, 19, 20, 21, 22, 23, 24, 25, 26, 27, 28, 29, 30, 31, 32, 33, 34, 35, 36, 37, 38, 39, 40, 41, 42, 43, 44, 45, 46, 47, 48, 49, 50, 51, 52, 53, 54, 55, 56, 57, 58, 59, 60, 61, 62] rfl) (hD.sub (ws' := scW T h0 A0 Z0) [0, 1, 2, 3, 4, 5, 6, 7, 8, 9, 10, 11, 12, 13, 14, 15, 16, 17, 18, 19, 20, 21, 22, 23, 24, 25, 26, 27, 28, 29, 30, 31, 32, 33, 34, 35, 36, 37, 38, 39, 40, 41, 42, 43, 44, 45, 46, 47, 48, 49, 50, 51, 52, 53, 54, 55, 56, 57, 58, 59, 60, 61, 62] (by decide +kernel) rfl) hK hE hS hF⟩ rfl rfl hl.1 rfl (lv_room (Nat.le_of_ble_eq_true rfl)) dL_weightBehind_9 ⟨Nat.le_of_ble_eq_true rfl, Nat.le_of_ble_eq_true rfl⟩) hS (fun q _ h => hF q h) hF (fun q _ h => h.elim) (fun E ce q9 u t9 H locs ht hvm hu hBX hz hk hS hce hcv hcl => ?_) (fun r9 u t9 H locs ht hvm hw hB hz hk hS => ?_)
  · have hP : va_P D vwCl (scW T h0 A0 Z0 ++ ([(ho, .inl (T 2, 1, .inr (.inl (g0))))] : va_W)) H := hP.kept (fun k q hq => hk q.1 (hP k q hq).lt not_false)
    subst hBX
    replace h : (if E = "java/lang/IllegalArgumentException" then some (1, Z0, g0) else none) = some r := h
    by_cases c0 : E = "java/lang/IllegalArgumentException"
    · subst c0
      replace h := ip rfl h
      obtain rfl := Option.some.inj h
      refine vx_catch (own := RL) (name := "java/lang/IllegalArgumentException") hown [] ⟨0, 13, 16, 13⟩ [] (by rw [htab]; rfl) (fun z hz => absurd hz List.not_mem_nil) (by decide) (by decide) (hts (.classLink RL 13 "java/lang/IllegalArgumentException") (List.mem_of_getElem? (i := 1) rfl)) (va_Nw.use rfl (hE.2.2.2 (.castable "java/lang/IllegalArgumentException" "java/lang/IllegalArgumentException") (List.mem_of_getElem? (i := 3) rfl))) hce hcv hcl ?_
      refine lv_astore (lv' := [(6, .ref q9), (0, .ref h0), (1, .int v1), (2, .int v2), (3, .int v3), (4, .int v4), (5, .ref ho)]) hx hb dL_weightBehind_16 hl (by decide) rfl (fun ls hl => ?_)
      refine lv_iconst (v := 1) hx hb dL_weightBehind_18 (by decide) ?_
      exact W.iret hx hb hr (fun t ht2 hW => ⟨⟨_, A0, rfl, rfl, by rw [ht2]; exact hP, hD⟩, hS.F ht2⟩) hS.2.2 dL_weightBehind_19 hlocks
    replace h := im c0 h
    cases h
  subst hw
  rw [ht] at hB
  obtain ⟨hP, hD⟩ := reord (wr := [(ho, .inl (T 2, 1, .inr (.inl g0)))]) (ws' := scW T h0 u.1 u.2 ++ ([(ho, .inl (T 2, 1, .inr (.inl (g0))))] : va_W)) hP hD [0, 1, 2, 3, 4, 5, 6, 7, 8, 9, 10, 11, 12, 13, 14, 15, 16, 17, 18, 19, 20, 21, 22, 23, 24, 25, 26, 27, 28, 29, 30, 31, 32, 33, 34, 35, 36, 37, 38, 39, 40, 41, 42, 43, 44, 45, 46, 47, 48, 49, 50, 51, 52, 53, 54, 55, 56, 57, 58, 59, 60, 61, 62] [63] rfl rfl (by decide) (by decide) hk hF hB.1 hB.2 [1, 2, 3, 4, 5, 6, 7, 8, 9, 10, 11, 12, 13, 14, 15, 16, 17, 18, 19, 20, 21, 22, 23, 24, 25, 26, 27, 28, 29, 30, 31, 32, 33, 34, 35, 36, 37, 38, 39, 40, 41, 42, 43, 44, 45, 46, 47, 48, 49, 50, 51, 52, 53, 54, 55, 56, 57, 58, 59, 60, 61, 62, 63, 0] (by decide +kernel) rfl
  replace h : some (0, u.2, vp_updL g0 0 r9) = some r := h
  obtain rfl := Option.some.inj h
  refine va_last hx hb hK.1 hP hD hS 63 2 rfl rfl (show ¬ ((0 : Int32) < 0 ∨ 1 ≤ Int32.toNatClampNeg 0) from by decide) dL_weightBehind_12 (fun H locs hP hD hS => ?_)
  rw [show Int32.toNatClampNeg 0 = 0 from by decide] at hP hD
  replace hP : va_P D vwCl (scW T h0 u.1 u.2 ++ ([(ho, .inl (T 2, 1, .inr (.inl (vp_updL g0 0 r9))))] : va_W)) H := hP
  replace hD : va_D A (scW T h0 u.1 u.2 ++ ([(ho, .inl (T 2, 1, .inr (.inl (vp_updL g0 0 r9))))] : va_W)) := hD
  refine lv_goto (tgt := 20) hx hb dL_weightBehind_13 (by decide) ?_
  refine lv_iconst (v := 0) hx hb dL_weightBehind_20 (by decide) ?_
  exact W.iret hx hb hr (fun t ht2 hW => ⟨⟨_, u.1, rfl, rfl, by rw [ht2]; exact hP, hD⟩, hS.F ht2⟩) hS.2.2 dL_weightBehind_21 hlocks
set_option maxHeartbeats 4000000 in
set_option maxRecDepth 100000 in
theorem c_L_bestGroup (l : Launch) (hfl : l.stackTraces = false) (D : va_G) (T : Nat → ClassId) (h0 : Nat) (A0 : AT) (Z0 : ZT) (ho : Nat) (g0 : Nat → Int64) (v1 : Int32) (sz : Nat) (r : Int32 × ZT × (Nat → Int64)) (h : F_L_bestGroup Z0 g0 v1 = some r) : Met l yL_bestGroup wsL_bestGroup ({ frames := 7, cells := 1, slots := 6, locals := 174 } : Room) (va_Pc [.ref h0, .int v1, .ref ho] (PW D T (scW T h0 A0 Z0 ++ ([(ho, .inl (T 2, 1, .inr (.inl (g0))))] : va_W)) sz)) (QW D T h0 ho r (va_A (scW T h0 A0 Z0 ++ ([(ho, .inl (T 2, 1, .inr (.inl (g0))))] : va_W)) sz)) 1 6 (va_A (scW T h0 A0 Z0 ++ ([(ho, .inl (T 2, 1, .inr (.inl (g0))))] : va_W)) sz) := by
  refine met_ofH (cc := cL_bestGroup) (maxL := 4) (ret := (some .int)) (hh := [(0, 9, 12, 13)]) (lv := [(0, .ref h0), (1, .int v1), (2, .ref ho)]) (by decide) rfl (Nat.le_of_ble_eq_true rfl) rfl ?_
  intro p e s m args below meth c ls C0 htab hl hB
  obtain ⟨hx, hb, hr, hml, hown, hts, hlocks, hname⟩ := C0
  obtain ⟨⟨hsz, hP, hK, hD0⟩, hE, hNC⟩ := hB
  subst hsz
  have hD := hD0.self (sz := s.heap.size)
  generalize hAe : va_A (scW T h0 A0 Z0 ++ ([(ho, .inl (T 2, 1, .inr (.inl (g0))))] : va_W)) s.heap.size = A at hD hE ⊢
  have hA : ∀ q : Nat, s.heap.size ≤ q → A q := fun q h => by rw [← hAe]; exact Or.inr h
  have hS : va_S A s.heap s.heap [] := va_S.rf
  unfold F_L_bestGroup at h
  refine lv_aload_n hx hb dL_bestGroup_0 rfl (lv_at hl 2 rfl) ?_
  refine lv_iconst (v := 0) hx hb dL_bestGroup_1 (by decide) ?_
  refine lv_aload_n hx hb dL_bestGroup_2 rfl (lv_at hl 0 rfl) ?_
  refine lv_iload_n hx hb dL_bestGroup_3 rfl (lv_at hl 1 rfl) ?_
  replace h := bd h
  obtain ⟨t, et, h⟩ := h
  have hF := va_free (wc := scW T h0 A0 Z0) hD hS hA [0, 1, 2, 3, 4, 5, 6, 7, 8, 9, 10, 11, 12, 13, 14, 15, 16, 17, 18, 19, 20, 21, 22, 23, 24, 25, 26, 27, 28, 29, 30, 31, 32, 33, 34, 35, 36, 37, 38, 39, 40, 41, 42, 43, 44, 45, 46, 47, 48, 49, 50, 51, 52, 53, 54, 55, 56, 57, 58, 59, 60, 61, 62] rfl
  refine vx_calli (vx_runV (As := [.int v1]) (rest := [.int 0, .ref ho]) ⟨hx, hb, hml, hown, hts⟩ (c_X4_bestGroup l hfl D T h0 A0 Z0 v1 _ t et) (cwV 1 hts gL_bestGroup_X4_bestGroup rfl rfl rfl hdV_X4_bestGroup ⟨Nat.le_of_ble_eq_true rfl, Nat.le_of_ble_eq_true rfl⟩) ⟨PX_blind, va_recv hK.1 hP (ci := 4) (q0 := 0) rfl rfl, PX_at (hP.sub (ws' := scW T h0 A0 Z0) [0, 1, 2, 3, 4, 5, 6, 7, 8, 9, 10, 11, 12, 13, 14, 15, 16, 17, 18, 19, 20, 21, 22, 23, 24, 25, 26, 27, 28, 29, 30, 31, 32, 33, 34, 35, 36, 37, 38, 39, 40, 41, 42, 43, 44, 45, 46, 47, 48, 49, 50, 51, 52, 53, 54, 55, 56, 57, 58, 59, 60, 61, 62] rfl) (hD.sub (ws' := scW T h0 A0 Z0) [0, 1, 2, 3, 4, 5, 6, 7, 8, 9, 10, 11, 12, 13, 14, 15, 16, 17, 18, 19, 20, 21, 22, 23, 24, 25, 26, 27, 28, 29, 30, 31, 32, 33, 34, 35, 36, 37, 38, 39, 40, 41, 42, 43, 44, 45, 46, 47, 48, 49, 50, 51, 52, 53, 54, 55, 56, 57, 58, 59, 60, 61, 62] (by decide +kernel) rfl) hK hE hS hF⟩ rfl rfl hl.1 rfl (lv_room (Nat.le_of_ble_eq_true rfl)) dL_bestGroup_4 ⟨Nat.le_of_ble_eq_true rfl, Nat.le_of_ble_eq_true rfl⟩) hS (fun q _ h => hF q h) hF (fun q _ h => h.elim) (fun E ce q9 u t9 H locs ht hvm hu hBX hz hk hS hce hcv hcl => ?_) (fun r9 u t9 H locs ht hvm hw hB hz hk hS => ?_)
  · have hP : va_P D vwCl (scW T h0 A0 Z0 ++ ([(ho, .inl (T 2, 1, .inr (.inl (g0))))] : va_W)) H := hP.kept (fun k q hq => hk q.1 (hP k q hq).lt not_false)
    subst hBX
    replace h : (if E = "java/lang/IllegalArgumentException" then some (1, Z0, g0) else none) = some r := h
    by_cases c0 : E = "java/lang/IllegalArgumentException"
    · subst c0
      replace h := ip rfl h
      obtain rfl := Option.some.inj h
      refine vx_catch (own := RL) (name := "java/lang/IllegalArgumentException") hown [] ⟨0, 9, 12, 13⟩ [] (by rw [htab]; rfl) (fun z hz => absurd hz List.not_mem_nil) (by decide) (by decide) (hts (.classLink RL 13 "java/lang/IllegalArgumentException") (List.mem_of_getElem? (i := 1) rfl)) (va_Nw.use rfl (hE.2.2.2 (.castable "java/lang/IllegalArgumentException" "java/lang/IllegalArgumentException") (List.mem_of_getElem? (i := 3) rfl))) hce hcv hcl ?_
      refine lv_astore_n (lv' := [(3, .ref q9), (0, .ref h0), (1, .int v1), (2, .ref ho)]) hx hb dL_bestGroup_12 rfl hl (by decide) rfl (fun ls hl => ?_)
      refine lv_iconst (v := 1) hx hb dL_bestGroup_13 (by decide) ?_
      exact W.iret hx hb hr (fun t ht2 hW => ⟨⟨_, A0, rfl, rfl, by rw [ht2]; exact hP, hD⟩, hS.F ht2⟩) hS.2.2 dL_bestGroup_14 hlocks
    replace h := im c0 h
    cases h
  subst hw
  rw [ht] at hB
  obtain ⟨hP, hD⟩ := reord (wr := [(ho, .inl (T 2, 1, .inr (.inl g0)))]) (ws' := scW T h0 u.1 u.2 ++ ([(ho, .inl (T 2, 1, .inr (.inl (g0))))] : va_W)) hP hD [0, 1, 2, 3, 4, 5, 6, 7, 8, 9, 10, 11, 12, 13, 14, 15, 16, 17, 18, 19, 20, 21, 22, 23, 24, 25, 26, 27, 28, 29, 30, 31, 32, 33, 34, 35, 36, 37, 38, 39, 40, 41, 42, 43, 44, 45, 46, 47, 48, 49, 50, 51, 52, 53, 54, 55, 56, 57, 58, 59, 60, 61, 62] [63] rfl rfl (by decide) (by decide) hk hF hB.1 hB.2 [1, 2, 3, 4, 5, 6, 7, 8, 9, 10, 11, 12, 13, 14, 15, 16, 17, 18, 19, 20, 21, 22, 23, 24, 25, 26, 27, 28, 29, 30, 31, 32, 33, 34, 35, 36, 37, 38, 39, 40, 41, 42, 43, 44, 45, 46, 47, 48, 49, 50, 51, 52, 53, 54, 55, 56, 57, 58, 59, 60, 61, 62, 63, 0] (by decide +kernel) rfl
  refine lv_i2l (v := r9.toInt64) hx hb dL_bestGroup_7 rfl ?_
  replace h : some (0, u.2, vp_updL g0 0 r9.toInt64) = some r := h
  obtain rfl := Option.some.inj h
  refine va_last hx hb hK.1 hP hD hS 63 2 rfl rfl (show ¬ ((0 : Int32) < 0 ∨ 1 ≤ Int32.toNatClampNeg 0) from by decide) dL_bestGroup_8 (fun H locs hP hD hS => ?_)
  rw [show Int32.toNatClampNeg 0 = 0 from by decide] at hP hD
  replace hP : va_P D vwCl (scW T h0 u.1 u.2 ++ ([(ho, .inl (T 2, 1, .inr (.inl (vp_updL g0 0 r9.toInt64))))] : va_W)) H := hP
  replace hD : va_D A (scW T h0 u.1 u.2 ++ ([(ho, .inl (T 2, 1, .inr (.inl (vp_updL g0 0 r9.toInt64))))] : va_W)) := hD
  refine lv_goto (tgt := 15) hx hb dL_bestGroup_9 (by decide) ?_
  refine lv_iconst (v := 0) hx hb dL_bestGroup_15 (by decide) ?_
  exact W.iret hx hb hr (fun t ht2 hW => ⟨⟨_, u.1, rfl, rfl, by rw [ht2]; exact hP, hD⟩, hS.F ht2⟩) hS.2.2 dL_bestGroup_16 hlocks
set_option maxHeartbeats 4000000 in
set_option maxRecDepth 100000 in
theorem c_L_teaches (l : Launch) (hfl : l.stackTraces = false) (D : va_G) (T : Nat → ClassId) (h0 : Nat) (A0 : AT) (Z0 : ZT) (ho : Nat) (g0 : Nat → Int64) (v1 : Int32) (v2 : Int32) (sz : Nat) (r : Int32 × ZT × (Nat → Int64)) (h : F_L_teaches Z0 g0 v1 v2 = some r) : Met l yL_teaches wsL_teaches ({ frames := 7, cells := 1, slots := 6, locals := 104 } : Room) (va_Pc [.ref h0, .int v1, .int v2, .ref ho] (PW D T (scW T h0 A0 Z0 ++ ([(ho, .inl (T 2, 1, .inr (.inl (g0))))] : va_W)) sz)) (QW D T h0 ho r (va_A (scW T h0 A0 Z0 ++ ([(ho, .inl (T 2, 1, .inr (.inl (g0))))] : va_W)) sz)) 1 6 (va_A (scW T h0 A0 Z0 ++ ([(ho, .inl (T 2, 1, .inr (.inl (g0))))] : va_W)) sz) := by
  refine met_ofH (cc := cL_teaches) (maxL := 5) (ret := (some .int)) (hh := [(0, 17, 20, 13)]) (lv := [(0, .ref h0), (1, .int v1), (2, .int v2), (3, .ref ho)]) (by decide) rfl (Nat.le_of_ble_eq_true rfl) rfl ?_
  intro p e s m args below meth c ls C0 htab hl hB
  obtain ⟨hx, hb, hr, hml, hown, hts, hlocks, hname⟩ := C0
  obtain ⟨⟨hsz, hP, hK, hD0⟩, hE, hNC⟩ := hB
  subst hsz
  have hD := hD0.self (sz := s.heap.size)
  generalize hAe : va_A (scW T h0 A0 Z0 ++ ([(ho, .inl (T 2, 1, .inr (.inl (g0))))] : va_W)) s.heap.size = A at hD hE ⊢
  have hA : ∀ q : Nat, s.heap.size ≤ q → A q := fun q h => by rw [← hAe]; exact Or.inr h
  have hS : va_S A s.heap s.heap [] := va_S.rf
  unfold F_L_teaches at h
  refine lv_aload_n hx hb dL_teaches_0 rfl (lv_at hl 3 rfl) ?_
  refine lv_iconst (v := 0) hx hb dL_teaches_1 (by decide) ?_
  refine lv_aload_n hx hb dL_teaches_2 rfl (lv_at hl 0 rfl) ?_
  refine lv_iload_n hx hb dL_teaches_3 rfl (lv_at hl 1 rfl) ?_
  refine lv_iload_n hx hb dL_teaches_4 rfl (lv_at hl 2 rfl) ?_
  replace h := bd h
  obtain ⟨t, et, h⟩ := h
  have hF := va_free (wc := scW T h0 A0 Z0) hD hS hA [0, 1, 2, 3, 4, 5, 6, 7, 8, 9, 10, 11, 12, 13, 14, 15, 16, 17, 18, 19, 20, 21, 22, 23, 24, 25, 26, 27, 28, 29, 30, 31, 32, 33, 34, 35, 36, 37, 38, 39, 40, 41, 42, 43, 44, 45, 46, 47, 48, 49, 50, 51, 52, 53, 54, 55, 56, 57, 58, 59, 60, 61, 62] rfl
  refine vx_calli (vx_runV (As := [.int v1, .int v2]) (rest := [.int 0, .ref ho]) ⟨hx, hb, hml, hown, hts⟩ (c_X4_teaches l hfl D T h0 A0 Z0 v1 v2 _ t et) (cwV 2 hts gL_teaches_X4_teaches rfl rfl rfl hdV_X4_teaches ⟨Nat.le_of_ble_eq_true rfl, Nat.le_of_ble_eq_true rfl⟩) ⟨PX_blind, va_recv hK.1 hP (ci := 4) (q0 := 0) rfl rfl, PX_at (hP.sub (ws' := scW T h0 A0 Z0) [0, 1, 2, 3, 4, 5, 6, 7, 8, 9, 10, 11, 12, 13, 14, 15, 16, 17, 18, 19, 20, 21, 22, 23, 24, 25, 26, 27, 28, 29, 30, 31, 32, 33, 34, 35, 36, 37, 38, 39, 40, 41, 42, 43, 44, 45, 46, 47, 48, 49, 50, 51, 52, 53, 54, 55, 56, 57, 58, 59, 60, 61, 62] rfl) (hD.sub (ws' := scW T h0 A0 Z0) [0, 1, 2, 3, 4, 5, 6, 7, 8, 9, 10, 11, 12, 13, 14, 15, 16, 17, 18, 19, 20, 21, 22, 23, 24, 25, 26, 27, 28, 29, 30, 31, 32, 33, 34, 35, 36, 37, 38, 39, 40, 41, 42, 43, 44, 45, 46, 47, 48, 49, 50, 51, 52, 53, 54, 55, 56, 57, 58, 59, 60, 61, 62] (by decide +kernel) rfl) hK hE hS hF⟩ rfl rfl hl.1 rfl (lv_room (Nat.le_of_ble_eq_true rfl)) dL_teaches_5 ⟨Nat.le_of_ble_eq_true rfl, Nat.le_of_ble_eq_true rfl⟩) hS (fun q _ h => hF q h) hF (fun q _ h => h.elim) (fun E ce q9 u t9 H locs ht hvm hu hBX hz hk hS hce hcv hcl => ?_) (fun r9 u t9 H locs ht hvm hw hB hz hk hS => ?_)
  · have hP : va_P D vwCl (scW T h0 A0 Z0 ++ ([(ho, .inl (T 2, 1, .inr (.inl (g0))))] : va_W)) H := hP.kept (fun k q hq => hk q.1 (hP k q hq).lt not_false)
    subst hBX
    replace h : (if E = "java/lang/IllegalArgumentException" then some (1, Z0, g0) else none) = some r := h
    by_cases c0 : E = "java/lang/IllegalArgumentException"
    · subst c0
      replace h := ip rfl h
      obtain rfl := Option.some.inj h
      refine vx_catch (own := RL) (name := "java/lang/IllegalArgumentException") hown [] ⟨0, 17, 20, 13⟩ [] (by rw [htab]; rfl) (fun z hz => absurd hz List.not_mem_nil) (by decide) (by decide) (hts (.classLink RL 13 "java/lang/IllegalArgumentException") (List.mem_of_getElem? (i := 1) rfl)) (va_Nw.use rfl (hE.2.2.2 (.castable "java/lang/IllegalArgumentException" "java/lang/IllegalArgumentException") (List.mem_of_getElem? (i := 3) rfl))) hce hcv hcl ?_
      refine lv_astore (lv' := [(4, .ref q9), (0, .ref h0), (1, .int v1), (2, .int v2), (3, .ref ho)]) hx hb dL_teaches_20 hl (by decide) rfl (fun ls hl => ?_)
      refine lv_iconst (v := 1) hx hb dL_teaches_22 (by decide) ?_
      exact W.iret hx hb hr (fun t ht2 hW => ⟨⟨_, A0, rfl, rfl, by rw [ht2]; exact hP, hD⟩, hS.F ht2⟩) hS.2.2 dL_teaches_23 hlocks
    replace h := im c0 h
    cases h
  subst hw
  rw [ht] at hB
  obtain ⟨hP, hD⟩ := reord (wr := [(ho, .inl (T 2, 1, .inr (.inl g0)))]) (ws' := scW T h0 u.1 u.2 ++ ([(ho, .inl (T 2, 1, .inr (.inl (g0))))] : va_W)) hP hD [0, 1, 2, 3, 4, 5, 6, 7, 8, 9, 10, 11, 12, 13, 14, 15, 16, 17, 18, 19, 20, 21, 22, 23, 24, 25, 26, 27, 28, 29, 30, 31, 32, 33, 34, 35, 36, 37, 38, 39, 40, 41, 42, 43, 44, 45, 46, 47, 48, 49, 50, 51, 52, 53, 54, 55, 56, 57, 58, 59, 60, 61, 62] [63] rfl rfl (by decide) (by decide) hk hF hB.1 hB.2 [1, 2, 3, 4, 5, 6, 7, 8, 9, 10, 11, 12, 13, 14, 15, 16, 17, 18, 19, 20, 21, 22, 23, 24, 25, 26, 27, 28, 29, 30, 31, 32, 33, 34, 35, 36, 37, 38, 39, 40, 41, 42, 43, 44, 45, 46, 47, 48, 49, 50, 51, 52, 53, 54, 55, 56, 57, 58, 59, 60, 61, 62, 63, 0] (by decide +kernel) rfl
  replace h : (if r9 = 0 then some (0, u.2, vp_updL g0 0 0) else some (0, u.2, vp_updL g0 0 1)) = some r := h
  refine lv_if_eq (tgt := 15) hx hb dL_teaches_8 (by decide) (fun c => ?_) (fun c => ?_)
  · replace h := ip c h
    refine lv_lconst (v := 0) hx hb dL_teaches_15 (by decide) ?_
    replace h : some (0, u.2, vp_updL g0 0 0) = some r := h
    obtain rfl := Option.some.inj h
    refine va_last hx hb hK.1 hP hD hS 63 2 rfl rfl (show ¬ ((0 : Int32) < 0 ∨ 1 ≤ Int32.toNatClampNeg 0) from by decide) dL_teaches_16 (fun H locs hP hD hS => ?_)
    rw [show Int32.toNatClampNeg 0 = 0 from by decide] at hP hD
    replace hP : va_P D vwCl (scW T h0 u.1 u.2 ++ ([(ho, .inl (T 2, 1, .inr (.inl (vp_updL g0 0 0))))] : va_W)) H := hP
    replace hD : va_D A (scW T h0 u.1 u.2 ++ ([(ho, .inl (T 2, 1, .inr (.inl (vp_updL g0 0 0))))] : va_W)) := hD
    refine lv_goto (tgt := 24) hx hb dL_teaches_17 (by decide) ?_
    refine lv_iconst (v := 0) hx hb dL_teaches_24 (by decide) ?_
    exact W.iret hx hb hr (fun t ht2 hW => ⟨⟨_, u.1, rfl, rfl, by rw [ht2]; exact hP, hD⟩, hS.F ht2⟩) hS.2.2 dL_teaches_25 hlocks
  replace h := im c h
  refine lv_lconst (v := 1) hx hb dL_teaches_11 (by decide) ?_
  refine lv_goto (tgt := 16) hx hb dL_teaches_12 (by decide) ?_
  replace h : some (0, u.2, vp_updL g0 0 1) = some r := h
  obtain rfl := Option.some.inj h
  refine va_last hx hb hK.1 hP hD hS 63 2 rfl rfl (show ¬ ((0 : Int32) < 0 ∨ 1 ≤ Int32.toNatClampNeg 0) from by decide) dL_teaches_16 (fun H locs hP hD hS => ?_)
  rw [show Int32.toNatClampNeg 0 = 0 from by decide] at hP hD
  replace hP : va_P D vwCl (scW T h0 u.1 u.2 ++ ([(ho, .inl (T 2, 1, .inr (.inl (vp_updL g0 0 1))))] : va_W)) H := hP
  replace hD : va_D A (scW T h0 u.1 u.2 ++ ([(ho, .inl (T 2, 1, .inr (.inl (vp_updL g0 0 1))))] : va_W)) := hD
  refine lv_goto (tgt := 24) hx hb dL_teaches_17 (by decide) ?_
  refine lv_iconst (v := 0) hx hb dL_teaches_24 (by decide) ?_
  exact W.iret hx hb hr (fun t ht2 hW => ⟨⟨_, u.1, rfl, rfl, by rw [ht2]; exact hP, hD⟩, hS.F ht2⟩) hS.2.2 dL_teaches_25 hlocks
set_option maxHeartbeats 4000000 in
set_option maxRecDepth 100000 in
theorem c_L_distance (l : Launch) (hfl : l.stackTraces = false) (D : va_G) (T : Nat → ClassId) (h0 : Nat) (A0 : AT) (Z0 : ZT) (ho : Nat) (g0 : Nat → Int64) (v1 : Int32) (v2 : Int32) (sz : Nat) (r : Int32 × ZT × (Nat → Int64)) (h : F_L_distance Z0 g0 v1 v2 = some r) : Met l yL_distance wsL_distance ({ frames := 7, cells := 1, slots := 6, locals := 104 } : Room) (va_Pc [.ref h0, .int v1, .int v2, .ref ho] (PW D T (scW T h0 A0 Z0 ++ ([(ho, .inl (T 2, 1, .inr (.inl (g0))))] : va_W)) sz)) (QW D T h0 ho r (va_A (scW T h0 A0 Z0 ++ ([(ho, .inl (T 2, 1, .inr (.inl (g0))))] : va_W)) sz)) 1 6 (va_A (scW T h0 A0 Z0 ++ ([(ho, .inl (T 2, 1, .inr (.inl (g0))))] : va_W)) sz) := by
  refine met_ofH (cc := cL_distance) (maxL := 5) (ret := (some .int)) (hh := [(0, 10, 13, 28)]) (lv := [(0, .ref h0), (1, .int v1), (2, .int v2), (3, .ref ho)]) (by decide) rfl (Nat.le_of_ble_eq_true rfl) rfl ?_
  intro p e s m args below meth c ls C0 htab hl hB
  obtain ⟨hx, hb, hr, hml, hown, hts, hlocks, hname⟩ := C0
  obtain ⟨⟨hsz, hP, hK, hD0⟩, hE, hNC⟩ := hB
  subst hsz
  have hD := hD0.self (sz := s.heap.size)
  generalize hAe : va_A (scW T h0 A0 Z0 ++ ([(ho, .inl (T 2, 1, .inr (.inl (g0))))] : va_W)) s.heap.size = A at hD hE ⊢
  have hA : ∀ q : Nat, s.heap.size ≤ q → A q := fun q h => by rw [← hAe]; exact Or.inr h
  have hS : va_S A s.heap s.heap [] := va_S.rf
  unfold F_L_distance at h
  refine lv_aload_n hx hb dL_distance_0 rfl (lv_at hl 3 rfl) ?_
  refine lv_iconst (v := 0) hx hb dL_distance_1 (by decide) ?_
  refine lv_aload_n hx hb dL_distance_2 rfl (lv_at hl 0 rfl) ?_
  refine lv_iload_n hx hb dL_distance_3 rfl (lv_at hl 1 rfl) ?_
  refine lv_iload_n hx hb dL_distance_4 rfl (lv_at hl 2 rfl) ?_
  replace h := bd h
  obtain ⟨t, et, h⟩ := h
  have hF := va_free (wc := scW T h0 A0 Z0) hD hS hA [0, 1, 2, 3, 4, 5, 6, 7, 8, 9, 10, 11, 12, 13, 14, 15, 16, 17, 18, 19, 20, 21, 22, 23, 24, 25, 26, 27, 28, 29, 30, 31, 32, 33, 34, 35, 36, 37, 38, 39, 40, 41, 42, 43, 44, 45, 46, 47, 48, 49, 50, 51, 52, 53, 54, 55, 56, 57, 58, 59, 60, 61, 62] rfl
  refine vx_calli (vx_runV (As := [.int v1, .int v2]) (rest := [.int 0, .ref ho]) ⟨hx, hb, hml, hown, hts⟩ (c_X4_distance l hfl D T h0 A0 Z0 v1 v2 _ t et) (cwV 2 hts gL_distance_X4_distance rfl rfl rfl hdV_X4_distance ⟨Nat.le_of_ble_eq_true rfl, Nat.le_of_ble_eq_true rfl⟩) ⟨PX_blind, va_recv hK.1 hP (ci := 4) (q0 := 0) rfl rfl, PX_at (hP.sub (ws' := scW T h0 A0 Z0) [0, 1, 2, 3, 4, 5, 6, 7, 8, 9, 10, 11, 12, 13, 14, 15, 16, 17, 18, 19, 20, 21, 22, 23, 24, 25, 26, 27, 28, 29, 30, 31, 32, 33, 34, 35, 36, 37, 38, 39, 40, 41, 42, 43, 44, 45, 46, 47, 48, 49, 50, 51, 52, 53, 54, 55, 56, 57, 58, 59, 60, 61, 62] rfl) (hD.sub (ws' := scW T h0 A0 Z0) [0, 1, 2, 3, 4, 5, 6, 7, 8, 9, 10, 11, 12, 13, 14, 15, 16, 17, 18, 19, 20, 21, 22, 23, 24, 25, 26, 27, 28, 29, 30, 31, 32, 33, 34, 35, 36, 37, 38, 39, 40, 41, 42, 43, 44, 45, 46, 47, 48, 49, 50, 51, 52, 53, 54, 55, 56, 57, 58, 59, 60, 61, 62] (by decide +kernel) rfl) hK hE hS hF⟩ rfl rfl hl.1 rfl (lv_room (Nat.le_of_ble_eq_true rfl)) dL_distance_5 ⟨Nat.le_of_ble_eq_true rfl, Nat.le_of_ble_eq_true rfl⟩) hS (fun q _ h => hF q h) hF (fun q _ h => h.elim) (fun E ce q9 u t9 H locs ht hvm hu hBX hz hk hS hce hcv hcl => ?_) (fun r9 u t9 H locs ht hvm hw hB hz hk hS => ?_)
  · have hP : va_P D vwCl (scW T h0 A0 Z0 ++ ([(ho, .inl (T 2, 1, .inr (.inl (g0))))] : va_W)) H := hP.kept (fun k q hq => hk q.1 (hP k q hq).lt not_false)
    subst hBX
    replace h : (if E = "java/lang/IndexOutOfBoundsException" then some (1, Z0, g0) else none) = some r := h
    by_cases c0 : E = "java/lang/IndexOutOfBoundsException"
    · subst c0
      replace h := ip rfl h
      obtain rfl := Option.some.inj h
      refine vx_catch (own := RL) (name := "java/lang/IndexOutOfBoundsException") hown [] ⟨0, 10, 13, 28⟩ [] (by rw [htab]; rfl) (fun z hz => absurd hz List.not_mem_nil) (by decide) (by decide) (hts (.classLink RL 28 "java/lang/IndexOutOfBoundsException") (List.mem_of_getElem? (i := 1) rfl)) (va_Nw.use rfl (hE.2.2.2 (.castable "java/lang/IndexOutOfBoundsException" "java/lang/IndexOutOfBoundsException") (List.mem_of_getElem? (i := 5) rfl))) hce hcv hcl ?_
      refine lv_astore (lv' := [(4, .ref q9), (0, .ref h0), (1, .int v1), (2, .int v2), (3, .ref ho)]) hx hb dL_distance_13 hl (by decide) rfl (fun ls hl => ?_)
      refine lv_iconst (v := 1) hx hb dL_distance_15 (by decide) ?_
      exact W.iret hx hb hr (fun t ht2 hW => ⟨⟨_, A0, rfl, rfl, by rw [ht2]; exact hP, hD⟩, hS.F ht2⟩) hS.2.2 dL_distance_16 hlocks
    replace h := im c0 h
    cases h
  subst hw
  rw [ht] at hB
  obtain ⟨hP, hD⟩ := reord (wr := [(ho, .inl (T 2, 1, .inr (.inl g0)))]) (ws' := scW T h0 u.1 u.2 ++ ([(ho, .inl (T 2, 1, .inr (.inl (g0))))] : va_W)) hP hD [0, 1, 2, 3, 4, 5, 6, 7, 8, 9, 10, 11, 12, 13, 14, 15, 16, 17, 18, 19, 20, 21, 22, 23, 24, 25, 26, 27, 28, 29, 30, 31, 32, 33, 34, 35, 36, 37, 38, 39, 40, 41, 42, 43, 44, 45, 46, 47, 48, 49, 50, 51, 52, 53, 54, 55, 56, 57, 58, 59, 60, 61, 62] [63] rfl rfl (by decide) (by decide) hk hF hB.1 hB.2 [1, 2, 3, 4, 5, 6, 7, 8, 9, 10, 11, 12, 13, 14, 15, 16, 17, 18, 19, 20, 21, 22, 23, 24, 25, 26, 27, 28, 29, 30, 31, 32, 33, 34, 35, 36, 37, 38, 39, 40, 41, 42, 43, 44, 45, 46, 47, 48, 49, 50, 51, 52, 53, 54, 55, 56, 57, 58, 59, 60, 61, 62, 63, 0] (by decide +kernel) rfl
  refine lv_i2l (v := r9.toInt64) hx hb dL_distance_8 rfl ?_
  replace h : some (0, u.2, vp_updL g0 0 r9.toInt64) = some r := h
  obtain rfl := Option.some.inj h
  refine va_last hx hb hK.1 hP hD hS 63 2 rfl rfl (show ¬ ((0 : Int32) < 0 ∨ 1 ≤ Int32.toNatClampNeg 0) from by decide) dL_distance_9 (fun H locs hP hD hS => ?_)
  rw [show Int32.toNatClampNeg 0 = 0 from by decide] at hP hD
  replace hP : va_P D vwCl (scW T h0 u.1 u.2 ++ ([(ho, .inl (T 2, 1, .inr (.inl (vp_updL g0 0 r9.toInt64))))] : va_W)) H := hP
  replace hD : va_D A (scW T h0 u.1 u.2 ++ ([(ho, .inl (T 2, 1, .inr (.inl (vp_updL g0 0 r9.toInt64))))] : va_W)) := hD
  refine lv_goto (tgt := 17) hx hb dL_distance_10 (by decide) ?_
  refine lv_iconst (v := 0) hx hb dL_distance_17 (by decide) ?_
  exact W.iret hx hb hr (fun t ht2 hW => ⟨⟨_, u.1, rfl, rfl, by rw [ht2]; exact hP, hD⟩, hS.F ht2⟩) hS.2.2 dL_distance_18 hlocks
set_option maxHeartbeats 4000000 in
set_option maxRecDepth 100000 in
theorem c_L_decode (l : Launch) (hfl : l.stackTraces = false) (D : va_G) (T : Nat → ClassId) (h0 : Nat) (A0 : AT) (Z0 : ZT) (ho : Nat) (g0 : Nat → Int64) (v1 : Int32) (sz : Nat) (r : Int32 × ZT × (Nat → Int64)) (h : F_L_decode Z0 g0 v1 = some r) : Met l yL_decode wsL_decode ({ frames := 7, cells := 1, slots := 6, locals := 113 } : Room) (va_Pc [.ref h0, .int v1, .ref ho] (PW D T (scW T h0 A0 Z0 ++ ([(ho, .inl (T 2, 1, .inr (.inl (g0))))] : va_W)) sz)) (QW D T h0 ho r (va_A (scW T h0 A0 Z0 ++ ([(ho, .inl (T 2, 1, .inr (.inl (g0))))] : va_W)) sz)) 1 6 (va_A (scW T h0 A0 Z0 ++ ([(ho, .inl (T 2, 1, .inr (.inl (g0))))] : va_W)) sz) := by
  refine met_ofH (cc := cL_decode) (maxL := 4) (ret := (some .int)) (hh := [(0, 9, 12, 13)]) (lv := [(0, .ref h0), (1, .int v1), (2, .ref ho)]) (by decide) rfl (Nat.le_of_ble_eq_true rfl) rfl ?_
  intro p e s m args below meth c ls C0 htab hl hB
  obtain ⟨hx, hb, hr, hml, hown, hts, hlocks, hname⟩ := C0
  obtain ⟨⟨hsz, hP, hK, hD0⟩, hE, hNC⟩ := hB
  subst hsz
  have hD := hD0.self (sz := s.heap.size)
  generalize hAe : va_A (scW T h0 A0 Z0 ++ ([(ho, .inl (T 2, 1, .inr (.inl (g0))))] : va_W)) s.heap.size = A at hD hE ⊢
  have hA : ∀ q : Nat, s.heap.size ≤ q → A q := fun q h => by rw [← hAe]; exact Or.inr h
  have hS : va_S A s.heap s.heap [] := va_S.rf
  unfold F_L_decode at h
  refine lv_aload_n hx hb dL_decode_0 rfl (lv_at hl 2 rfl) ?_
  refine lv_iconst (v := 0) hx hb dL_decode_1 (by decide) ?_
  refine lv_aload_n hx hb dL_decode_2 rfl (lv_at hl 0 rfl) ?_
  refine lv_iload_n hx hb dL_decode_3 rfl (lv_at hl 1 rfl) ?_
  replace h := bd h
  obtain ⟨t, et, h⟩ := h
  have hF := va_free (wc := scW T h0 A0 Z0) hD hS hA [0, 1, 2, 3, 4, 5, 6, 7, 8, 9, 10, 11, 12, 13, 14, 15, 16, 17, 18, 19, 20, 21, 22, 23, 24, 25, 26, 27, 28, 29, 30, 31, 32, 33, 34, 35, 36, 37, 38, 39, 40, 41, 42, 43, 44, 45, 46, 47, 48, 49, 50, 51, 52, 53, 54, 55, 56, 57, 58, 59, 60, 61, 62] rfl
  refine vx_calli (vx_runV (As := [.int v1]) (rest := [.int 0, .ref ho]) ⟨hx, hb, hml, hown, hts⟩ (c_X4_decode l hfl D T h0 A0 Z0 v1 _ t et) (cwV 1 hts gL_decode_X4_decode rfl rfl rfl hdV_X4_decode ⟨Nat.le_of_ble_eq_true rfl, Nat.le_of_ble_eq_true rfl⟩) ⟨PX_blind, va_recv hK.1 hP (ci := 4) (q0 := 0) rfl rfl, PX_at (hP.sub (ws' := scW T h0 A0 Z0) [0, 1, 2, 3, 4, 5, 6, 7, 8, 9, 10, 11, 12, 13, 14, 15, 16, 17, 18, 19, 20, 21, 22, 23, 24, 25, 26, 27, 28, 29, 30, 31, 32, 33, 34, 35, 36, 37, 38, 39, 40, 41, 42, 43, 44, 45, 46, 47, 48, 49, 50, 51, 52, 53, 54, 55, 56, 57, 58, 59, 60, 61, 62] rfl) (hD.sub (ws' := scW T h0 A0 Z0) [0, 1, 2, 3, 4, 5, 6, 7, 8, 9, 10, 11, 12, 13, 14, 15, 16, 17, 18, 19, 20, 21, 22, 23, 24, 25, 26, 27, 28, 29, 30, 31, 32, 33, 34, 35, 36, 37, 38, 39, 40, 41, 42, 43, 44, 45, 46, 47, 48, 49, 50, 51, 52, 53, 54, 55, 56, 57, 58, 59, 60, 61, 62] (by decide +kernel) rfl) hK hE hS hF⟩ rfl rfl hl.1 rfl (lv_room (Nat.le_of_ble_eq_true rfl)) dL_decode_4 ⟨Nat.le_of_ble_eq_true rfl, Nat.le_of_ble_eq_true rfl⟩) hS (fun q _ h => hF q h) hF (fun q _ h => h.elim) (fun E ce q9 u t9 H locs ht hvm hu hBX hz hk hS hce hcv hcl => ?_) (fun r9 u t9 H locs ht hvm hw hB hz hk hS => ?_)
  · have hP : va_P D vwCl (scW T h0 A0 Z0 ++ ([(ho, .inl (T 2, 1, .inr (.inl (g0))))] : va_W)) H := hP.kept (fun k q hq => hk q.1 (hP k q hq).lt not_false)
    subst hBX
    replace h : (if E = "java/lang/IllegalArgumentException" then some (1, Z0, g0) else none) = some r := h
    by_cases c0 : E = "java/lang/IllegalArgumentException"
    · subst c0
      replace h := ip rfl h
      obtain rfl := Option.some.inj h
      refine vx_catch (own := RL) (name := "java/lang/IllegalArgumentException") hown [] ⟨0, 9, 12, 13⟩ [] (by rw [htab]; rfl) (fun z hz => absurd hz List.not_mem_nil) (by decide) (by decide) (hts (.classLink RL 13 "java/lang/IllegalArgumentException") (List.mem_of_getElem? (i := 1) rfl)) (va_Nw.use rfl (hE.2.2.2 (.castable "java/lang/IllegalArgumentException" "java/lang/IllegalArgumentException") (List.mem_of_getElem? (i := 3) rfl))) hce hcv hcl ?_
      refine lv_astore_n (lv' := [(3, .ref q9), (0, .ref h0), (1, .int v1), (2, .ref ho)]) hx hb dL_decode_12 rfl hl (by decide) rfl (fun ls hl => ?_)
      refine lv_iconst (v := 1) hx hb dL_decode_13 (by decide) ?_
      exact W.iret hx hb hr (fun t ht2 hW => ⟨⟨_, A0, rfl, rfl, by rw [ht2]; exact hP, hD⟩, hS.F ht2⟩) hS.2.2 dL_decode_14 hlocks
    replace h := im c0 h
    cases h
  subst hw
  rw [ht] at hB
  obtain ⟨hP, hD⟩ := reord (wr := [(ho, .inl (T 2, 1, .inr (.inl g0)))]) (ws' := scW T h0 u.1 u.2 ++ ([(ho, .inl (T 2, 1, .inr (.inl (g0))))] : va_W)) hP hD [0, 1, 2, 3, 4, 5, 6, 7, 8, 9, 10, 11, 12, 13, 14, 15, 16, 17, 18, 19, 20, 21, 22, 23, 24, 25, 26, 27, 28, 29, 30, 31, 32, 33, 34, 35, 36, 37, 38, 39, 40, 41, 42, 43, 44, 45, 46, 47, 48, 49, 50, 51, 52, 53, 54, 55, 56, 57, 58, 59, 60, 61, 62] [63] rfl rfl (by decide) (by decide) hk hF hB.1 hB.2 [1, 2, 3, 4, 5, 6, 7, 8, 9, 10, 11, 12, 13, 14, 15, 16, 17, 18, 19, 20, 21, 22, 23, 24, 25, 26, 27, 28, 29, 30, 31, 32, 33, 34, 35, 36, 37, 38, 39, 40, 41, 42, 43, 44, 45, 46, 47, 48, 49, 50, 51, 52, 53, 54, 55, 56, 57, 58, 59, 60, 61, 62, 63, 0] (by decide +kernel) rfl
  refine lv_i2l (v := r9.toInt64) hx hb dL_decode_7 rfl ?_
  replace h : some (0, u.2, vp_updL g0 0 r9.toInt64) = some r := h
  obtain rfl := Option.some.inj h
  refine va_last hx hb hK.1 hP hD hS 63 2 rfl rfl (show ¬ ((0 : Int32) < 0 ∨ 1 ≤ Int32.toNatClampNeg 0) from by decide) dL_decode_8 (fun H locs hP hD hS => ?_)
  rw [show Int32.toNatClampNeg 0 = 0 from by decide] at hP hD
  replace hP : va_P D vwCl (scW T h0 u.1 u.2 ++ ([(ho, .inl (T 2, 1, .inr (.inl (vp_updL g0 0 r9.toInt64))))] : va_W)) H := hP
  replace hD : va_D A (scW T h0 u.1 u.2 ++ ([(ho, .inl (T 2, 1, .inr (.inl (vp_updL g0 0 r9.toInt64))))] : va_W)) := hD
  refine lv_goto (tgt := 15) hx hb dL_decode_9 (by decide) ?_
  refine lv_iconst (v := 0) hx hb dL_decode_15 (by decide) ?_
  exact W.iret hx hb hr (fun t ht2 hW => ⟨⟨_, u.1, rfl, rfl, by rw [ht2]; exact hP, hD⟩, hS.F ht2⟩) hS.2.2 dL_decode_16 hlocks
set_option maxHeartbeats 4000000 in
set_option maxRecDepth 100000 in
theorem c_L_append (l : Launch) (hfl : l.stackTraces = false) (D : va_G) (T : Nat → ClassId) (h0 : Nat) (A0 : AT) (Z0 : ZT) (ho : Nat) (g0 : Nat → Int64) (v1 : Int32) (sz : Nat) (r : Int32 × ZT × (Nat → Int64)) (h : F_L_append Z0 g0 v1 = some r) : Met l yL_append wsL_append ({ frames := 7, cells := 1, slots := 6, locals := 103 } : Room) (va_Pc [.ref h0, .int v1, .ref ho] (PW D T (scW T h0 A0 Z0 ++ ([(ho, .inl (T 2, 1, .inr (.inl (g0))))] : va_W)) sz)) (QW D T h0 ho r (va_A (scW T h0 A0 Z0 ++ ([(ho, .inl (T 2, 1, .inr (.inl (g0))))] : va_W)) sz)) 1 6 (va_A (scW T h0 A0 Z0 ++ ([(ho, .inl (T 2, 1, .inr (.inl (g0))))] : va_W)) sz) := by
  refine met_ofH (cc := cL_append) (maxL := 4) (ret := (some .int)) (hh := [(0, 9, 12, 13), (0, 9, 15, 22)]) (lv := [(0, .ref h0), (1, .int v1), (2, .ref ho)]) (by decide) rfl (Nat.le_of_ble_eq_true rfl) rfl ?_
  intro p e s m args below meth c ls C0 htab hl hB
  obtain ⟨hx, hb, hr, hml, hown, hts, hlocks, hname⟩ := C0
  obtain ⟨⟨hsz, hP, hK, hD0⟩, hE, hNC⟩ := hB
  subst hsz
  have hD := hD0.self (sz := s.heap.size)
  generalize hAe : va_A (scW T h0 A0 Z0 ++ ([(ho, .inl (T 2, 1, .inr (.inl (g0))))] : va_W)) s.heap.size = A at hD hE ⊢
  have hA : ∀ q : Nat, s.heap.size ≤ q → A q := fun q h => by rw [← hAe]; exact Or.inr h
  have hS : va_S A s.heap s.heap [] := va_S.rf
  unfold F_L_append at h
  refine lv_aload_n hx hb dL_append_0 rfl (lv_at hl 2 rfl) ?_
  refine lv_iconst (v := 0) hx hb dL_append_1 (by decide) ?_
  refine lv_aload_n hx hb dL_append_2 rfl (lv_at hl 0 rfl) ?_
  refine lv_iload_n hx hb dL_append_3 rfl (lv_at hl 1 rfl) ?_
  replace h := bd h
  obtain ⟨t, et, h⟩ := h
  have hF := va_free (wc := scW T h0 A0 Z0) hD hS hA [0, 1, 2, 3, 4, 5, 6, 7, 8, 9, 10, 11, 12, 13, 14, 15, 16, 17, 18, 19, 20, 21, 22, 23, 24, 25, 26, 27, 28, 29, 30, 31, 32, 33, 34, 35, 36, 37, 38, 39, 40, 41, 42, 43, 44, 45, 46, 47, 48, 49, 50, 51, 52, 53, 54, 55, 56, 57, 58, 59, 60, 61, 62] rfl
  refine vx_calli (vx_runV (As := [.int v1]) (rest := [.int 0, .ref ho]) ⟨hx, hb, hml, hown, hts⟩ (c_X4_append l hfl D T h0 A0 Z0 v1 _ t et) (cwV 1 hts gL_append_X4_append rfl rfl rfl hdV_X4_append ⟨Nat.le_of_ble_eq_true rfl, Nat.le_of_ble_eq_true rfl⟩) ⟨PX_blind, va_recv hK.1 hP (ci := 4) (q0 := 0) rfl rfl, PX_at (hP.sub (ws' := scW T h0 A0 Z0) [0, 1, 2, 3, 4, 5, 6, 7, 8, 9, 10, 11, 12, 13, 14, 15, 16, 17, 18, 19, 20, 21, 22, 23, 24, 25, 26, 27, 28, 29, 30, 31, 32, 33, 34, 35, 36, 37, 38, 39, 40, 41, 42, 43, 44, 45, 46, 47, 48, 49, 50, 51, 52, 53, 54, 55, 56, 57, 58, 59, 60, 61, 62] rfl) (hD.sub (ws' := scW T h0 A0 Z0) [0, 1, 2, 3, 4, 5, 6, 7, 8, 9, 10, 11, 12, 13, 14, 15, 16, 17, 18, 19, 20, 21, 22, 23, 24, 25, 26, 27, 28, 29, 30, 31, 32, 33, 34, 35, 36, 37, 38, 39, 40, 41, 42, 43, 44, 45, 46, 47, 48, 49, 50, 51, 52, 53, 54, 55, 56, 57, 58, 59, 60, 61, 62] (by decide +kernel) rfl) hK hE hS hF⟩ rfl rfl hl.1 rfl (lv_room (Nat.le_of_ble_eq_true rfl)) dL_append_4 ⟨Nat.le_of_ble_eq_true rfl, Nat.le_of_ble_eq_true rfl⟩) hS (fun q _ h => hF q h) hF (fun q _ h => h.elim) (fun E ce q9 u t9 H locs ht hvm hu hBX hz hk hS hce hcv hcl => ?_) (fun r9 u t9 H locs ht hvm hw hB hz hk hS => ?_)
  · have hP : va_P D vwCl (scW T h0 A0 Z0 ++ ([(ho, .inl (T 2, 1, .inr (.inl (g0))))] : va_W)) H := hP.kept (fun k q hq => hk q.1 (hP k q hq).lt not_false)
    subst hBX
    replace h : (if E = "java/lang/IllegalArgumentException" then some (1, Z0, g0) else if E = "java/lang/IllegalStateException" then some (2, Z0, g0) else none) = some r := h
    by_cases c0 : E = "java/lang/IllegalArgumentException"
    · subst c0
      replace h := ip rfl h
      obtain rfl := Option.some.inj h
      refine vx_catch (own := RL) (name := "java/lang/IllegalArgumentException") hown [] ⟨0, 9, 12, 13⟩ [⟨0, 9, 15, 22⟩] (by rw [htab]; rfl) (fun z hz => absurd hz List.not_mem_nil) (by decide) (by decide) (hts (.classLink RL 13 "java/lang/IllegalArgumentException") (List.mem_of_getElem? (i := 1) rfl)) (va_Nw.use rfl (hE.2.2.2 (.castable "java/lang/IllegalArgumentException" "java/lang/IllegalArgumentException") (List.mem_of_getElem? (i := 3) rfl))) hce hcv hcl ?_
      refine lv_astore_n (lv' := [(3, .ref q9), (0, .ref h0), (1, .int v1), (2, .ref ho)]) hx hb dL_append_12 rfl hl (by decide) rfl (fun ls hl => ?_)
      refine lv_iconst (v := 1) hx hb dL_append_13 (by decide) ?_
      exact W.iret hx hb hr (fun t ht2 hW => ⟨⟨_, A0, rfl, rfl, by rw [ht2]; exact hP, hD⟩, hS.F ht2⟩) hS.2.2 dL_append_14 hlocks
    replace h := im c0 h
    by_cases c1 : E = "java/lang/IllegalStateException"
    · subst c1
      replace h := ip rfl h
      obtain rfl := Option.some.inj h
      refine vx_catch (own := RL) (name := "java/lang/IllegalStateException") hown [⟨0, 9, 12, 13⟩] ⟨0, 9, 15, 22⟩ [] (by rw [htab]; rfl) (fun z hz => by rcases List.mem_singleton.mp hz with rfl; exact Or.inr ⟨by decide, _, (hts (.classLink RL 13 "java/lang/IllegalArgumentException") (List.mem_of_getElem? (i := 1) rfl)), hNC "java/lang/IllegalStateException" (List.mem_of_getElem? (i := 1) rfl) "java/lang/IllegalArgumentException" (List.mem_of_getElem? (i := 0) rfl) (by decide)⟩) (by decide) (by decide) (hts (.classLink RL 22 "java/lang/IllegalStateException") (List.mem_of_getElem? (i := 2) rfl)) (va_Nw.use rfl (hE.2.2.2 (.castable "java/lang/IllegalStateException" "java/lang/IllegalStateException") (List.mem_of_getElem? (i := 4) rfl))) hce hcv hcl ?_
      refine lv_astore_n (lv' := [(3, .ref q9), (0, .ref h0), (1, .int v1), (2, .ref ho)]) hx hb dL_append_15 rfl hl (by decide) rfl (fun ls hl => ?_)
      refine lv_iconst (v := 2) hx hb dL_append_16 (by decide) ?_
      exact W.iret hx hb hr (fun t ht2 hW => ⟨⟨_, A0, rfl, rfl, by rw [ht2]; exact hP, hD⟩, hS.F ht2⟩) hS.2.2 dL_append_17 hlocks
    replace h := im c1 h
    cases h
  subst hw
  rw [ht] at hB
  obtain ⟨hP, hD⟩ := reord (wr := [(ho, .inl (T 2, 1, .inr (.inl g0)))]) (ws' := scW T h0 u.1 u.2 ++ ([(ho, .inl (T 2, 1, .inr (.inl (g0))))] : va_W)) hP hD [0, 1, 2, 3, 4, 5, 6, 7, 8, 9, 10, 11, 12, 13, 14, 15, 16, 17, 18, 19, 20, 21, 22, 23, 24, 25, 26, 27, 28, 29, 30, 31, 32, 33, 34, 35, 36, 37, 38, 39, 40, 41, 42, 43, 44, 45, 46, 47, 48, 49, 50, 51, 52, 53, 54, 55, 56, 57, 58, 59, 60, 61, 62] [63] rfl rfl (by decide) (by decide) hk hF hB.1 hB.2 [1, 2, 3, 4, 5, 6, 7, 8, 9, 10, 11, 12, 13, 14, 15, 16, 17, 18, 19, 20, 21, 22, 23, 24, 25, 26, 27, 28, 29, 30, 31, 32, 33, 34, 35, 36, 37, 38, 39, 40, 41, 42, 43, 44, 45, 46, 47, 48, 49, 50, 51, 52, 53, 54, 55, 56, 57, 58, 59, 60, 61, 62, 63, 0] (by decide +kernel) rfl
  refine lv_i2l (v := r9.toInt64) hx hb dL_append_7 rfl ?_
  replace h : some (0, u.2, vp_updL g0 0 r9.toInt64) = some r := h
  obtain rfl := Option.some.inj h
  refine va_last hx hb hK.1 hP hD hS 63 2 rfl rfl (show ¬ ((0 : Int32) < 0 ∨ 1 ≤ Int32.toNatClampNeg 0) from by decide) dL_append_8 (fun H locs hP hD hS => ?_)
  rw [show Int32.toNatClampNeg 0 = 0 from by decide] at hP hD
  replace hP : va_P D vwCl (scW T h0 u.1 u.2 ++ ([(ho, .inl (T 2, 1, .inr (.inl (vp_updL g0 0 r9.toInt64))))] : va_W)) H := hP
  replace hD : va_D A (scW T h0 u.1 u.2 ++ ([(ho, .inl (T 2, 1, .inr (.inl (vp_updL g0 0 r9.toInt64))))] : va_W)) := hD
  refine lv_goto (tgt := 18) hx hb dL_append_9 (by decide) ?_
  refine lv_iconst (v := 0) hx hb dL_append_18 (by decide) ?_
  exact W.iret hx hb hr (fun t ht2 hW => ⟨⟨_, u.1, rfl, rfl, by rw [ht2]; exact hP, hD⟩, hS.F ht2⟩) hS.2.2 dL_append_19 hlocks
set_option maxHeartbeats 4000000 in
set_option maxRecDepth 100000 in
theorem c_L_undo (l : Launch) (hfl : l.stackTraces = false) (D : va_G) (T : Nat → ClassId) (h0 : Nat) (A0 : AT) (Z0 : ZT) (ho : Nat) (g0 : Nat → Int64) (sz : Nat) (r : Int32 × ZT × (Nat → Int64)) (h : F_L_undo Z0 g0 = some r) : Met l yL_undo wsL_undo ({ frames := 7, cells := 1, slots := 6, locals := 128 } : Room) (va_Pc [.ref h0, .ref ho] (PW D T (scW T h0 A0 Z0 ++ ([(ho, .inl (T 2, 1, .inr (.inl (g0))))] : va_W)) sz)) (QW D T h0 ho r (va_A (scW T h0 A0 Z0 ++ ([(ho, .inl (T 2, 1, .inr (.inl (g0))))] : va_W)) sz)) 1 6 (va_A (scW T h0 A0 Z0 ++ ([(ho, .inl (T 2, 1, .inr (.inl (g0))))] : va_W)) sz) := by
  refine met_ofH (cc := cL_undo) (maxL := 3) (ret := (some .int)) (hh := [(0, 8, 11, 22)]) (lv := [(0, .ref h0), (1, .ref ho)]) (by decide) rfl (Nat.le_of_ble_eq_true rfl) rfl ?_
  intro p e s m args below meth c ls C0 htab hl hB
  obtain ⟨hx, hb, hr, hml, hown, hts, hlocks, hname⟩ := C0
  obtain ⟨⟨hsz, hP, hK, hD0⟩, hE, hNC⟩ := hB
  subst hsz
  have hD := hD0.self (sz := s.heap.size)
  generalize hAe : va_A (scW T h0 A0 Z0 ++ ([(ho, .inl (T 2, 1, .inr (.inl (g0))))] : va_W)) s.heap.size = A at hD hE ⊢
  have hA : ∀ q : Nat, s.heap.size ≤ q → A q := fun q h => by rw [← hAe]; exact Or.inr h
  have hS : va_S A s.heap s.heap [] := va_S.rf
  unfold F_L_undo at h
  refine lv_aload_n hx hb dL_undo_0 rfl (lv_at hl 1 rfl) ?_
  refine lv_iconst (v := 0) hx hb dL_undo_1 (by decide) ?_
  refine lv_aload_n hx hb dL_undo_2 rfl (lv_at hl 0 rfl) ?_
  replace h := bd h
  obtain ⟨t, et, h⟩ := h
  have hF := va_free (wc := scW T h0 A0 Z0) hD hS hA [0, 1, 2, 3, 4, 5, 6, 7, 8, 9, 10, 11, 12, 13, 14, 15, 16, 17, 18, 19, 20, 21, 22, 23, 24, 25, 26, 27, 28, 29, 30, 31, 32, 33, 34, 35, 36, 37, 38, 39, 40, 41, 42, 43, 44, 45, 46, 47, 48, 49, 50, 51, 52, 53, 54, 55, 56, 57, 58, 59, 60, 61, 62] rfl
  refine vx_calli (vx_runV (As := []) (rest := [.int 0, .ref ho]) ⟨hx, hb, hml, hown, hts⟩ (c_X4_undo l hfl D T h0 A0 Z0 _ t et) (cwV 0 hts gL_undo_X4_undo rfl rfl rfl hdV_X4_undo ⟨Nat.le_of_ble_eq_true rfl, Nat.le_of_ble_eq_true rfl⟩) ⟨PX_blind, va_recv hK.1 hP (ci := 4) (q0 := 0) rfl rfl, PX_at (hP.sub (ws' := scW T h0 A0 Z0) [0, 1, 2, 3, 4, 5, 6, 7, 8, 9, 10, 11, 12, 13, 14, 15, 16, 17, 18, 19, 20, 21, 22, 23, 24, 25, 26, 27, 28, 29, 30, 31, 32, 33, 34, 35, 36, 37, 38, 39, 40, 41, 42, 43, 44, 45, 46, 47, 48, 49, 50, 51, 52, 53, 54, 55, 56, 57, 58, 59, 60, 61, 62] rfl) (hD.sub (ws' := scW T h0 A0 Z0) [0, 1, 2, 3, 4, 5, 6, 7, 8, 9, 10, 11, 12, 13, 14, 15, 16, 17, 18, 19, 20, 21, 22, 23, 24, 25, 26, 27, 28, 29, 30, 31, 32, 33, 34, 35, 36, 37, 38, 39, 40, 41, 42, 43, 44, 45, 46, 47, 48, 49, 50, 51, 52, 53, 54, 55, 56, 57, 58, 59, 60, 61, 62] (by decide +kernel) rfl) hK hE hS hF⟩ rfl rfl hl.1 rfl (lv_room (Nat.le_of_ble_eq_true rfl)) dL_undo_3 ⟨Nat.le_of_ble_eq_true rfl, Nat.le_of_ble_eq_true rfl⟩) hS (fun q _ h => hF q h) hF (fun q _ h => h.elim) (fun E ce q9 u t9 H locs ht hvm hu hBX hz hk hS hce hcv hcl => ?_) (fun r9 u t9 H locs ht hvm hw hB hz hk hS => ?_)
  · have hP : va_P D vwCl (scW T h0 A0 Z0 ++ ([(ho, .inl (T 2, 1, .inr (.inl (g0))))] : va_W)) H := hP.kept (fun k q hq => hk q.1 (hP k q hq).lt not_false)
    subst hBX
    replace h : (if E = "java/lang/IllegalStateException" then some (1, Z0, g0) else none) = some r := h
    by_cases c0 : E = "java/lang/IllegalStateException"
    · subst c0
      replace h := ip rfl h
      obtain rfl := Option.some.inj h
      refine vx_catch (own := RL) (name := "java/lang/IllegalStateException") hown [] ⟨0, 8, 11, 22⟩ [] (by rw [htab]; rfl) (fun z hz => absurd hz List.not_mem_nil) (by decide) (by decide) (hts (.classLink RL 22 "java/lang/IllegalStateException") (List.mem_of_getElem? (i := 1) rfl)) (va_Nw.use rfl (hE.2.2.2 (.castable "java/lang/IllegalStateException" "java/lang/IllegalStateException") (List.mem_of_getElem? (i := 4) rfl))) hce hcv hcl ?_
      refine lv_astore_n (lv' := [(2, .ref q9), (0, .ref h0), (1, .ref ho)]) hx hb dL_undo_11 rfl hl (by decide) rfl (fun ls hl => ?_)
      refine lv_iconst (v := 1) hx hb dL_undo_12 (by decide) ?_
      exact W.iret hx hb hr (fun t ht2 hW => ⟨⟨_, A0, rfl, rfl, by rw [ht2]; exact hP, hD⟩, hS.F ht2⟩) hS.2.2 dL_undo_13 hlocks
    replace h := im c0 h
    cases h
  subst hw
  rw [ht] at hB
  obtain ⟨hP, hD⟩ := reord (wr := [(ho, .inl (T 2, 1, .inr (.inl g0)))]) (ws' := scW T h0 u.1 u.2 ++ ([(ho, .inl (T 2, 1, .inr (.inl (g0))))] : va_W)) hP hD [0, 1, 2, 3, 4, 5, 6, 7, 8, 9, 10, 11, 12, 13, 14, 15, 16, 17, 18, 19, 20, 21, 22, 23, 24, 25, 26, 27, 28, 29, 30, 31, 32, 33, 34, 35, 36, 37, 38, 39, 40, 41, 42, 43, 44, 45, 46, 47, 48, 49, 50, 51, 52, 53, 54, 55, 56, 57, 58, 59, 60, 61, 62] [63] rfl rfl (by decide) (by decide) hk hF hB.1 hB.2 [1, 2, 3, 4, 5, 6, 7, 8, 9, 10, 11, 12, 13, 14, 15, 16, 17, 18, 19, 20, 21, 22, 23, 24, 25, 26, 27, 28, 29, 30, 31, 32, 33, 34, 35, 36, 37, 38, 39, 40, 41, 42, 43, 44, 45, 46, 47, 48, 49, 50, 51, 52, 53, 54, 55, 56, 57, 58, 59, 60, 61, 62, 63, 0] (by decide +kernel) rfl
  refine lv_i2l (v := r9.toInt64) hx hb dL_undo_6 rfl ?_
  replace h : some (0, u.2, vp_updL g0 0 r9.toInt64) = some r := h
  obtain rfl := Option.some.inj h
  refine va_last hx hb hK.1 hP hD hS 63 2 rfl rfl (show ¬ ((0 : Int32) < 0 ∨ 1 ≤ Int32.toNatClampNeg 0) from by decide) dL_undo_7 (fun H locs hP hD hS => ?_)
  rw [show Int32.toNatClampNeg 0 = 0 from by decide] at hP hD
  replace hP : va_P D vwCl (scW T h0 u.1 u.2 ++ ([(ho, .inl (T 2, 1, .inr (.inl (vp_updL g0 0 r9.toInt64))))] : va_W)) H := hP
  replace hD : va_D A (scW T h0 u.1 u.2 ++ ([(ho, .inl (T 2, 1, .inr (.inl (vp_updL g0 0 r9.toInt64))))] : va_W)) := hD
  refine lv_goto (tgt := 14) hx hb dL_undo_8 (by decide) ?_
  refine lv_iconst (v := 0) hx hb dL_undo_14 (by decide) ?_
  exact W.iret hx hb hr (fun t ht2 hW => ⟨⟨_, u.1, rfl, rfl, by rw [ht2]; exact hP, hD⟩, hS.F ht2⟩) hS.2.2 dL_undo_15 hlocks
