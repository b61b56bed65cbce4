/-! the scale's world and methods that throw -/
abbrev ZT : Type := Nat → St
abbrev AT : Type := Nat → Nat → Nat
abbrev exNm : List String := ["java/lang/RuntimeException", "java/lang/Exception"]
theorem exFit : ∀ n ∈ exNm, Bundle.fit n = true := by decide +kernel
def exCls : List String := ["java/lang/IllegalArgumentException", "java/lang/IllegalStateException", "java/lang/IndexOutOfBoundsException"]
def exW : List Cond := [.declares (Bundle.initS "java/lang/RuntimeException"), .declares (Bundle.initS "java/lang/Exception"), .declares (Bundle.initS Bundle.tN), .castable "java/lang/IllegalArgumentException" "java/lang/IllegalArgumentException", .castable "java/lang/IllegalStateException" "java/lang/IllegalStateException", .castable "java/lang/IndexOutOfBoundsException" "java/lang/IndexOutOfBoundsException"]
theorem exW_warm {s U : State} (hW : s.WarmedH U.vm) (h : ∀ w ∈ exW, va_Nw w s) : ∀ w ∈ exW, va_Nw w U := by
  have hD : ∀ n : String, va_Nw (.declares (Bundle.initS n)) s → va_Nw (.declares (Bundle.initS n)) U := fun n q => va_Nw.warmD hW q
  have hC : ∀ E : String, va_Nw (.castable E E) s → va_Nw (.castable E E) U := fun E q => va_Nw.warmC hW q
  simp only [exW, List.forall_mem_cons] at h ⊢
  exact ⟨hD _ h.1, hD _ h.2.1, hD _ h.2.2.1, hC _ h.2.2.2.1, hC _ h.2.2.2.2.1, hC _ h.2.2.2.2.2.1, fun _ q => absurd q List.not_mem_nil⟩
theorem exW_tabs : ∀ w ∈ exW, w.onTables = true := by decide +kernel
def strs : List (Nat × String) := [(32, "coins is out of range"), (55, "lies is out of range"), (95, "no such case"), (106, "no weighing"), (111, "the scale cannot answer"), (153, "what is out of range"), (164, "weighings is out of range"), (172, "no weighing, no answer, or weighings out of range"), (235, "there is no saved state")]
/-- what a throw needs of the start -/
def EXF (A : Nat → Prop) (U : State) : Prop := vx_Zq Bundle.tN "UNASSIGNED_STACK" Bundle.steD A U U.heap ∧ vx_Zq Bundle.tN "SUPPRESSED_SENTINEL" Bundle.listD A U U.heap ∧ (∀ q ∈ strs, ∃ sa, vk_R RX4 q.1 q.2 sa U) ∧ ∀ w ∈ exW, va_Nw w U
theorem EXF.calling {A : Nat → Prop} {U : State} {g : JFrame} {mk : MethodId} {a : Array Value} (h : EXF A U) : EXF A (U.calling g mk a) := by
  refine ⟨vx_Zq.moved (u := U) (U := U.calling g mk a) (Vm.Alike.refl U.vm) h.1, vx_Zq.moved (u := U) (U := U.calling g mk a) (Vm.Alike.refl U.vm) h.2.1, fun q hq => ?_, fun w hw => va_Nw.same (u := U) (U := U.calling g mk a) (exW_tabs w hw) rfl (h.2.2.2 w hw)⟩
  obtain ⟨sa, hs⟩ := h.2.2.1 q hq
  exact ⟨sa, vk_R.same (u := U) (U := U.calling g mk a) rfl hs⟩
theorem EXF.at {A0 A : Nat → Prop} {s U : State} {H : Heap} {locs : List Loc} (hE : EXF A0 s) (hS : va_S A0 s.heap H locs) (hAB : ∀ q, A q → A0 q) (hU : U.heap = H) (hW : s.WarmedH U.vm) : EXF A U := by
  refine ⟨?_, ?_, fun q hq => ?_, exW_warm hW hE.2.2.2⟩
  · rw [hU]; exact vx_Zq.narrow (vx_Zq.moved hW.alike (hE.1.kept hS.2.1)) hAB
  · rw [hU]; exact vx_Zq.narrow (vx_Zq.moved hW.alike (hE.2.1.kept hS.2.1)) hAB
  · obtain ⟨sa, hs⟩ := hE.2.2.1 q hq
    exact ⟨sa, vk_R.warm hW hs⟩
def PX (D : va_G) (T : Nat → ClassId) (wc : va_W) (sz : Nat) (U : State) : Prop := PM D T wc sz U ∧ EXF (va_A wc sz) U
theorem PX_blind {D : va_G} {T : Nat → ClassId} {wc : va_W} {sz : Nat} {av : List Value} : FrameBlind (va_Pc av (PX D T wc sz)) := fun _ _ _ _ q => ⟨q.1, ⟨q.2.1.1, q.2.1.2.1, q.2.1.2.2.1.calling, q.2.1.2.2.2⟩, q.2.2.calling⟩
theorem PX_at {D : va_G} {T : Nat → ClassId} {wc : va_W} {av : List Value} {s : State} {H : Heap} {locs : List Loc} {A A0 : Nat → Prop} (hP : va_P D vwCl wc H) (hD : va_D A wc) (hK : KK D T s) (hE : EXF A0 s) (hS : va_S A0 s.heap H locs) (hAB : ∀ q, va_A wc H.size q → A0 q) : ∀ U : State, U.heap = H → s.WarmedH U.vm → va_Pc av (PX D T wc H.size) av.toArray U := fun U hU hW => ⟨rfl, ⟨by rw [hU], by rw [hU]; exact hP, hK.warm hW, hD.weaken (fun _ _ _ _ => trivial)⟩, hE.at hS hAB hU hW⟩
def QXi (D : va_G) (W1 : AT → ZT → va_W) (r : Sum String (Int32 × ZT)) (A : Nat → Prop) : Array Value → State → Outcome → State → Prop := va_Qi (fun (v : Int32) (u : AT × ZT) => r = .inr (v, u.2)) (fun u t => va_P D vwCl (W1 u.1 u.2) t.heap ∧ va_D A (W1 u.1 u.2)) A
def QXl (D : va_G) (W1 : AT → ZT → va_W) (r : Sum String (Int64 × ZT)) (A : Nat → Prop) : Array Value → State → Outcome → State → Prop := va_Ql (fun (v : Int64) (u : AT × ZT) => r = .inr (v, u.2)) (fun u t => va_P D vwCl (W1 u.1 u.2) t.heap ∧ va_D A (W1 u.1 u.2)) A
def XXq {β : Type} (r : Sum String β) : String → State → State → Prop := vx_X (fun (_ : Unit) => True) (fun E _ _ => r = .inl E) (fun _ => False)
def QEi (D : va_G) (W1 : AT → ZT → va_W) (v : Int32) (z : ZT) (A : Nat → Prop) : Array Value → State → Outcome → State → Prop := va_Qi (fun (r : Int32) (_ : AT) => r = v) (fun u t => va_P D vwCl (W1 u z) t.heap ∧ va_D A (W1 u z)) A
def QEl (D : va_G) (W1 : AT → ZT → va_W) (v : Int64) (z : ZT) (A : Nat → Prop) : Array Value → State → Outcome → State → Prop := va_Ql (fun (r : Int64) (_ : AT) => r = v) (fun u t => va_P D vwCl (W1 u z) t.heap ∧ va_D A (W1 u z)) A
def QEd (D : va_G) (W1 : AT → ZT → va_W) (v : UInt64) (z : ZT) (A : Nat → Prop) : Array Value → State → Outcome → State → Prop := va_Qd (fun (r : UInt64) (_ : AT) => r = v) (fun u t => va_P D vwCl (W1 u z) t.heap ∧ va_D A (W1 u z)) A
def QEv (D : va_G) (W1 : AT → ZT → va_W) (z : ZT) (A : Nat → Prop) : Array Value → State → Outcome → State → Prop := va_Qv (fun (_ : AT) => True) (fun u t => va_P D vwCl (W1 u z) t.heap ∧ va_D A (W1 u z)) A
theorem met_ofX {l : Launch} {y : MethodName} {ws ws' : List Cond} {rm : Room} {av : List Value} {B : State → Prop} {Qc : Array Value → State → Outcome → State → Prop} {XC : String → State → State → Prop} {mc ms : Nat} {free : Addr → Prop} {cc : ByteArray} {maxL : Nat} {ret : Option FieldType} {lv : List (Nat × Value)}
    (hy : plainName y.cls = true) (hw : ws = Cond.code y cc maxL ret :: ws') (hn : (lg_sl av).length ≤ maxL) (hlv : lv_args 0 av = lv)
    (body : ∀ (p : Program) (e : Env) (s : State) (m : MethodId) (args : Array Value) (below : List Frame) (meth : Method) (c : Code) (ls : Array Slot), CX p s m args meth c cc maxL ret ws y → (∀ x ∈ c.exceptionTable.toList, False) → lv_has ls maxL lv → B s →
      W p l e rm s m args below meth c s.heap [] 0 0 (vx_MQ below Qc XC args s mc ms free) (F0 m 0 ls [])) : vx_Met l y ws rm (va_Pc av B) Qc XC mc ms free := by
  refine vx_ofW (cc := cc) (maxL := maxL) (ret := ret) hy hw ?_
  intro p e s m args below meth c s₁ C0 hml hno hv
  obtain ⟨rfl, hB⟩ := hv
  have hl := lv_entry av (n := maxL) hn
  rw [lg_entry_eq]
  rw [hlv] at hl
  exact body p e s m _ below meth c _ ⟨C0.exec, C0.bytes, C0.returns, hml, findClass_of_methodNamed C0.named, atoms_spec (ws := ws) C0.pre, C0.notSynchronized, (name_of_methodNamed C0.named C0.method).1⟩ hno hl hB
section SC
variable {p : Program} {l : Launch} {e : Env} {R : Room} {s : State} {m : MethodId} {args : Array Value} {below : List Frame} {meth : Method} {c : Code} {H : Heap} {locs : List Loc} {cells slots : Nat} {Q : State → Prop}
variable {pc : Nat} {ls : Array Slot} {rest st0 : List Value} {a : Array Value} {A0 : Nat → Prop} {H0 : Heap} {mc ms : Nat} {D : va_G} {wc : va_W} {W1 : AT → ZT → va_W} {z : ZT}
theorem va_self {A0 : Nat → Prop} {wc : va_W} {H0 H : Heap} {locs : List Loc} (hD : va_D A0 wc) (hS : va_S A0 H0 H locs) (hA : ∀ q, H0.size ≤ q → A0 q) : ∀ q, va_A wc H.size q → A0 q := by
  intro q h
  rcases h with ⟨k, e, h⟩ | h
  · exact hD.2 k (q, e) h
  · exact hA q (Nat.le_trans hS.1 h)
theorem callEi {v : Int32} (hr : va_Run p l e R s m args below meth c H locs cells slots mc ms (F0 m pc ls st0) rest (QEi D W1 v z (va_A wc H.size) a) (va_A wc H.size)) (hS : va_S A0 H0 H locs) (hA : ∀ q, H0.size ≤ q → A0 q) (hP : va_P D vwCl wc H) (hD : va_D A0 wc)
    (kk : ∀ (u : AT) (H1 : Heap) (locs1 : List Loc), va_P D vwCl (W1 u z) H1 → va_D A0 (W1 u z) → va_S A0 H0 H1 locs1 → W p l e R s m args below meth c H1 locs1 (cells + mc) (slots + ms) Q (F0 m (pc + 3) ls (.int v :: rest))) : W p l e R s m args below meth c H locs cells slots Q (F0 m pc ls st0) := by
  have hF := va_self hD hS hA
  refine va_calli hr hS (fun q _ h => hF q h) hF (fun r u t H1 locs ht hvm hw hB hz1 hk1 hS => ?_)
  subst hw
  rw [ht] at hB
  exact kk u H1 locs hB.1 (hB.2.weaken (fun k q _ h => hF q.1 h)) hS
theorem callEl {v : Int64} (hr : va_Run p l e R s m args below meth c H locs cells slots mc ms (F0 m pc ls st0) rest (QEl D W1 v z (va_A wc H.size) a) (va_A wc H.size)) (hS : va_S A0 H0 H locs) (hA : ∀ q, H0.size ≤ q → A0 q) (hP : va_P D vwCl wc H) (hD : va_D A0 wc)
    (kk : ∀ (u : AT) (H1 : Heap) (locs1 : List Loc), va_P D vwCl (W1 u z) H1 → va_D A0 (W1 u z) → va_S A0 H0 H1 locs1 → W p l e R s m args below meth c H1 locs1 (cells + mc) (slots + ms) Q (F0 m (pc + 3) ls (.long v :: rest))) : W p l e R s m args below meth c H locs cells slots Q (F0 m pc ls st0) := by
  have hF := va_self hD hS hA
  refine va_calll hr hS (fun q _ h => hF q h) hF (fun r u t H1 locs ht hvm hw hB hz1 hk1 hS => ?_)
  subst hw
  rw [ht] at hB
  exact kk u H1 locs hB.1 (hB.2.weaken (fun k q _ h => hF q.1 h)) hS
theorem callEd {v : UInt64} (hr : va_Run p l e R s m args below meth c H locs cells slots mc ms (F0 m pc ls st0) rest (QEd D W1 v z (va_A wc H.size) a) (va_A wc H.size)) (hS : va_S A0 H0 H locs) (hA : ∀ q, H0.size ≤ q → A0 q) (hP : va_P D vwCl wc H) (hD : va_D A0 wc)
    (kk : ∀ (u : AT) (H1 : Heap) (locs1 : List Loc), va_P D vwCl (W1 u z) H1 → va_D A0 (W1 u z) → va_S A0 H0 H1 locs1 → W p l e R s m args below meth c H1 locs1 (cells + mc) (slots + ms) Q (F0 m (pc + 3) ls (.double v :: rest))) : W p l e R s m args below meth c H locs cells slots Q (F0 m pc ls st0) := by
  have hF := va_self hD hS hA
  refine va_calld hr hS (fun q _ h => hF q h) hF (fun r u t H1 locs ht hvm hw hB hz1 hk1 hS => ?_)
  subst hw
  rw [ht] at hB
  exact kk u H1 locs hB.1 (hB.2.weaken (fun k q _ h => hF q.1 h)) hS
theorem callEv (hr : va_Run p l e R s m args below meth c H locs cells slots mc ms (F0 m pc ls st0) rest (QEv D W1 z (va_A wc H.size) a) (va_A wc H.size)) (hS : va_S A0 H0 H locs) (hA : ∀ q, H0.size ≤ q → A0 q) (hP : va_P D vwCl wc H) (hD : va_D A0 wc)
    (kk : ∀ (u : AT) (H1 : Heap) (locs1 : List Loc), va_P D vwCl (W1 u z) H1 → va_D A0 (W1 u z) → va_S A0 H0 H1 locs1 → W p l e R s m args below meth c H1 locs1 (cells + mc) (slots + ms) Q (F0 m (pc + 3) ls rest)) : W p l e R s m args below meth c H locs cells slots Q (F0 m pc ls st0) := by
  have hF := va_self hD hS hA
  refine va_callv hr hS (fun q _ h => hF q h) hF (fun u t H1 locs ht hvm hw hB hz1 hk1 hS => ?_)
  rw [ht] at hB
  exact kk u H1 locs hB.1 (hB.2.weaken (fun k q _ h => hF q.1 h)) hS
/-- an answer that is a reference and writes nothing -/
def QRa (v : Value) : Array Value → State → Outcome → State → Prop := fun _ st o t => o = .returned (some v) ∧ t.heap = st.heap
theorem callRa {v : Value} (hr : va_Run p l e R s m args below meth c H locs cells slots 0 0 (F0 m pc ls st0) rest (QRa v a) (fun _ => False))
    (kk : W p l e R s m args below meth c H locs cells slots Q (F0 m (pc + 3) ls (v :: rest))) : W p l e R s m args below meth c H locs cells slots Q (F0 m pc ls st0) := by
  intro T hT X
  obtain ⟨v', st₀, t, T', L, h0, X', hL, e1, -, ⟨hv, hh⟩, st⟩ := hr T hT X
  cases hv
  obtain ⟨t2, a1, b1⟩ := kk T' (by rw [e1, hh, h0]) (Stand.forget X' (fun q h => (hL q h).elim))
  exact ⟨t2, st t2 a1, b1⟩
theorem eqa {x y : Value} (h : x = y) (kk : W p l e R s m args below meth c H locs cells slots Q (F0 m pc ls (y :: rest))) : W p l e R s m args below meth c H locs cells slots Q (F0 m pc ls (x :: rest)) := h ▸ kk
end SC
def exb34 : List Cond := [.declares (Bundle.initS "java/lang/RuntimeException"), .declares (Bundle.initS "java/lang/Exception"), .declares (Bundle.initS Bundle.tN), .castable "java/lang/IllegalArgumentException" "java/lang/IllegalArgumentException"]
theorem bad_34 : ∀ w ∈ (vx_atS RX4 34 "java/lang/IllegalArgumentException" ["java/lang/RuntimeException", "java/lang/Exception"]).filter (fun w => !goodWord w), w ∈ exb34 := by decide +kernel
theorem exB34 {args : Array Value} {s : State} (h : ∀ w ∈ exW, va_Nw w s) : ∀ w ∈ exb34, w.before args s = true := fun w hw => va_Nw.use (exW_tabs w ((by decide +kernel : ∀ w ∈ exb34, w ∈ exW) w hw)) (h w ((by decide +kernel : ∀ w ∈ exb34, w ∈ exW) w hw))
theorem ot_34 : ∀ w ∈ Cond.classLink RX4 30 "java/lang/IllegalArgumentException" :: Cond.initialized "java/lang/IllegalArgumentException" :: vx_atS RX4 34 "java/lang/IllegalArgumentException" ["java/lang/RuntimeException", "java/lang/Exception"], vx_ot w = true := by decide +kernel
def exb82 : List Cond := [.declares (Bundle.initS "java/lang/RuntimeException"), .declares (Bundle.initS "java/lang/Exception"), .declares (Bundle.initS Bundle.tN), .castable "java/lang/IllegalStateException" "java/lang/IllegalStateException"]
theorem bad_82 : ∀ w ∈ (vx_atS RX4 82 "java/lang/IllegalStateException" ["java/lang/RuntimeException", "java/lang/Exception"]).filter (fun w => !goodWord w), w ∈ exb82 := by decide +kernel
theorem exB82 {args : Array Value} {s : State} (h : ∀ w ∈ exW, va_Nw w s) : ∀ w ∈ exb82, w.before args s = true := fun w hw => va_Nw.use (exW_tabs w ((by decide +kernel : ∀ w ∈ exb82, w ∈ exW) w hw)) (h w ((by decide +kernel : ∀ w ∈ exb82, w ∈ exW) w hw))
theorem ot_82 : ∀ w ∈ Cond.classLink RX4 78 "java/lang/IllegalStateException" :: Cond.initialized "java/lang/IllegalStateException" :: vx_atS RX4 82 "java/lang/IllegalStateException" ["java/lang/RuntimeException", "java/lang/Exception"], vx_ot w = true := by decide +kernel
def exb97 : List Cond := [.declares (Bundle.initS "java/lang/RuntimeException"), .declares (Bundle.initS "java/lang/Exception"), .declares (Bundle.initS Bundle.tN), .castable "java/lang/IndexOutOfBoundsException" "java/lang/IndexOutOfBoundsException"]
theorem bad_97 : ∀ w ∈ (vx_atS RX4 97 "java/lang/IndexOutOfBoundsException" ["java/lang/RuntimeException", "java/lang/Exception"]).filter (fun w => !goodWord w), w ∈ exb97 := by decide +kernel
theorem exB97 {args : Array Value} {s : State} (h : ∀ w ∈ exW, va_Nw w s) : ∀ w ∈ exb97, w.before args s = true := fun w hw => va_Nw.use (exW_tabs w ((by decide +kernel : ∀ w ∈ exb97, w ∈ exW) w hw)) (h w ((by decide +kernel : ∀ w ∈ exb97, w ∈ exW) w hw))
theorem ot_97 : ∀ w ∈ Cond.classLink RX4 93 "java/lang/IndexOutOfBoundsException" :: Cond.initialized "java/lang/IndexOutOfBoundsException" :: vx_atS RX4 97 "java/lang/IndexOutOfBoundsException" ["java/lang/RuntimeException", "java/lang/Exception"], vx_ot w = true := by decide +kernel
def rotA (A : AT) : AT := fun k => if k = 1 then A 2 else if k = 2 then A 3 else if k = 3 then A 4 else if k = 4 then A 1 else A k
def rotZ (Z : ZT) : ZT := fun k => if k = 1 then Z 2 else if k = 2 then Z 3 else if k = 3 then Z 4 else if k = 4 then Z 1 else Z k
theorem rot_q (A : AT) : va_up (va_up (va_up (va_up (hsQ A) 0 (some (A 2 0))) 1 (some (A 3 0))) 2 (some (A 4 0))) 3 (some (A 1 0)) = hsQ (rotA A) := by
  funext i
  match i with
  | 0 => rfl
  | 1 => rfl
  | 2 => rfl
  | 3 => rfl
  | i + 4 =>
    have h : ¬ i + 4 < 4 := by omega
    simp [va_up, hsQ, h]
section SW
variable {p : Program} {l : Launch} {e : Env} {R : Room} {s : State} {m : MethodId} {args : Array Value} {below : List Frame} {meth : Method} {c : Code} {H : Heap} {locs : List Loc} {cells slots : Nat} {Q : State → Prop}
variable {pc : Nat} {ls : Array Slot} {rest st0 : List Value} {a : Array Value} {A0 : Nat → Prop} {H0 : Heap} {mc ms : Nat} {D : va_G} {wc w1 : va_W}
theorem callWv (hr : va_Run p l e R s m args below meth c H locs cells slots mc ms (F0 m pc ls st0) rest (QMv D w1 (va_A wc H.size) a) (va_A wc H.size)) (hS : va_S A0 H0 H locs) (hA : ∀ q, H0.size ≤ q → A0 q) (hP : va_P D vwCl wc H) (hD : va_D A0 wc)
    (kk : ∀ (H1 : Heap) (locs1 : List Loc), va_P D vwCl w1 H1 → va_D A0 w1 → va_S A0 H0 H1 locs1 → W p l e R s m args below meth c H1 locs1 (cells + mc) (slots + ms) Q (F0 m (pc + 3) ls rest)) : W p l e R s m args below meth c H locs cells slots Q (F0 m pc ls st0) := by
  have hF := va_self hD hS hA
  refine va_callv hr hS (fun q _ h => hF q h) hF (fun u t H1 locs ht hvm hw hB hz1 hk1 hS => ?_)
  rw [ht] at hB
  exact kk H1 locs hB.1 (hB.2.weaken (fun k q _ h => hF q.1 h)) hS
end SW
def F_X0_stateAt (v1 : Int32) : Option Nat := if v1 < 0 then none else if 4 ≤ v1 then none else some v1.toNatClampNeg
theorem inX0_stateAt_0 : ∀ w ∈ u_ws RX0 TX0 2, w ∈ wsX0_stateAt := by decide +kernel
theorem hdV_X0_stateAt : yX0_stateAt.cls = RX0 ∧ yX0_stateAt.cls ≠ "java/lang/invoke/MethodHandle" ∧ yX0_stateAt.cls ≠ "java/lang/invoke/VarHandle" ∧ (parseMethodDescriptor yX0_stateAt.desc).map (fun d => d.parameters.length) = some 1 := by decide +kernel
set_option maxHeartbeats 4000000 in
set_option maxRecDepth 100000 in
theorem c_X0_stateAt (l : Launch) (D : va_G) (T : Nat → ClassId) (h0 : Nat) (A0 : AT) (Z0 : ZT) (v1 : Int32) (r : Nat) (h : F_X0_stateAt v1 = some r) : Met l yX0_stateAt wsX0_stateAt ({ frames := 0, cells := 0, slots := 0, locals := 0 } : Room) (va_Pc [.ref (A0 6 1), .int v1] (PB D T (scW T h0 A0 Z0))) (QRa (.ref (A0 (1 + r) 0))) 0 0 (fun _ => False) := by
  refine met_of (cc := cX0_stateAt) (maxL := 2) (ret := (some (.object "LyingScale$State"))) (lv := [(0, .ref (A0 6 1)), (1, .int v1)]) (by decide) rfl (Nat.le_of_ble_eq_true rfl) rfl ?_
  intro p e s m args below meth c ls C0 hl hB
  obtain ⟨hx, hb, hr, hml, hown, hts, hlocks, hname⟩ := C0
  obtain ⟨hP, hK⟩ := hB
  unfold F_X0_stateAt at h
  refine lv_iload_n hx hb dX0_stateAt_0 rfl (lv_at hl 1 rfl) ?_
  refine lv_if_lt (tgt := 22) hx hb dX0_stateAt_1 (by decide) (fun c1 => ?_) (fun c1 => ?_)
  · replace h := ip c1 h
    cases h
  replace h := im c1 h
  refine lv_iload_n hx hb dX0_stateAt_4 rfl (lv_at hl 1 rfl) ?_
  refine lv_aload_n hx hb dX0_stateAt_5 rfl (lv_at hl 0 rfl) ?_
  refine va_get (D := D) (ci := 0) (v := .ref (A0 6 2)) (C := RX0) (T := TX0) (N := 2) hx hb hts inX0_stateAt_0 hown hK.1 hP 1 rfl rfl 0 (by decide) (hts (.fieldLink RX0 11 "LyingScale$History" "states" "[LLyingScale$State;") (List.mem_of_getElem? (i := 1) rfl)) (fun _ h9 => h9) rfl dX0_stateAt_6 ?_
  refine va_alen hx hb hK.1 hP 2 3 rfl rfl (v := 4) rfl dX0_stateAt_9 ?_
  refine lv_icmp_ge (tgt := 22) hx hb dX0_stateAt_10 (by decide) (fun c2 => ?_) (fun c2 => ?_)
  · replace h := ip c2 h
    cases h
  replace h := im c2 h
  refine lv_aload_n hx hb dX0_stateAt_13 rfl (lv_at hl 0 rfl) ?_
  refine va_get (D := D) (ci := 0) (v := .ref (A0 6 2)) (C := RX0) (T := TX0) (N := 2) hx hb hts inX0_stateAt_0 hown hK.1 hP 1 rfl rfl 0 (by decide) (hts (.fieldLink RX0 11 "LyingScale$History" "states" "[LLyingScale$State;") (List.mem_of_getElem? (i := 1) rfl)) (fun _ h9 => h9) rfl dX0_stateAt_14 ?_
  refine lv_iload_n hx hb dX0_stateAt_17 rfl (lv_at hl 1 rfl) ?_
  have hin : vp_in v1 4 := vin (n := 4) (by decide) c1 c2
  have hlt : v1.toNatClampNeg < 4 := Nat.not_le.mp (fun q => hin (Or.inr q))
  refine va_aldq hx hb hK.1 hP 2 3 rfl rfl hin dX0_stateAt_18 ?_
  obtain rfl := Option.some.inj h
  refine eqa (y := .ref (A0 (1 + v1.toNatClampNeg) 0)) (by simp [hsQ, hlt, va_rf]) ?_
  refine lv_goto (tgt := 23) hx hb dX0_stateAt_19 (by decide) ?_
  exact W.aret hx hb hr (Or.inl ⟨_, rfl⟩) (Or.inr ⟨_, rfl⟩) (fun t ht hW => ⟨rfl, ht⟩) (fun q hq => absurd hq List.not_mem_nil) dX0_stateAt_23 hlocks
