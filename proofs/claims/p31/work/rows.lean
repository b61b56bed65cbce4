section
-- ===== PART A: goes FIRST, ahead of the names: the tables' words, and 'selects' of the private methods out of them =====
/-- a private method of a class that the tables say can be made, by its rows of tables_1 -/
def lw_okq (q : MethodName × Nat) : Prop := (q.1.cls ≠ "java/lang/invoke/MethodHandle" ∧ q.1.cls ≠ "java/lang/invoke/VarHandle") ∧ Cond.instantiable q.1.cls q.2 ∈ tables_1 ∧ Cond.privateMethod q.1 ∈ tables_1 ∧ Cond.instanceMethod q.1 ∈ tables_1
theorem lw_p0 : lw_okq (⟨"LyingScale$History", "dropOldest", "()V"⟩, 2) := ⟨⟨by decide +kernel, by decide +kernel⟩, List.mem_of_getElem? (i := 102) (by decide +kernel), List.mem_of_getElem? (i := 166) (by decide +kernel), List.mem_of_getElem? (i := 167) (by decide +kernel)⟩
theorem lw_p1 : lw_okq (⟨"LyingScale$History", "stateAt", "(I)LLyingScale$State;"⟩, 2) := ⟨⟨by decide +kernel, by decide +kernel⟩, List.mem_of_getElem? (i := 102) (by decide +kernel), List.mem_of_getElem? (i := 170) (by decide +kernel), List.mem_of_getElem? (i := 171) (by decide +kernel)⟩
theorem lw_p2 : lw_okq (⟨"java/lang/Throwable", "fillInStackTrace", "(I)Ljava/lang/Throwable;"⟩, 6) := ⟨⟨by decide +kernel, by decide +kernel⟩, List.mem_of_getElem? (i := 255) (by decide +kernel), List.mem_of_getElem? (i := 253) (by decide +kernel), List.mem_of_getElem? (i := 254) (by decide +kernel)⟩
theorem lw_p3 : lw_okq (⟨"LyingScale$State", "volumeLeft", "(II)J"⟩, 9) := ⟨⟨by decide +kernel, by decide +kernel⟩, List.mem_of_getElem? (i := 24) (by decide +kernel), List.mem_of_getElem? (i := 452) (by decide +kernel), List.mem_of_getElem? (i := 453) (by decide +kernel)⟩
def lw_privs_1 : List (MethodName × Nat) := [(⟨"LyingScale$History", "dropOldest", "()V"⟩, 2), (⟨"LyingScale$History", "stateAt", "(I)LLyingScale$State;"⟩, 2), (⟨"java/lang/Throwable", "fillInStackTrace", "(I)Ljava/lang/Throwable;"⟩, 6), (⟨"LyingScale$State", "volumeLeft", "(II)J"⟩, 9)]
theorem lw_r1 : ∀ q ∈ lw_privs_1, lw_okq q := List.forall_mem_cons.mpr ⟨lw_p0, List.forall_mem_cons.mpr ⟨lw_p1, List.forall_mem_cons.mpr ⟨lw_p2, List.forall_mem_cons.mpr ⟨lw_p3, fun _ h => absurd h List.not_mem_nil⟩⟩⟩⟩
def lw_privs : List (MethodName × Nat) := lw_privs_1
def lw_tbl : List Cond := k2_sels lw_privs ++ tables_1
theorem lw_privs_ok : ∀ q ∈ lw_privs, lw_okq q := lw_r1
end
section
/-! ===== BEGIN words of one list among another's, by their places ===== -/
theorem goodIn_r {big : List Cond} (ws : List Cond) (ps : List Nat) (hp : ws = ps.filterMap (fun i => big[i]?)) (h : ws.all goodWord = true) : GoodIn big ws := by
  intro w hw
  have h1 := List.all_eq_true.mp h w hw
  rw [hp] at hw
  obtain ⟨i, -, hi⟩ := List.mem_filterMap.mp hw
  have hm : w ∈ big := by first | exact List.mem_of_getElem? hi | exact List.getElem?_mem hi
  exact ⟨hm, good_of_word h1⟩
theorem goodIn_app {big a b : List Cond} (ha : GoodIn big a) (hb : GoodIn big b) : GoodIn big (a ++ b) := fun w h => (List.mem_append.mp h).elim (ha w) (hb w)
theorem goodIn_ca {big a b : List Cond} {c : Cond} (ha : GoodIn big (c :: a)) (hb : GoodIn big b) : GoodIn big (c :: (a ++ b)) := fun w h => (List.mem_cons.mp h).elim (fun e => ha w (List.mem_cons.mpr (Or.inl e))) (fun h => (List.mem_append.mp h).elim (fun h => ha w (List.mem_cons.mpr (Or.inr h))) (hb w))
theorem goodIn_sub {big ws : List Cond} (hm : ∀ w ∈ ws, w ∈ big) (h : ws.all goodWord = true) : GoodIn big ws := fun w hw => ⟨hm w hw, good_of_word (List.all_eq_true.mp h w hw)⟩
/-! ===== END ===== -/

/-! ===== BEGIN exceptions that leave a method, and their catching by the caller (launches without stack traces) ===== -/
section VXA
/-! The laws vx_back, vx_callV, vx_callS, vx_callSW, vx_throw0, vx_throwS follow proofs of the library, with one case more: JvmDerived/Free/Laws.lean (Back.of_free), Shelf42/LK1.lean (callV, callS), Shelf/KitTraced.lean (throwNew0V, throwNewS). -/
/-- where a method has thrown q: the class by its name, the cell, what was written, the world -/
def vx_T (XC : String → State → State → Prop) (st : State) (q : Addr) (t : State) (mc ms : Nat) (free : Addr → Prop) : Prop :=
  ∃ (E : String) (ce : Cell) (L : List Loc), XC E st t ∧ t.heap[q]? = some ce ∧ ce.vm = .none ∧ st.vm.findClass E = some ce.cls ∧ st.WarmedH t.vm ∧ st.sameButNew ({ t with vm := st.vm } : State) L mc ms ∧ ∀ z ∈ L, free z.base
def vx_Q (Qc : Array Value → State → Outcome → State → Prop) (XC : String → State → State → Prop) (mc ms : Nat) (free : Addr → Prop) : Array Value → State → Outcome → State → Prop := fun a st o t =>
  (Qc a st o t ∧ ∃ L, FrameEnd st o t L mc ms ∧ ∀ q ∈ L, free q.base) ∨ ∃ q, o = .threw q ∧ vx_T XC st q t mc ms free
/-- a callee that returns or throws -/
def vx_Met (l : Launch) (y : MethodName) (ws : List Cond) (rm : Room) (Pc : Array Value → State → Prop) (Qc : Array Value → State → Outcome → State → Prop) (XC : String → State → State → Prop) (mc ms : Nat) (free : Addr → Prop) : Prop :=
  MetFree l y (headSpec ws rm) Pc (fun _ _ _ _ _ => True) (vx_Q Qc XC mc ms free)
def vx_Post (XC : String → State → State → Prop) (mc ms : Nat) (free : Addr → Prop) : Pt → Array Value → Addr → Pt → Prop := fun A a q B =>
  ∃ (g : JFrame) (mk : MethodId) (t : State) (L : List Loc) (E : String) (ce : Cell), B.U.heap = t.heap ∧ B.U.vm = t.vm ∧ XC E (A.U.calling g mk a) t ∧ t.heap[q]? = some ce ∧ ce.vm = .none ∧ A.U.vm.findClass E = some ce.cls ∧ B.locs = A.locs ++ L ∧ (∀ z ∈ L, free z.base) ∧ B.cells = A.cells + mc ∧ B.slots = A.slots + ms
def vx_Back (l : Launch) (R : Room) (p : Program) (e : Env) (below : List Frame) (s : State) (sargs : Array Value) (y : MethodName) (len W9 : Nat)
    (Pre : Pt → Array Value → Prop) (Post : Pt → Array Value → Option Value → Pt → Prop) (PostX : Pt → Array Value → Addr → Pt → Prop) : Prop :=
  ∀ (m : MethodId) (meth : Method) (c : Code) (A : Pt) (g : JFrame) (ig : Instr) (mk : MethodId) (a : Array Value),
    Stand p l e R s m sargs below meth c A.U A.locs A.cells A.slots → g.method = m → g.locals.size = c.maxLocals → decode c.code g.pc = .ok (ig, len) →
    2 * g.monitorRoom + (g.stack.map fun v => v.category).sum ≤ W9 → A.U.methodNamed? y = some mk → Pre A a →
    (∃ (v : Option Value) (B : Pt), Stand p l e R s m sargs below meth c B.U B.locs B.cells B.slots ∧ Post A a v B ∧
      Steps p.tables e below (doInvoke e (A.U.setTop g) [] mk a).1 (B.U.setTop { g with pc := g.pc + len, stack := v.toList ++ g.stack })) ∨
    (∃ (q : Addr) (B : Pt), Stand p l e R s m sargs below meth c B.U B.locs B.cells B.slots ∧ PostX A a q B ∧
      Steps p.tables e below (doInvoke e (A.U.setTop g) [] mk a).1 ((B.U.setTop g).pushFrame (.throwing q)))
section Payer
variable {l : Launch} {R : Room} {p : Program} {e : Env} {below : List Frame} {s : State} {sargs : Array Value} {y : MethodName} {len W9 : Nat}
theorem vx_back {ws : List Cond} {rm : Room} {Pc : Array Value → State → Prop} {Qc : Array Value → State → Outcome → State → Prop} {XC : String → State → State → Prop} {mc ms : Nat} {free : Addr → Prop} {bytes : ByteArray} {maxL : Nat} {ret : Option FieldType}
    (hM : vx_Met l y ws rm Pc Qc XC mc ms free) (hblind : FrameBlind Pc) (hrc : rm.cells = mc) (hrs : rm.slots = ms)
    (hframes : rm.frames + 1 ≤ R.frames) (hlocals : W9 + (maxL + 11) + rm.locals ≤ R.locals)
    (hws : ∀ w ∈ ws, ∀ a' U, s.WarmedH U.vm → w.before a' U = true) (hcode : Cond.code y bytes maxL ret ∈ ws) (hinit : ∀ a' U, s.WarmedH U.vm → (Cond.initialized y.cls).before a' U = true) :
    vx_Back l R p e below s sargs y len W9 (PreOf R mc ms Pc) (PostOf Qc mc ms free) (vx_Post XC mc ms free) := by
  intro m meth c A g ig mk a X hg hsize hdg hW hn hp
  have h1 : (headSpec ws rm).pre.before a A.U = true := atoms_intro fun w hw => hws w hw _ _ X.warmed
  have h2 : (Cond.code y bytes maxL ret).before a A.U = true := hws _ hcode _ _ X.warmed
  have h3 : (Cond.initialized y.cls).before a A.U = true := hinit _ _ X.warmed
  have h4 : A.cells + (headSpec ws rm).room.cells ≤ R.cells := by rw [show (headSpec ws rm).room.cells = mc from hrc]; exact hp.1
  have h5 : A.slots + (headSpec ws rm).room.slots ≤ R.slots := by rw [show (headSpec ws rm).room.slots = ms from hrs]; exact hp.2.1
  have hPc : Pc a (A.U.calling g mk a) := hblind _ _ _ _ hp.2.2
  obtain ⟨U, Ls, c0, s0⟩ := A
  dsimp only [Pt.U, Pt.locs, Pt.cells, Pt.slots] at h1 h2 h3 h4 h5 X hn hPc ⊢
  obtain ⟨methY, cY, hmY, hcY, -, hlY, -, -, -, -⟩ := Cond.code_spec hn h2
  obtain ⟨kY, hkY, -⟩ := className_of_methodNamed hn
  have hinitY : kY.init = .initialized := Cond.initialized_spec (findClass_of_methodNamed hn) hkY h3
  have h : At U g.method c below := by rw [hg]; exact X.here
  have hlocals9 : W9 + (maxL + 11) + (headSpec ws rm).room.locals ≤ R.locals := hlocals
  have happ : (headSpec ws rm).appliesLoose y e.platform (U.calling g mk a) = true :=
    Spec.appliesLoose_calling (g := g) h hdg hn hkY hinitY
      (X.room_calling (g := g) (R' := (headSpec ws rm).room) hsize hmY hcY hframes (by rw [hlY]; omega) h4 h5) h1
  obtain ⟨mid, hmid⟩ := h.above
  have hfr : (U.setTop g).frames = (.java g :: mid) ++ below := by rw [State.frames_setTop' g h.top, hmid]; rfl
  obtain ⟨o, s₂, hsteps, -, hend, hq⟩ := Steps.callFree hM p X.admits X.cas X.clock (acts := []) hfr happ hPc trivial
  have hq' : vx_Q Qc XC mc ms free a (U.calling g mk a) o s₂ := hq
  rw [State.frames_setTop' g h.top] at hend
  obtain ⟨g₀, hg0⟩ := Option.isSome_iff_exists.mp h.top
  obtain ⟨r, hr⟩ := State.topJava?_eq_some.mp hg0
  have hr' : (({ U with heap := s₂.heap, slotsUsed := s₂.slotsUsed } : State).setVm s₂.vm).frames = .java g₀ :: r := hr
  rcases hq' with ⟨hqc, L, hfe, hL⟩ | ⟨q, rfl, E, ce, L, hx, hce, hcv, hcl, hW₂, hsm, hL⟩
  · obtain ⟨⟨v, rfl⟩, hW₂, e2, q2, q3, q4, q5, q6⟩ := id hfe
    have e3 : s₂ = ({ (U.calling g mk a).setFrames s₂.frames with heap := s₂.heap, slotsUsed := s₂.slotsUsed } : State).setVm s₂.vm := by
      have : s₂ = ({ s₂ with vm := (U.calling g mk a).vm } : State).setVm s₂.vm := rfl
      rw [e2] at this
      exact this
    obtain ⟨c₂, i₂, len₂, hc₂, hd₂, hf₂⟩ := hend
    have hW' : U.WarmedH s₂.vm := hW₂
    have hcc : c₂ = c := by
      have h1 : s₂.code? g.method = U.code? g.method := by
        rw [State.code?_eq, State.code?_eq, hW'.alike.method?]
      exact Option.some.inj (hc₂.symm.trans (h1.trans h.code))
    subst hcc
    have hlen : len₂ = len := by rw [hdg] at hd₂; cases hd₂; rfl
    subst hlen
    have hs₂ : s₂ = (({ U with heap := s₂.heap, slotsUsed := s₂.slotsUsed } : State).setVm s₂.vm).setTop { g with pc := g.pc + len₂, stack := v.toList ++ g.stack } := by
      refine e3.trans ?_
      rw [hf₂, State.calling_eq h.top, State.setFrames_setFrames, State.setTop_of_frames _ hr', hr]
      rfl
    have hsame : U.sameButNew ({ U with heap := s₂.heap, slotsUsed := s₂.slotsUsed } : State) L mc ms := by
      refine ⟨?_, q2, q3, q4, q5, q6⟩
      obtain ⟨t, ht, -⟩ := State.frames_cons hr
      show ({ U with heap := s₂.heap, slotsUsed := s₂.slotsUsed } : State) = { U.setFrames U.frames with heap := s₂.heap, slotsUsed := s₂.slotsUsed }
      rw [State.setFrames_self ht]
    subst hg
    refine Or.inl ⟨v, ⟨(({ U with heap := s₂.heap, slotsUsed := s₂.slotsUsed } : State).setVm s₂.vm), Ls ++ L, c0 + mc, s0 + ms⟩,
      ⟨X.admits, X.cas, X.clock, X.frames, X.room, X.hears, X.method, X.code, (X.here.setHeapUsed s₂.heap s₂.slotsUsed).setVm hW'.alike, X.tail, State.WarmedH.trans X.warmed hW', X.limits, X.bytes, X.same.trans (hsame.setVm s.vm)⟩,
      ⟨g, mk, s₂, L, rfl, rfl, hqc, rfl, hL, rfl, rfl⟩, ?_⟩
    show Steps p.tables e below _ ((({ U with heap := s₂.heap, slotsUsed := s₂.slotsUsed } : State).setVm s₂.vm).setTop { g with pc := g.pc + len₂, stack := v.toList ++ g.stack })
    rw [← hs₂]
    exact hsteps
  · obtain ⟨e2, q2, q3, q4, q5, q6⟩ := id hsm
    have e3 : s₂ = ({ (U.calling g mk a).setFrames s₂.frames with heap := s₂.heap, slotsUsed := s₂.slotsUsed } : State).setVm s₂.vm := by
      have : s₂ = ({ s₂ with vm := (U.calling g mk a).vm } : State).setVm s₂.vm := rfl
      rw [e2] at this
      exact this
    have hf₂ : s₂.frames = .throwing q :: .java g :: U.frames.tail := hend
    have hW' : U.WarmedH s₂.vm := hW₂
    have hs₂ : s₂ = ((({ U with heap := s₂.heap, slotsUsed := s₂.slotsUsed } : State).setVm s₂.vm).setTop g).pushFrame (.throwing q) := by
      refine e3.trans ?_
      rw [hf₂, State.calling_eq h.top, State.setFrames_setFrames, State.pushFrame, State.frames_setTop _ hr', State.setTop_of_frames _ hr', State.setFrames_setFrames, hr]
      rfl
    have hsame : U.sameButNew ({ U with heap := s₂.heap, slotsUsed := s₂.slotsUsed } : State) L mc ms := by
      refine ⟨?_, q2, q3, q4, q5, q6⟩
      obtain ⟨t, ht, -⟩ := State.frames_cons hr
      show ({ U with heap := s₂.heap, slotsUsed := s₂.slotsUsed } : State) = { U.setFrames U.frames with heap := s₂.heap, slotsUsed := s₂.slotsUsed }
      rw [State.setFrames_self ht]
    subst hg
    refine Or.inr ⟨q, ⟨(({ U with heap := s₂.heap, slotsUsed := s₂.slotsUsed } : State).setVm s₂.vm), Ls ++ L, c0 + mc, s0 + ms⟩,
      ⟨X.admits, X.cas, X.clock, X.frames, X.room, X.hears, X.method, X.code, (X.here.setHeapUsed s₂.heap s₂.slotsUsed).setVm hW'.alike, X.tail, State.WarmedH.trans X.warmed hW', X.limits, X.bytes, X.same.trans (hsame.setVm s.vm)⟩,
      ⟨g, mk, s₂, L, E, ce, rfl, rfl, hx, hce, hcv, hcl, rfl, hL, rfl, rfl⟩, ?_⟩
    show Steps p.tables e below _ (((({ U with heap := s₂.heap, slotsUsed := s₂.slotsUsed } : State).setVm s₂.vm).setTop g).pushFrame (.throwing q))
    rw [← hs₂]
    exact hsteps
end Payer
section Calls
variable {p : Program} {l : Launch} {e : Env} {R : Room} {s : State} {m : MethodId} {args : Array Value} {below : List Frame} {meth : Method} {c : Code} {T : State} {locs : List Loc} {cells slots : Nat}
theorem vx_callV (X : Stand p l e R s m args below meth c T locs cells slots) (hexec : p.tables.exec = Jvm.exec) {own C : String} {index : Nat} {y : MethodName} {bytes : ByteArray} {maxL : Nat} {ret : Option FieldType}
    (hown : s.vm.findClass own = some m.cls) (hlink : (Cond.methodLink own index y).before args s = true) (hinst : (Cond.instanceMethod y).before args s = true) (hsel : (Cond.selects C y y).before args s = true)
    (hcode : (Cond.code y bytes maxL ret).before args s = true) (hy : y.cls ≠ "java/lang/invoke/MethodHandle" ∧ y.cls ≠ "java/lang/invoke/VarHandle")
    {W9 : Nat} {Pre : Pt → Array Value → Prop} {Post : Pt → Array Value → Option Value → Pt → Prop} {PostX : Pt → Array Value → Addr → Pt → Prop} (hK : vx_Back l R p e below s args y 3 W9 Pre Post PostX)
    {b : Addr} {cellB : Cell} (hcell : T.heap[b]? = some cellB) (hobj : cellB.vm.isStatics = false) (hcls : s.vm.findClass C = some cellB.cls)
    {g : JFrame} (hg : g.method = m) (hsize : g.locals.size = c.maxLocals) {argsL rest : List Value} (hlen : ∀ sig, parseMethodDescriptor y.desc = some sig → argsL.length = sig.parameters.length)
    (hstack : g.stack = argsL.reverse ++ .ref b :: rest) (hW : 2 * g.monitorRoom + (rest.map fun v => v.category).sum ≤ W9) (hdg : decode c.code g.pc = .ok (.invokevirtual index, 3))
    (hpre : ∀ vm₁, s.WarmedH vm₁ → Pre ⟨T.setVm vm₁, locs, cells, slots⟩ (Value.ref b :: argsL).toArray) :
    (∃ (v : Option Value) (vm₁ : Vm) (B : Pt), s.WarmedH vm₁ ∧ Stand p l e R s m args below meth c B.U B.locs B.cells B.slots ∧ Post ⟨T.setVm vm₁, locs, cells, slots⟩ (Value.ref b :: argsL).toArray v B ∧
      ∀ target, Steps p.tables e below (B.U.setTop { g with pc := g.pc + 3, stack := v.toList ++ rest }) target → Steps p.tables e below (T.setTop g) target) ∨
    (∃ (q : Addr) (vm₁ : Vm) (B : Pt), s.WarmedH vm₁ ∧ Stand p l e R s m args below meth c B.U B.locs B.cells B.slots ∧ PostX ⟨T.setVm vm₁, locs, cells, slots⟩ (Value.ref b :: argsL).toArray q B ∧
      Steps p.tables e below (T.setTop g) ((B.U.setTop { g with stack := rest }).pushFrame (.throwing q))) := by
  obtain ⟨mk, methM, hnamed, hmethM, hstM, habM⟩ := Cond.instanceMethod_spec hinst
  obtain ⟨methM', cM, hmethM', -, -, -, -, -, -, hsigM⟩ := Cond.code_spec hnamed hcode
  cases hmethM.symm.trans hmethM'
  obtain ⟨c2, r2, m2, q1, q2, q3, q4, kP, hkP, hkPi⟩ := Cond.selects_spec hsel
  cases hcls.symm.trans q1
  cases (State.methodFound?_of_named hnamed hy).symm.trans q2
  cases hnamed.symm.trans q3
  have hselP : selectMethod e.platform s.vm cellB.cls mk = .method mk := by rw [Launch.admits_selectMethod X.admits]; exact q4
  obtain ⟨vm₁, X₁, hstep₁⟩ := X.invokevirtual hexec hown hlink hnamed hmethM hstM hkP hkPi hy (a := b) (cell := cellB) hcell
    (fun z h => by rw [h] at hobj; cases hobj) hselP hmethM habM hkP hkPi (g := g) hg (argsL := argsL) (rest := rest) (hlen _ hsigM) hstack hdg
  rcases hK m meth c ⟨T.setVm vm₁, locs, cells, slots⟩ { g with stack := rest } (.invokevirtual index) mk (Value.ref b :: argsL).toArray X₁ hg hsize hdg hW (X₁.named hnamed) (hpre vm₁ X₁.warmed) with ⟨v, B, X', hpost, hsteps⟩ | ⟨q, B, X', hpost, hsteps⟩
  · exact Or.inl ⟨v, vm₁, B, X₁.warmed, X', hpost, fun target h => hstep₁ _ fun acts => by rw [doInvoke_state]; exact hsteps.trans h⟩
  · exact Or.inr ⟨q, vm₁, B, X₁.warmed, X', hpost, hstep₁ _ fun acts => by rw [doInvoke_state]; exact hsteps⟩
theorem vx_callS (X : Stand p l e R s m args below meth c T locs cells slots) (hexec : p.tables.exec = Jvm.exec) {own : String} {index : Nat} {y : MethodName} {bytes : ByteArray} {maxL : Nat} {ret : Option FieldType}
    (hown : s.vm.findClass own = some m.cls) (hlink : (Cond.methodLink own index y).before args s = true) (hstat : (Cond.static y).before args s = true) (hinit : (Cond.initialized y.cls).before args s = true)
    (hcode : (Cond.code y bytes maxL ret).before args s = true) (hy : y.cls ≠ "java/lang/invoke/MethodHandle" ∧ y.cls ≠ "java/lang/invoke/VarHandle")
    {W9 : Nat} {Pre : Pt → Array Value → Prop} {Post : Pt → Array Value → Option Value → Pt → Prop} {PostX : Pt → Array Value → Addr → Pt → Prop} (hK : vx_Back l R p e below s args y 3 W9 Pre Post PostX)
    {g : JFrame} (hg : g.method = m) (hsize : g.locals.size = c.maxLocals) {argsL rest : List Value} (hlen : ∀ sig, parseMethodDescriptor y.desc = some sig → argsL.length = sig.parameters.length)
    (hstack : g.stack = argsL.reverse ++ rest) (hW : 2 * g.monitorRoom + (rest.map fun v => v.category).sum ≤ W9) (hdg : decode c.code g.pc = .ok (.invokestatic index, 3))
    (hpre : ∀ vm₁, s.WarmedH vm₁ → Pre ⟨T.setVm vm₁, locs, cells, slots⟩ argsL.toArray) :
    (∃ (v : Option Value) (vm₁ : Vm) (B : Pt), s.WarmedH vm₁ ∧ Stand p l e R s m args below meth c B.U B.locs B.cells B.slots ∧ Post ⟨T.setVm vm₁, locs, cells, slots⟩ argsL.toArray v B ∧
      ∀ target, Steps p.tables e below (B.U.setTop { g with pc := g.pc + 3, stack := v.toList ++ rest }) target → Steps p.tables e below (T.setTop g) target) ∨
    (∃ (q : Addr) (vm₁ : Vm) (B : Pt), s.WarmedH vm₁ ∧ Stand p l e R s m args below meth c B.U B.locs B.cells B.slots ∧ PostX ⟨T.setVm vm₁, locs, cells, slots⟩ argsL.toArray q B ∧
      Steps p.tables e below (T.setTop g) ((B.U.setTop { g with stack := rest }).pushFrame (.throwing q))) := by
  obtain ⟨mk, hnamed⟩ := Cond.code_named hcode
  obtain ⟨methM, cM, hmethM, -, -, -, -, -, -, hsigM⟩ := Cond.code_spec hnamed hcode
  have hstatic : methM.isStatic = true := Cond.static_spec hnamed hmethM hstat
  obtain ⟨kP, hkP, -⟩ := className_of_methodNamed hnamed
  have hinitP : kP.init = .initialized := Cond.initialized_spec (findClass_of_methodNamed hnamed) hkP hinit
  obtain ⟨vm₁, X₁, hstep₁⟩ := X.invokestatic hexec hown hlink hnamed hmethM hstatic hkP hinitP hy (g := g) hg (argsL := argsL) (rest := rest) (hlen _ hsigM) hstack hdg
  rcases hK m meth c ⟨T.setVm vm₁, locs, cells, slots⟩ { g with stack := rest } (.invokestatic index) mk argsL.toArray X₁ hg hsize hdg hW (X₁.named hnamed) (hpre vm₁ X₁.warmed) with ⟨v, B, X', hpost, hsteps⟩ | ⟨q, B, X', hpost, hsteps⟩
  · exact Or.inl ⟨v, vm₁, B, X₁.warmed, X', hpost, fun target h => hstep₁ _ fun acts => by rw [doInvoke_state]; exact hsteps.trans h⟩
  · exact Or.inr ⟨q, vm₁, B, X₁.warmed, X', hpost, hstep₁ _ fun acts => by rw [doInvoke_state]; exact hsteps⟩
end Calls
theorem vx_cls {s : State} {T : State} {vm₁ : Vm} {E : String} {k : ClassId} (hW : s.WarmedH vm₁) (h : (T.setVm vm₁).vm.findClass E = some k) : s.vm.findClass E = some k := by
  have h1 : vm₁.findClass E = some k := h
  rw [hW.alike.findClass] at h1
  exact h1
/-- the method's frame g, with q thrown over it -/
def vx_W (p : Program) (l : Launch) (e : Env) (R : Room) (s : State) (m : MethodId) (args : Array Value) (below : List Frame) (meth : Method) (c : Code) (H : Heap) (locs : List Loc) (cells slots : Nat) (Q : State → Prop) (g : JFrame) (q : Addr) : Prop :=
  ∀ T : State, T.heap = H → Stand p l e R s m args below meth c T locs cells slots → ∃ t, Steps p.tables e below ((T.setTop g).pushFrame (.throwing q)) t ∧ Q t
def vx_Run (p : Program) (l : Launch) (e : Env) (R : Room) (s : State) (m : MethodId) (args : Array Value) (below : List Frame) (meth : Method) (c : Code) (H : Heap) (locs : List Loc) (cells slots mc ms : Nat) (g : JFrame) (rest : List Value) (Qa : State → Outcome → State → Prop) (XC : String → State → State → Prop) (free : Addr → Prop) : Prop :=
  ∀ T : State, T.heap = H → Stand p l e R s m args below meth c T locs cells slots →
    (∃ (v : Option Value) (st₀ t T' : State) (L : List Loc), st₀.heap = H ∧ Stand p l e R s m args below meth c T' (locs ++ L) (cells + mc) (slots + ms) ∧ (∀ q ∈ L, free q.base) ∧ T'.heap = t.heap ∧ T'.vm = t.vm ∧ Qa st₀ (.returned v) t ∧
      Goes p e below T g T' { g with pc := g.pc + 3, stack := v.toList ++ rest }) ∨
    (∃ (q : Addr) (st₀ t T' : State) (L : List Loc) (E : String) (ce : Cell), st₀.heap = H ∧ Stand p l e R s m args below meth c T' (locs ++ L) (cells + mc) (slots + ms) ∧ (∀ z ∈ L, free z.base) ∧ T'.heap = t.heap ∧ T'.vm = t.vm ∧ XC E st₀ t ∧ t.heap[q]? = some ce ∧ ce.vm = .none ∧ s.vm.findClass E = some ce.cls ∧
      Steps p.tables e below (T.setTop g) ((T'.setTop { g with stack := rest }).pushFrame (.throwing q)))
def vx_X {S : Type} (px : S → Prop) (B : String → S → State → Prop) (A : Nat → Prop) : String → State → State → Prop := fun E st t => ∃ u : S, px u ∧ B E u t ∧ va_F A st t
section Runs
variable {p : Program} {l : Launch} {e : Env} {R : Room} {s : State} {m : MethodId} {args : Array Value} {below : List Frame} {meth : Method} {c : Code} {H : Heap} {locs : List Loc} {cells slots : Nat}
variable {y : MethodName} {bytes cc : ByteArray} {maxL nL mc ms n index : Nat} {ret : Option FieldType} {ws : List Cond} {rm : Room} {Pc : Array Value → State → Prop} {Qc : Array Value → State → Outcome → State → Prop} {XC : String → State → State → Prop} {free : Addr → Prop} {Ts : List Cond} {own C : String} {b : Addr} {As rest : List Value} {g : JFrame}
theorem vx_callBack (cb : CallB R s args own index y bytes maxL ret ws rm mc ms n) (hM : vx_Met l y ws rm Pc Qc XC mc ms free) (hbl : FrameBlind Pc) : vx_Back l R p e below s args y 3 8 (PreOf R mc ms Pc) (PostOf Qc mc ms free) (vx_Post XC mc ms free) := by
  obtain ⟨hrc, hrs, hfr, hlo, hws, hcw, -, hini, -⟩ := cb
  exact vx_back (bytes := bytes) (maxL := maxL) (ret := ret) hM hbl hrc hrs hfr hlo hws hcw (fun a' U hW => word_at hW (Or.inl (by first | rfl | simp [Cond.onTables, Cond.keeps, Cond.steady])) hini)
theorem vx_runV (S : CallFix p m c cc nL s args Ts own) (hM : vx_Met l y ws rm Pc Qc XC mc ms free) (cw : CallW R s args own C index y bytes maxL ret ws rm mc ms n) (hp : PreV s H C b Pc As)
    (hg : g.method = m) (hn : As.length = n) (hsize : g.locals.size = nL) (hstack : g.stack = As.reverse ++ .ref b :: rest) (hW : 2 * g.monitorRoom + (rest.map fun v => v.category).sum ≤ 8) (hdg : decode cc g.pc = .ok (.invokevirtual index, 3)) (hf : cells + mc ≤ R.cells ∧ slots + ms ≤ R.slots) :
    vx_Run p l e R s m args below meth c H locs cells slots mc ms g rest (Qc (Value.ref b :: As).toArray) XC free := by
  have hK : vx_Back l R p e below s args y 3 8 (PreOf R mc ms Pc) (PostOf Qc mc ms free) (vx_Post XC mc ms free) := vx_callBack cw.1 hM hp.1
  obtain ⟨⟨-, -, -, -, -, -, hcode, -, hy, hlen, hl⟩, hin, hse⟩ := cw
  obtain ⟨hx, hb, hml, ho, -⟩ := S
  obtain ⟨-, ⟨cellB, hcB, hoB, hclB⟩, hPc⟩ := hp
  intro T hT X
  rcases vx_callV X hx (C := C) (bytes := bytes) (maxL := maxL) (ret := ret) ho hl hin hse hcode hy hK (by rw [hT]; exact hcB) hoB hclB hg (hsize.trans hml.symm) (argsL := As) (rest := rest) (fun sig h => hn.trans (hlen sig h)) hstack hW (by rw [hb]; exact hdg)
    (fun vm₁ hW₁ => ⟨hf.1, hf.2, hPc (T.setVm vm₁) hT hW₁⟩) with ⟨v, vm₁, ⟨U', l2, c2, s2⟩, hW₁, X', ⟨g', mk, t, L, e1, e2, hq, h1, hL, h2, h3⟩, st⟩ | ⟨q, vm₁, ⟨U', l2, c2, s2⟩, hW₁, X', ⟨g', mk, t, L, E, ce, e1, e2, hq, hce, hcv, hcl, h1, hL, h2, h3⟩, st⟩
  · dsimp only [Pt.U, Pt.locs, Pt.cells, Pt.slots] at X' e1 e2 h1 h2 h3 st
    subst h1; subst h2; subst h3
    exact Or.inl ⟨v, (T.setVm vm₁).calling g' mk (Value.ref b :: As).toArray, t, U', L, hT, X', hL, e1, e2, hq, st⟩
  · dsimp only [Pt.U, Pt.locs, Pt.cells, Pt.slots] at X' e1 e2 h1 h2 h3 st hcl
    subst h1; subst h2; subst h3
    exact Or.inr ⟨q, (T.setVm vm₁).calling g' mk (Value.ref b :: As).toArray, t, U', L, E, ce, hT, X', hL, e1, e2, hq, hce, hcv, vx_cls hW₁ hcl, st⟩
theorem vx_runS (S : CallFix p m c cc nL s args Ts own) (hM : vx_Met l y ws rm Pc Qc XC mc ms free) (cw : CallB R s args own index y bytes maxL ret ws rm mc ms n ∧ (Cond.static y).before args s = true) (hp : PreS s H Pc As)
    (hg : g.method = m) (hn : As.length = n) (hsize : g.locals.size = nL) (hstack : g.stack = As.reverse ++ rest) (hW : 2 * g.monitorRoom + (rest.map fun v => v.category).sum ≤ 8) (hdg : decode cc g.pc = .ok (.invokestatic index, 3)) (hf : cells + mc ≤ R.cells ∧ slots + ms ≤ R.slots) :
    vx_Run p l e R s m args below meth c H locs cells slots mc ms g rest (Qc As.toArray) XC free := by
  have hK : vx_Back l R p e below s args y 3 8 (PreOf R mc ms Pc) (PostOf Qc mc ms free) (vx_Post XC mc ms free) := vx_callBack cw.1 hM hp.1
  obtain ⟨⟨-, -, -, -, -, -, hcode, hini, hy, hlen, hl⟩, hstt⟩ := cw
  obtain ⟨hx, hb, hml, ho, -⟩ := S
  intro T hT X
  rcases vx_callS X hx (bytes := bytes) (maxL := maxL) (ret := ret) ho hl hstt hini hcode hy hK hg (hsize.trans hml.symm) (argsL := As) (rest := rest) (fun sig h => hn.trans (hlen sig h)) hstack hW (by rw [hb]; exact hdg)
    (fun vm₁ hW₁ => ⟨hf.1, hf.2, hp.2 (T.setVm vm₁) hT hW₁⟩) with ⟨v, vm₁, ⟨U', l2, c2, s2⟩, hW₁, X', ⟨g', mk, t, L, e1, e2, hq, h1, hL, h2, h3⟩, st⟩ | ⟨q, vm₁, ⟨U', l2, c2, s2⟩, hW₁, X', ⟨g', mk, t, L, E, ce, e1, e2, hq, hce, hcv, hcl, h1, hL, h2, h3⟩, st⟩
  · dsimp only [Pt.U, Pt.locs, Pt.cells, Pt.slots] at X' e1 e2 h1 h2 h3 st
    subst h1; subst h2; subst h3
    exact Or.inl ⟨v, (T.setVm vm₁).calling g' mk As.toArray, t, U', L, hT, X', hL, e1, e2, hq, st⟩
  · dsimp only [Pt.U, Pt.locs, Pt.cells, Pt.slots] at X' e1 e2 h1 h2 h3 st hcl
    subst h1; subst h2; subst h3
    exact Or.inr ⟨q, (T.setVm vm₁).calling g' mk As.toArray, t, U', L, E, ce, hT, X', hL, e1, e2, hq, hce, hcv, vx_cls hW₁ hcl, st⟩
end Runs
section Rows
variable {p : Program} {l : Launch} {e : Env} {R : Room} {s : State} {m : MethodId} {args : Array Value} {below : List Frame} {meth : Method} {c : Code} {H : Heap} {locs : List Loc} {cells slots : Nat} {Q : State → Prop}
variable {mc ms : Nat} {free : Addr → Prop} {A0 A1 : Nat → Prop} {H0 : Heap} {a : Array Value} {pc : Nat} {ls : Array Slot} {st0 rest : List Value}
theorem vx_keep {st₀ t T' : State} {L : List Loc} (h0 : st₀.heap = H) (e1 : T'.heap = t.heap) (hS : va_S A0 H0 H locs) (hA : ∀ q, q < H.size → A1 q → A0 q) (hf : ∀ q, free q → A0 q) (hL : ∀ q ∈ L, free q.base) (hF : va_F A1 st₀ t) :
    H.size ≤ T'.heap.size ∧ (∀ q : Nat, q < H.size → ¬ A1 q → T'.heap[q]? = H[q]?) ∧ va_S A0 H0 T'.heap (locs ++ L) := by
  obtain ⟨hz, hk⟩ := hF
  rw [h0] at hz hk
  exact ⟨by rw [e1]; exact hz, fun q h1 h2 => by rw [e1]; exact hk q h1 h2,
    ⟨Nat.le_trans hS.1 (by rw [e1]; exact hz), fun q h1 h2 => by rw [e1, hk q (Nat.lt_of_lt_of_le h1 hS.1) (fun z => h2 (hA q (Nat.lt_of_lt_of_le h1 hS.1) z))]; exact hS.2.1 q h1 h2, fun q hq => by
      rcases List.mem_append.mp hq with h | h
      · exact hS.2.2 q h
      · exact hf _ (hL q h)⟩⟩
theorem vx_calli {S SX : Type} {post : Int32 → S → Prop} {px : SX → Prop} {B : S → State → Prop} {BX : String → SX → State → Prop} {AX : Nat → Prop} (hr : vx_Run p l e R s m args below meth c H locs cells slots mc ms (F0 m pc ls st0) rest (va_Qi post B A1 a) (vx_X px BX AX) free) (hS : va_S A0 H0 H locs) (hA : ∀ q, q < H.size → A1 q → A0 q) (hf : ∀ q, free q → A0 q) (hAX : ∀ q, q < H.size → AX q → A0 q)
    (kx : ∀ (E : String) (ce : Cell) (q9 : Addr) (u : SX) (t : State) (H1 : Heap) (locs1 : List Loc), t.heap = H1 → s.vm.Alike t.vm → px u → BX E u t → H.size ≤ H1.size → (∀ q : Nat, q < H.size → ¬ AX q → H1[q]? = H[q]?) → va_S A0 H0 H1 locs1 → H1[q9]? = some ce → ce.vm = .none → s.vm.findClass E = some ce.cls → vx_W p l e R s m args below meth c H1 locs1 (cells + mc) (slots + ms) Q (F0 m pc ls rest) q9)
    (kk : ∀ (r : Int32) (u : S) (t : State) (H1 : Heap) (locs1 : List Loc), t.heap = H1 → s.vm.Alike t.vm → post r u → B u t → H.size ≤ H1.size → (∀ q : Nat, q < H.size → ¬ A1 q → H1[q]? = H[q]?) → va_S A0 H0 H1 locs1 → W p l e R s m args below meth c H1 locs1 (cells + mc) (slots + ms) Q (F0 m (pc + 3) ls (.int r :: rest))) : W p l e R s m args below meth c H locs cells slots Q (F0 m pc ls st0) := by
  intro T hT X
  rcases hr T hT X with ⟨v, st₀, t, T', L, h0, X', hL, e1, e2, ⟨⟨r, u, hv, hp, hb⟩, hF⟩, st⟩ | ⟨q, st₀, t, T', L, E, ce, h0, X', hL, e1, e2, ⟨u, hp, hb, hF⟩, hce, hcv, hcl, st⟩
  · cases hv
    obtain ⟨k1, k2, k3⟩ := vx_keep h0 e1 hS hA hf hL hF
    obtain ⟨t2, a1, b1⟩ := kk r u t T'.heap (locs ++ L) e1.symm (by rw [← e2]; exact X'.warmed.alike) hp hb k1 k2 k3 T' rfl X'
    exact ⟨t2, st t2 a1, b1⟩
  · obtain ⟨k1, k2, k3⟩ := vx_keep h0 e1 hS hAX hf hL hF
    obtain ⟨t2, a1, b1⟩ := kx E ce q u t T'.heap (locs ++ L) e1.symm (by rw [← e2]; exact X'.warmed.alike) hp hb k1 k2 k3 (by rw [e1]; exact hce) hcv hcl T' rfl X'
    exact ⟨t2, st.trans a1, b1⟩
theorem vx_calll {S SX : Type} {post : Int64 → S → Prop} {px : SX → Prop} {B : S → State → Prop} {BX : String → SX → State → Prop} {AX : Nat → Prop} (hr : vx_Run p l e R s m args below meth c H locs cells slots mc ms (F0 m pc ls st0) rest (va_Ql post B A1 a) (vx_X px BX AX) free) (hS : va_S A0 H0 H locs) (hA : ∀ q, q < H.size → A1 q → A0 q) (hf : ∀ q, free q → A0 q) (hAX : ∀ q, q < H.size → AX q → A0 q)
    (kx : ∀ (E : String) (ce : Cell) (q9 : Addr) (u : SX) (t : State) (H1 : Heap) (locs1 : List Loc), t.heap = H1 → s.vm.Alike t.vm → px u → BX E u t → H.size ≤ H1.size → (∀ q : Nat, q < H.size → ¬ AX q → H1[q]? = H[q]?) → va_S A0 H0 H1 locs1 → H1[q9]? = some ce → ce.vm = .none → s.vm.findClass E = some ce.cls → vx_W p l e R s m args below meth c H1 locs1 (cells + mc) (slots + ms) Q (F0 m pc ls rest) q9)
    (kk : ∀ (r : Int64) (u : S) (t : State) (H1 : Heap) (locs1 : List Loc), t.heap = H1 → s.vm.Alike t.vm → post r u → B u t → H.size ≤ H1.size → (∀ q : Nat, q < H.size → ¬ A1 q → H1[q]? = H[q]?) → va_S A0 H0 H1 locs1 → W p l e R s m args below meth c H1 locs1 (cells + mc) (slots + ms) Q (F0 m (pc + 3) ls (.long r :: rest))) : W p l e R s m args below meth c H locs cells slots Q (F0 m pc ls st0) := by
  intro T hT X
  rcases hr T hT X with ⟨v, st₀, t, T', L, h0, X', hL, e1, e2, ⟨⟨r, u, hv, hp, hb⟩, hF⟩, st⟩ | ⟨q, st₀, t, T', L, E, ce, h0, X', hL, e1, e2, ⟨u, hp, hb, hF⟩, hce, hcv, hcl, st⟩
  · cases hv
    obtain ⟨k1, k2, k3⟩ := vx_keep h0 e1 hS hA hf hL hF
    obtain ⟨t2, a1, b1⟩ := kk r u t T'.heap (locs ++ L) e1.symm (by rw [← e2]; exact X'.warmed.alike) hp hb k1 k2 k3 T' rfl X'
    exact ⟨t2, st t2 a1, b1⟩
  · obtain ⟨k1, k2, k3⟩ := vx_keep h0 e1 hS hAX hf hL hF
    obtain ⟨t2, a1, b1⟩ := kx E ce q u t T'.heap (locs ++ L) e1.symm (by rw [← e2]; exact X'.warmed.alike) hp hb k1 k2 k3 (by rw [e1]; exact hce) hcv hcl T' rfl X'
    exact ⟨t2, st.trans a1, b1⟩
theorem vx_callf {S SX : Type} {post : UInt32 → S → Prop} {px : SX → Prop} {B : S → State → Prop} {BX : String → SX → State → Prop} {AX : Nat → Prop} (hr : vx_Run p l e R s m args below meth c H locs cells slots mc ms (F0 m pc ls st0) rest (va_Qf post B A1 a) (vx_X px BX AX) free) (hS : va_S A0 H0 H locs) (hA : ∀ q, q < H.size → A1 q → A0 q) (hf : ∀ q, free q → A0 q) (hAX : ∀ q, q < H.size → AX q → A0 q)
    (kx : ∀ (E : String) (ce : Cell) (q9 : Addr) (u : SX) (t : State) (H1 : Heap) (locs1 : List Loc), t.heap = H1 → s.vm.Alike t.vm → px u → BX E u t → H.size ≤ H1.size → (∀ q : Nat, q < H.size → ¬ AX q → H1[q]? = H[q]?) → va_S A0 H0 H1 locs1 → H1[q9]? = some ce → ce.vm = .none → s.vm.findClass E = some ce.cls → vx_W p l e R s m args below meth c H1 locs1 (cells + mc) (slots + ms) Q (F0 m pc ls rest) q9)
    (kk : ∀ (r : UInt32) (u : S) (t : State) (H1 : Heap) (locs1 : List Loc), t.heap = H1 → s.vm.Alike t.vm → post r u → B u t → H.size ≤ H1.size → (∀ q : Nat, q < H.size → ¬ A1 q → H1[q]? = H[q]?) → va_S A0 H0 H1 locs1 → W p l e R s m args below meth c H1 locs1 (cells + mc) (slots + ms) Q (F0 m (pc + 3) ls (.float r :: rest))) : W p l e R s m args below meth c H locs cells slots Q (F0 m pc ls st0) := by
  intro T hT X
  rcases hr T hT X with ⟨v, st₀, t, T', L, h0, X', hL, e1, e2, ⟨⟨r, u, hv, hp, hb⟩, hF⟩, st⟩ | ⟨q, st₀, t, T', L, E, ce, h0, X', hL, e1, e2, ⟨u, hp, hb, hF⟩, hce, hcv, hcl, st⟩
  · cases hv
    obtain ⟨k1, k2, k3⟩ := vx_keep h0 e1 hS hA hf hL hF
    obtain ⟨t2, a1, b1⟩ := kk r u t T'.heap (locs ++ L) e1.symm (by rw [← e2]; exact X'.warmed.alike) hp hb k1 k2 k3 T' rfl X'
    exact ⟨t2, st t2 a1, b1⟩
  · obtain ⟨k1, k2, k3⟩ := vx_keep h0 e1 hS hAX hf hL hF
    obtain ⟨t2, a1, b1⟩ := kx E ce q u t T'.heap (locs ++ L) e1.symm (by rw [← e2]; exact X'.warmed.alike) hp hb k1 k2 k3 (by rw [e1]; exact hce) hcv hcl T' rfl X'
    exact ⟨t2, st.trans a1, b1⟩
theorem vx_calld {S SX : Type} {post : UInt64 → S → Prop} {px : SX → Prop} {B : S → State → Prop} {BX : String → SX → State → Prop} {AX : Nat → Prop} (hr : vx_Run p l e R s m args below meth c H locs cells slots mc ms (F0 m pc ls st0) rest (va_Qd post B A1 a) (vx_X px BX AX) free) (hS : va_S A0 H0 H locs) (hA : ∀ q, q < H.size → A1 q → A0 q) (hf : ∀ q, free q → A0 q) (hAX : ∀ q, q < H.size → AX q → A0 q)
    (kx : ∀ (E : String) (ce : Cell) (q9 : Addr) (u : SX) (t : State) (H1 : Heap) (locs1 : List Loc), t.heap = H1 → s.vm.Alike t.vm → px u → BX E u t → H.size ≤ H1.size → (∀ q : Nat, q < H.size → ¬ AX q → H1[q]? = H[q]?) → va_S A0 H0 H1 locs1 → H1[q9]? = some ce → ce.vm = .none → s.vm.findClass E = some ce.cls → vx_W p l e R s m args below meth c H1 locs1 (cells + mc) (slots + ms) Q (F0 m pc ls rest) q9)
    (kk : ∀ (r : UInt64) (u : S) (t : State) (H1 : Heap) (locs1 : List Loc), t.heap = H1 → s.vm.Alike t.vm → post r u → B u t → H.size ≤ H1.size → (∀ q : Nat, q < H.size → ¬ A1 q → H1[q]? = H[q]?) → va_S A0 H0 H1 locs1 → W p l e R s m args below meth c H1 locs1 (cells + mc) (slots + ms) Q (F0 m (pc + 3) ls (.double r :: rest))) : W p l e R s m args below meth c H locs cells slots Q (F0 m pc ls st0) := by
  intro T hT X
  rcases hr T hT X with ⟨v, st₀, t, T', L, h0, X', hL, e1, e2, ⟨⟨r, u, hv, hp, hb⟩, hF⟩, st⟩ | ⟨q, st₀, t, T', L, E, ce, h0, X', hL, e1, e2, ⟨u, hp, hb, hF⟩, hce, hcv, hcl, st⟩
  · cases hv
    obtain ⟨k1, k2, k3⟩ := vx_keep h0 e1 hS hA hf hL hF
    obtain ⟨t2, a1, b1⟩ := kk r u t T'.heap (locs ++ L) e1.symm (by rw [← e2]; exact X'.warmed.alike) hp hb k1 k2 k3 T' rfl X'
    exact ⟨t2, st t2 a1, b1⟩
  · obtain ⟨k1, k2, k3⟩ := vx_keep h0 e1 hS hAX hf hL hF
    obtain ⟨t2, a1, b1⟩ := kx E ce q u t T'.heap (locs ++ L) e1.symm (by rw [← e2]; exact X'.warmed.alike) hp hb k1 k2 k3 (by rw [e1]; exact hce) hcv hcl T' rfl X'
    exact ⟨t2, st.trans a1, b1⟩
theorem vx_callv {S SX : Type} {post : S → Prop} {px : SX → Prop} {B : S → State → Prop} {BX : String → SX → State → Prop} {AX : Nat → Prop} (hr : vx_Run p l e R s m args below meth c H locs cells slots mc ms (F0 m pc ls st0) rest (va_Qv post B A1 a) (vx_X px BX AX) free) (hS : va_S A0 H0 H locs) (hA : ∀ q, q < H.size → A1 q → A0 q) (hf : ∀ q, free q → A0 q) (hAX : ∀ q, q < H.size → AX q → A0 q)
    (kx : ∀ (E : String) (ce : Cell) (q9 : Addr) (u : SX) (t : State) (H1 : Heap) (locs1 : List Loc), t.heap = H1 → s.vm.Alike t.vm → px u → BX E u t → H.size ≤ H1.size → (∀ q : Nat, q < H.size → ¬ AX q → H1[q]? = H[q]?) → va_S A0 H0 H1 locs1 → H1[q9]? = some ce → ce.vm = .none → s.vm.findClass E = some ce.cls → vx_W p l e R s m args below meth c H1 locs1 (cells + mc) (slots + ms) Q (F0 m pc ls rest) q9)
    (kk : ∀ (u : S) (t : State) (H1 : Heap) (locs1 : List Loc), t.heap = H1 → s.vm.Alike t.vm → post u → B u t → H.size ≤ H1.size → (∀ q : Nat, q < H.size → ¬ A1 q → H1[q]? = H[q]?) → va_S A0 H0 H1 locs1 → W p l e R s m args below meth c H1 locs1 (cells + mc) (slots + ms) Q (F0 m (pc + 3) ls (rest))) : W p l e R s m args below meth c H locs cells slots Q (F0 m pc ls st0) := by
  intro T hT X
  rcases hr T hT X with ⟨v, st₀, t, T', L, h0, X', hL, e1, e2, ⟨⟨u, hv, hp, hb⟩, hF⟩, st⟩ | ⟨q, st₀, t, T', L, E, ce, h0, X', hL, e1, e2, ⟨u, hp, hb, hF⟩, hce, hcv, hcl, st⟩
  · cases hv
    obtain ⟨k1, k2, k3⟩ := vx_keep h0 e1 hS hA hf hL hF
    obtain ⟨t2, a1, b1⟩ := kk u t T'.heap (locs ++ L) e1.symm (by rw [← e2]; exact X'.warmed.alike) hp hb k1 k2 k3 T' rfl X'
    exact ⟨t2, st t2 a1, b1⟩
  · obtain ⟨k1, k2, k3⟩ := vx_keep h0 e1 hS hAX hf hL hF
    obtain ⟨t2, a1, b1⟩ := kx E ce q u t T'.heap (locs ++ L) e1.symm (by rw [← e2]; exact X'.warmed.alike) hp hb k1 k2 k3 (by rw [e1]; exact hce) hcv hcl T' rfl X'
    exact ⟨t2, st.trans a1, b1⟩
/-- caught by the row x of this method's table; the rows ahead don't take it -/
theorem vx_catch {own name : String} {E : String} {ce : Cell} {q : Addr} (hown : s.vm.findClass own = some m.cls) (pre : List ExceptionTableEntry) (x : ExceptionTableEntry) (suf : List ExceptionTableEntry) (hsplit : c.exceptionTable.toList = pre ++ x :: suf)
    (hpass : ∀ z ∈ pre, covers z pc = false ∨ (z.catchType ≠ 0 ∧ ∃ nm : String, (Cond.classLink own z.catchType nm).before args s = true ∧ va_Nc E nm s)) (hx : covers x pc = true) (h0 : x.catchType ≠ 0)
    (hlink : (Cond.classLink own x.catchType name).before args s = true) (hcast : (Cond.castable E name).before args s = true) (hcell : H[q]? = some ce) (hv : ce.vm = .none) (hcl : s.vm.findClass E = some ce.cls)
    (kk : W p l e R s m args below meth c H locs cells slots Q (F0 m x.handlerPc ls [.ref q])) : vx_W p l e R s m args below meth c H locs cells slots Q (F0 m pc ls rest) q := by
  intro T hT X
  have hpl : e.platform.magicAccessors = ({} : Platform).magicAccessors := by rw [X.admits.platform]
  obtain ⟨c3, c4, hc3, hc4, hasg⟩ := Cond.castable_spec hcast
  cases Option.some.inj (hc3.symm.trans hcl)
  obtain ⟨c5, hc5, hcl5⟩ := Cond.classLink_spec hown hlink e.platform hpl
  cases Option.some.inj (hc4.symm.trans hc5)
  obtain ⟨vm', X', st⟩ := X.thenCaughtThrough q (g := F0 m pc ls rest) rfl (Steps.refl _) (by rw [hT]; exact hcell) (by rw [hv]; rfl) (by obtain ⟨k9, h9, -⟩ := Vm.findClass_spec hcl; exact ⟨k9, h9⟩) pre x suf hsplit
    (fun z hz => by
      rcases hpass z hz with h | ⟨hz0, nm, hl1, hn1⟩
      · exact Or.inl h
      · obtain ⟨c6, hc6, hcl6⟩ := Cond.classLink_spec hown hl1 e.platform hpl
        obtain ⟨a8, b8, h1, h2, h3⟩ := hn1
        cases Option.some.inj (h1.symm.trans hcl)
        cases Option.some.inj (h2.symm.trans hc6)
        exact Or.inr ⟨hz0, _, hcl6, h3⟩) hx (Or.inr ⟨h0, c4, hcl5, hasg⟩)
  obtain ⟨t, a1, b1⟩ := kk (T.setVm vm') hT X'
  exact ⟨t, st.trans a1, b1⟩
end Rows
section Ends
variable {p : Program} {l : Launch} {e : Env} {R : Room} {s : State} {m : MethodId} {args : Array Value} {below : List Frame} {meth : Method} {c : Code} {H : Heap} {locs : List Loc} {cells slots : Nat} {Q : State → Prop}
variable {mc ms : Nat} {free : Addr → Prop} {A0 A1 : Nat → Prop} {H0 : Heap} {a : Array Value} {ls : Array Slot} {st0 rest : List Value}
variable {Qc : Array Value → State → Outcome → State → Prop} {XC : String → State → State → Prop}
/-- what a body that may throw owes at its end -/
def vx_MQ (below : List Frame) (Qc : Array Value → State → Outcome → State → Prop) (XC : String → State → State → Prop) (a : Array Value) (s : State) (mc ms : Nat) (free : Addr → Prop) : State → Prop := fun t =>
  ∃ o, t.status = .running ∧ Ended t below o ∧ vx_Q Qc XC mc ms free a s o t
theorem vx_ret {g : JFrame} {mc ms : Nat} (k : W p l e R s m args below meth c H locs cells slots (MQ below Qc args s mc ms free) g) : W p l e R s m args below meth c H locs cells slots (vx_MQ below Qc XC args s mc ms free) g := by
  intro T hT X
  obtain ⟨t, a1, o, b1, b2, b3, b4⟩ := k T hT X
  exact ⟨t, a1, o, b1, b2, Or.inl ⟨b3, b4⟩⟩
/-- not caught here: it goes on to the caller -/
theorem vx_widen {g : JFrame} {q : Addr} {k n : Nat} (h1 : cells ≤ k) (h2 : slots ≤ n) (kk : vx_W p l e R s m args below meth c H locs k n Q g q) : vx_W p l e R s m args below meth c H locs cells slots Q g q := fun T hT X => kk T hT (stand_widen X h1 h2)
theorem vx_out {pc : Nat} {E : String} {ce : Cell} {q : Addr} {mc ms : Nat} (hout : ∀ x ∈ c.exceptionTable.toList, covers x pc = false) (hlocks : meth.locks = false) (hcell : H[q]? = some ce) (hv : ce.vm = .none) (hcl : s.vm.findClass E = some ce.cls)
    (hx : ∀ t : State, t.heap = H → s.vm.Alike t.vm → XC E s t) (hf : ∀ z ∈ locs, free z.base) (hc : cells ≤ mc) (hs : slots ≤ ms) :
    vx_W p l e R s m args below meth c H locs cells slots (vx_MQ below Qc XC args s mc ms free) (F0 m pc ls rest) q := by
  intro T hT X
  obtain ⟨st1, hrun, hend, hW, hsm⟩ := X.leaveThrown q (g := F0 m pc ls rest) rfl rfl rfl hout hlocks
  have hcell9 : (T.setFrames (.throwing q :: below)).heap[q]? = some ce := by
    show T.heap[q]? = some ce
    rw [hT]; exact hcell
  exact ⟨_, st1, .threw q, hrun, hend, Or.inr ⟨q, rfl, E, ce, locs, hx _ hT hW.alike, hcell9, hv, hcl, hW, hsm.mono hc hs, hf⟩⟩
theorem vx_frame {U : State} {k n : Nat} (h : s.sameButNew ({ U with vm := s.vm } : State) locs k n) : s.heap.size ≤ U.heap.size ∧ ∀ q : Nat, q < s.heap.size → (∀ z ∈ locs, z.base ≠ q) → U.heap[q]? = s.heap[q]? := by
  obtain ⟨-, h2, -, -, -, h6⟩ := h
  refine ⟨h2, fun q hq hz => ?_⟩
  obtain ⟨c9, e1, e2, e3, e4⟩ := h6 q _ (Array.getElem?_eq_getElem hq)
  have hs : c9.slots = (s.heap[q]).slots := Array.ext_getElem? fun i => e4 i fun hm => hz _ hm rfl
  have h9 : c9 = s.heap[q] := by
    rw [hs] at e2
    exact e2
  have e5 : U.heap[q]? = some c9 := e1
  rw [e5, h9, Array.getElem?_eq_getElem hq]
/-- the words of a throw but the four that speak of the heap -/
def vx_no (w : Cond) : Bool := decide (w ≠ .isRef (.static Bundle.tN "UNASSIGNED_STACK" Bundle.steD)) && decide (w ≠ .isRef (.static Bundle.tN "SUPPRESSED_SENTINEL" Bundle.listD)) && decide (w ≠ .laysStatic Bundle.tN "UNASSIGNED_STACK" Bundle.steD) && decide (w ≠ .laysStatic Bundle.tN "SUPPRESSED_SENTINEL" Bundle.listD)
def vx_at0 (own : String) (ic : Nat) (X : String) (names : List String) : List Cond := (Bundle.ownAtoms0 own ic X names).filter vx_no
def vx_atS (own : String) (ic : Nat) (X : String) (names : List String) : List Cond := (Bundle.ownAtoms own ic X names).filter vx_no
/-- a word that the tables alone decide, or a good one -/
def vx_ot (w : Cond) : Bool := w.onTables || goodWord w
theorem vx_ot_at {args a' : Array Value} {s U : State} {w : Cond} (hW : s.WarmedH U.vm) (hvm : s.vm = U.vm) (hg : vx_ot w = true) (h : w.before args s = true) : w.before a' U = true := by
  simp only [vx_ot, Bool.or_eq_true] at hg
  rcases hg with hg | hg
  · exact va_tabs hg hvm h
  · exact word_at hW (good_of_word hg) h
/-- a list's words: the good ones out of the method's own list, the others by premises of their own -/
theorem vx_hat {args : Array Value} {s : State} {L B : List Cond} (h1 : ∀ w ∈ L.filter goodWord, w.before args s = true) (h2 : ∀ w ∈ L.filter (fun w => !goodWord w), w ∈ B) (h3 : ∀ w ∈ B, w.before args s = true) : ∀ w ∈ L, w.before args s = true := by
  intro w hw
  by_cases g : goodWord w = true
  · exact h1 w (List.mem_filter.mpr ⟨hw, g⟩)
  · refine h3 w (h2 w (List.mem_filter.mpr ⟨hw, ?_⟩))
    show (!goodWord w) = true
    cases hgw : goodWord w
    · rfl
    · exact absurd hgw g
theorem vx_c {args : Array Value} {s : State} {w : Cond} {B : List Cond} (h : w.before args s = true) (t : ∀ w ∈ B, w.before args s = true) : ∀ w' ∈ w :: B, w'.before args s = true := fun w' h' => (List.mem_cons.mp h').elim (fun e => by rw [e]; exact h) (t w')
theorem vx_n {args : Array Value} {s : State} : ∀ w ∈ ([] : List Cond), w.before args s = true := fun _ h => nomatch h
theorem vx_own {args : Array Value} {s : State} {L : List Cond} (h1 : ∀ w ∈ L.filter vx_no, w.before args s = true)
    (hU : (Cond.isRef (.static Bundle.tN "UNASSIGNED_STACK" Bundle.steD)).before args s = true) (hN : (Cond.isRef (.static Bundle.tN "SUPPRESSED_SENTINEL" Bundle.listD)).before args s = true)
    (lU : (Cond.laysStatic Bundle.tN "UNASSIGNED_STACK" Bundle.steD).before args s = true) (lN : (Cond.laysStatic Bundle.tN "SUPPRESSED_SENTINEL" Bundle.listD).before args s = true) : ∀ w ∈ L, w.before args s = true := by
  intro w hw
  by_cases e1 : w = .isRef (.static Bundle.tN "UNASSIGNED_STACK" Bundle.steD)
  · rw [e1]; exact hU
  · by_cases e2 : w = .isRef (.static Bundle.tN "SUPPRESSED_SENTINEL" Bundle.listD)
    · rw [e2]; exact hN
    · by_cases e3 : w = .laysStatic Bundle.tN "UNASSIGNED_STACK" Bundle.steD
      · rw [e3]; exact lU
      · by_cases e4 : w = .laysStatic Bundle.tN "SUPPRESSED_SENTINEL" Bundle.listD
        · rw [e4]; exact lN
        · exact h1 w (List.mem_filter.mpr ⟨hw, by unfold vx_no; rw [decide_eq_true e1, decide_eq_true e2, decide_eq_true e3, decide_eq_true e4]; rfl⟩)
/-- where a static field lies, its class's statics cell in H -/
def vx_L (C n d : String) (A : Nat → Prop) (U : State) (H : Heap) : Prop := ∃ (c : ClassId) (k : Class) (i : Nat) (f : Field) (a : Nat) (cell : Cell), U.vm.findClass C = some c ∧ U.fieldFound? C n d = some (c, k, i, f) ∧ f.isStatic = true ∧ k.statics = some a ∧ H[a]? = some cell ∧ cell.vm.isStatics = true ∧ cell.cls = c ∧ f.slot < cell.slots.size ∧ k.staticTypes[f.slot]? = some f.type ∧ ¬ A a
theorem vx_L.moved {C n d : String} {A : Nat → Prop} {u U : State} {H : Heap} (hvm : u.vm.Alike U.vm) (h : vx_L C n d A u H) : vx_L C n d A U H := by
  obtain ⟨c, k, i, f, a, cell, h1, h2, h3, h4, h5, h6, h7, h8, h9, h10⟩ := h
  obtain ⟨k', hi', he⟩ := State.fieldFound?_setVm hvm h2
  exact ⟨c, k', i, f, a, cell, by rw [hvm.findClass]; exact h1, hi', h3, by rw [he]; exact h4, h5, h6, h7, h8, by rw [he]; exact h9, h10⟩
theorem vx_L.kept {C n d : String} {A : Nat → Prop} {U : State} {H H1 : Heap} (h : vx_L C n d A U H) (hq : ∀ a : Nat, a < H.size → ¬ A a → H1[a]? = H[a]?) : vx_L C n d A U H1 := by
  obtain ⟨c, k, i, f, a, cell, h1, h2, h3, h4, h5, h6, h7, h8, h9, h10⟩ := h
  exact ⟨c, k, i, f, a, cell, h1, h2, h3, h4, by rw [hq a (Array.getElem?_eq_some_iff.mp h5).1 h10]; exact h5, h6, h7, h8, h9, h10⟩
theorem vx_L.narrow {C n d : String} {A B : Nat → Prop} {U : State} {H : Heap} (h : vx_L C n d A U H) (hAB : ∀ q, B q → A q) : vx_L C n d B U H := by
  obtain ⟨c, k, i, f, a, cell, h1, h2, h3, h4, h5, h6, h7, h8, h9, h10⟩ := h
  exact ⟨c, k, i, f, a, cell, h1, h2, h3, h4, h5, h6, h7, h8, h9, fun z => h10 (hAB _ z)⟩
theorem vx_L.word {C n d : String} {A : Nat → Prop} {s : State} {args : Array Value} (h : vx_L C n d A s s.heap) : (Cond.laysStatic C n d).before args s = true := by
  obtain ⟨c, k, i, f, a, cell, h1, h2, h3, h4, h5, h6, h7, h8, h9, -⟩ := h
  show (Cond.laysStatic C n d).holds args s none s [] = true
  exact Cond.laysStatic_of h1 h2 h3 h4 h5 h6 h7 h8 h9
/-- .. and what it holds: null or some reference -/
def vx_Zq (C n d : String) (A : Nat → Prop) (U : State) (H : Heap) : Prop := va_Zq C n d A U H ∧ vx_L C n d A U H
theorem vx_Zq.moved {C n d : String} {A : Nat → Prop} {u U : State} {H : Heap} (hvm : u.vm.Alike U.vm) (h : vx_Zq C n d A u H) : vx_Zq C n d A U H := ⟨va_Zq.moved hvm h.1, vx_L.moved hvm h.2⟩
theorem vx_Zq.kept {C n d : String} {A : Nat → Prop} {U : State} {H H1 : Heap} (h : vx_Zq C n d A U H) (hq : ∀ a : Nat, a < H.size → ¬ A a → H1[a]? = H[a]?) : vx_Zq C n d A U H1 := ⟨va_Zq.kept h.1 hq, vx_L.kept h.2 hq⟩
theorem vx_Zq.narrow {C n d : String} {A B : Nat → Prop} {U : State} {H : Heap} (h : vx_Zq C n d A U H) (hAB : ∀ q, B q → A q) : vx_Zq C n d B U H := ⟨va_Zq.narrow h.1 hAB, vx_L.narrow h.2 hAB⟩
theorem vx_Zqof {args : Array Value} {s : State} {C n d : String} {A : Nat → Prop} (hl : (Cond.laysStatic C n d).before args s = true) (hini : (Cond.initialized C).before args s = true) (h : (Cond.isRef (.static C n d)).before args s = true) (hA : ∀ a : Nat, a < s.heap.size → ¬ A a) : vx_Zq C n d A s s.heap := by
  refine ⟨va_Zqof hl hini h hA, ?_⟩
  obtain ⟨c, k, i, f, a, cell, h1, h2, h3, h4, h5, h6, h7, h8, h9⟩ := Cond.laysStatic_spec hl
  exact ⟨c, k, i, f, a, cell, h1, h2, h3, h4, h5, h6, h7, h8, h9, hA a (Array.getElem?_eq_some_iff.mp h5).1⟩
theorem vx_isRef {C n d : String} {v : Value} {A : Nat → Prop} {s : State} {args : Array Value} (h : va_Z C n d v A s s.heap) (hv : v.isRef = true) : (Cond.isRef (.static C n d)).before args s = true := by
  obtain ⟨cf, kf, fi, f, a, cell, h1, h2, h3, h4, h5, h6, h7, -⟩ := h
  have he : (Term.static C n d).eval args s none [] s = some v := by
    simp [Term.eval, State.fieldNamed?, h1, h2, h4, h5, h6, h7]
  simp only [Cond.before, Cond.holds, Cond.value, he]
  cases v <;> simp_all [Value.isRef]
theorem vx_isRefq {C n d : String} {A : Nat → Prop} {s : State} {args : Array Value} (h : va_Zq C n d A s s.heap) : (Cond.isRef (.static C n d)).before args s = true := by
  rcases h with h | ⟨t, h⟩
  · exact vx_isRef h rfl
  · exact vx_isRef h rfl
/-- the same frame, seen from here: as if the method were called anew in this heap -/
theorem vx_rebase {T : State} (X : Stand p l e R s m args below meth c T locs cells slots) {R' : Room} (hf : R'.frames ≤ R.frames) (hl : R'.locals ≤ R.locals) (hc : cells + R'.cells ≤ R.cells) (hs : slots + R'.slots ≤ R.slots) :
    Stand p l e R' ((T.setVm s.vm).setFrames (.invoking m args :: below)) m args below meth c T [] 0 0 := by
  have htop : (T.setVm s.vm).topJava?.isSome := X.here.top
  have hF : ((T.setVm s.vm).setFrames (.invoking m args :: below)).frames = .invoking m args :: below := State.frames_setFrames _ (State.cur_lt_of_top htop)
  obtain ⟨g₀, hg0⟩ := Option.isSome_iff_exists.mp htop
  obtain ⟨r, hr⟩ := State.topJava?_eq_some.mp hg0
  have hl9 : e.platform.stackLimits (T.setVm s.vm).me = e.platform.stackLimits s.me := X.limits
  have hb9 : (T.setVm s.vm).me.stackBytes = s.me.stackBytes := X.bytes
  refine ⟨X.admits, X.cas, X.clock, hF, ?_, X.hears, X.method, X.code, X.here, X.tail, X.warmed, ?_, ?_, ?_⟩
  · have h := X.room
    have hU : ((T.setVm s.vm).setFrames (.invoking m args :: below)).localsInUse = s.localsInUse := by
      rw [State.localsInUse_invoking hF (meth := meth) (c := c) X.method X.code, State.localsInUse_invoking X.frames X.method X.code]
    simp only [State.hasRoom, Bool.and_eq_true, decide_eq_true_eq] at h ⊢
    obtain ⟨⟨⟨⟨h1, h2, h3, h4, h5, h6⟩, h7⟩, h8⟩, h9⟩ := h
    rw [X.frames, List.length_cons] at h2 h3
    have q1 := X.heapSize
    have q2 := X.used
    simp only [hF, hU, List.length_cons, State.stackLimits_setFrames, State.stackBytes_setFrames, hl9, hb9]
    refine ⟨⟨⟨⟨by omega, by omega, by omega, by omega, by omega, h6⟩, ?_⟩, ?_⟩, X.book⟩
    · show T.heap.size + R'.cells ≤ e.platform.maxCells
      omega
    · show T.slotsUsed + R'.slots ≤ e.platform.maxSlots
      omega
  · rw [State.stackLimits_setFrames]; rfl
  · rw [State.stackBytes_setFrames]; rfl
  · refine ⟨?_, Nat.le_refl _, Nat.le_refl _, ?_, ?_, fun a c9 h9 => ⟨c9, h9, rfl, rfl, fun _ _ => rfl⟩⟩
    · obtain ⟨t, ht, -⟩ := State.frames_cons hr
      show T.setVm s.vm = { ((T.setVm s.vm).setFrames (.invoking m args :: below)).setFrames (T.setVm s.vm).frames with heap := T.heap, slotsUsed := T.slotsUsed }
      rw [State.setFrames_setFrames, State.setFrames_self ht]
      rfl
    · show T.slotsUsed = T.slotsUsed + ((T.heap.toList.drop T.heap.size).map (·.slots.size)).sum
      rw [List.drop_eq_nil_of_le (Nat.le_of_eq Array.length_toList)]
      rfl
    · show ((T.heap.toList.drop T.heap.size).map (·.slots.size)).sum ≤ 0
      rw [List.drop_eq_nil_of_le (Nat.le_of_eq Array.length_toList)]
      exact Nat.le_refl _
/-- 'throw new E()': new; dup; invokespecial; athrow -/
theorem vx_throw0 {cc : ByteArray} {pc : Nat} (hexec : p.tables.exec = Jvm.exec) (hb : c.code = cc) (hl : l.stackTraces = false) {own cls : String} {names : List String} {ik ic mc ms : Nat} {A : Nat → Prop}
    (hown : s.vm.findClass own = some m.cls) (hcls : Bundle.fit cls = true) (hnames : ∀ n ∈ names, Bundle.fit n = true)
    (hk : (Cond.classLink own ik cls).before args s = true) (hini : (Cond.initialized cls).before args s = true) (hat : ∀ w ∈ vx_at0 own ic cls names, w.before args s = true)
    (hgood : ∀ w ∈ Cond.classLink own ik cls :: Cond.initialized cls :: vx_at0 own ic cls names, vx_ot w = true)
    (hU : vx_Zq Bundle.tN "UNASSIGNED_STACK" Bundle.steD A s s.heap) (hN : vx_Zq Bundle.tN "SUPPRESSED_SENTINEL" Bundle.listD A s s.heap) (hS : va_S A s.heap H locs) (hsize : ls.size = c.maxLocals)
    (d0 : decode cc pc = .ok (.new ik, 3)) (d3 : decode cc (pc + 3) = .ok (.dup, 1)) (d4 : decode cc (pc + 4) = .ok (.invokespecial ic, 3)) (d7 : decode cc (pc + 7) = .ok (.athrow, 1))
    (hout : ∀ x ∈ c.exceptionTable.toList, covers x (pc + 7) = false)
    (hRframes : names.length + 3 < R.frames) (hRlocals : (rest.map fun v => v.category).sum + (13 * (names.length + 1) + 42) ≤ R.locals) (hRcells : cells + 1 ≤ R.cells) (hRslots : slots + 6 ≤ R.slots) (hlocks : meth.locks = false)
    (hx : ∀ t : State, s.vm.Alike t.vm → H.size ≤ t.heap.size → (∀ q : Nat, q < H.size → t.heap[q]? = H[q]?) → XC cls s t)
    (hf : ∀ z ∈ locs, free z.base) (hc : cells + 1 ≤ mc) (hs : slots + 6 ≤ ms) :
    W p l e R s m args below meth c H locs cells slots (vx_MQ below Qc XC args s mc ms free) (F0 m pc ls rest) := by
  intro T hT X
  have htr : e.platform.stackTraces = false := (show e.platform.stackTraces = l.stackTraces by rw [X.admits.platform]).trans hl
  have Y := vx_rebase X (R' := { frames := R.frames, locals := R.locals, cells := 1, slots := 6 }) (Nat.le_refl _) (Nat.le_refl _) hRcells hRslots
  obtain ⟨s', hA⟩ : ∃ z, z = (T.setVm s.vm).setFrames (.invoking m args :: below) := ⟨_, rfl⟩
  rw [← hA] at Y
  have hvm : s'.vm = s.vm := by rw [hA]; rfl
  have hhp : s'.heap = H := by rw [hA]; exact hT
  have hW0 : s.WarmedH s'.vm := by rw [hvm]; exact State.WarmedH.refl s
  have hat' : ∀ w ∈ vx_at0 own ic cls names, w.before args s' = true := fun w hw => vx_ot_at hW0 hvm.symm (hgood w (List.mem_cons_of_mem _ (List.mem_cons_of_mem _ hw))) (hat w hw)
  have hk' : (Cond.classLink own ik cls).before args s' = true := vx_ot_at hW0 hvm.symm (hgood _ List.mem_cons_self) hk
  have hini' : (Cond.initialized cls).before args s' = true := vx_ot_at hW0 hvm.symm (hgood _ (List.mem_cons_of_mem _ List.mem_cons_self)) hini
  have hU' : vx_Zq Bundle.tN "UNASSIGNED_STACK" Bundle.steD A s' s'.heap := by rw [hhp]; exact vx_Zq.moved hW0.alike (hU.kept hS.2.1)
  have hN' : vx_Zq Bundle.tN "SUPPRESSED_SENTINEL" Bundle.listD A s' s'.heap := by rw [hhp]; exact vx_Zq.moved hW0.alike (hN.kept hS.2.1)
  have h : ∀ w ∈ Bundle.ownAtoms0 own ic cls names, w.before args s' = true := vx_own hat' (vx_isRefq hU'.1) (vx_isRefq hN'.1) hU'.2.word hN'.2.word
  have hown' : s'.vm.findClass own = some m.cls := by rw [hvm]; exact hown
  have hins : (Cond.instantiable cls 6).before args s' = true := h _ (by simp [Bundle.ownAtoms0])
  obtain ⟨vm₁, cX, kX, hfX, hkX, -, -, X₁, st1⟩ := Y.newCold hexec (own := own) (C := cls) (index := ik) (n := 6) hown' hk' hins hini'
    (g := F0 m pc ls rest) rfl (by rw [hb]; exact d0) (Nat.le_refl _) (Nat.le_refl _)
  generalize hT1 : (T.setVm vm₁).pushCell { cls := cX, slots := kX.instanceTypes.map defaultValue, vm := .none } = T1 at X₁ st1
  have hcat : (Value.ref T.heap.size).category = 1 := rfl
  have hcellA : T1.heap[T.heap.size]? = some (freshCell cX kX) := by rw [← hT1]; exact State.heap_pushCell_size _ _
  have d3' : decode c.code (pc + 3) = .ok (.dup, 1) := by rw [hb]; exact d3
  obtain ⟨U, hsteps, hrun, hend, hW, hsame, ce, hce, hO⟩ := X₁.ctorThrow0 hexec htr (own := own) (cls := cls) (names := names) (ic := ic) hown' hcls hnames h (fun x hx => nomatch hx) hfX hkX hcellA (by rw [hhp, hT]; exact Nat.le_refl _)
    (g := { method := m, pc := pc + 4, locals := ls, stack := .ref T.heap.size :: .ref T.heap.size :: rest, locked := none }) rfl hsize rfl rfl (rest := rest) rfl
    (by rw [hb]; exact d4) (by rw [hb]; exact d7) hout hRframes (by simp only [List.map_cons, List.sum_cons, hcat]; omega) hlocks
  obtain ⟨f1, f2⟩ := vx_frame hsame
  rw [hhp] at f1 f2
  have hWs : s.WarmedH U.vm := State.WarmedH.trans hW0 hW
  have hcl : s.vm.findClass cls = some ce.cls := by
    have h9 := hO.cls
    rw [hvm] at h9
    exact h9
  have hall : s.sameButNew ({ U with vm := s.vm } : State) locs mc ms := by
    subst hA
    obtain ⟨e1, e2⟩ := hsame
    rw [State.setFrames_setFrames] at e1
    have h2 : (T.setVm s.vm).sameButNew ({ U with vm := s.vm } : State) [] (0 + 1) (0 + 6) := ⟨e1, e2⟩
    have h3 := X.same.trans h2
    rw [List.append_nil] at h3
    exact h3.mono hc hs
  refine ⟨U, ?_, .threw T.heap.size, hrun, hend, Or.inr ⟨T.heap.size, rfl, cls, ce, locs, hx U hWs.alike f1 (fun q hq => f2 q hq (fun z hz => nomatch hz)), hce, hO.vm, hcl, hWs, hall, hf⟩⟩
  refine st1 _ ?_
  show Steps p.tables e below (T1.setTop { method := m, pc := pc + 3, locals := ls, stack := .ref T.heap.size :: rest, locked := none }) _
  jvm_step X₁.here [X₁.here.top, hexec, d3', Value.category]
  exact hsteps
/-- 'throw new E("text")': new; dup; ldc; invokespecial; athrow -/
theorem vx_throwS {cc : ByteArray} {pc : Nat} (hexec : p.tables.exec = Jvm.exec) (hb : c.code = cc) (hl : l.stackTraces = false) {own cls text : String} {names : List String} {ik is ic mc ms sa : Nat} {A : Nat → Prop}
    (hown : s.vm.findClass own = some m.cls) (hcls : Bundle.fit cls = true) (hnames : ∀ n ∈ names, Bundle.fit n = true)
    (hk : (Cond.classLink own ik cls).before args s = true) (hini : (Cond.initialized cls).before args s = true) (hstr : vk_R own is text sa s) (hat : ∀ w ∈ vx_atS own ic cls names, w.before args s = true)
    (hgood : ∀ w ∈ Cond.classLink own ik cls :: Cond.initialized cls :: vx_atS own ic cls names, vx_ot w = true)
    (hU : vx_Zq Bundle.tN "UNASSIGNED_STACK" Bundle.steD A s s.heap) (hN : vx_Zq Bundle.tN "SUPPRESSED_SENTINEL" Bundle.listD A s s.heap) (hS : va_S A s.heap H locs) (hsize : ls.size = c.maxLocals)
    (d0 : decode cc pc = .ok (.new ik, 3)) (d3 : decode cc (pc + 3) = .ok (.dup, 1)) (d4 : decode cc (pc + 4) = .ok (.ldc is, 2)) (d6 : decode cc (pc + 6) = .ok (.invokespecial ic, 3)) (d9 : decode cc (pc + 9) = .ok (.athrow, 1))
    (hout : ∀ x ∈ c.exceptionTable.toList, covers x (pc + 9) = false)
    (hRframes : names.length + 3 < R.frames) (hRlocals : (rest.map fun v => v.category).sum + (13 * (names.length + 1) + 43) ≤ R.locals) (hRcells : cells + 1 ≤ R.cells) (hRslots : slots + 6 ≤ R.slots) (hlocks : meth.locks = false)
    (hx : ∀ t : State, s.vm.Alike t.vm → H.size ≤ t.heap.size → (∀ q : Nat, q < H.size → t.heap[q]? = H[q]?) → XC cls s t)
    (hf : ∀ z ∈ locs, free z.base) (hc : cells + 1 ≤ mc) (hs : slots + 6 ≤ ms) :
    W p l e R s m args below meth c H locs cells slots (vx_MQ below Qc XC args s mc ms free) (F0 m pc ls rest) := by
  intro T hT X
  have htr : e.platform.stackTraces = false := (show e.platform.stackTraces = l.stackTraces by rw [X.admits.platform]).trans hl
  have Y := vx_rebase X (R' := { frames := R.frames, locals := R.locals, cells := 1, slots := 6 }) (Nat.le_refl _) (Nat.le_refl _) hRcells hRslots
  obtain ⟨s', hA⟩ : ∃ z, z = (T.setVm s.vm).setFrames (.invoking m args :: below) := ⟨_, rfl⟩
  rw [← hA] at Y
  have hvm : s'.vm = s.vm := by rw [hA]; rfl
  have hhp : s'.heap = H := by rw [hA]; exact hT
  have hW0 : s.WarmedH s'.vm := by rw [hvm]; exact State.WarmedH.refl s
  have hat' : ∀ w ∈ vx_atS own ic cls names, w.before args s' = true := fun w hw => vx_ot_at hW0 hvm.symm (hgood w (List.mem_cons_of_mem _ (List.mem_cons_of_mem _ hw))) (hat w hw)
  have hk' : (Cond.classLink own ik cls).before args s' = true := vx_ot_at hW0 hvm.symm (hgood _ List.mem_cons_self) hk
  have hini' : (Cond.initialized cls).before args s' = true := vx_ot_at hW0 hvm.symm (hgood _ (List.mem_cons_of_mem _ List.mem_cons_self)) hini
  have hU' : vx_Zq Bundle.tN "UNASSIGNED_STACK" Bundle.steD A s' s'.heap := by rw [hhp]; exact vx_Zq.moved hW0.alike (hU.kept hS.2.1)
  have hN' : vx_Zq Bundle.tN "SUPPRESSED_SENTINEL" Bundle.listD A s' s'.heap := by rw [hhp]; exact vx_Zq.moved hW0.alike (hN.kept hS.2.1)
  have h : ∀ w ∈ Bundle.ownAtoms own ic cls names, w.before args s' = true := vx_own hat' (vx_isRefq hU'.1) (vx_isRefq hN'.1) hU'.2.word hN'.2.word
  have hown' : s'.vm.findClass own = some m.cls := by rw [hvm]; exact hown
  have hins : (Cond.instantiable cls 6).before args s' = true := h _ (by simp [Bundle.ownAtoms])
  obtain ⟨vm₁, cX, kX, hfX, hkX, -, -, X₁, st1⟩ := Y.newCold hexec (own := own) (C := cls) (index := ik) (n := 6) hown' hk' hins hini'
    (g := F0 m pc ls rest) rfl (by rw [hb]; exact d0) (Nat.le_refl _) (Nat.le_refl _)
  generalize hT1 : (T.setVm vm₁).pushCell { cls := cX, slots := kX.instanceTypes.map defaultValue, vm := .none } = T1 at X₁ st1
  have hcat : (Value.ref T.heap.size).category = 1 := rfl
  have hcellA : T1.heap[T.heap.size]? = some (freshCell cX kX) := by rw [← hT1]; exact State.heap_pushCell_size _ _
  have d3' : decode c.code (pc + 3) = .ok (.dup, 1) := by rw [hb]; exact d3
  have d4' : decode c.code (pc + 4) = .ok (.ldc is, 2) := by rw [hb]; exact d4
  have hstr' : vk_R own is text sa s' := vk_R.warm hW0 hstr
  obtain ⟨U, hsteps, hrun, hend, hW, hsame, ce, hce, hO⟩ := X₁.ctorThrowS hexec htr (own := own) (cls := cls) (names := names) (ic := ic) hown' hcls hnames h (fun x hx => nomatch hx) hfX hkX hcellA (by rw [hhp, hT]; exact Nat.le_refl _) (msg := .ref sa) rfl
    (g := { method := m, pc := pc + 6, locals := ls, stack := .ref sa :: .ref T.heap.size :: .ref T.heap.size :: rest, locked := none }) rfl hsize rfl rfl (rest := rest) rfl
    (by rw [hb]; exact d6) (by rw [hb]; exact d9) hout hRframes (by simp only [List.map_cons, List.sum_cons, hcat]; omega) hlocks
  obtain ⟨f1, f2⟩ := vx_frame hsame
  rw [hhp] at f1 f2
  have hWs : s.WarmedH U.vm := State.WarmedH.trans hW0 hW
  have hcl : s.vm.findClass cls = some ce.cls := by
    have h9 := hO.cls
    rw [hvm] at h9
    exact h9
  have hall : s.sameButNew ({ U with vm := s.vm } : State) locs mc ms := by
    subst hA
    obtain ⟨e1, e2⟩ := hsame
    rw [State.setFrames_setFrames] at e1
    have h2 : (T.setVm s.vm).sameButNew ({ U with vm := s.vm } : State) [] (0 + 1) (0 + 6) := ⟨e1, e2⟩
    have h3 := X.same.trans h2
    rw [List.append_nil] at h3
    exact h3.mono hc hs
  refine ⟨U, ?_, .threw T.heap.size, hrun, hend, Or.inr ⟨T.heap.size, rfl, cls, ce, locs, hx U hWs.alike f1 (fun q hq => f2 q hq (fun z hz => nomatch hz)), hce, hO.vm, hcl, hWs, hall, hf⟩⟩
  refine st1 _ ?_
  show Steps p.tables e below (T1.setTop { method := m, pc := pc + 3, locals := ls, stack := .ref T.heap.size :: rest, locked := none }) _
  jvm_step X₁.here [X₁.here.top, hexec, d3', Value.category]
  exact X₁.ldcString hexec (own := own) (text := text) (index := is) (a := sa) hown' hstr'.1 hstr'.2
    (g := { method := m, pc := pc + 4, locals := ls, stack := .ref T.heap.size :: .ref T.heap.size :: rest, locked := none }) rfl d4' _ hsteps
/-- 'throw new E("text")', the text by a wide index -/
theorem vx_throwSW {cc : ByteArray} {pc : Nat} (hexec : p.tables.exec = Jvm.exec) (hb : c.code = cc) (hl : l.stackTraces = false) {own cls text : String} {names : List String} {ik is ic mc ms sa : Nat} {A : Nat → Prop}
    (hown : s.vm.findClass own = some m.cls) (hcls : Bundle.fit cls = true) (hnames : ∀ n ∈ names, Bundle.fit n = true)
    (hk : (Cond.classLink own ik cls).before args s = true) (hini : (Cond.initialized cls).before args s = true) (hstr : vk_R own is text sa s) (hat : ∀ w ∈ vx_atS own ic cls names, w.before args s = true)
    (hgood : ∀ w ∈ Cond.classLink own ik cls :: Cond.initialized cls :: vx_atS own ic cls names, vx_ot w = true)
    (hU : vx_Zq Bundle.tN "UNASSIGNED_STACK" Bundle.steD A s s.heap) (hN : vx_Zq Bundle.tN "SUPPRESSED_SENTINEL" Bundle.listD A s s.heap) (hS : va_S A s.heap H locs) (hsize : ls.size = c.maxLocals)
    (d0 : decode cc pc = .ok (.new ik, 3)) (d3 : decode cc (pc + 3) = .ok (.dup, 1)) (d4 : decode cc (pc + 4) = .ok (.ldc_w is, 3)) (d7 : decode cc (pc + 7) = .ok (.invokespecial ic, 3)) (d10 : decode cc (pc + 10) = .ok (.athrow, 1))
    (hout : ∀ x ∈ c.exceptionTable.toList, covers x (pc + 10) = false)
    (hRframes : names.length + 3 < R.frames) (hRlocals : (rest.map fun v => v.category).sum + (13 * (names.length + 1) + 43) ≤ R.locals) (hRcells : cells + 1 ≤ R.cells) (hRslots : slots + 6 ≤ R.slots) (hlocks : meth.locks = false)
    (hx : ∀ t : State, s.vm.Alike t.vm → H.size ≤ t.heap.size → (∀ q : Nat, q < H.size → t.heap[q]? = H[q]?) → XC cls s t)
    (hf : ∀ z ∈ locs, free z.base) (hc : cells + 1 ≤ mc) (hs : slots + 6 ≤ ms) :
    W p l e R s m args below meth c H locs cells slots (vx_MQ below Qc XC args s mc ms free) (F0 m pc ls rest) := by
  intro T hT X
  have htr : e.platform.stackTraces = false := (show e.platform.stackTraces = l.stackTraces by rw [X.admits.platform]).trans hl
  have Y := vx_rebase X (R' := { frames := R.frames, locals := R.locals, cells := 1, slots := 6 }) (Nat.le_refl _) (Nat.le_refl _) hRcells hRslots
  obtain ⟨s', hA⟩ : ∃ z, z = (T.setVm s.vm).setFrames (.invoking m args :: below) := ⟨_, rfl⟩
  rw [← hA] at Y
  have hvm : s'.vm = s.vm := by rw [hA]; rfl
  have hhp : s'.heap = H := by rw [hA]; exact hT
  have hW0 : s.WarmedH s'.vm := by rw [hvm]; exact State.WarmedH.refl s
  have hat' : ∀ w ∈ vx_atS own ic cls names, w.before args s' = true := fun w hw => vx_ot_at hW0 hvm.symm (hgood w (List.mem_cons_of_mem _ (List.mem_cons_of_mem _ hw))) (hat w hw)
  have hk' : (Cond.classLink own ik cls).before args s' = true := vx_ot_at hW0 hvm.symm (hgood _ List.mem_cons_self) hk
  have hini' : (Cond.initialized cls).before args s' = true := vx_ot_at hW0 hvm.symm (hgood _ (List.mem_cons_of_mem _ List.mem_cons_self)) hini
  have hU' : vx_Zq Bundle.tN "UNASSIGNED_STACK" Bundle.steD A s' s'.heap := by rw [hhp]; exact vx_Zq.moved hW0.alike (hU.kept hS.2.1)
  have hN' : vx_Zq Bundle.tN "SUPPRESSED_SENTINEL" Bundle.listD A s' s'.heap := by rw [hhp]; exact vx_Zq.moved hW0.alike (hN.kept hS.2.1)
  have h : ∀ w ∈ Bundle.ownAtoms own ic cls names, w.before args s' = true := vx_own hat' (vx_isRefq hU'.1) (vx_isRefq hN'.1) hU'.2.word hN'.2.word
  have hown' : s'.vm.findClass own = some m.cls := by rw [hvm]; exact hown
  have hins : (Cond.instantiable cls 6).before args s' = true := h _ (by simp [Bundle.ownAtoms])
  obtain ⟨vm₁, cX, kX, hfX, hkX, -, -, X₁, st1⟩ := Y.newCold hexec (own := own) (C := cls) (index := ik) (n := 6) hown' hk' hins hini'
    (g := F0 m pc ls rest) rfl (by rw [hb]; exact d0) (Nat.le_refl _) (Nat.le_refl _)
  generalize hT1 : (T.setVm vm₁).pushCell { cls := cX, slots := kX.instanceTypes.map defaultValue, vm := .none } = T1 at X₁ st1
  have hcat : (Value.ref T.heap.size).category = 1 := rfl
  have hcellA : T1.heap[T.heap.size]? = some (freshCell cX kX) := by rw [← hT1]; exact State.heap_pushCell_size _ _
  have d3' : decode c.code (pc + 3) = .ok (.dup, 1) := by rw [hb]; exact d3
  have d4' : decode c.code (pc + 4) = .ok (.ldc_w is, 3) := by rw [hb]; exact d4
  have hstr' : vk_R own is text sa s' := vk_R.warm hW0 hstr
  obtain ⟨U, hsteps, hrun, hend, hW, hsame, ce, hce, hO⟩ := X₁.ctorThrowS hexec htr (own := own) (cls := cls) (names := names) (ic := ic) hown' hcls hnames h (fun x hx => nomatch hx) hfX hkX hcellA (by rw [hhp, hT]; exact Nat.le_refl _) (msg := .ref sa) rfl
    (g := { method := m, pc := pc + 7, locals := ls, stack := .ref sa :: .ref T.heap.size :: .ref T.heap.size :: rest, locked := none }) rfl hsize rfl rfl (rest := rest) rfl
    (by rw [hb]; exact d7) (by rw [hb]; exact d10) hout hRframes (by simp only [List.map_cons, List.sum_cons, hcat]; omega) hlocks
  obtain ⟨f1, f2⟩ := vx_frame hsame
  rw [hhp] at f1 f2
  have hWs : s.WarmedH U.vm := State.WarmedH.trans hW0 hW
  have hcl : s.vm.findClass cls = some ce.cls := by
    have h9 := hO.cls
    rw [hvm] at h9
    exact h9
  have hall : s.sameButNew ({ U with vm := s.vm } : State) locs mc ms := by
    subst hA
    obtain ⟨e1, e2⟩ := hsame
    rw [State.setFrames_setFrames] at e1
    have h2 : (T.setVm s.vm).sameButNew ({ U with vm := s.vm } : State) [] (0 + 1) (0 + 6) := ⟨e1, e2⟩
    have h3 := X.same.trans h2
    rw [List.append_nil] at h3
    exact h3.mono hc hs
  refine ⟨U, ?_, .threw T.heap.size, hrun, hend, Or.inr ⟨T.heap.size, rfl, cls, ce, locs, hx U hWs.alike f1 (fun q hq => f2 q hq (fun z hz => nomatch hz)), hce, hO.vm, hcl, hWs, hall, hf⟩⟩
  refine st1 _ ?_
  show Steps p.tables e below (T1.setTop { method := m, pc := pc + 3, locals := ls, stack := .ref T.heap.size :: rest, locked := none }) _
  jvm_step X₁.here [X₁.here.top, hexec, d3', Value.category]
  exact X₁.ldcStringW hexec (own := own) (text := text) (index := is) (a := sa) hown' hstr'.1 hstr'.2
    (g := { method := m, pc := pc + 4, locals := ls, stack := .ref T.heap.size :: .ref T.heap.size :: rest, locked := none }) rfl d4' _ hsteps
end Ends
section Bodies
variable {l : Launch}
theorem vx_ofW {y : MethodName} {ws ws' : List Cond} {rm : Room} {Pc : Array Value → State → Prop} {Qc : Array Value → State → Outcome → State → Prop} {XC : String → State → State → Prop} {mc ms : Nat} {free : Addr → Prop} {cc : ByteArray} {maxL : Nat} {ret : Option FieldType}
    (hy : plainName y.cls = true) (hw : ws = Cond.code y cc maxL ret :: ws')
    (body : ∀ p e s m args below meth c s₁, BodyLoose p l y (headSpec ws rm) cc maxL ret e s m args below meth c s₁ → c.maxLocals = maxL → (∀ x ∈ c.exceptionTable.toList, False) → Pc args s →
      W p l e (headSpec ws rm).room s m args below meth c s.heap [] 0 0 (vx_MQ below Qc XC args s mc ms free) (entryFrame m args maxL)) : vx_Met l y ws rm Pc Qc XC mc ms free := by
  refine MetFree.of_bodyS (code := cc) (maxLocals := maxL) (ret := ret) hy ?_ ?_
  · intro args s m h hn
    obtain ⟨meth, c, h1, h2, h3, h4, h5, h6, -, -⟩ := Cond.code_spec hn (atoms_spec (ws := ws) h _ (by rw [hw]; exact List.mem_cons_self))
    exact ⟨meth, c, h1, h2, h3, h4, h5, h6⟩
  · intro p e s m args below meth c s₁ B hml hP _
    have hh0 : s₁.heap = s.heap := by rw [B.state]; rfl
    have ht : ∀ x ∈ c.exceptionTable.toList, False := by
      obtain ⟨meth9, c9, h1, h2, -, -, -, -, h7, -⟩ := Cond.code_spec B.named (atoms_spec (ws := ws) B.pre _ (by rw [hw]; exact List.mem_cons_self))
      cases Option.some.inj (h1.symm.trans B.method)
      cases Option.some.inj (h2.symm.trans (Stand.of_body B).code)
      intro x hx
      rw [Array.isEmpty_iff.mp h7] at hx
      cases hx
    obtain ⟨t, a1, o, b1, b2, b3⟩ := body p e s m args below meth c s₁ B hml ht hP s₁ hh0 (Stand.of_body B)
    exact ⟨t, o, a1, b1, b2, b3⟩
/-- the table of a body with handlers -/
theorem vx_table {p : Program} {x y : MethodName} {S : Spec} {cc bytes : ByteArray} {maxL maxL' : Nat} {ret ret' : Option FieldType} {e : Env} {s s₁ : State} {m : MethodId} {args : Array Value} {below : List Frame} {meth : Method} {c : Code} {hh : List (Nat × Nat × Nat × Nat)}
    (B : BodyLoose p l y S cc maxL ret e s m args below meth c s₁) (h : (Cond.codeWith y bytes maxL' ret' hh).before args s = true) : c.exceptionTable.toList = tableOf hh := by
  obtain ⟨m9, meth9, c9, hn9, h1, h2, -, -, h6, -⟩ := Cond.codeWith_spec h
  cases Option.some.inj (hn9.symm.trans B.named)
  cases Option.some.inj (h1.symm.trans B.method)
  cases Option.some.inj (h2.symm.trans (Stand.of_body B).code)
  rw [← h6, table_eq]
end Bodies
end VXA
/-! ===== END ===== -/
/-! ===== BEGIN a static call of a method with an exception table ===== -/
section VXS
variable {p : Program} {l : Launch} {e : Env} {R : Room} {s : State} {m : MethodId} {args : Array Value} {below : List Frame} {meth : Method} {c : Code} {T : State} {H : Heap} {locs : List Loc} {cells slots : Nat}
abbrev vx_CSW (R : Room) (s : State) (args : Array Value) (own : String) (index : Nat) (y : MethodName) (bytes : ByteArray) (maxL : Nat) (ret : Option FieldType) (hh : List (Nat × Nat × Nat × Nat)) (ws : List Cond) (rm : Room) (mc ms n : Nat) : Prop :=
  (rm.cells = mc ∧ rm.slots = ms ∧ rm.frames + 1 ≤ R.frames ∧ 8 + (maxL + 11) + rm.locals ≤ R.locals ∧ (∀ w ∈ ws, ∀ (a' : Array Value) (U : State), s.WarmedH U.vm → w.before a' U = true) ∧ Cond.codeWith y bytes maxL ret hh ∈ ws) ∧
  (Cond.codeWith y bytes maxL ret hh).before args s = true ∧ (Cond.initialized y.cls).before args s = true ∧ (y.cls ≠ "java/lang/invoke/MethodHandle" ∧ y.cls ≠ "java/lang/invoke/VarHandle") ∧
  (∀ sig, parseMethodDescriptor y.desc = some sig → n = sig.parameters.length) ∧ (Cond.methodLink own index y).before args s = true ∧ (Cond.static y).before args s = true
theorem vx_cwSW {own : String} {index maxL mc ms : Nat} {y : MethodName} {bytes : ByteArray} {ret : Option FieldType} {hh : List (Nat × Nat × Nat × Nat)} {Ts ws ws' : List Cond} {rm : Room} (n : Nat) (ht : ∀ w ∈ Ts, w.before args s = true) (hT : GoodIn Ts (va_wsS own index y ws)) (hw : ws = Cond.codeWith y bytes maxL ret hh :: ws') (hrc : rm.cells = mc) (hrs : rm.slots = ms)
    (hd : y.cls ≠ "java/lang/invoke/MethodHandle" ∧ y.cls ≠ "java/lang/invoke/VarHandle" ∧ (parseMethodDescriptor y.desc).map (fun d => d.parameters.length) = some n) (hR : rm.frames + 1 ≤ R.frames ∧ 8 + (maxL + 11) + rm.locals ≤ R.locals) :
    vx_CSW R s args own index y bytes maxL ret hh ws rm mc ms n := by
  have ok : ∀ w ∈ va_wsS own index y ws, w.before args s = true := fun w h => ht w (hT w h).1
  have hG : GoodIn Ts ws := fun w h => hT w (by unfold va_wsS; exact List.mem_append_right _ h)
  have hc : Cond.codeWith y bytes maxL ret hh ∈ ws := by rw [hw]; exact List.mem_cons_self
  refine ⟨⟨hrc, hrs, hR.1, hR.2, pay_in ht hG, hc⟩, ht _ (hG _ hc).1, ok _ (by simp [va_wsS]), ⟨hd.1, hd.2.1⟩, fun sig h => ?_, ok _ (by simp [va_wsS]), ok _ (by simp [va_wsS])⟩
  have h2 := hd.2.2
  rw [h] at h2
  exact (Option.some.inj h2).symm
theorem vx_callSW (X : Stand p l e R s m args below meth c T locs cells slots) (hexec : p.tables.exec = Jvm.exec) {own : String} {index : Nat} {y : MethodName} {bytes : ByteArray} {maxL : Nat} {ret : Option FieldType} {hh : List (Nat × Nat × Nat × Nat)}
    (hown : s.vm.findClass own = some m.cls) (hlink : (Cond.methodLink own index y).before args s = true) (hstat : (Cond.static y).before args s = true) (hinit : (Cond.initialized y.cls).before args s = true)
    (hcode : (Cond.codeWith y bytes maxL ret hh).before args s = true) (hy : y.cls ≠ "java/lang/invoke/MethodHandle" ∧ y.cls ≠ "java/lang/invoke/VarHandle")
    {W9 : Nat} {Pre : Pt → Array Value → Prop} {Post : Pt → Array Value → Option Value → Pt → Prop} (hK : Back l R p e below s args y 3 W9 Pre Post)
    {g : JFrame} (hg : g.method = m) (hsize : g.locals.size = c.maxLocals) {argsL rest : List Value} (hlen : ∀ sig, parseMethodDescriptor y.desc = some sig → argsL.length = sig.parameters.length)
    (hstack : g.stack = argsL.reverse ++ rest) (hW : 2 * g.monitorRoom + (rest.map fun v => v.category).sum ≤ W9) (hdg : decode c.code g.pc = .ok (.invokestatic index, 3))
    (hpre : ∀ vm₁, s.WarmedH vm₁ → Pre ⟨T.setVm vm₁, locs, cells, slots⟩ argsL.toArray) :
    ∃ (v : Option Value) (vm₁ : Vm) (B : Pt), s.WarmedH vm₁ ∧ Stand p l e R s m args below meth c B.U B.locs B.cells B.slots ∧ Post ⟨T.setVm vm₁, locs, cells, slots⟩ argsL.toArray v B ∧
      ∀ target, Steps p.tables e below (B.U.setTop { g with pc := g.pc + 3, stack := v.toList ++ rest }) target → Steps p.tables e below (T.setTop g) target := by
  obtain ⟨mk, methM, cM, hnamed, hmethM, -, -, -, -, -, -, hsigM⟩ := Cond.codeWith_spec hcode
  have hstatic : methM.isStatic = true := Cond.static_spec hnamed hmethM hstat
  obtain ⟨kP, hkP, -⟩ := className_of_methodNamed hnamed
  have hinitP : kP.init = .initialized := Cond.initialized_spec (findClass_of_methodNamed hnamed) hkP hinit
  obtain ⟨vm₁, X₁, hstep₁⟩ := X.invokestatic hexec hown hlink hnamed hmethM hstatic hkP hinitP hy (g := g) hg (argsL := argsL) (rest := rest) (hlen _ hsigM) hstack hdg
  obtain ⟨v, B, X', hpost, hsteps⟩ := hK m meth c ⟨T.setVm vm₁, locs, cells, slots⟩ { g with stack := rest } (.invokestatic index) mk argsL.toArray X₁ hg hsize hdg hW (X₁.named hnamed) (hpre vm₁ X₁.warmed)
  exact ⟨v, vm₁, B, X₁.warmed, X', hpost, fun target h => hstep₁ _ fun acts => by rw [doInvoke_state]; exact hsteps.trans h⟩
theorem vx_runSW {y : MethodName} {bytes cc : ByteArray} {maxL nL mc ms n index : Nat} {ret : Option FieldType} {hh : List (Nat × Nat × Nat × Nat)} {ws : List Cond} {rm : Room} {Pc : Array Value → State → Prop} {Qc : Array Value → State → Outcome → State → Prop} {free : Addr → Prop} {Ts : List Cond} {own : String} {As rest : List Value} {g : JFrame}
    (S : CallFix p m c cc nL s args Ts own) (hM : Met l y ws rm Pc Qc mc ms free) (cw : vx_CSW R s args own index y bytes maxL ret hh ws rm mc ms n) (hp : PreS s H Pc As)
    (hg : g.method = m) (hn : As.length = n) (hsize : g.locals.size = nL) (hstack : g.stack = As.reverse ++ rest) (hW : 2 * g.monitorRoom + (rest.map fun v => v.category).sum ≤ 8) (hdg : decode cc g.pc = .ok (.invokestatic index, 3)) (hf : cells + mc ≤ R.cells ∧ slots + ms ≤ R.slots) :
    va_Run p l e R s m args below meth c H locs cells slots mc ms g rest (Qc As.toArray) (free) := by
  obtain ⟨⟨hrc, hrs, hfr, hlo, hws, hcw⟩, hcode, hini, hy, hlen, hl, hstt⟩ := cw
  have hK : Back l R p e below s args y 3 8 (PreOf R mc ms Pc) (PostOf Qc mc ms free) := va_backW (hh := hh) (bytes := bytes) (maxL := maxL) (ret := ret) hM hp.1 hrc hrs hfr hlo hws hcw (fun a' U hW => word_at hW (Or.inl (by first | rfl | simp [Cond.onTables, Cond.keeps, Cond.steady])) hini)
  obtain ⟨hx, hb, hml, ho, -⟩ := S
  intro T hT X
  obtain ⟨v, vm₁, ⟨U', l2, c2, s2⟩, hW₁, X', ⟨g', mk, t, L, e1, e2, hq, h1, hL, h2, h3⟩, st⟩ := vx_callSW X hx (hh := hh) (bytes := bytes) (maxL := maxL) (ret := ret) ho hl hstt hini hcode hy hK hg (hsize.trans hml.symm) (argsL := As) (rest := rest) (fun sig h => hn.trans (hlen sig h)) hstack hW (by rw [hb]; exact hdg)
    (fun vm₁ hW₁ => ⟨hf.1, hf.2, hp.2 (T.setVm vm₁) hT hW₁⟩)
  dsimp only [Pt.U, Pt.locs, Pt.cells, Pt.slots] at X' e1 e2 h1 h2 h3 st
  subst h1; subst h2; subst h3
  exact ⟨v, (T.setVm vm₁).calling g' mk As.toArray, t, U', L, hT, X', hL, e1, e2, hq, st⟩
/-- not caught here, past rows that name other classes: it goes on to the caller -/
theorem vx_outP {p : Program} {l : Launch} {e : Env} {R : Room} {s : State} {m : MethodId} {args : Array Value} {below : List Frame} {meth : Method} {c : Code} {H : Heap} {locs : List Loc} {cells slots : Nat} {free : Addr → Prop} {ls : Array Slot} {rest : List Value} {Qc : Array Value → State → Outcome → State → Prop} {XC : String → State → State → Prop}
    {pc : Nat} {own E : String} {ce : Cell} {q : Addr} {mc ms : Nat} (hown : s.vm.findClass own = some m.cls) (hlocks : meth.locks = false)
    (hpass : ∀ z ∈ c.exceptionTable.toList, covers z pc = false ∨ (z.catchType ≠ 0 ∧ ∃ nm : String, (Cond.classLink own z.catchType nm).before args s = true ∧ va_Nc E nm s)) (hcell : H[q]? = some ce) (hv : ce.vm = .none) (hcl : s.vm.findClass E = some ce.cls)
    (hx : ∀ t : State, t.heap = H → s.vm.Alike t.vm → XC E s t) (hf : ∀ z ∈ locs, free z.base) (hc : cells ≤ mc) (hs : slots ≤ ms) :
    vx_W p l e R s m args below meth c H locs cells slots (vx_MQ below Qc XC args s mc ms free) (F0 m pc ls rest) q := by
  intro T hT X
  have hpl : e.platform.magicAccessors = ({} : Platform).magicAccessors := by rw [X.admits.platform]
  obtain ⟨vm', hW', X', st⟩ := X.outThrough hlocks q (g := F0 m pc ls rest) rfl rfl rfl (cell := ce) (by rw [hT]; exact hcell) (by rw [hv]; rfl)
    (by obtain ⟨k9, h9, -⟩ := Vm.findClass_spec hcl; exact ⟨k9, h9⟩) (fun z hz => by
      rcases hpass z hz with h | ⟨hz0, nm, hl1, hn1⟩
      · exact Or.inl h
      · obtain ⟨c6, hc6, hcl6⟩ := Cond.classLink_spec hown hl1 e.platform hpl
        obtain ⟨a8, b8, h1, h2, h3⟩ := hn1
        cases Option.some.inj (h1.symm.trans hcl)
        cases Option.some.inj (h2.symm.trans hc6)
        exact Or.inr ⟨hz0, _, hcl6, h3⟩)
  obtain ⟨g₀, hfr⟩ := X'.frames_eq
  have hcell9 : ((T.setVm vm').setFrames (.throwing q :: below)).heap[q]? = some ce := by
    show T.heap[q]? = some ce
    rw [hT]; exact hcell
  have hend : Ended ((T.setVm vm').setFrames (.throwing q :: below)) below (.threw q) := State.frames_setFrames _ (State.cur_lt_of_frames hfr)
  refine ⟨(T.setVm vm').setFrames (.throwing q :: below), ?_, .threw q, X'.here.running, hend, Or.inr ⟨q, rfl, E, ce, locs, hx _ hT (X'.ends _).1.alike, hcell9, hv, hcl, (X'.ends _).1, (X'.ends _).2.mono hc hs, hf⟩⟩
  rw [X.pushThrowing_eq]
  exact st
/-- a thing of a world lies in the heap -/
theorem vx_lt {D : va_G} {cl : List vw_C} {ws : va_W} {H1 : Heap} (h : va_P D cl ws H1) {k : Nat} {q : Nat × va_E} (hk : ws[k]? = some q) : q.1 < H1.size := (h k q hk).lt
end VXS
/-! ===== END ===== -/
/-! ===== BEGIN methods with a table of their own: called by a name, returning or throwing ===== -/
section VXH
/-! vx_backW, vx_callVX, vx_callSX, vx_callVW, vx_runVW, vx_runVX, vx_runSX, vx_ofWH follow the same proofs as their sisters above (Free/Laws.lean, Shelf42/LK1.lean); vx_outP calls Shelf42/NT130.lean (outThrough). -/
section
variable {l : Launch} {R : Room} {p : Program} {e : Env} {below : List Frame} {s : State} {sargs : Array Value} {y : MethodName} {len W9 : Nat}
theorem vx_backW {ws : List Cond} {rm : Room} {Pc : Array Value → State → Prop} {Qc : Array Value → State → Outcome → State → Prop} {XC : String → State → State → Prop} {mc ms : Nat} {free : Addr → Prop} {bytes : ByteArray} {maxL : Nat} {ret : Option FieldType} {hh : List (Nat × Nat × Nat × Nat)}
    (hM : vx_Met l y ws rm Pc Qc XC mc ms free) (hblind : FrameBlind Pc) (hrc : rm.cells = mc) (hrs : rm.slots = ms)
    (hframes : rm.frames + 1 ≤ R.frames) (hlocals : W9 + (maxL + 11) + rm.locals ≤ R.locals)
    (hws : ∀ w ∈ ws, ∀ a' U, s.WarmedH U.vm → w.before a' U = true) (hcode : Cond.codeWith y bytes maxL ret hh ∈ ws) (hinit : ∀ a' U, s.WarmedH U.vm → (Cond.initialized y.cls).before a' U = true) :
    vx_Back l R p e below s sargs y len W9 (PreOf R mc ms Pc) (PostOf Qc mc ms free) (vx_Post XC mc ms free) := by
  intro m meth c A g ig mk a X hg hsize hdg hW hn hp
  have h1 : (headSpec ws rm).pre.before a A.U = true := atoms_intro fun w hw => hws w hw _ _ X.warmed
  have h2 : (Cond.codeWith y bytes maxL ret hh).before a A.U = true := hws _ hcode _ _ X.warmed
  have h3 : (Cond.initialized y.cls).before a A.U = true := hinit _ _ X.warmed
  have h4 : A.cells + (headSpec ws rm).room.cells ≤ R.cells := by rw [show (headSpec ws rm).room.cells = mc from hrc]; exact hp.1
  have h5 : A.slots + (headSpec ws rm).room.slots ≤ R.slots := by rw [show (headSpec ws rm).room.slots = ms from hrs]; exact hp.2.1
  have hPc : Pc a (A.U.calling g mk a) := hblind _ _ _ _ hp.2.2
  obtain ⟨U, Ls, c0, s0⟩ := A
  dsimp only [Pt.U, Pt.locs, Pt.cells, Pt.slots] at h1 h2 h3 h4 h5 X hn hPc ⊢
  obtain ⟨m9, methY, cY, hn9, hmY, hcY, -, hlY, -⟩ := Cond.codeWith_spec h2
  cases Option.some.inj (hn9.symm.trans hn)
  obtain ⟨kY, hkY, -⟩ := className_of_methodNamed hn
  have hinitY : kY.init = .initialized := Cond.initialized_spec (findClass_of_methodNamed hn) hkY h3
  have h : At U g.method c below := by rw [hg]; exact X.here
  have hlocals9 : W9 + (maxL + 11) + (headSpec ws rm).room.locals ≤ R.locals := hlocals
  have happ : (headSpec ws rm).appliesLoose y e.platform (U.calling g mk a) = true :=
    Spec.appliesLoose_calling (g := g) h hdg hn hkY hinitY
      (X.room_calling (g := g) (R' := (headSpec ws rm).room) hsize hmY hcY hframes (by rw [hlY]; omega) h4 h5) h1
  obtain ⟨mid, hmid⟩ := h.above
  have hfr : (U.setTop g).frames = (.java g :: mid) ++ below := by rw [State.frames_setTop' g h.top, hmid]; rfl
  obtain ⟨o, s₂, hsteps, -, hend, hq⟩ := Steps.callFree hM p X.admits X.cas X.clock (acts := []) hfr happ hPc trivial
  have hq' : vx_Q Qc XC mc ms free a (U.calling g mk a) o s₂ := hq
  rw [State.frames_setTop' g h.top] at hend
  obtain ⟨g₀, hg0⟩ := Option.isSome_iff_exists.mp h.top
  obtain ⟨r, hr⟩ := State.topJava?_eq_some.mp hg0
  have hr' : (({ U with heap := s₂.heap, slotsUsed := s₂.slotsUsed } : State).setVm s₂.vm).frames = .java g₀ :: r := hr
  rcases hq' with ⟨hqc, L, hfe, hL⟩ | ⟨q, rfl, E, ce, L, hx, hce, hcv, hcl, hW₂, hsm, hL⟩
  · obtain ⟨⟨v, rfl⟩, hW₂, e2, q2, q3, q4, q5, q6⟩ := id hfe
    have e3 : s₂ = ({ (U.calling g mk a).setFrames s₂.frames with heap := s₂.heap, slotsUsed := s₂.slotsUsed } : State).setVm s₂.vm := by
      have : s₂ = ({ s₂ with vm := (U.calling g mk a).vm } : State).setVm s₂.vm := rfl
      rw [e2] at this
      exact this
    obtain ⟨c₂, i₂, len₂, hc₂, hd₂, hf₂⟩ := hend
    have hW' : U.WarmedH s₂.vm := hW₂
    have hcc : c₂ = c := by
      have h1 : s₂.code? g.method = U.code? g.method := by
        rw [State.code?_eq, State.code?_eq, hW'.alike.method?]
      exact Option.some.inj (hc₂.symm.trans (h1.trans h.code))
    subst hcc
    have hlen : len₂ = len := by rw [hdg] at hd₂; cases hd₂; rfl
    subst hlen
    have hs₂ : s₂ = (({ U with heap := s₂.heap, slotsUsed := s₂.slotsUsed } : State).setVm s₂.vm).setTop { g with pc := g.pc + len₂, stack := v.toList ++ g.stack } := by
      refine e3.trans ?_
      rw [hf₂, State.calling_eq h.top, State.setFrames_setFrames, State.setTop_of_frames _ hr', hr]
      rfl
    have hsame : U.sameButNew ({ U with heap := s₂.heap, slotsUsed := s₂.slotsUsed } : State) L mc ms := by
      refine ⟨?_, q2, q3, q4, q5, q6⟩
      obtain ⟨t, ht, -⟩ := State.frames_cons hr
      show ({ U with heap := s₂.heap, slotsUsed := s₂.slotsUsed } : State) = { U.setFrames U.frames with heap := s₂.heap, slotsUsed := s₂.slotsUsed }
      rw [State.setFrames_self ht]
    subst hg
    refine Or.inl ⟨v, ⟨(({ U with heap := s₂.heap, slotsUsed := s₂.slotsUsed } : State).setVm s₂.vm), Ls ++ L, c0 + mc, s0 + ms⟩,
      ⟨X.admits, X.cas, X.clock, X.frames, X.room, X.hears, X.method, X.code, (X.here.setHeapUsed s₂.heap s₂.slotsUsed).setVm hW'.alike, X.tail, State.WarmedH.trans X.warmed hW', X.limits, X.bytes, X.same.trans (hsame.setVm s.vm)⟩,
      ⟨g, mk, s₂, L, rfl, rfl, hqc, rfl, hL, rfl, rfl⟩, ?_⟩
    show Steps p.tables e below _ ((({ U with heap := s₂.heap, slotsUsed := s₂.slotsUsed } : State).setVm s₂.vm).setTop { g with pc := g.pc + len₂, stack := v.toList ++ g.stack })
    rw [← hs₂]
    exact hsteps
  · obtain ⟨e2, q2, q3, q4, q5, q6⟩ := id hsm
    have e3 : s₂ = ({ (U.calling g mk a).setFrames s₂.frames with heap := s₂.heap, slotsUsed := s₂.slotsUsed } : State).setVm s₂.vm := by
      have : s₂ = ({ s₂ with vm := (U.calling g mk a).vm } : State).setVm s₂.vm := rfl
      rw [e2] at this
      exact this
    have hf₂ : s₂.frames = .throwing q :: .java g :: U.frames.tail := hend
    have hW' : U.WarmedH s₂.vm := hW₂
    have hs₂ : s₂ = ((({ U with heap := s₂.heap, slotsUsed := s₂.slotsUsed } : State).setVm s₂.vm).setTop g).pushFrame (.throwing q) := by
      refine e3.trans ?_
      rw [hf₂, State.calling_eq h.top, State.setFrames_setFrames, State.pushFrame, State.frames_setTop _ hr', State.setTop_of_frames _ hr', State.setFrames_setFrames, hr]
      rfl
    have hsame : U.sameButNew ({ U with heap := s₂.heap, slotsUsed := s₂.slotsUsed } : State) L mc ms := by
      refine ⟨?_, q2, q3, q4, q5, q6⟩
      obtain ⟨t, ht, -⟩ := State.frames_cons hr
      show ({ U with heap := s₂.heap, slotsUsed := s₂.slotsUsed } : State) = { U.setFrames U.frames with heap := s₂.heap, slotsUsed := s₂.slotsUsed }
      rw [State.setFrames_self ht]
    subst hg
    refine Or.inr ⟨q, ⟨(({ U with heap := s₂.heap, slotsUsed := s₂.slotsUsed } : State).setVm s₂.vm), Ls ++ L, c0 + mc, s0 + ms⟩,
      ⟨X.admits, X.cas, X.clock, X.frames, X.room, X.hears, X.method, X.code, (X.here.setHeapUsed s₂.heap s₂.slotsUsed).setVm hW'.alike, X.tail, State.WarmedH.trans X.warmed hW', X.limits, X.bytes, X.same.trans (hsame.setVm s.vm)⟩,
      ⟨g, mk, s₂, L, E, ce, rfl, rfl, hx, hce, hcv, hcl, rfl, hL, rfl, rfl⟩, ?_⟩
    show Steps p.tables e below _ (((({ U with heap := s₂.heap, slotsUsed := s₂.slotsUsed } : State).setVm s₂.vm).setTop g).pushFrame (.throwing q))
    rw [← hs₂]
    exact hsteps
end
variable {p : Program} {l : Launch} {e : Env} {R : Room} {s : State} {m : MethodId} {args : Array Value} {below : List Frame} {meth : Method} {c : Code} {T : State} {H : Heap} {locs : List Loc} {cells slots : Nat}
theorem vx_callVX (X : Stand p l e R s m args below meth c T locs cells slots) (hexec : p.tables.exec = Jvm.exec) {own C : String} {index : Nat} {y : MethodName} {bytes : ByteArray} {maxL : Nat} {ret : Option FieldType} {hh : List (Nat × Nat × Nat × Nat)}
    (hown : s.vm.findClass own = some m.cls) (hlink : (Cond.methodLink own index y).before args s = true) (hinst : (Cond.instanceMethod y).before args s = true) (hsel : (Cond.selects C y y).before args s = true)
    (hcode : (Cond.codeWith y bytes maxL ret hh).before args s = true) (hy : y.cls ≠ "java/lang/invoke/MethodHandle" ∧ y.cls ≠ "java/lang/invoke/VarHandle")
    {W9 : Nat} {Pre : Pt → Array Value → Prop} {Post : Pt → Array Value → Option Value → Pt → Prop} {PostX : Pt → Array Value → Addr → Pt → Prop} (hK : vx_Back l R p e below s args y 3 W9 Pre Post PostX)
    {b : Addr} {cellB : Cell} (hcell : T.heap[b]? = some cellB) (hobj : cellB.vm.isStatics = false) (hcls : s.vm.findClass C = some cellB.cls)
    {g : JFrame} (hg : g.method = m) (hsize : g.locals.size = c.maxLocals) {argsL rest : List Value} (hlen : ∀ sig, parseMethodDescriptor y.desc = some sig → argsL.length = sig.parameters.length)
    (hstack : g.stack = argsL.reverse ++ .ref b :: rest) (hW : 2 * g.monitorRoom + (rest.map fun v => v.category).sum ≤ W9) (hdg : decode c.code g.pc = .ok (.invokevirtual index, 3))
    (hpre : ∀ vm₁, s.WarmedH vm₁ → Pre ⟨T.setVm vm₁, locs, cells, slots⟩ (Value.ref b :: argsL).toArray) :
    (∃ (v : Option Value) (vm₁ : Vm) (B : Pt), s.WarmedH vm₁ ∧ Stand p l e R s m args below meth c B.U B.locs B.cells B.slots ∧ Post ⟨T.setVm vm₁, locs, cells, slots⟩ (Value.ref b :: argsL).toArray v B ∧
      ∀ target, Steps p.tables e below (B.U.setTop { g with pc := g.pc + 3, stack := v.toList ++ rest }) target → Steps p.tables e below (T.setTop g) target) ∨
    (∃ (q : Addr) (vm₁ : Vm) (B : Pt), s.WarmedH vm₁ ∧ Stand p l e R s m args below meth c B.U B.locs B.cells B.slots ∧ PostX ⟨T.setVm vm₁, locs, cells, slots⟩ (Value.ref b :: argsL).toArray q B ∧
      Steps p.tables e below (T.setTop g) ((B.U.setTop { g with stack := rest }).pushFrame (.throwing q))) := by
  obtain ⟨mk, methM, hnamed, hmethM, hstM, habM⟩ := Cond.instanceMethod_spec hinst
  obtain ⟨m8, methM', cM, hn8, hmethM', -, -, -, -, -, -, hsigM⟩ := Cond.codeWith_spec hcode
  cases Option.some.inj (hn8.symm.trans hnamed)
  cases hmethM.symm.trans hmethM'
  obtain ⟨c2, r2, m2, q1, q2, q3, q4, kP, hkP, hkPi⟩ := Cond.selects_spec hsel
  cases hcls.symm.trans q1
  cases (State.methodFound?_of_named hnamed hy).symm.trans q2
  cases hnamed.symm.trans q3
  have hselP : selectMethod e.platform s.vm cellB.cls mk = .method mk := by rw [Launch.admits_selectMethod X.admits]; exact q4
  obtain ⟨vm₁, X₁, hstep₁⟩ := X.invokevirtual hexec hown hlink hnamed hmethM hstM hkP hkPi hy (a := b) (cell := cellB) hcell
    (fun z h => by rw [h] at hobj; cases hobj) hselP hmethM habM hkP hkPi (g := g) hg (argsL := argsL) (rest := rest) (hlen _ hsigM) hstack hdg
  rcases hK m meth c ⟨T.setVm vm₁, locs, cells, slots⟩ { g with stack := rest } (.invokevirtual index) mk (Value.ref b :: argsL).toArray X₁ hg hsize hdg hW (X₁.named hnamed) (hpre vm₁ X₁.warmed) with ⟨v, B, X', hpost, hsteps⟩ | ⟨q, B, X', hpost, hsteps⟩
  · exact Or.inl ⟨v, vm₁, B, X₁.warmed, X', hpost, fun target h => hstep₁ _ fun acts => by rw [doInvoke_state]; exact hsteps.trans h⟩
  · exact Or.inr ⟨q, vm₁, B, X₁.warmed, X', hpost, hstep₁ _ fun acts => by rw [doInvoke_state]; exact hsteps⟩
theorem vx_callSX (X : Stand p l e R s m args below meth c T locs cells slots) (hexec : p.tables.exec = Jvm.exec) {own : String} {index : Nat} {y : MethodName} {bytes : ByteArray} {maxL : Nat} {ret : Option FieldType} {hh : List (Nat × Nat × Nat × Nat)}
    (hown : s.vm.findClass own = some m.cls) (hlink : (Cond.methodLink own index y).before args s = true) (hstat : (Cond.static y).before args s = true) (hinit : (Cond.initialized y.cls).before args s = true)
    (hcode : (Cond.codeWith y bytes maxL ret hh).before args s = true) (hy : y.cls ≠ "java/lang/invoke/MethodHandle" ∧ y.cls ≠ "java/lang/invoke/VarHandle")
    {W9 : Nat} {Pre : Pt → Array Value → Prop} {Post : Pt → Array Value → Option Value → Pt → Prop} {PostX : Pt → Array Value → Addr → Pt → Prop} (hK : vx_Back l R p e below s args y 3 W9 Pre Post PostX)
    {g : JFrame} (hg : g.method = m) (hsize : g.locals.size = c.maxLocals) {argsL rest : List Value} (hlen : ∀ sig, parseMethodDescriptor y.desc = some sig → argsL.length = sig.parameters.length)
    (hstack : g.stack = argsL.reverse ++ rest) (hW : 2 * g.monitorRoom + (rest.map fun v => v.category).sum ≤ W9) (hdg : decode c.code g.pc = .ok (.invokestatic index, 3))
    (hpre : ∀ vm₁, s.WarmedH vm₁ → Pre ⟨T.setVm vm₁, locs, cells, slots⟩ argsL.toArray) :
    (∃ (v : Option Value) (vm₁ : Vm) (B : Pt), s.WarmedH vm₁ ∧ Stand p l e R s m args below meth c B.U B.locs B.cells B.slots ∧ Post ⟨T.setVm vm₁, locs, cells, slots⟩ argsL.toArray v B ∧
      ∀ target, Steps p.tables e below (B.U.setTop { g with pc := g.pc + 3, stack := v.toList ++ rest }) target → Steps p.tables e below (T.setTop g) target) ∨
    (∃ (q : Addr) (vm₁ : Vm) (B : Pt), s.WarmedH vm₁ ∧ Stand p l e R s m args below meth c B.U B.locs B.cells B.slots ∧ PostX ⟨T.setVm vm₁, locs, cells, slots⟩ argsL.toArray q B ∧
      Steps p.tables e below (T.setTop g) ((B.U.setTop { g with stack := rest }).pushFrame (.throwing q))) := by
  obtain ⟨mk, methM, cM, hnamed, hmethM, -, -, -, -, -, -, hsigM⟩ := Cond.codeWith_spec hcode
  have hstatic : methM.isStatic = true := Cond.static_spec hnamed hmethM hstat
  obtain ⟨kP, hkP, -⟩ := className_of_methodNamed hnamed
  have hinitP : kP.init = .initialized := Cond.initialized_spec (findClass_of_methodNamed hnamed) hkP hinit
  obtain ⟨vm₁, X₁, hstep₁⟩ := X.invokestatic hexec hown hlink hnamed hmethM hstatic hkP hinitP hy (g := g) hg (argsL := argsL) (rest := rest) (hlen _ hsigM) hstack hdg
  rcases hK m meth c ⟨T.setVm vm₁, locs, cells, slots⟩ { g with stack := rest } (.invokestatic index) mk argsL.toArray X₁ hg hsize hdg hW (X₁.named hnamed) (hpre vm₁ X₁.warmed) with ⟨v, B, X', hpost, hsteps⟩ | ⟨q, B, X', hpost, hsteps⟩
  · exact Or.inl ⟨v, vm₁, B, X₁.warmed, X', hpost, fun target h => hstep₁ _ fun acts => by rw [doInvoke_state]; exact hsteps.trans h⟩
  · exact Or.inr ⟨q, vm₁, B, X₁.warmed, X', hpost, hstep₁ _ fun acts => by rw [doInvoke_state]; exact hsteps⟩
theorem vx_callVW (X : Stand p l e R s m args below meth c T locs cells slots) (hexec : p.tables.exec = Jvm.exec) {own C : String} {index : Nat} {y : MethodName} {bytes : ByteArray} {maxL : Nat} {ret : Option FieldType} {hh : List (Nat × Nat × Nat × Nat)}
    (hown : s.vm.findClass own = some m.cls) (hlink : (Cond.methodLink own index y).before args s = true) (hinst : (Cond.instanceMethod y).before args s = true) (hsel : (Cond.selects C y y).before args s = true)
    (hcode : (Cond.codeWith y bytes maxL ret hh).before args s = true) (hy : y.cls ≠ "java/lang/invoke/MethodHandle" ∧ y.cls ≠ "java/lang/invoke/VarHandle")
    {W9 : Nat} {Pre : Pt → Array Value → Prop} {Post : Pt → Array Value → Option Value → Pt → Prop} (hK : Back l R p e below s args y 3 W9 Pre Post)
    {b : Addr} {cellB : Cell} (hcell : T.heap[b]? = some cellB) (hobj : cellB.vm.isStatics = false) (hcls : s.vm.findClass C = some cellB.cls)
    {g : JFrame} (hg : g.method = m) (hsize : g.locals.size = c.maxLocals) {argsL rest : List Value} (hlen : ∀ sig, parseMethodDescriptor y.desc = some sig → argsL.length = sig.parameters.length)
    (hstack : g.stack = argsL.reverse ++ .ref b :: rest) (hW : 2 * g.monitorRoom + (rest.map fun v => v.category).sum ≤ W9) (hdg : decode c.code g.pc = .ok (.invokevirtual index, 3))
    (hpre : ∀ vm₁, s.WarmedH vm₁ → Pre ⟨T.setVm vm₁, locs, cells, slots⟩ (Value.ref b :: argsL).toArray) :
    ∃ (v : Option Value) (vm₁ : Vm) (B : Pt), s.WarmedH vm₁ ∧ Stand p l e R s m args below meth c B.U B.locs B.cells B.slots ∧ Post ⟨T.setVm vm₁, locs, cells, slots⟩ (Value.ref b :: argsL).toArray v B ∧
      ∀ target, Steps p.tables e below (B.U.setTop { g with pc := g.pc + 3, stack := v.toList ++ rest }) target → Steps p.tables e below (T.setTop g) target := by
  obtain ⟨mk, methM, hnamed, hmethM, hstM, habM⟩ := Cond.instanceMethod_spec hinst
  obtain ⟨m8, methM', cM, hn8, hmethM', -, -, -, -, -, -, hsigM⟩ := Cond.codeWith_spec hcode
  cases Option.some.inj (hn8.symm.trans hnamed)
  cases hmethM.symm.trans hmethM'
  obtain ⟨c2, r2, m2, q1, q2, q3, q4, kP, hkP, hkPi⟩ := Cond.selects_spec hsel
  cases hcls.symm.trans q1
  cases (State.methodFound?_of_named hnamed hy).symm.trans q2
  cases hnamed.symm.trans q3
  have hselP : selectMethod e.platform s.vm cellB.cls mk = .method mk := by rw [Launch.admits_selectMethod X.admits]; exact q4
  obtain ⟨vm₁, X₁, hstep₁⟩ := X.invokevirtual hexec hown hlink hnamed hmethM hstM hkP hkPi hy (a := b) (cell := cellB) hcell
    (fun z h => by rw [h] at hobj; cases hobj) hselP hmethM habM hkP hkPi (g := g) hg (argsL := argsL) (rest := rest) (hlen _ hsigM) hstack hdg
  obtain ⟨v, B, X', hpost, hsteps⟩ := hK m meth c ⟨T.setVm vm₁, locs, cells, slots⟩ { g with stack := rest } (.invokevirtual index) mk (Value.ref b :: argsL).toArray X₁ hg hsize hdg hW (X₁.named hnamed) (hpre vm₁ X₁.warmed)
  exact ⟨v, vm₁, B, X₁.warmed, X', hpost, fun target h => hstep₁ _ fun acts => by rw [doInvoke_state]; exact hsteps.trans h⟩
abbrev vx_CVW (R : Room) (s : State) (args : Array Value) (own C : String) (index : Nat) (y : MethodName) (bytes : ByteArray) (maxL : Nat) (ret : Option FieldType) (hh : List (Nat × Nat × Nat × Nat)) (ws : List Cond) (rm : Room) (mc ms n : Nat) : Prop :=
  (rm.cells = mc ∧ rm.slots = ms ∧ rm.frames + 1 ≤ R.frames ∧ 8 + (maxL + 11) + rm.locals ≤ R.locals ∧ (∀ w ∈ ws, ∀ (a' : Array Value) (U : State), s.WarmedH U.vm → w.before a' U = true) ∧ Cond.codeWith y bytes maxL ret hh ∈ ws) ∧
  (Cond.codeWith y bytes maxL ret hh).before args s = true ∧ (Cond.initialized y.cls).before args s = true ∧ (y.cls ≠ "java/lang/invoke/MethodHandle" ∧ y.cls ≠ "java/lang/invoke/VarHandle") ∧
  (∀ sig, parseMethodDescriptor y.desc = some sig → n = sig.parameters.length) ∧ (Cond.methodLink own index y).before args s = true ∧ (Cond.instanceMethod y).before args s = true ∧ (Cond.selects C y y).before args s = true
theorem vx_cwVW {own C : String} {index maxL mc ms : Nat} {y : MethodName} {bytes : ByteArray} {ret : Option FieldType} {hh : List (Nat × Nat × Nat × Nat)} {Ts ws ws' : List Cond} {rm : Room} (n : Nat) (ht : ∀ w ∈ Ts, w.before args s = true) (hT : GoodIn Ts (wsV own index C y ws)) (hw : ws = Cond.codeWith y bytes maxL ret hh :: ws') (hrc : rm.cells = mc) (hrs : rm.slots = ms)
    (hd : y.cls = C ∧ y.cls ≠ "java/lang/invoke/MethodHandle" ∧ y.cls ≠ "java/lang/invoke/VarHandle" ∧ (parseMethodDescriptor y.desc).map (fun d => d.parameters.length) = some n) (hR : rm.frames + 1 ≤ R.frames ∧ 8 + (maxL + 11) + rm.locals ≤ R.locals) :
    vx_CVW R s args own C index y bytes maxL ret hh ws rm mc ms n := by
  obtain ⟨hC, hd⟩ := hd
  subst hC
  have ok : ∀ w ∈ wsV own index y.cls y ws, w.before args s = true := fun w h => ht w (hT w h).1
  have hG : GoodIn Ts ws := fun w h => hT w (by unfold wsV; exact List.mem_append_right _ h)
  have hc : Cond.codeWith y bytes maxL ret hh ∈ ws := by rw [hw]; exact List.mem_cons_self
  refine ⟨⟨hrc, hrs, hR.1, hR.2, pay_in ht hG, hc⟩, ht _ (hG _ hc).1, ok _ (by simp [wsV]), ⟨hd.1, hd.2.1⟩, fun sig h => ?_, ok _ (by simp [wsV]), ok _ (by simp [wsV]), ok _ (by simp [wsV])⟩
  have h2 := hd.2.2
  rw [h] at h2
  exact (Option.some.inj h2).symm
theorem vx_runVW {y : MethodName} {bytes cc : ByteArray} {maxL nL mc ms n index : Nat} {ret : Option FieldType} {hh : List (Nat × Nat × Nat × Nat)} {ws : List Cond} {rm : Room} {Pc : Array Value → State → Prop} {Qc : Array Value → State → Outcome → State → Prop} {free : Addr → Prop} {Ts : List Cond} {own C : String} {b : Addr} {As rest : List Value} {g : JFrame}
    (S : CallFix p m c cc nL s args Ts own) (hM : Met l y ws rm Pc Qc mc ms free) (cw : vx_CVW R s args own C index y bytes maxL ret hh ws rm mc ms n) (hp : PreV s H C b Pc As)
    (hg : g.method = m) (hn : As.length = n) (hsize : g.locals.size = nL) (hstack : g.stack = As.reverse ++ .ref b :: rest) (hW : 2 * g.monitorRoom + (rest.map fun v => v.category).sum ≤ 8) (hdg : decode cc g.pc = .ok (.invokevirtual index, 3)) (hf : cells + mc ≤ R.cells ∧ slots + ms ≤ R.slots) :
    va_Run p l e R s m args below meth c H locs cells slots mc ms g rest (Qc (Value.ref b :: As).toArray) free := by
  obtain ⟨⟨hrc, hrs, hfr, hlo, hws, hcw⟩, hcode, hini, hy, hlen, hl, hin, hse⟩ := cw
  have hK : Back l R p e below s args y 3 8 (PreOf R mc ms Pc) (PostOf Qc mc ms free) := va_backW (hh := hh) (bytes := bytes) (maxL := maxL) (ret := ret) hM hp.1 hrc hrs hfr hlo hws hcw (fun a' U hW => word_at hW (Or.inl (by first | rfl | simp [Cond.onTables, Cond.keeps, Cond.steady])) hini)
  obtain ⟨hx, hb, hml, ho, -⟩ := S
  obtain ⟨-, ⟨cellB, hcB, hoB, hclB⟩, hPc⟩ := hp
  intro T hT X
  obtain ⟨v, vm₁, ⟨U', l2, c2, s2⟩, hW₁, X', ⟨g', mk, t, L, e1, e2, hq, h1, hL, h2, h3⟩, st⟩ := vx_callVW X hx (C := C) (hh := hh) (bytes := bytes) (maxL := maxL) (ret := ret) ho hl hin hse hcode hy hK (by rw [hT]; exact hcB) hoB hclB hg (hsize.trans hml.symm) (argsL := As) (rest := rest) (fun sig h => hn.trans (hlen sig h)) hstack hW (by rw [hb]; exact hdg)
    (fun vm₁ hW₁ => ⟨hf.1, hf.2, hPc (T.setVm vm₁) hT hW₁⟩)
  dsimp only [Pt.U, Pt.locs, Pt.cells, Pt.slots] at X' e1 e2 h1 h2 h3 st
  subst h1; subst h2; subst h3
  exact ⟨v, (T.setVm vm₁).calling g' mk (Value.ref b :: As).toArray, t, U', L, hT, X', hL, e1, e2, hq, st⟩
section
variable {y : MethodName} {bytes cc : ByteArray} {maxL nL mc ms n index : Nat} {ret : Option FieldType} {ws : List Cond} {rm : Room} {Pc : Array Value → State → Prop} {Qc : Array Value → State → Outcome → State → Prop} {XC : String → State → State → Prop} {free : Addr → Prop} {Ts : List Cond} {own C : String} {b : Addr} {As rest : List Value} {g : JFrame}
theorem vx_runVX {hh : List (Nat × Nat × Nat × Nat)} (S : CallFix p m c cc nL s args Ts own) (hM : vx_Met l y ws rm Pc Qc XC mc ms free) (cw : vx_CVW R s args own C index y bytes maxL ret hh ws rm mc ms n) (hp : PreV s H C b Pc As)
    (hg : g.method = m) (hn : As.length = n) (hsize : g.locals.size = nL) (hstack : g.stack = As.reverse ++ .ref b :: rest) (hW : 2 * g.monitorRoom + (rest.map fun v => v.category).sum ≤ 8) (hdg : decode cc g.pc = .ok (.invokevirtual index, 3)) (hf : cells + mc ≤ R.cells ∧ slots + ms ≤ R.slots) :
    vx_Run p l e R s m args below meth c H locs cells slots mc ms g rest (Qc (Value.ref b :: As).toArray) XC free := by
  obtain ⟨⟨hrc, hrs, hfr, hlo, hws, hcw⟩, hcode, hini, hy, hlen, hl, hin, hse⟩ := cw
  have hK : vx_Back l R p e below s args y 3 8 (PreOf R mc ms Pc) (PostOf Qc mc ms free) (vx_Post XC mc ms free) := vx_backW (hh := hh) (bytes := bytes) (maxL := maxL) (ret := ret) hM hp.1 hrc hrs hfr hlo hws hcw (fun a' U hW => word_at hW (Or.inl (by first | rfl | simp [Cond.onTables, Cond.keeps, Cond.steady])) hini)
  obtain ⟨hx, hb, hml, ho, -⟩ := S
  obtain ⟨-, ⟨cellB, hcB, hoB, hclB⟩, hPc⟩ := hp
  intro T hT X
  rcases vx_callVX X hx (C := C) (hh := hh) (bytes := bytes) (maxL := maxL) (ret := ret) ho hl hin hse hcode hy hK (by rw [hT]; exact hcB) hoB hclB hg (hsize.trans hml.symm) (argsL := As) (rest := rest) (fun sig h => hn.trans (hlen sig h)) hstack hW (by rw [hb]; exact hdg)
    (fun vm₁ hW₁ => ⟨hf.1, hf.2, hPc (T.setVm vm₁) hT hW₁⟩) with ⟨v, vm₁, ⟨U', l2, c2, s2⟩, hW₁, X', ⟨g', mk, t, L, e1, e2, hq, h1, hL, h2, h3⟩, st⟩ | ⟨q, vm₁, ⟨U', l2, c2, s2⟩, hW₁, X', ⟨g', mk, t, L, E, ce, e1, e2, hq, hce, hcv, hcl, h1, hL, h2, h3⟩, st⟩
  · dsimp only [Pt.U, Pt.locs, Pt.cells, Pt.slots] at X' e1 e2 h1 h2 h3 st
    subst h1; subst h2; subst h3
    exact Or.inl ⟨v, (T.setVm vm₁).calling g' mk (Value.ref b :: As).toArray, t, U', L, hT, X', hL, e1, e2, hq, st⟩
  · dsimp only [Pt.U, Pt.locs, Pt.cells, Pt.slots] at X' e1 e2 h1 h2 h3 st hcl
    subst h1; subst h2; subst h3
    exact Or.inr ⟨q, (T.setVm vm₁).calling g' mk (Value.ref b :: As).toArray, t, U', L, E, ce, hT, X', hL, e1, e2, hq, hce, hcv, vx_cls hW₁ hcl, st⟩
theorem vx_runSX {hh : List (Nat × Nat × Nat × Nat)} (S : CallFix p m c cc nL s args Ts own) (hM : vx_Met l y ws rm Pc Qc XC mc ms free) (cw : vx_CSW R s args own index y bytes maxL ret hh ws rm mc ms n) (hp : PreS s H Pc As)
    (hg : g.method = m) (hn : As.length = n) (hsize : g.locals.size = nL) (hstack : g.stack = As.reverse ++ rest) (hW : 2 * g.monitorRoom + (rest.map fun v => v.category).sum ≤ 8) (hdg : decode cc g.pc = .ok (.invokestatic index, 3)) (hf : cells + mc ≤ R.cells ∧ slots + ms ≤ R.slots) :
    vx_Run p l e R s m args below meth c H locs cells slots mc ms g rest (Qc As.toArray) XC free := by
  obtain ⟨⟨hrc, hrs, hfr, hlo, hws, hcw⟩, hcode, hini, hy, hlen, hl, hstt⟩ := cw
  have hK : vx_Back l R p e below s args y 3 8 (PreOf R mc ms Pc) (PostOf Qc mc ms free) (vx_Post XC mc ms free) := vx_backW (hh := hh) (bytes := bytes) (maxL := maxL) (ret := ret) hM hp.1 hrc hrs hfr hlo hws hcw (fun a' U hW => word_at hW (Or.inl (by first | rfl | simp [Cond.onTables, Cond.keeps, Cond.steady])) hini)
  obtain ⟨hx, hb, hml, ho, -⟩ := S
  intro T hT X
  rcases vx_callSX X hx (hh := hh) (bytes := bytes) (maxL := maxL) (ret := ret) ho hl hstt hini hcode hy hK hg (hsize.trans hml.symm) (argsL := As) (rest := rest) (fun sig h => hn.trans (hlen sig h)) hstack hW (by rw [hb]; exact hdg)
    (fun vm₁ hW₁ => ⟨hf.1, hf.2, hp.2 (T.setVm vm₁) hT hW₁⟩) with ⟨v, vm₁, ⟨U', l2, c2, s2⟩, hW₁, X', ⟨g', mk, t, L, e1, e2, hq, h1, hL, h2, h3⟩, st⟩ | ⟨q, vm₁, ⟨U', l2, c2, s2⟩, hW₁, X', ⟨g', mk, t, L, E, ce, e1, e2, hq, hce, hcv, hcl, h1, hL, h2, h3⟩, st⟩
  · dsimp only [Pt.U, Pt.locs, Pt.cells, Pt.slots] at X' e1 e2 h1 h2 h3 st
    subst h1; subst h2; subst h3
    exact Or.inl ⟨v, (T.setVm vm₁).calling g' mk As.toArray, t, U', L, hT, X', hL, e1, e2, hq, st⟩
  · dsimp only [Pt.U, Pt.locs, Pt.cells, Pt.slots] at X' e1 e2 h1 h2 h3 st hcl
    subst h1; subst h2; subst h3
    exact Or.inr ⟨q, (T.setVm vm₁).calling g' mk As.toArray, t, U', L, E, ce, hT, X', hL, e1, e2, hq, hce, hcv, vx_cls hW₁ hcl, st⟩
end
end VXH
theorem vx_ofWH {l : Launch} {y : MethodName} {ws ws' : List Cond} {rm : Room} {Pc : Array Value → State → Prop} {Qc : Array Value → State → Outcome → State → Prop} {XC : String → State → State → Prop} {mc ms : Nat} {free : Addr → Prop} {cc : ByteArray} {maxL : Nat} {ret : Option FieldType} {hh : List (Nat × Nat × Nat × Nat)}
    (hy : plainName y.cls = true) (hw : ws = Cond.codeWith y cc maxL ret hh :: ws')
    (body : ∀ p e s m args below meth c s₁, BodyLoose p l y (headSpec ws rm) cc maxL ret e s m args below meth c s₁ → c.maxLocals = maxL → Pc args s →
      W p l e (headSpec ws rm).room s m args below meth c s.heap [] 0 0 (vx_MQ below Qc XC args s mc ms free) (entryFrame m args maxL)) : vx_Met l y ws rm Pc Qc XC mc ms free := by
  refine MetFree.of_bodyS (code := cc) (maxLocals := maxL) (ret := ret) hy ?_ ?_
  · intro args s m h hn
    obtain ⟨m9, meth, c, hn9, h1, h2, h3, h4, -, h5, h6, -⟩ := Cond.codeWith_spec (atoms_spec (ws := ws) h _ (by rw [hw]; exact List.mem_cons_self))
    cases hn.symm.trans hn9
    exact ⟨meth, c, h1, h2, h3, h4, h5, h6⟩
  · intro p e s m args below meth c s₁ B hml hP _
    have hh0 : s₁.heap = s.heap := by rw [B.state]; rfl
    obtain ⟨t, a1, o, b1, b2, b3⟩ := body p e s m args below meth c s₁ B hml hP s₁ hh0 (Stand.of_body B)
    exact ⟨t, o, a1, b1, b2, b3⟩
/-! ===== END ===== -/
end
section
/-! printed names -/
def RX0 : String := "LyingScale$History"
def TX0 : u_T := fun k => match k with
  | 0 => ("LyingScale$History", "states", "[LLyingScale$State;", true)
  | _ => ("LyingScale$History", "count", "I", false)
def tyX0 : Nat → FieldType := fun k => match k with
  | 0 => .array (.object "LyingScale$State")
  | _ => .int
abbrev wsX00 : List Cond := u_ws RX0 TX0 2
theorem nmX0 : ∀ a, a < 2 → ∀ b, b < 2 → a ≠ b → (TX0 a).2.1 ≠ (TX0 b).2.1 := by decide +kernel
theorem tyX0_ok : ∀ k, k < 2 → parseFieldDescriptor (TX0 k).2.2.1 = some (tyX0 k) := by decide +kernel
abbrev cX0_init : ByteArray := prog_2_method_1_code
def yX0_init : MethodName := ⟨RX0, "<init>", "()V"⟩
abbrev cX0_save : ByteArray := prog_2_method_2_code
def yX0_save : MethodName := ⟨RX0, "save", "(LLyingScale$State;)V"⟩
abbrev cX0_restore : ByteArray := prog_2_method_3_code
def yX0_restore : MethodName := ⟨RX0, "restore", "(LLyingScale$State;)V"⟩
abbrev cX0_stateAt : ByteArray := prog_2_method_4_code
def yX0_stateAt : MethodName := ⟨RX0, "stateAt", "(I)LLyingScale$State;"⟩
abbrev cX0_dropOldest : ByteArray := prog_2_method_5_code
def yX0_dropOldest : MethodName := ⟨RX0, "dropOldest", "()V"⟩
def RX1 : String := "LyingScale$Orders"
def TX1 : u_T := fun k => match k with
  | 0 => ("LyingScale$Orders", "bytes", "[I", true)
  | 1 => ("LyingScale$Orders", "lefts", "[I", true)
  | 2 => ("LyingScale$Orders", "rights", "[I", true)
  | 3 => ("LyingScale$Orders", "deeds", "[I", true)
  | 4 => ("LyingScale$Orders", "length", "I", false)
  | 5 => ("LyingScale$Orders", "count", "I", false)
  | 6 => ("LyingScale$Orders", "place", "I", false)
  | 7 => ("LyingScale$Orders", "left", "I", false)
  | _ => ("LyingScale$Orders", "right", "I", false)
def tyX1 : Nat → FieldType := fun k => match k with
  | 0 => .array .int
  | 1 => .array .int
  | 2 => .array .int
  | 3 => .array .int
  | 4 => .int
  | 5 => .int
  | 6 => .int
  | 7 => .int
  | _ => .int
abbrev wsX10 : List Cond := u_ws RX1 TX1 9
theorem nmX1 : ∀ a, a < 9 → ∀ b, b < 9 → a ≠ b → (TX1 a).2.1 ≠ (TX1 b).2.1 := by decide +kernel
theorem tyX1_ok : ∀ k, k < 9 → parseFieldDescriptor (TX1 k).2.2.1 = some (tyX1 k) := by decide +kernel
abbrev cX1_init : ByteArray := prog_3_method_1_code
def yX1_init : MethodName := ⟨RX1, "<init>", "()V"⟩
def RX2 : String := "LyingScale$State"
def TX2 : u_T := fun k => match k with
  | 0 => ("LyingScale$State", "told", "LLyingScale$Weighings;", true)
  | 1 => ("LyingScale$State", "plan", "LLyingScale$Weighings;", true)
  | 2 => ("LyingScale$State", "liesOf", "[I", true)
  | 3 => ("LyingScale$State", "words", "[I", true)
  | 4 => ("LyingScale$State", "coins", "I", false)
  | 5 => ("LyingScale$State", "limit", "I", false)
  | 6 => ("LyingScale$State", "hidden", "I", false)
  | 7 => ("LyingScale$State", "lieSet", "I", false)
  | _ => ("LyingScale$State", "answered", "I", false)
def tyX2 : Nat → FieldType := fun k => match k with
  | 0 => .object "LyingScale$Weighings"
  | 1 => .object "LyingScale$Weighings"
  | 2 => .array .int
  | 3 => .array .int
  | 4 => .int
  | 5 => .int
  | 6 => .int
  | 7 => .int
  | _ => .int
abbrev wsX20 : List Cond := u_ws RX2 TX2 9
theorem nmX2 : ∀ a, a < 9 → ∀ b, b < 9 → a ≠ b → (TX2 a).2.1 ≠ (TX2 b).2.1 := by decide +kernel
theorem tyX2_ok : ∀ k, k < 9 → parseFieldDescriptor (TX2 k).2.2.1 = some (tyX2 k) := by decide +kernel
abbrev cX2_init : ByteArray := prog_4_method_1_code
def yX2_init : MethodName := ⟨RX2, "<init>", "()V"⟩
abbrev cX2_start : ByteArray := prog_4_method_2_code
def yX2_start : MethodName := ⟨RX2, "start", "(I)V"⟩
abbrev cX2_copyFrom : ByteArray := prog_4_method_3_code
def yX2_copyFrom : MethodName := ⟨RX2, "copyFrom", "(LLyingScale$State;)V"⟩
abbrev cX2_cases : ByteArray := prog_4_method_4_code
def yX2_cases : MethodName := ⟨RX2, "cases", "()I"⟩
abbrev cX2_isCase : ByteArray := prog_4_method_5_code
def yX2_isCase : MethodName := ⟨RX2, "isCase", "(I)Z"⟩
abbrev cX2_isWeighing : ByteArray := prog_4_method_6_code
def yX2_isWeighing : MethodName := ⟨RX2, "isWeighing", "(II)Z"⟩
abbrev cX2_canLearn : ByteArray := prog_4_method_7_code
def yX2_canLearn : MethodName := ⟨RX2, "canLearn", "()Z"⟩
abbrev cX2_learn : ByteArray := prog_4_method_8_code
def yX2_learn : MethodName := ⟨RX2, "learn", "(III)V"⟩
abbrev cX2_liesIfTold : ByteArray := prog_4_method_9_code
def yX2_liesIfTold : MethodName := ⟨RX2, "liesIfTold", "(IIII)I"⟩
abbrev cX2_forgetTold : ByteArray := prog_4_method_10_code
def yX2_forgetTold : MethodName := ⟨RX2, "forgetTold", "()V"⟩
abbrev cX2_hideCase : ByteArray := prog_4_method_11_code
def yX2_hideCase : MethodName := ⟨RX2, "hideCase", "(II)V"⟩
abbrev cX2_canReply : ByteArray := prog_4_method_12_code
def yX2_canReply : MethodName := ⟨RX2, "canReply", "()Z"⟩
abbrev cX2_reply : ByteArray := prog_4_method_13_code
def yX2_reply : MethodName := ⟨RX2, "reply", "(II)I"⟩
abbrev cX2_isLeft : ByteArray := prog_4_method_18_code
def yX2_isLeft : MethodName := ⟨RX2, "isLeft", "(I)Z"⟩
abbrev cX2_countLeft : ByteArray := prog_4_method_19_code
def yX2_countLeft : MethodName := ⟨RX2, "countLeft", "()I"⟩
abbrev cX2_falseCoins : ByteArray := prog_4_method_21_code
def yX2_falseCoins : MethodName := ⟨RX2, "falseCoins", "()I"⟩
abbrev cX2_number : ByteArray := prog_4_method_22_code
def yX2_number : MethodName := ⟨RX2, "number", "(I)I"⟩
abbrev cX2_weightAhead : ByteArray := prog_4_method_23_code
def yX2_weightAhead : MethodName := ⟨RX2, "weightAhead", "(I)J"⟩
abbrev cX2_weightIfTold : ByteArray := prog_4_method_24_code
def yX2_weightIfTold : MethodName := ⟨RX2, "weightIfTold", "(IIII)J"⟩
abbrev cX2_volumeLeft : ByteArray := prog_4_method_25_code
def yX2_volumeLeft : MethodName := ⟨RX2, "volumeLeft", "(II)J"⟩
def RX3 : String := "LyingScale$Weighings"
def TX3 : u_T := fun k => match k with
  | 0 => ("LyingScale$Weighings", "lefts", "[I", true)
  | 1 => ("LyingScale$Weighings", "rights", "[I", true)
  | 2 => ("LyingScale$Weighings", "answers", "[I", true)
  | _ => ("LyingScale$Weighings", "count", "I", false)
def tyX3 : Nat → FieldType := fun k => match k with
  | 0 => .array .int
  | 1 => .array .int
  | 2 => .array .int
  | _ => .int
abbrev wsX30 : List Cond := u_ws RX3 TX3 4
theorem nmX3 : ∀ a, a < 4 → ∀ b, b < 4 → a ≠ b → (TX3 a).2.1 ≠ (TX3 b).2.1 := by decide +kernel
theorem tyX3_ok : ∀ k, k < 4 → parseFieldDescriptor (TX3 k).2.2.1 = some (tyX3 k) := by decide +kernel
abbrev cX3_init : ByteArray := prog_5_method_1_code
def yX3_init : MethodName := ⟨RX3, "<init>", "(I)V"⟩
abbrev cX3_copyFrom : ByteArray := prog_5_method_2_code
def yX3_copyFrom : MethodName := ⟨RX3, "copyFrom", "(LLyingScale$Weighings;)V"⟩
abbrev cX3_write : ByteArray := prog_5_method_3_code
def yX3_write : MethodName := ⟨RX3, "write", "(III)V"⟩
def RX4 : String := "LyingScale"
def TX4 : u_T := fun k => match k with
  | 0 => ("LyingScale", "now", "LLyingScale$State;", true)
  | 1 => ("LyingScale", "history", "LLyingScale$History;", true)
  | _ => ("LyingScale", "orders", "LLyingScale$Orders;", true)
def tyX4 : Nat → FieldType := fun k => match k with
  | 0 => .object "LyingScale$State"
  | 1 => .object "LyingScale$History"
  | _ => .object "LyingScale$Orders"
abbrev wsX40 : List Cond := u_ws RX4 TX4 3
theorem nmX4 : ∀ a, a < 3 → ∀ b, b < 3 → a ≠ b → (TX4 a).2.1 ≠ (TX4 b).2.1 := by decide +kernel
theorem tyX4_ok : ∀ k, k < 3 → parseFieldDescriptor (TX4 k).2.2.1 = some (tyX4 k) := by decide +kernel
abbrev cX4_init : ByteArray := prog_1_method_1_code
def yX4_init : MethodName := ⟨RX4, "<init>", "()V"⟩
abbrev cX4_begin : ByteArray := prog_1_method_2_code
def yX4_begin : MethodName := ⟨RX4, "begin", "(I)I"⟩
abbrev cX4_setLimit : ByteArray := prog_1_method_3_code
def yX4_setLimit : MethodName := ⟨RX4, "setLimit", "(I)I"⟩
abbrev cX4_forget : ByteArray := prog_1_method_5_code
def yX4_forget : MethodName := ⟨RX4, "forget", "()I"⟩
abbrev cX4_hide : ByteArray := prog_1_method_6_code
def yX4_hide : MethodName := ⟨RX4, "hide", "(II)I"⟩
abbrev cX4_ask : ByteArray := prog_1_method_7_code
def yX4_ask : MethodName := ⟨RX4, "ask", "(II)I"⟩
abbrev cX4_lies : ByteArray := prog_1_method_10_code
def yX4_lies : MethodName := ⟨RX4, "lies", "(I)I"⟩
abbrev cX4_value : ByteArray := prog_1_method_14_code
def yX4_value : MethodName := ⟨RX4, "value", "(I)I"⟩
abbrev cX4_weight : ByteArray := prog_1_method_15_code
def yX4_weight : MethodName := ⟨RX4, "weight", "(I)J"⟩
abbrev cX4_bound : ByteArray := prog_1_method_16_code
def yX4_bound : MethodName := ⟨RX4, "bound", "()I"⟩
abbrev cX4_weightBehind : ByteArray := prog_1_method_17_code
def yX4_weightBehind : MethodName := ⟨RX4, "weightBehind", "(IIII)J"⟩
abbrev cX4_undo : ByteArray := prog_1_method_28_code
def yX4_undo : MethodName := ⟨RX4, "undo", "()I"⟩
abbrev cX4_isAnswer : ByteArray := prog_1_method_31_code
def yX4_isAnswer : MethodName := ⟨RX4, "isAnswer", "(I)Z"⟩
abbrev cX4_isAhead : ByteArray := prog_1_method_32_code
def yX4_isAhead : MethodName := ⟨RX4, "isAhead", "(I)Z"⟩
abbrev cX4_at : ByteArray := prog_1_method_33_code
def yX4_at : MethodName := ⟨RX4, "at", "([II)I"⟩
abbrev cX4_put : ByteArray := prog_1_method_34_code
def yX4_put : MethodName := ⟨RX4, "put", "([III)V"⟩
abbrev cX4_copyRow : ByteArray := prog_1_method_35_code
def yX4_copyRow : MethodName := ⟨RX4, "copyRow", "([I[I)V"⟩
abbrev cX4_coinBit : ByteArray := prog_1_method_36_code
def yX4_coinBit : MethodName := ⟨RX4, "coinBit", "(I)I"⟩
abbrev cX4_trueAnswer : ByteArray := prog_1_method_37_code
def yX4_trueAnswer : MethodName := ⟨RX4, "trueAnswer", "(III)I"⟩
abbrev cX4_volume : ByteArray := prog_1_method_38_code
def yX4_volume : MethodName := ⟨RX4, "volume", "(II)J"⟩
def RX5 : String := "LyingScaleModel"
def TX5 : u_T := fun k => match k with
  | _ => ("", "", "", false)
def tyX5 : Nat → FieldType := fun k => match k with
  | _ => .int
abbrev wsX50 : List Cond := u_ws RX5 TX5 0
theorem nmX5 : ∀ a, a < 0 → ∀ b, b < 0 → a ≠ b → (TX5 a).2.1 ≠ (TX5 b).2.1 := by decide +kernel
theorem tyX5_ok : ∀ k, k < 0 → parseFieldDescriptor (TX5 k).2.2.1 = some (tyX5 k) := by decide +kernel
def RJ6 : String := "java/lang/Integer"
def TJ6 : u_T := fun k => match k with
  | _ => ("", "", "", false)
def tyJ6 : Nat → FieldType := fun k => match k with
  | _ => .int
abbrev wsJ60 : List Cond := u_ws RJ6 TJ6 0
theorem nmJ6 : ∀ a, a < 0 → ∀ b, b < 0 → a ≠ b → (TJ6 a).2.1 ≠ (TJ6 b).2.1 := by decide +kernel
theorem tyJ6_ok : ∀ k, k < 0 → parseFieldDescriptor (TJ6 k).2.2.1 = some (tyJ6 k) := by decide +kernel
abbrev cJ6_bitCount_0f7a4 : ByteArray := prog_12_method_49_code
def yJ6_bitCount_0f7a4 : MethodName := ⟨RJ6, "bitCount", "(I)I"⟩
def RJ9 : String := "java/lang/Math"
def TJ9 : u_T := fun k => match k with
  | _ => ("", "", "", false)
def tyJ9 : Nat → FieldType := fun k => match k with
  | _ => .int
abbrev wsJ90 : List Cond := u_ws RJ9 TJ9 0
theorem nmJ9 : ∀ a, a < 0 → ∀ b, b < 0 → a ≠ b → (TJ9 a).2.1 ≠ (TJ9 b).2.1 := by decide +kernel
theorem tyJ9_ok : ∀ k, k < 0 → parseFieldDescriptor (TJ9 k).2.2.1 = some (tyJ9 k) := by decide +kernel
abbrev cJ9_max_7cf53 : ByteArray := prog_13_method_65_code
def yJ9_max_7cf53 : MethodName := ⟨RJ9, "max", "(II)I"⟩
abbrev cJ9_min_7cf53 : ByteArray := prog_13_method_69_code
def yJ9_min_7cf53 : MethodName := ⟨RJ9, "min", "(II)I"⟩
def RJ0 : String := "java/lang/String"
def TJ0 : u_T := fun k => match k with
  | _ => ("", "", "", false)
def tyJ0 : Nat → FieldType := fun k => match k with
  | _ => .int
abbrev wsJ00 : List Cond := u_ws RJ0 TJ0 0
theorem nmJ0 : ∀ a, a < 0 → ∀ b, b < 0 → a ≠ b → (TJ0 a).2.1 ≠ (TJ0 b).2.1 := by decide +kernel
theorem tyJ0_ok : ∀ k, k < 0 → parseFieldDescriptor (TJ0 k).2.2.1 = some (tyJ0 k) := by decide +kernel
def RJ10 : String := "java/lang/System"
def TJ10 : u_T := fun k => match k with
  | _ => ("", "", "", false)
def tyJ10 : Nat → FieldType := fun k => match k with
  | _ => .int
abbrev wsJ100 : List Cond := u_ws RJ10 TJ10 0
theorem nmJ10 : ∀ a, a < 0 → ∀ b, b < 0 → a ≠ b → (TJ10 a).2.1 ≠ (TJ10 b).2.1 := by decide +kernel
theorem tyJ10_ok : ∀ k, k < 0 → parseFieldDescriptor (TJ10 k).2.2.1 = some (tyJ10 k) := by decide +kernel
def RL : String := "LyingScaleLaw"
abbrev cL_cell : ByteArray := method_2_code
def yL_cell : MethodName := ⟨RL, "cell", "([II)I"⟩
abbrev cL_asks : ByteArray := method_3_code
def yL_asks : MethodName := ⟨RL, "asks", "(LLyingScale;II)I"⟩
abbrev cL_hides : ByteArray := method_4_code
def yL_hides : MethodName := ⟨RL, "hides", "(LLyingScale;II)I"⟩
abbrev cL_begins : ByteArray := method_5_code
def yL_begins : MethodName := ⟨RL, "begins", "(LLyingScale;I)I"⟩
abbrev cL_limits : ByteArray := method_6_code
def yL_limits : MethodName := ⟨RL, "limits", "(LLyingScale;I)I"⟩
abbrev cL_undoes : ByteArray := method_7_code
def yL_undoes : MethodName := ⟨RL, "undoes", "(LLyingScale;)I"⟩
abbrev cL_liesOf : ByteArray := method_8_code
def yL_liesOf : MethodName := ⟨RL, "liesOf", "(LLyingScale;I)I"⟩
abbrev cL_value : ByteArray := method_9_code
def yL_value : MethodName := ⟨RL, "value", "(LLyingScale;I)I"⟩
abbrev cL_weighs : ByteArray := method_10_code
def yL_weighs : MethodName := ⟨RL, "weighs", "(LLyingScale;I)J"⟩
abbrev cL_behind : ByteArray := method_11_code
def yL_behind : MethodName := ⟨RL, "behind", "(LLyingScale;IIII)J"⟩
abbrev cL_holds : ByteArray := method_12_code
def yL_holds : MethodName := ⟨RL, "holds", "(LLyingScale;I)Z"⟩
abbrev cL_splits : ByteArray := method_13_code
def yL_splits : MethodName := ⟨RL, "splits", "(LLyingScale;III)Z"⟩
abbrev cL_law : ByteArray := code
def yL_law : MethodName := ⟨RL, "law", "([I)Z"⟩
def wsX3_init : List Cond := .code yX3_init cX3_init 3 none :: ([.methodLink RX3 3 objectInit, .instanceMethod objectInit, .code objectInit ⟨#[0xb1]⟩ 1 none, .methodLink RX3 9 Lib.Math.max.name, .static Lib.Math.max.name, .initialized "java/lang/Math", .code Lib.Math.max.name Lib.Math.max.code 2 (some .int), .arrayClass .int, .fieldLink RX3 15 "LyingScale$Weighings" "lefts" "[I", .fieldLink RX3 21 "LyingScale$Weighings" "rights" "[I", .fieldLink RX3 24 "LyingScale$Weighings" "answers" "[I"] ++ wsX30)
def wsX2_hideCase : List Cond := .code yX2_hideCase cX2_hideCase 3 none :: ([.fieldLink RX2 58 "LyingScale$State" "hidden" "I", .fieldLink RX2 61 "LyingScale$State" "lieSet" "I", .fieldLink RX2 64 "LyingScale$State" "answered" "I"] ++ wsX20)
def wsX4_put : List Cond := .code yX4_put cX4_put 3 none :: ([])
def wsX2_forgetTold : List Cond := .code yX2_forgetTold cX2_forgetTold 2 none :: ([.fieldLink RX2 14 "LyingScale$State" "told" "LLyingScale$Weighings;", .fieldLink RX2 23 "LyingScale$State" "liesOf" "[I", .static yX4_put, .initialized RX4, .code yX4_put cX4_put 3 none] ++ wsX20 ++ wsX30)
def wsX2_start : List Cond := .code yX2_start cX2_start 2 none :: ([.fieldLink RX2 33 "LyingScale$State" "coins" "I", .fieldLink RX2 37 "LyingScale$State" "limit" "I", .fieldLink RX2 20 "LyingScale$State" "plan" "LLyingScale$Weighings;", .methodLink RX2 43 yX2_hideCase, .instanceMethod yX2_hideCase, .selects RX2 yX2_hideCase yX2_hideCase, .initialized RX2, .code yX2_hideCase cX2_hideCase 3 none, .fieldLink RX2 58 "LyingScale$State" "hidden" "I", .fieldLink RX2 61 "LyingScale$State" "lieSet" "I", .fieldLink RX2 64 "LyingScale$State" "answered" "I", .methodLink RX2 47 yX2_forgetTold, .instanceMethod yX2_forgetTold, .selects RX2 yX2_forgetTold yX2_forgetTold, .code yX2_forgetTold cX2_forgetTold 2 none, .fieldLink RX2 14 "LyingScale$State" "told" "LLyingScale$Weighings;", .fieldLink RX2 23 "LyingScale$State" "liesOf" "[I", .static yX4_put, .initialized RX4, .code yX4_put cX4_put 3 none] ++ wsX20 ++ wsX30)
def wsX2_init_r1 : List Cond := [Cond.methodLink RX2 3 objectInit, Cond.instanceMethod objectInit, Cond.code objectInit ⟨#[0xb1]⟩ 1 none, Cond.classLink RX2 9 RX3, Cond.instantiable RX3 4, Cond.initialized RX3, Cond.fieldLink RX2 14 "LyingScale$State" "told" "LLyingScale$Weighings;", Cond.fieldLink RX2 20 "LyingScale$State" "plan" "LLyingScale$Weighings;", Cond.arrayClass .int, Cond.fieldLink RX2 23 "LyingScale$State" "liesOf" "[I", Cond.fieldLink RX2 27 "LyingScale$State" "words" "[I", Cond.methodLink RX2 11 yX3_init, Cond.instanceMethod yX3_init, Cond.code yX3_init cX3_init 3 none, Cond.methodLink RX3 3 objectInit, Cond.methodLink RX3 9 Lib.Math.max.name, Cond.static Lib.Math.max.name, Cond.initialized "java/lang/Math", Cond.code Lib.Math.max.name Lib.Math.max.code 2 (some .int), Cond.fieldLink RX3 15 "LyingScale$Weighings" "lefts" "[I", Cond.fieldLink RX3 21 "LyingScale$Weighings" "rights" "[I", Cond.fieldLink RX3 24 "LyingScale$Weighings" "answers" "[I", Cond.methodLink RX2 30 yX2_start, Cond.instanceMethod yX2_start]
def wsX2_init_r2 : List Cond := [Cond.selects RX2 yX2_start yX2_start, Cond.initialized RX2, Cond.code yX2_start cX2_start 2 none, Cond.fieldLink RX2 33 "LyingScale$State" "coins" "I", Cond.fieldLink RX2 37 "LyingScale$State" "limit" "I", Cond.methodLink RX2 43 yX2_hideCase, Cond.instanceMethod yX2_hideCase, Cond.selects RX2 yX2_hideCase yX2_hideCase, Cond.code yX2_hideCase cX2_hideCase 3 none, Cond.fieldLink RX2 58 "LyingScale$State" "hidden" "I", Cond.fieldLink RX2 61 "LyingScale$State" "lieSet" "I", Cond.fieldLink RX2 64 "LyingScale$State" "answered" "I", Cond.methodLink RX2 47 yX2_forgetTold, Cond.instanceMethod yX2_forgetTold, Cond.selects RX2 yX2_forgetTold yX2_forgetTold, Cond.code yX2_forgetTold cX2_forgetTold 2 none, Cond.static yX4_put, Cond.initialized RX4, Cond.code yX4_put cX4_put 3 none]
def wsX2_init : List Cond := .code yX2_init cX2_init 1 none :: ((wsX2_init_r1 ++ wsX2_init_r2) ++ wsX30 ++ wsX20)
def wsX0_init_r1 : List Cond := [Cond.methodLink RX0 3 objectInit, Cond.instanceMethod objectInit, Cond.code objectInit ⟨#[0xb1]⟩ 1 none, Cond.classLink RX0 9 RX2, Cond.fieldLink RX0 11 "LyingScale$History" "states" "[LLyingScale$State;", Cond.instantiable RX2 9, Cond.initialized RX2, Cond.methodLink RX0 17 yX2_init, Cond.instanceMethod yX2_init, Cond.code yX2_init cX2_init 1 none, Cond.methodLink RX2 3 objectInit, Cond.classLink RX2 9 RX3, Cond.instantiable RX3 4, Cond.initialized RX3, Cond.fieldLink RX2 14 "LyingScale$State" "told" "LLyingScale$Weighings;", Cond.fieldLink RX2 20 "LyingScale$State" "plan" "LLyingScale$Weighings;", Cond.arrayClass .int, Cond.fieldLink RX2 23 "LyingScale$State" "liesOf" "[I", Cond.fieldLink RX2 27 "LyingScale$State" "words" "[I", Cond.methodLink RX2 11 yX3_init, Cond.instanceMethod yX3_init, Cond.code yX3_init cX3_init 3 none, Cond.methodLink RX3 3 objectInit, Cond.methodLink RX3 9 Lib.Math.max.name]
def wsX0_init_r2 : List Cond := [Cond.static Lib.Math.max.name, Cond.initialized "java/lang/Math", Cond.code Lib.Math.max.name Lib.Math.max.code 2 (some .int), Cond.fieldLink RX3 15 "LyingScale$Weighings" "lefts" "[I", Cond.fieldLink RX3 21 "LyingScale$Weighings" "rights" "[I", Cond.fieldLink RX3 24 "LyingScale$Weighings" "answers" "[I", Cond.methodLink RX2 30 yX2_start, Cond.instanceMethod yX2_start, Cond.selects RX2 yX2_start yX2_start, Cond.code yX2_start cX2_start 2 none, Cond.fieldLink RX2 33 "LyingScale$State" "coins" "I", Cond.fieldLink RX2 37 "LyingScale$State" "limit" "I", Cond.methodLink RX2 43 yX2_hideCase, Cond.instanceMethod yX2_hideCase, Cond.selects RX2 yX2_hideCase yX2_hideCase, Cond.code yX2_hideCase cX2_hideCase 3 none, Cond.fieldLink RX2 58 "LyingScale$State" "hidden" "I", Cond.fieldLink RX2 61 "LyingScale$State" "lieSet" "I", Cond.fieldLink RX2 64 "LyingScale$State" "answered" "I", Cond.methodLink RX2 47 yX2_forgetTold, Cond.instanceMethod yX2_forgetTold, Cond.selects RX2 yX2_forgetTold yX2_forgetTold, Cond.code yX2_forgetTold cX2_forgetTold 2 none, Cond.static yX4_put]
def wsX0_init_r3 : List Cond := [Cond.initialized RX4, Cond.code yX4_put cX4_put 3 none]
def wsX0_init : List Cond := .code yX0_init cX0_init 2 none :: ((wsX0_init_r1 ++ (wsX0_init_r2 ++ wsX0_init_r3)) ++ wsX00 ++ wsX20 ++ wsX30)
def wsX0_stateAt : List Cond := .code yX0_stateAt cX0_stateAt 2 (some (.object "LyingScale$State")) :: ([.fieldLink RX0 11 "LyingScale$History" "states" "[LLyingScale$State;"] ++ wsX00)
def wsX0_dropOldest : List Cond := .code yX0_dropOldest cX0_dropOldest 4 none :: ([.fieldLink RX0 11 "LyingScale$History" "states" "[LLyingScale$State;", .fieldLink RX0 18 "LyingScale$History" "count" "I", .methodLink RX0 25 yX0_stateAt, .instanceMethod yX0_stateAt, .selects RX0 yX0_stateAt yX0_stateAt, .initialized RX0, .code yX0_stateAt cX0_stateAt 2 (some (.object "LyingScale$State"))] ++ wsX00)
def wsX4_copyRow : List Cond := .code yX4_copyRow cX4_copyRow 2 none :: ([.methodLink RX4 253 Lib.Math.min.name, .static Lib.Math.min.name, .initialized "java/lang/Math", .code Lib.Math.min.name Lib.Math.min.code 2 (some .int), .methodLink RX4 258 arraycopyName, .native arraycopyName, .static arraycopyName, .initialized "java/lang/System"])
def wsX3_copyFrom : List Cond := .code yX3_copyFrom cX3_copyFrom 2 none :: ([.fieldLink RX3 15 "LyingScale$Weighings" "lefts" "[I", .fieldLink RX3 21 "LyingScale$Weighings" "rights" "[I", .fieldLink RX3 24 "LyingScale$Weighings" "answers" "[I", .fieldLink RX3 31 "LyingScale$Weighings" "count" "I", .static yX4_copyRow, .initialized RX4, .code yX4_copyRow cX4_copyRow 2 none, .methodLink RX4 253 Lib.Math.min.name, .static Lib.Math.min.name, .initialized "java/lang/Math", .code Lib.Math.min.name Lib.Math.min.code 2 (some .int), .methodLink RX4 258 arraycopyName, .native arraycopyName, .static arraycopyName, .initialized "java/lang/System"] ++ wsX30)
def wsX2_copyFrom_r1 : List Cond := [Cond.fieldLink RX2 14 "LyingScale$State" "told" "LLyingScale$Weighings;", Cond.fieldLink RX2 20 "LyingScale$State" "plan" "LLyingScale$Weighings;", Cond.fieldLink RX2 23 "LyingScale$State" "liesOf" "[I", Cond.fieldLink RX2 33 "LyingScale$State" "coins" "I", Cond.fieldLink RX2 37 "LyingScale$State" "limit" "I", Cond.fieldLink RX2 58 "LyingScale$State" "hidden" "I", Cond.fieldLink RX2 61 "LyingScale$State" "lieSet" "I", Cond.fieldLink RX2 64 "LyingScale$State" "answered" "I", Cond.methodLink RX2 50 yX3_copyFrom, Cond.instanceMethod yX3_copyFrom, Cond.selects RX3 yX3_copyFrom yX3_copyFrom, Cond.initialized RX3, Cond.code yX3_copyFrom cX3_copyFrom 2 none, Cond.fieldLink RX3 15 "LyingScale$Weighings" "lefts" "[I", Cond.fieldLink RX3 21 "LyingScale$Weighings" "rights" "[I", Cond.fieldLink RX3 24 "LyingScale$Weighings" "answers" "[I", Cond.fieldLink RX3 31 "LyingScale$Weighings" "count" "I", Cond.static yX4_copyRow, Cond.initialized RX4, Cond.code yX4_copyRow cX4_copyRow 2 none, Cond.methodLink RX4 253 Lib.Math.min.name, Cond.static Lib.Math.min.name, Cond.initialized "java/lang/Math", Cond.code Lib.Math.min.name Lib.Math.min.code 2 (some .int)]
def wsX2_copyFrom_r2 : List Cond := [Cond.methodLink RX4 258 arraycopyName, Cond.native arraycopyName, Cond.static arraycopyName, Cond.initialized "java/lang/System"]
def wsX2_copyFrom : List Cond := .code yX2_copyFrom cX2_copyFrom 2 none :: ((wsX2_copyFrom_r1 ++ wsX2_copyFrom_r2) ++ wsX20 ++ wsX30)
def wsX0_save_r1 : List Cond := [Cond.fieldLink RX0 18 "LyingScale$History" "count" "I", Cond.fieldLink RX0 11 "LyingScale$History" "states" "[LLyingScale$State;", Cond.methodLink RX0 22 yX0_dropOldest, Cond.instanceMethod yX0_dropOldest, Cond.selects RX0 yX0_dropOldest yX0_dropOldest, Cond.initialized RX0, Cond.code yX0_dropOldest cX0_dropOldest 4 none, Cond.methodLink RX0 25 yX0_stateAt, Cond.instanceMethod yX0_stateAt, Cond.selects RX0 yX0_stateAt yX0_stateAt, Cond.code yX0_stateAt cX0_stateAt 2 (some (.object "LyingScale$State")), Cond.methodLink RX0 29 yX2_copyFrom, Cond.instanceMethod yX2_copyFrom, Cond.selects RX2 yX2_copyFrom yX2_copyFrom, Cond.initialized RX2, Cond.code yX2_copyFrom cX2_copyFrom 2 none, Cond.fieldLink RX2 14 "LyingScale$State" "told" "LLyingScale$Weighings;", Cond.fieldLink RX2 20 "LyingScale$State" "plan" "LLyingScale$Weighings;", Cond.fieldLink RX2 23 "LyingScale$State" "liesOf" "[I", Cond.fieldLink RX2 33 "LyingScale$State" "coins" "I", Cond.fieldLink RX2 37 "LyingScale$State" "limit" "I", Cond.fieldLink RX2 58 "LyingScale$State" "hidden" "I", Cond.fieldLink RX2 61 "LyingScale$State" "lieSet" "I", Cond.fieldLink RX2 64 "LyingScale$State" "answered" "I"]
def wsX0_save_r2 : List Cond := [Cond.methodLink RX2 50 yX3_copyFrom, Cond.instanceMethod yX3_copyFrom, Cond.selects RX3 yX3_copyFrom yX3_copyFrom, Cond.initialized RX3, Cond.code yX3_copyFrom cX3_copyFrom 2 none, Cond.fieldLink RX3 15 "LyingScale$Weighings" "lefts" "[I", Cond.fieldLink RX3 21 "LyingScale$Weighings" "rights" "[I", Cond.fieldLink RX3 24 "LyingScale$Weighings" "answers" "[I", Cond.fieldLink RX3 31 "LyingScale$Weighings" "count" "I", Cond.static yX4_copyRow, Cond.initialized RX4, Cond.code yX4_copyRow cX4_copyRow 2 none, Cond.methodLink RX4 253 Lib.Math.min.name, Cond.static Lib.Math.min.name, Cond.initialized "java/lang/Math", Cond.code Lib.Math.min.name Lib.Math.min.code 2 (some .int), Cond.methodLink RX4 258 arraycopyName, Cond.native arraycopyName, Cond.static arraycopyName, Cond.initialized "java/lang/System"]
def wsX0_save : List Cond := .code yX0_save cX0_save 3 none :: ((wsX0_save_r1 ++ wsX0_save_r2) ++ wsX00 ++ wsX20 ++ wsX30)
def wsX0_restore_r1 : List Cond := [Cond.fieldLink RX0 18 "LyingScale$History" "count" "I", Cond.methodLink RX0 25 yX0_stateAt, Cond.instanceMethod yX0_stateAt, Cond.selects RX0 yX0_stateAt yX0_stateAt, Cond.initialized RX0, Cond.code yX0_stateAt cX0_stateAt 2 (some (.object "LyingScale$State")), Cond.fieldLink RX0 11 "LyingScale$History" "states" "[LLyingScale$State;", Cond.methodLink RX0 29 yX2_copyFrom, Cond.instanceMethod yX2_copyFrom, Cond.selects RX2 yX2_copyFrom yX2_copyFrom, Cond.initialized RX2, Cond.code yX2_copyFrom cX2_copyFrom 2 none, Cond.fieldLink RX2 14 "LyingScale$State" "told" "LLyingScale$Weighings;", Cond.fieldLink RX2 20 "LyingScale$State" "plan" "LLyingScale$Weighings;", Cond.fieldLink RX2 23 "LyingScale$State" "liesOf" "[I", Cond.fieldLink RX2 33 "LyingScale$State" "coins" "I", Cond.fieldLink RX2 37 "LyingScale$State" "limit" "I", Cond.fieldLink RX2 58 "LyingScale$State" "hidden" "I", Cond.fieldLink RX2 61 "LyingScale$State" "lieSet" "I", Cond.fieldLink RX2 64 "LyingScale$State" "answered" "I", Cond.methodLink RX2 50 yX3_copyFrom, Cond.instanceMethod yX3_copyFrom, Cond.selects RX3 yX3_copyFrom yX3_copyFrom, Cond.initialized RX3]
def wsX0_restore_r2 : List Cond := [Cond.code yX3_copyFrom cX3_copyFrom 2 none, Cond.fieldLink RX3 15 "LyingScale$Weighings" "lefts" "[I", Cond.fieldLink RX3 21 "LyingScale$Weighings" "rights" "[I", Cond.fieldLink RX3 24 "LyingScale$Weighings" "answers" "[I", Cond.fieldLink RX3 31 "LyingScale$Weighings" "count" "I", Cond.static yX4_copyRow, Cond.initialized RX4, Cond.code yX4_copyRow cX4_copyRow 2 none, Cond.methodLink RX4 253 Lib.Math.min.name, Cond.static Lib.Math.min.name, Cond.initialized "java/lang/Math", Cond.code Lib.Math.min.name Lib.Math.min.code 2 (some .int), Cond.methodLink RX4 258 arraycopyName, Cond.native arraycopyName, Cond.static arraycopyName, Cond.initialized "java/lang/System"]
def wsX0_restore : List Cond := .code yX0_restore cX0_restore 3 none :: ((wsX0_restore_r1 ++ wsX0_restore_r2) ++ wsX00 ++ wsX20 ++ wsX30)
def wsX1_init : List Cond := .code yX1_init cX1_init 1 none :: ([.methodLink RX1 3 objectInit, .instanceMethod objectInit, .code objectInit ⟨#[0xb1]⟩ 1 none, .arrayClass .int, .fieldLink RX1 9 "LyingScale$Orders" "bytes" "[I", .fieldLink RX1 15 "LyingScale$Orders" "lefts" "[I", .fieldLink RX1 18 "LyingScale$Orders" "rights" "[I", .fieldLink RX1 21 "LyingScale$Orders" "deeds" "[I"] ++ wsX10)
def wsX2_cases : List Cond := .code yX2_cases cX2_cases 1 (some .int) :: ([.fieldLink RX2 33 "LyingScale$State" "coins" "I"] ++ wsX20)
def wsX2_isCase : List Cond := .code yX2_isCase cX2_isCase 2 (some .boolean) :: ([.methodLink RX2 67 yX2_cases, .instanceMethod yX2_cases, .selects RX2 yX2_cases yX2_cases, .initialized RX2, .code yX2_cases cX2_cases 1 (some .int), .fieldLink RX2 33 "LyingScale$State" "coins" "I"] ++ wsX20)
def wsJ6_bitCount_0f7a4 : List Cond := .code yJ6_bitCount_0f7a4 cJ6_bitCount_0f7a4 1 (some .int) :: ([.constant RJ6 265 (1431655765), .constant RJ6 266 (858993459), .constant RJ6 267 (252645135)])
def wsX2_isWeighing : List Cond := .code yX2_isWeighing cX2_isWeighing 3 (some .boolean) :: ([.fieldLink RX2 33 "LyingScale$State" "coins" "I", .methodLink RX2 71 yJ6_bitCount_0f7a4, .static yJ6_bitCount_0f7a4, .initialized RJ6, .code yJ6_bitCount_0f7a4 cJ6_bitCount_0f7a4 1 (some .int), .constant RJ6 265 (1431655765), .constant RJ6 266 (858993459), .constant RJ6 267 (252645135)] ++ wsX20)
def wsX2_canLearn : List Cond := .code yX2_canLearn cX2_canLearn 1 (some .boolean) :: ([.fieldLink RX2 14 "LyingScale$State" "told" "LLyingScale$Weighings;"] ++ wsX20 ++ wsX30)
def wsX3_write : List Cond := .code yX3_write cX3_write 4 none :: ([.fieldLink RX3 31 "LyingScale$Weighings" "count" "I", .fieldLink RX3 15 "LyingScale$Weighings" "lefts" "[I", .fieldLink RX3 21 "LyingScale$Weighings" "rights" "[I", .fieldLink RX3 24 "LyingScale$Weighings" "answers" "[I", .static yX4_put, .initialized RX4, .code yX4_put cX4_put 3 none] ++ wsX30)
def wsX4_at : List Cond := .code yX4_at cX4_at 2 (some .int) :: ([])
def wsX4_coinBit : List Cond := .code yX4_coinBit cX4_coinBit 1 (some .int) :: ([])
def wsX4_trueAnswer : List Cond := .code yX4_trueAnswer cX4_trueAnswer 5 (some .int) :: ([.methodLink RX4 264 yX4_coinBit, .static yX4_coinBit, .initialized RX4, .code yX4_coinBit cX4_coinBit 1 (some .int)])
def wsX2_liesIfTold : List Cond := .code yX2_liesIfTold cX2_liesIfTold 6 (some .int) :: ([.fieldLink RX2 23 "LyingScale$State" "liesOf" "[I", .static yX4_at, .initialized RX4, .code yX4_at cX4_at 2 (some .int), .static yX4_trueAnswer, .code yX4_trueAnswer cX4_trueAnswer 5 (some .int), .methodLink RX4 264 yX4_coinBit, .static yX4_coinBit, .code yX4_coinBit cX4_coinBit 1 (some .int)] ++ wsX20)
def wsX2_learn_r1 : List Cond := [Cond.fieldLink RX2 14 "LyingScale$State" "told" "LLyingScale$Weighings;", Cond.fieldLink RX2 23 "LyingScale$State" "liesOf" "[I", Cond.methodLink RX2 77 yX3_write, Cond.instanceMethod yX3_write, Cond.selects RX3 yX3_write yX3_write, Cond.initialized RX3, Cond.code yX3_write cX3_write 4 none, Cond.fieldLink RX3 31 "LyingScale$Weighings" "count" "I", Cond.fieldLink RX3 15 "LyingScale$Weighings" "lefts" "[I", Cond.fieldLink RX3 21 "LyingScale$Weighings" "rights" "[I", Cond.fieldLink RX3 24 "LyingScale$Weighings" "answers" "[I", Cond.static yX4_put, Cond.initialized RX4, Cond.code yX4_put cX4_put 3 none, Cond.methodLink RX2 67 yX2_cases, Cond.instanceMethod yX2_cases, Cond.selects RX2 yX2_cases yX2_cases, Cond.initialized RX2, Cond.code yX2_cases cX2_cases 1 (some .int), Cond.fieldLink RX2 33 "LyingScale$State" "coins" "I", Cond.methodLink RX2 81 yX2_liesIfTold, Cond.instanceMethod yX2_liesIfTold, Cond.selects RX2 yX2_liesIfTold yX2_liesIfTold, Cond.code yX2_liesIfTold cX2_liesIfTold 6 (some .int)]
def wsX2_learn_r2 : List Cond := [Cond.static yX4_at, Cond.code yX4_at cX4_at 2 (some .int), Cond.static yX4_trueAnswer, Cond.code yX4_trueAnswer cX4_trueAnswer 5 (some .int), Cond.methodLink RX4 264 yX4_coinBit, Cond.static yX4_coinBit, Cond.code yX4_coinBit cX4_coinBit 1 (some .int)]
def wsX2_learn : List Cond := .code yX2_learn cX2_learn 5 none :: ((wsX2_learn_r1 ++ wsX2_learn_r2) ++ wsX20 ++ wsX30)
def wsX2_canReply : List Cond := .code yX2_canReply cX2_canReply 1 (some .boolean) :: ([.fieldLink RX2 58 "LyingScale$State" "hidden" "I", .fieldLink RX2 64 "LyingScale$State" "answered" "I", .methodLink RX2 97 yX2_canLearn, .instanceMethod yX2_canLearn, .selects RX2 yX2_canLearn yX2_canLearn, .initialized RX2, .code yX2_canLearn cX2_canLearn 1 (some .boolean), .fieldLink RX2 14 "LyingScale$State" "told" "LLyingScale$Weighings;"] ++ wsX20 ++ wsX30)
def wsX2_reply_r1 : List Cond := [Cond.fieldLink RX2 58 "LyingScale$State" "hidden" "I", Cond.fieldLink RX2 61 "LyingScale$State" "lieSet" "I", Cond.fieldLink RX2 64 "LyingScale$State" "answered" "I", Cond.static yX4_trueAnswer, Cond.initialized RX4, Cond.code yX4_trueAnswer cX4_trueAnswer 5 (some .int), Cond.methodLink RX4 264 yX4_coinBit, Cond.static yX4_coinBit, Cond.code yX4_coinBit cX4_coinBit 1 (some .int), Cond.methodLink RX2 101 yX2_learn, Cond.instanceMethod yX2_learn, Cond.selects RX2 yX2_learn yX2_learn, Cond.initialized RX2, Cond.code yX2_learn cX2_learn 5 none, Cond.fieldLink RX2 14 "LyingScale$State" "told" "LLyingScale$Weighings;", Cond.fieldLink RX2 23 "LyingScale$State" "liesOf" "[I", Cond.methodLink RX2 77 yX3_write, Cond.instanceMethod yX3_write, Cond.selects RX3 yX3_write yX3_write, Cond.initialized RX3, Cond.code yX3_write cX3_write 4 none, Cond.fieldLink RX3 31 "LyingScale$Weighings" "count" "I", Cond.fieldLink RX3 15 "LyingScale$Weighings" "lefts" "[I", Cond.fieldLink RX3 21 "LyingScale$Weighings" "rights" "[I"]
def wsX2_reply_r2 : List Cond := [Cond.fieldLink RX3 24 "LyingScale$Weighings" "answers" "[I", Cond.static yX4_put, Cond.code yX4_put cX4_put 3 none, Cond.methodLink RX2 67 yX2_cases, Cond.instanceMethod yX2_cases, Cond.selects RX2 yX2_cases yX2_cases, Cond.code yX2_cases cX2_cases 1 (some .int), Cond.fieldLink RX2 33 "LyingScale$State" "coins" "I", Cond.methodLink RX2 81 yX2_liesIfTold, Cond.instanceMethod yX2_liesIfTold, Cond.selects RX2 yX2_liesIfTold yX2_liesIfTold, Cond.code yX2_liesIfTold cX2_liesIfTold 6 (some .int), Cond.static yX4_at, Cond.code yX4_at cX4_at 2 (some .int)]
def wsX2_reply : List Cond := .code yX2_reply cX2_reply 4 (some .int) :: ((wsX2_reply_r1 ++ wsX2_reply_r2) ++ wsX20 ++ wsX30)
def wsX2_isLeft : List Cond := .code yX2_isLeft cX2_isLeft 2 (some .boolean) :: ([.fieldLink RX2 23 "LyingScale$State" "liesOf" "[I", .fieldLink RX2 37 "LyingScale$State" "limit" "I", .static yX4_at, .initialized RX4, .code yX4_at cX4_at 2 (some .int)] ++ wsX20)
def wsX2_countLeft : List Cond := .code yX2_countLeft cX2_countLeft 3 (some .int) :: ([.methodLink RX2 67 yX2_cases, .instanceMethod yX2_cases, .selects RX2 yX2_cases yX2_cases, .initialized RX2, .code yX2_cases cX2_cases 1 (some .int), .fieldLink RX2 33 "LyingScale$State" "coins" "I", .methodLink RX2 125 yX2_isLeft, .instanceMethod yX2_isLeft, .selects RX2 yX2_isLeft yX2_isLeft, .code yX2_isLeft cX2_isLeft 2 (some .boolean), .fieldLink RX2 23 "LyingScale$State" "liesOf" "[I", .fieldLink RX2 37 "LyingScale$State" "limit" "I", .static yX4_at, .initialized RX4, .code yX4_at cX4_at 2 (some .int)] ++ wsX20)
def wsX2_falseCoins : List Cond := .code yX2_falseCoins cX2_falseCoins 3 (some .int) :: ([.methodLink RX2 67 yX2_cases, .instanceMethod yX2_cases, .selects RX2 yX2_cases yX2_cases, .initialized RX2, .code yX2_cases cX2_cases 1 (some .int), .fieldLink RX2 33 "LyingScale$State" "coins" "I", .methodLink RX2 125 yX2_isLeft, .instanceMethod yX2_isLeft, .selects RX2 yX2_isLeft yX2_isLeft, .code yX2_isLeft cX2_isLeft 2 (some .boolean), .fieldLink RX2 23 "LyingScale$State" "liesOf" "[I", .fieldLink RX2 37 "LyingScale$State" "limit" "I", .static yX4_at, .initialized RX4, .code yX4_at cX4_at 2 (some .int), .static yX4_coinBit, .code yX4_coinBit cX4_coinBit 1 (some .int)] ++ wsX20)
def wsX2_number_r1 : List Cond := [Cond.fieldLink RX2 33 "LyingScale$State" "coins" "I", Cond.fieldLink RX2 37 "LyingScale$State" "limit" "I", Cond.fieldLink RX2 14 "LyingScale$State" "told" "LLyingScale$Weighings;", Cond.fieldLink RX2 20 "LyingScale$State" "plan" "LLyingScale$Weighings;", Cond.fieldLink RX2 58 "LyingScale$State" "hidden" "I", Cond.fieldLink RX2 64 "LyingScale$State" "answered" "I", Cond.methodLink RX2 131 yX2_countLeft, Cond.instanceMethod yX2_countLeft, Cond.selects RX2 yX2_countLeft yX2_countLeft, Cond.initialized RX2, Cond.code yX2_countLeft cX2_countLeft 3 (some .int), Cond.methodLink RX2 67 yX2_cases, Cond.instanceMethod yX2_cases, Cond.selects RX2 yX2_cases yX2_cases, Cond.code yX2_cases cX2_cases 1 (some .int), Cond.methodLink RX2 125 yX2_isLeft, Cond.instanceMethod yX2_isLeft, Cond.selects RX2 yX2_isLeft yX2_isLeft, Cond.code yX2_isLeft cX2_isLeft 2 (some .boolean), Cond.fieldLink RX2 23 "LyingScale$State" "liesOf" "[I", Cond.static yX4_at, Cond.initialized RX4, Cond.code yX4_at cX4_at 2 (some .int), Cond.methodLink RX2 134 yX2_falseCoins]
def wsX2_number_r2 : List Cond := [Cond.instanceMethod yX2_falseCoins, Cond.selects RX2 yX2_falseCoins yX2_falseCoins, Cond.code yX2_falseCoins cX2_falseCoins 3 (some .int), Cond.static yX4_coinBit, Cond.code yX4_coinBit cX4_coinBit 1 (some .int)]
def wsX2_number : List Cond := .code yX2_number cX2_number 2 (some .int) :: ((wsX2_number_r1 ++ wsX2_number_r2) ++ wsX20 ++ wsX30)
def wsX4_volume : List Cond := .code yX4_volume cX4_volume 8 (some .long) :: ([.methodLink RX4 253 Lib.Math.min.name, .static Lib.Math.min.name, .initialized "java/lang/Math", .code Lib.Math.min.name Lib.Math.min.code 2 (some .int)])
def wsX2_volumeLeft : List Cond := .code yX2_volumeLeft cX2_volumeLeft 3 (some .long) :: ([.fieldLink RX2 37 "LyingScale$State" "limit" "I", .static yX4_volume, .initialized RX4, .code yX4_volume cX4_volume 8 (some .long), .methodLink RX4 253 Lib.Math.min.name, .static Lib.Math.min.name, .initialized "java/lang/Math", .code Lib.Math.min.name Lib.Math.min.code 2 (some .int)] ++ wsX20)
def wsX2_weightAhead : List Cond := .code yX2_weightAhead cX2_weightAhead 5 (some .long) :: ([.fieldLink RX2 23 "LyingScale$State" "liesOf" "[I", .methodLink RX2 67 yX2_cases, .instanceMethod yX2_cases, .selects RX2 yX2_cases yX2_cases, .initialized RX2, .code yX2_cases cX2_cases 1 (some .int), .fieldLink RX2 33 "LyingScale$State" "coins" "I", .static yX4_at, .initialized RX4, .code yX4_at cX4_at 2 (some .int), .methodLink RX2 137 yX2_volumeLeft, .instanceMethod yX2_volumeLeft, .selects RX2 yX2_volumeLeft yX2_volumeLeft, .code yX2_volumeLeft cX2_volumeLeft 3 (some .long), .fieldLink RX2 37 "LyingScale$State" "limit" "I", .static yX4_volume, .code yX4_volume cX4_volume 8 (some .long), .methodLink RX4 253 Lib.Math.min.name, .static Lib.Math.min.name, .initialized "java/lang/Math", .code Lib.Math.min.name Lib.Math.min.code 2 (some .int)] ++ wsX20)
def wsX2_weightIfTold_r1 : List Cond := [Cond.methodLink RX2 67 yX2_cases, Cond.instanceMethod yX2_cases, Cond.selects RX2 yX2_cases yX2_cases, Cond.initialized RX2, Cond.code yX2_cases cX2_cases 1 (some .int), Cond.fieldLink RX2 33 "LyingScale$State" "coins" "I", Cond.methodLink RX2 81 yX2_liesIfTold, Cond.instanceMethod yX2_liesIfTold, Cond.selects RX2 yX2_liesIfTold yX2_liesIfTold, Cond.code yX2_liesIfTold cX2_liesIfTold 6 (some .int), Cond.fieldLink RX2 23 "LyingScale$State" "liesOf" "[I", Cond.static yX4_at, Cond.initialized RX4, Cond.code yX4_at cX4_at 2 (some .int), Cond.static yX4_trueAnswer, Cond.code yX4_trueAnswer cX4_trueAnswer 5 (some .int), Cond.methodLink RX4 264 yX4_coinBit, Cond.static yX4_coinBit, Cond.code yX4_coinBit cX4_coinBit 1 (some .int), Cond.methodLink RX2 137 yX2_volumeLeft, Cond.instanceMethod yX2_volumeLeft, Cond.selects RX2 yX2_volumeLeft yX2_volumeLeft, Cond.code yX2_volumeLeft cX2_volumeLeft 3 (some .long), Cond.fieldLink RX2 37 "LyingScale$State" "limit" "I"]
def wsX2_weightIfTold_r2 : List Cond := [Cond.static yX4_volume, Cond.code yX4_volume cX4_volume 8 (some .long), Cond.methodLink RX4 253 Lib.Math.min.name, Cond.static Lib.Math.min.name, Cond.initialized "java/lang/Math", Cond.code Lib.Math.min.name Lib.Math.min.code 2 (some .int)]
def wsX2_weightIfTold : List Cond := .code yX2_weightIfTold cX2_weightIfTold 8 (some .long) :: ((wsX2_weightIfTold_r1 ++ wsX2_weightIfTold_r2) ++ wsX20)
def wsX4_init_r1 : List Cond := [Cond.methodLink RX4 3 objectInit, Cond.instanceMethod objectInit, Cond.code objectInit ⟨#[0xb1]⟩ 1 none, Cond.classLink RX4 9 RX2, Cond.instantiable RX2 9, Cond.initialized RX2, Cond.fieldLink RX4 12 "LyingScale" "now" "LLyingScale$State;", Cond.classLink RX4 16 RX0, Cond.instantiable RX0 2, Cond.initialized RX0, Cond.fieldLink RX4 19 "LyingScale" "history" "LLyingScale$History;", Cond.classLink RX4 23 RX1, Cond.instantiable RX1 9, Cond.initialized RX1, Cond.fieldLink RX4 26 "LyingScale" "orders" "LLyingScale$Orders;", Cond.methodLink RX4 11 yX2_init, Cond.instanceMethod yX2_init, Cond.code yX2_init cX2_init 1 none, Cond.methodLink RX2 3 objectInit, Cond.classLink RX2 9 RX3, Cond.instantiable RX3 4, Cond.initialized RX3, Cond.fieldLink RX2 14 "LyingScale$State" "told" "LLyingScale$Weighings;", Cond.fieldLink RX2 20 "LyingScale$State" "plan" "LLyingScale$Weighings;"]
def wsX4_init_r2 : List Cond := [Cond.arrayClass .int, Cond.fieldLink RX2 23 "LyingScale$State" "liesOf" "[I", Cond.fieldLink RX2 27 "LyingScale$State" "words" "[I", Cond.methodLink RX2 11 yX3_init, Cond.instanceMethod yX3_init, Cond.code yX3_init cX3_init 3 none, Cond.methodLink RX3 3 objectInit, Cond.methodLink RX3 9 Lib.Math.max.name, Cond.static Lib.Math.max.name, Cond.initialized "java/lang/Math", Cond.code Lib.Math.max.name Lib.Math.max.code 2 (some .int), Cond.fieldLink RX3 15 "LyingScale$Weighings" "lefts" "[I", Cond.fieldLink RX3 21 "LyingScale$Weighings" "rights" "[I", Cond.fieldLink RX3 24 "LyingScale$Weighings" "answers" "[I", Cond.methodLink RX2 30 yX2_start, Cond.instanceMethod yX2_start, Cond.selects RX2 yX2_start yX2_start, Cond.code yX2_start cX2_start 2 none, Cond.fieldLink RX2 33 "LyingScale$State" "coins" "I", Cond.fieldLink RX2 37 "LyingScale$State" "limit" "I", Cond.methodLink RX2 43 yX2_hideCase, Cond.instanceMethod yX2_hideCase, Cond.selects RX2 yX2_hideCase yX2_hideCase, Cond.code yX2_hideCase cX2_hideCase 3 none]
def wsX4_init_r3 : List Cond := [Cond.fieldLink RX2 58 "LyingScale$State" "hidden" "I", Cond.fieldLink RX2 61 "LyingScale$State" "lieSet" "I", Cond.fieldLink RX2 64 "LyingScale$State" "answered" "I", Cond.methodLink RX2 47 yX2_forgetTold, Cond.instanceMethod yX2_forgetTold, Cond.selects RX2 yX2_forgetTold yX2_forgetTold, Cond.code yX2_forgetTold cX2_forgetTold 2 none, Cond.static yX4_put, Cond.initialized RX4, Cond.code yX4_put cX4_put 3 none, Cond.methodLink RX4 18 yX0_init, Cond.instanceMethod yX0_init, Cond.code yX0_init cX0_init 2 none, Cond.methodLink RX0 3 objectInit, Cond.classLink RX0 9 RX2, Cond.fieldLink RX0 11 "LyingScale$History" "states" "[LLyingScale$State;", Cond.methodLink RX0 17 yX2_init, Cond.methodLink RX4 25 yX1_init, Cond.instanceMethod yX1_init, Cond.code yX1_init cX1_init 1 none, Cond.methodLink RX1 3 objectInit, Cond.fieldLink RX1 9 "LyingScale$Orders" "bytes" "[I", Cond.fieldLink RX1 15 "LyingScale$Orders" "lefts" "[I", Cond.fieldLink RX1 18 "LyingScale$Orders" "rights" "[I"]
def wsX4_init_r4 : List Cond := [Cond.fieldLink RX1 21 "LyingScale$Orders" "deeds" "[I"]
def wsX4_init : List Cond := .code yX4_init cX4_init 1 none :: ((wsX4_init_r1 ++ (wsX4_init_r2 ++ (wsX4_init_r3 ++ wsX4_init_r4))) ++ wsX20 ++ wsX40 ++ wsX00 ++ wsX10 ++ wsX30)
def wsX4_begin_r1 : List Cond := [Cond.classLink RX4 30 "java/lang/IllegalArgumentException", Cond.initialized "java/lang/IllegalArgumentException", Cond.fieldLink RX4 19 "LyingScale" "history" "LLyingScale$History;", Cond.fieldLink RX4 12 "LyingScale" "now" "LLyingScale$State;", Cond.methodLink RX4 37 yX0_save, Cond.instanceMethod yX0_save, Cond.selects RX0 yX0_save yX0_save, Cond.initialized RX0, Cond.code yX0_save cX0_save 3 none, Cond.fieldLink RX0 18 "LyingScale$History" "count" "I", Cond.fieldLink RX0 11 "LyingScale$History" "states" "[LLyingScale$State;", Cond.methodLink RX0 22 yX0_dropOldest, Cond.instanceMethod yX0_dropOldest, Cond.selects RX0 yX0_dropOldest yX0_dropOldest, Cond.code yX0_dropOldest cX0_dropOldest 4 none, Cond.methodLink RX0 25 yX0_stateAt, Cond.instanceMethod yX0_stateAt, Cond.selects RX0 yX0_stateAt yX0_stateAt, Cond.code yX0_stateAt cX0_stateAt 2 (some (.object "LyingScale$State")), Cond.methodLink RX0 29 yX2_copyFrom, Cond.instanceMethod yX2_copyFrom, Cond.selects RX2 yX2_copyFrom yX2_copyFrom, Cond.initialized RX2, Cond.code yX2_copyFrom cX2_copyFrom 2 none]
def wsX4_begin_r2 : List Cond := [Cond.fieldLink RX2 14 "LyingScale$State" "told" "LLyingScale$Weighings;", Cond.fieldLink RX2 20 "LyingScale$State" "plan" "LLyingScale$Weighings;", Cond.fieldLink RX2 23 "LyingScale$State" "liesOf" "[I", Cond.fieldLink RX2 33 "LyingScale$State" "coins" "I", Cond.fieldLink RX2 37 "LyingScale$State" "limit" "I", Cond.fieldLink RX2 58 "LyingScale$State" "hidden" "I", Cond.fieldLink RX2 61 "LyingScale$State" "lieSet" "I", Cond.fieldLink RX2 64 "LyingScale$State" "answered" "I", Cond.methodLink RX2 50 yX3_copyFrom, Cond.instanceMethod yX3_copyFrom, Cond.selects RX3 yX3_copyFrom yX3_copyFrom, Cond.initialized RX3, Cond.code yX3_copyFrom cX3_copyFrom 2 none, Cond.fieldLink RX3 15 "LyingScale$Weighings" "lefts" "[I", Cond.fieldLink RX3 21 "LyingScale$Weighings" "rights" "[I", Cond.fieldLink RX3 24 "LyingScale$Weighings" "answers" "[I", Cond.fieldLink RX3 31 "LyingScale$Weighings" "count" "I", Cond.static yX4_copyRow, Cond.initialized RX4, Cond.code yX4_copyRow cX4_copyRow 2 none, Cond.methodLink RX4 253 Lib.Math.min.name, Cond.static Lib.Math.min.name, Cond.initialized "java/lang/Math", Cond.code Lib.Math.min.name Lib.Math.min.code 2 (some .int)]
def wsX4_begin_r3 : List Cond := [Cond.methodLink RX4 258 arraycopyName, Cond.native arraycopyName, Cond.static arraycopyName, Cond.initialized "java/lang/System", Cond.methodLink RX4 51 yX2_start, Cond.instanceMethod yX2_start, Cond.selects RX2 yX2_start yX2_start, Cond.code yX2_start cX2_start 2 none, Cond.methodLink RX2 43 yX2_hideCase, Cond.instanceMethod yX2_hideCase, Cond.selects RX2 yX2_hideCase yX2_hideCase, Cond.code yX2_hideCase cX2_hideCase 3 none, Cond.methodLink RX2 47 yX2_forgetTold, Cond.instanceMethod yX2_forgetTold, Cond.selects RX2 yX2_forgetTold yX2_forgetTold, Cond.code yX2_forgetTold cX2_forgetTold 2 none, Cond.static yX4_put, Cond.code yX4_put cX4_put 3 none]
def wsX4_begin : List Cond := .code yX4_begin cX4_begin 3 (some .int) :: ((wsX4_begin_r1 ++ (wsX4_begin_r2 ++ wsX4_begin_r3)) ++ wsX40 ++ wsX20 ++ wsX30 ++ wsX00 ++ (vx_atS RX4 34 "java/lang/IllegalArgumentException" ["java/lang/RuntimeException", "java/lang/Exception"]).filter goodWord)
def wsX4_setLimit_r1 : List Cond := [Cond.classLink RX4 30 "java/lang/IllegalArgumentException", Cond.initialized "java/lang/IllegalArgumentException", Cond.fieldLink RX4 19 "LyingScale" "history" "LLyingScale$History;", Cond.fieldLink RX4 12 "LyingScale" "now" "LLyingScale$State;", Cond.methodLink RX4 37 yX0_save, Cond.instanceMethod yX0_save, Cond.selects RX0 yX0_save yX0_save, Cond.initialized RX0, Cond.code yX0_save cX0_save 3 none, Cond.fieldLink RX0 18 "LyingScale$History" "count" "I", Cond.fieldLink RX0 11 "LyingScale$History" "states" "[LLyingScale$State;", Cond.methodLink RX0 22 yX0_dropOldest, Cond.instanceMethod yX0_dropOldest, Cond.selects RX0 yX0_dropOldest yX0_dropOldest, Cond.code yX0_dropOldest cX0_dropOldest 4 none, Cond.methodLink RX0 25 yX0_stateAt, Cond.instanceMethod yX0_stateAt, Cond.selects RX0 yX0_stateAt yX0_stateAt, Cond.code yX0_stateAt cX0_stateAt 2 (some (.object "LyingScale$State")), Cond.methodLink RX0 29 yX2_copyFrom, Cond.instanceMethod yX2_copyFrom, Cond.selects RX2 yX2_copyFrom yX2_copyFrom, Cond.initialized RX2, Cond.code yX2_copyFrom cX2_copyFrom 2 none]
def wsX4_setLimit_r2 : List Cond := [Cond.fieldLink RX2 14 "LyingScale$State" "told" "LLyingScale$Weighings;", Cond.fieldLink RX2 20 "LyingScale$State" "plan" "LLyingScale$Weighings;", Cond.fieldLink RX2 23 "LyingScale$State" "liesOf" "[I", Cond.fieldLink RX2 33 "LyingScale$State" "coins" "I", Cond.fieldLink RX2 37 "LyingScale$State" "limit" "I", Cond.fieldLink RX2 58 "LyingScale$State" "hidden" "I", Cond.fieldLink RX2 61 "LyingScale$State" "lieSet" "I", Cond.fieldLink RX2 64 "LyingScale$State" "answered" "I", Cond.methodLink RX2 50 yX3_copyFrom, Cond.instanceMethod yX3_copyFrom, Cond.selects RX3 yX3_copyFrom yX3_copyFrom, Cond.initialized RX3, Cond.code yX3_copyFrom cX3_copyFrom 2 none, Cond.fieldLink RX3 15 "LyingScale$Weighings" "lefts" "[I", Cond.fieldLink RX3 21 "LyingScale$Weighings" "rights" "[I", Cond.fieldLink RX3 24 "LyingScale$Weighings" "answers" "[I", Cond.fieldLink RX3 31 "LyingScale$Weighings" "count" "I", Cond.static yX4_copyRow, Cond.initialized RX4, Cond.code yX4_copyRow cX4_copyRow 2 none, Cond.methodLink RX4 253 Lib.Math.min.name, Cond.static Lib.Math.min.name, Cond.initialized "java/lang/Math", Cond.code Lib.Math.min.name Lib.Math.min.code 2 (some .int)]
def wsX4_setLimit_r3 : List Cond := [Cond.methodLink RX4 258 arraycopyName, Cond.native arraycopyName, Cond.static arraycopyName, Cond.initialized "java/lang/System", Cond.methodLink RX4 60 yX2_countLeft, Cond.instanceMethod yX2_countLeft, Cond.selects RX2 yX2_countLeft yX2_countLeft, Cond.code yX2_countLeft cX2_countLeft 3 (some .int), Cond.methodLink RX2 67 yX2_cases, Cond.instanceMethod yX2_cases, Cond.selects RX2 yX2_cases yX2_cases, Cond.code yX2_cases cX2_cases 1 (some .int), Cond.methodLink RX2 125 yX2_isLeft, Cond.instanceMethod yX2_isLeft, Cond.selects RX2 yX2_isLeft yX2_isLeft, Cond.code yX2_isLeft cX2_isLeft 2 (some .boolean), Cond.static yX4_at, Cond.code yX4_at cX4_at 2 (some .int)]
def wsX4_setLimit : List Cond := .code yX4_setLimit cX4_setLimit 2 (some .int) :: ((wsX4_setLimit_r1 ++ (wsX4_setLimit_r2 ++ wsX4_setLimit_r3)) ++ wsX40 ++ wsX20 ++ wsX00 ++ wsX30 ++ (vx_atS RX4 34 "java/lang/IllegalArgumentException" ["java/lang/RuntimeException", "java/lang/Exception"]).filter goodWord)
def wsX4_forget_r1 : List Cond := [Cond.fieldLink RX4 19 "LyingScale" "history" "LLyingScale$History;", Cond.fieldLink RX4 12 "LyingScale" "now" "LLyingScale$State;", Cond.methodLink RX4 37 yX0_save, Cond.instanceMethod yX0_save, Cond.selects RX0 yX0_save yX0_save, Cond.initialized RX0, Cond.code yX0_save cX0_save 3 none, Cond.fieldLink RX0 18 "LyingScale$History" "count" "I", Cond.fieldLink RX0 11 "LyingScale$History" "states" "[LLyingScale$State;", Cond.methodLink RX0 22 yX0_dropOldest, Cond.instanceMethod yX0_dropOldest, Cond.selects RX0 yX0_dropOldest yX0_dropOldest, Cond.code yX0_dropOldest cX0_dropOldest 4 none, Cond.methodLink RX0 25 yX0_stateAt, Cond.instanceMethod yX0_stateAt, Cond.selects RX0 yX0_stateAt yX0_stateAt, Cond.code yX0_stateAt cX0_stateAt 2 (some (.object "LyingScale$State")), Cond.methodLink RX0 29 yX2_copyFrom, Cond.instanceMethod yX2_copyFrom, Cond.selects RX2 yX2_copyFrom yX2_copyFrom, Cond.initialized RX2, Cond.code yX2_copyFrom cX2_copyFrom 2 none, Cond.fieldLink RX2 14 "LyingScale$State" "told" "LLyingScale$Weighings;", Cond.fieldLink RX2 20 "LyingScale$State" "plan" "LLyingScale$Weighings;"]
def wsX4_forget_r2 : List Cond := [Cond.fieldLink RX2 23 "LyingScale$State" "liesOf" "[I", Cond.fieldLink RX2 33 "LyingScale$State" "coins" "I", Cond.fieldLink RX2 37 "LyingScale$State" "limit" "I", Cond.fieldLink RX2 58 "LyingScale$State" "hidden" "I", Cond.fieldLink RX2 61 "LyingScale$State" "lieSet" "I", Cond.fieldLink RX2 64 "LyingScale$State" "answered" "I", Cond.methodLink RX2 50 yX3_copyFrom, Cond.instanceMethod yX3_copyFrom, Cond.selects RX3 yX3_copyFrom yX3_copyFrom, Cond.initialized RX3, Cond.code yX3_copyFrom cX3_copyFrom 2 none, Cond.fieldLink RX3 15 "LyingScale$Weighings" "lefts" "[I", Cond.fieldLink RX3 21 "LyingScale$Weighings" "rights" "[I", Cond.fieldLink RX3 24 "LyingScale$Weighings" "answers" "[I", Cond.fieldLink RX3 31 "LyingScale$Weighings" "count" "I", Cond.static yX4_copyRow, Cond.initialized RX4, Cond.code yX4_copyRow cX4_copyRow 2 none, Cond.methodLink RX4 253 Lib.Math.min.name, Cond.static Lib.Math.min.name, Cond.initialized "java/lang/Math", Cond.code Lib.Math.min.name Lib.Math.min.code 2 (some .int), Cond.methodLink RX4 258 arraycopyName, Cond.native arraycopyName]
def wsX4_forget_r3 : List Cond := [Cond.static arraycopyName, Cond.initialized "java/lang/System", Cond.methodLink RX4 87 yX2_forgetTold, Cond.instanceMethod yX2_forgetTold, Cond.selects RX2 yX2_forgetTold yX2_forgetTold, Cond.code yX2_forgetTold cX2_forgetTold 2 none, Cond.static yX4_put, Cond.code yX4_put cX4_put 3 none]
def wsX4_forget : List Cond := .code yX4_forget cX4_forget 2 (some .int) :: ((wsX4_forget_r1 ++ (wsX4_forget_r2 ++ wsX4_forget_r3)) ++ wsX40 ++ wsX20 ++ wsX30 ++ wsX00)
def wsX4_hide_r1 : List Cond := [Cond.classLink RX4 93 "java/lang/IndexOutOfBoundsException", Cond.initialized "java/lang/IndexOutOfBoundsException", Cond.classLink RX4 30 "java/lang/IllegalArgumentException", Cond.initialized "java/lang/IllegalArgumentException", Cond.fieldLink RX4 12 "LyingScale" "now" "LLyingScale$State;", Cond.constant RX4 98 (1073741823), Cond.fieldLink RX4 19 "LyingScale" "history" "LLyingScale$History;", Cond.methodLink RX4 90 yX2_isCase, Cond.instanceMethod yX2_isCase, Cond.selects RX2 yX2_isCase yX2_isCase, Cond.initialized RX2, Cond.code yX2_isCase cX2_isCase 2 (some .boolean), Cond.methodLink RX2 67 yX2_cases, Cond.instanceMethod yX2_cases, Cond.selects RX2 yX2_cases yX2_cases, Cond.code yX2_cases cX2_cases 1 (some .int), Cond.fieldLink RX2 33 "LyingScale$State" "coins" "I", Cond.methodLink RX4 37 yX0_save, Cond.instanceMethod yX0_save, Cond.selects RX0 yX0_save yX0_save, Cond.initialized RX0, Cond.code yX0_save cX0_save 3 none, Cond.fieldLink RX0 18 "LyingScale$History" "count" "I", Cond.fieldLink RX0 11 "LyingScale$History" "states" "[LLyingScale$State;"]
def wsX4_hide_r2 : List Cond := [Cond.methodLink RX0 22 yX0_dropOldest, Cond.instanceMethod yX0_dropOldest, Cond.selects RX0 yX0_dropOldest yX0_dropOldest, Cond.code yX0_dropOldest cX0_dropOldest 4 none, Cond.methodLink RX0 25 yX0_stateAt, Cond.instanceMethod yX0_stateAt, Cond.selects RX0 yX0_stateAt yX0_stateAt, Cond.code yX0_stateAt cX0_stateAt 2 (some (.object "LyingScale$State")), Cond.methodLink RX0 29 yX2_copyFrom, Cond.instanceMethod yX2_copyFrom, Cond.selects RX2 yX2_copyFrom yX2_copyFrom, Cond.code yX2_copyFrom cX2_copyFrom 2 none, Cond.fieldLink RX2 14 "LyingScale$State" "told" "LLyingScale$Weighings;", Cond.fieldLink RX2 20 "LyingScale$State" "plan" "LLyingScale$Weighings;", Cond.fieldLink RX2 23 "LyingScale$State" "liesOf" "[I", Cond.fieldLink RX2 37 "LyingScale$State" "limit" "I", Cond.fieldLink RX2 58 "LyingScale$State" "hidden" "I", Cond.fieldLink RX2 61 "LyingScale$State" "lieSet" "I", Cond.fieldLink RX2 64 "LyingScale$State" "answered" "I", Cond.methodLink RX2 50 yX3_copyFrom, Cond.instanceMethod yX3_copyFrom, Cond.selects RX3 yX3_copyFrom yX3_copyFrom, Cond.initialized RX3, Cond.code yX3_copyFrom cX3_copyFrom 2 none]
def wsX4_hide_r3 : List Cond := [Cond.fieldLink RX3 15 "LyingScale$Weighings" "lefts" "[I", Cond.fieldLink RX3 21 "LyingScale$Weighings" "rights" "[I", Cond.fieldLink RX3 24 "LyingScale$Weighings" "answers" "[I", Cond.fieldLink RX3 31 "LyingScale$Weighings" "count" "I", Cond.static yX4_copyRow, Cond.initialized RX4, Cond.code yX4_copyRow cX4_copyRow 2 none, Cond.methodLink RX4 253 Lib.Math.min.name, Cond.static Lib.Math.min.name, Cond.initialized "java/lang/Math", Cond.code Lib.Math.min.name Lib.Math.min.code 2 (some .int), Cond.methodLink RX4 258 arraycopyName, Cond.native arraycopyName, Cond.static arraycopyName, Cond.initialized "java/lang/System", Cond.methodLink RX4 102 yX2_hideCase, Cond.instanceMethod yX2_hideCase, Cond.selects RX2 yX2_hideCase yX2_hideCase, Cond.code yX2_hideCase cX2_hideCase 3 none]
def wsX4_hide : List Cond := .code yX4_hide cX4_hide 4 (some .int) :: ((wsX4_hide_r1 ++ (wsX4_hide_r2 ++ wsX4_hide_r3)) ++ wsX40 ++ wsX20 ++ wsX00 ++ wsX30 ++ (vx_atS RX4 97 "java/lang/IndexOutOfBoundsException" ["java/lang/RuntimeException", "java/lang/Exception"]).filter goodWord ++ (vx_atS RX4 34 "java/lang/IllegalArgumentException" ["java/lang/RuntimeException", "java/lang/Exception"]).filter goodWord)
def wsX4_ask_r1 : List Cond := [Cond.classLink RX4 30 "java/lang/IllegalArgumentException", Cond.initialized "java/lang/IllegalArgumentException", Cond.classLink RX4 78 "java/lang/IllegalStateException", Cond.initialized "java/lang/IllegalStateException", Cond.fieldLink RX4 12 "LyingScale" "now" "LLyingScale$State;", Cond.fieldLink RX4 19 "LyingScale" "history" "LLyingScale$History;", Cond.methodLink RX4 64 yX2_isWeighing, Cond.instanceMethod yX2_isWeighing, Cond.selects RX2 yX2_isWeighing yX2_isWeighing, Cond.initialized RX2, Cond.code yX2_isWeighing cX2_isWeighing 3 (some .boolean), Cond.fieldLink RX2 33 "LyingScale$State" "coins" "I", Cond.methodLink RX2 71 yJ6_bitCount_0f7a4, Cond.static yJ6_bitCount_0f7a4, Cond.initialized RJ6, Cond.code yJ6_bitCount_0f7a4 cJ6_bitCount_0f7a4 1 (some .int), Cond.constant RJ6 265 (1431655765), Cond.constant RJ6 266 (858993459), Cond.constant RJ6 267 (252645135), Cond.methodLink RX4 108 yX2_canReply, Cond.instanceMethod yX2_canReply, Cond.selects RX2 yX2_canReply yX2_canReply, Cond.code yX2_canReply cX2_canReply 1 (some .boolean), Cond.fieldLink RX2 58 "LyingScale$State" "hidden" "I"]
def wsX4_ask_r2 : List Cond := [Cond.fieldLink RX2 64 "LyingScale$State" "answered" "I", Cond.methodLink RX2 97 yX2_canLearn, Cond.instanceMethod yX2_canLearn, Cond.selects RX2 yX2_canLearn yX2_canLearn, Cond.code yX2_canLearn cX2_canLearn 1 (some .boolean), Cond.fieldLink RX2 14 "LyingScale$State" "told" "LLyingScale$Weighings;", Cond.methodLink RX4 37 yX0_save, Cond.instanceMethod yX0_save, Cond.selects RX0 yX0_save yX0_save, Cond.initialized RX0, Cond.code yX0_save cX0_save 3 none, Cond.fieldLink RX0 18 "LyingScale$History" "count" "I", Cond.fieldLink RX0 11 "LyingScale$History" "states" "[LLyingScale$State;", Cond.methodLink RX0 22 yX0_dropOldest, Cond.instanceMethod yX0_dropOldest, Cond.selects RX0 yX0_dropOldest yX0_dropOldest, Cond.code yX0_dropOldest cX0_dropOldest 4 none, Cond.methodLink RX0 25 yX0_stateAt, Cond.instanceMethod yX0_stateAt, Cond.selects RX0 yX0_stateAt yX0_stateAt, Cond.code yX0_stateAt cX0_stateAt 2 (some (.object "LyingScale$State")), Cond.methodLink RX0 29 yX2_copyFrom, Cond.instanceMethod yX2_copyFrom, Cond.selects RX2 yX2_copyFrom yX2_copyFrom]
def wsX4_ask_r3 : List Cond := [Cond.code yX2_copyFrom cX2_copyFrom 2 none, Cond.fieldLink RX2 20 "LyingScale$State" "plan" "LLyingScale$Weighings;", Cond.fieldLink RX2 23 "LyingScale$State" "liesOf" "[I", Cond.fieldLink RX2 37 "LyingScale$State" "limit" "I", Cond.fieldLink RX2 61 "LyingScale$State" "lieSet" "I", Cond.methodLink RX2 50 yX3_copyFrom, Cond.instanceMethod yX3_copyFrom, Cond.selects RX3 yX3_copyFrom yX3_copyFrom, Cond.initialized RX3, Cond.code yX3_copyFrom cX3_copyFrom 2 none, Cond.fieldLink RX3 15 "LyingScale$Weighings" "lefts" "[I", Cond.fieldLink RX3 21 "LyingScale$Weighings" "rights" "[I", Cond.fieldLink RX3 24 "LyingScale$Weighings" "answers" "[I", Cond.fieldLink RX3 31 "LyingScale$Weighings" "count" "I", Cond.static yX4_copyRow, Cond.initialized RX4, Cond.code yX4_copyRow cX4_copyRow 2 none, Cond.methodLink RX4 253 Lib.Math.min.name, Cond.static Lib.Math.min.name, Cond.initialized "java/lang/Math", Cond.code Lib.Math.min.name Lib.Math.min.code 2 (some .int), Cond.methodLink RX4 258 arraycopyName, Cond.native arraycopyName, Cond.static arraycopyName]
def wsX4_ask_r4 : List Cond := [Cond.initialized "java/lang/System", Cond.methodLink RX4 113 yX2_reply, Cond.instanceMethod yX2_reply, Cond.selects RX2 yX2_reply yX2_reply, Cond.code yX2_reply cX2_reply 4 (some .int), Cond.static yX4_trueAnswer, Cond.code yX4_trueAnswer cX4_trueAnswer 5 (some .int), Cond.methodLink RX4 264 yX4_coinBit, Cond.static yX4_coinBit, Cond.code yX4_coinBit cX4_coinBit 1 (some .int), Cond.methodLink RX2 101 yX2_learn, Cond.instanceMethod yX2_learn, Cond.selects RX2 yX2_learn yX2_learn, Cond.code yX2_learn cX2_learn 5 none, Cond.methodLink RX2 77 yX3_write, Cond.instanceMethod yX3_write, Cond.selects RX3 yX3_write yX3_write, Cond.code yX3_write cX3_write 4 none, Cond.static yX4_put, Cond.code yX4_put cX4_put 3 none, Cond.methodLink RX2 67 yX2_cases, Cond.instanceMethod yX2_cases, Cond.selects RX2 yX2_cases yX2_cases, Cond.code yX2_cases cX2_cases 1 (some .int)]
def wsX4_ask_r5 : List Cond := [Cond.methodLink RX2 81 yX2_liesIfTold, Cond.instanceMethod yX2_liesIfTold, Cond.selects RX2 yX2_liesIfTold yX2_liesIfTold, Cond.code yX2_liesIfTold cX2_liesIfTold 6 (some .int), Cond.static yX4_at, Cond.code yX4_at cX4_at 2 (some .int)]
def wsX4_ask : List Cond := .code yX4_ask cX4_ask 3 (some .int) :: ((wsX4_ask_r1 ++ (wsX4_ask_r2 ++ (wsX4_ask_r3 ++ (wsX4_ask_r4 ++ wsX4_ask_r5)))) ++ wsX40 ++ wsX20 ++ wsX30 ++ wsX00 ++ (vx_atS RX4 34 "java/lang/IllegalArgumentException" ["java/lang/RuntimeException", "java/lang/Exception"]).filter goodWord ++ (vx_atS RX4 82 "java/lang/IllegalStateException" ["java/lang/RuntimeException", "java/lang/Exception"]).filter goodWord)
def wsX4_lies : List Cond := .code yX4_lies cX4_lies 2 (some .int) :: ([.classLink RX4 93 "java/lang/IndexOutOfBoundsException", .initialized "java/lang/IndexOutOfBoundsException", .fieldLink RX4 12 "LyingScale" "now" "LLyingScale$State;", .methodLink RX4 90 yX2_isCase, .instanceMethod yX2_isCase, .selects RX2 yX2_isCase yX2_isCase, .initialized RX2, .code yX2_isCase cX2_isCase 2 (some .boolean), .methodLink RX2 67 yX2_cases, .instanceMethod yX2_cases, .selects RX2 yX2_cases yX2_cases, .code yX2_cases cX2_cases 1 (some .int), .fieldLink RX2 33 "LyingScale$State" "coins" "I", .methodLink RX4 137 yX4_at, .static yX4_at, .initialized RX4, .code yX4_at cX4_at 2 (some .int)] ++ wsX40 ++ wsX20 ++ (vx_atS RX4 97 "java/lang/IndexOutOfBoundsException" ["java/lang/RuntimeException", "java/lang/Exception"]).filter goodWord)
def wsX4_value_r1 : List Cond := [Cond.classLink RX4 30 "java/lang/IllegalArgumentException", Cond.initialized "java/lang/IllegalArgumentException", Cond.fieldLink RX4 12 "LyingScale" "now" "LLyingScale$State;", Cond.methodLink RX4 158 yX2_number, Cond.instanceMethod yX2_number, Cond.selects RX2 yX2_number yX2_number, Cond.initialized RX2, Cond.code yX2_number cX2_number 2 (some .int), Cond.fieldLink RX2 33 "LyingScale$State" "coins" "I", Cond.fieldLink RX2 37 "LyingScale$State" "limit" "I", Cond.fieldLink RX2 14 "LyingScale$State" "told" "LLyingScale$Weighings;", Cond.fieldLink RX2 20 "LyingScale$State" "plan" "LLyingScale$Weighings;", Cond.fieldLink RX2 58 "LyingScale$State" "hidden" "I", Cond.fieldLink RX2 64 "LyingScale$State" "answered" "I", Cond.methodLink RX2 131 yX2_countLeft, Cond.instanceMethod yX2_countLeft, Cond.selects RX2 yX2_countLeft yX2_countLeft, Cond.code yX2_countLeft cX2_countLeft 3 (some .int), Cond.methodLink RX2 67 yX2_cases, Cond.instanceMethod yX2_cases, Cond.selects RX2 yX2_cases yX2_cases, Cond.code yX2_cases cX2_cases 1 (some .int), Cond.methodLink RX2 125 yX2_isLeft, Cond.instanceMethod yX2_isLeft]
def wsX4_value_r2 : List Cond := [Cond.selects RX2 yX2_isLeft yX2_isLeft, Cond.code yX2_isLeft cX2_isLeft 2 (some .boolean), Cond.fieldLink RX2 23 "LyingScale$State" "liesOf" "[I", Cond.static yX4_at, Cond.initialized RX4, Cond.code yX4_at cX4_at 2 (some .int), Cond.methodLink RX2 134 yX2_falseCoins, Cond.instanceMethod yX2_falseCoins, Cond.selects RX2 yX2_falseCoins yX2_falseCoins, Cond.code yX2_falseCoins cX2_falseCoins 3 (some .int), Cond.static yX4_coinBit, Cond.code yX4_coinBit cX4_coinBit 1 (some .int)]
def wsX4_value : List Cond := .code yX4_value cX4_value 2 (some .int) :: ((wsX4_value_r1 ++ wsX4_value_r2) ++ wsX40 ++ wsX20 ++ wsX30 ++ (vx_atS RX4 34 "java/lang/IllegalArgumentException" ["java/lang/RuntimeException", "java/lang/Exception"]).filter goodWord)
def wsX4_isAhead : List Cond := .code yX4_isAhead cX4_isAhead 1 (some .boolean) :: ([])
def wsX4_weight_r1 : List Cond := [Cond.classLink RX4 30 "java/lang/IllegalArgumentException", Cond.initialized "java/lang/IllegalArgumentException", Cond.fieldLink RX4 12 "LyingScale" "now" "LLyingScale$State;", Cond.methodLink RX4 161 yX4_isAhead, Cond.static yX4_isAhead, Cond.initialized RX4, Cond.code yX4_isAhead cX4_isAhead 1 (some .boolean), Cond.methodLink RX4 166 yX2_weightAhead, Cond.instanceMethod yX2_weightAhead, Cond.selects RX2 yX2_weightAhead yX2_weightAhead, Cond.initialized RX2, Cond.code yX2_weightAhead cX2_weightAhead 5 (some .long), Cond.fieldLink RX2 23 "LyingScale$State" "liesOf" "[I", Cond.methodLink RX2 67 yX2_cases, Cond.instanceMethod yX2_cases, Cond.selects RX2 yX2_cases yX2_cases, Cond.code yX2_cases cX2_cases 1 (some .int), Cond.fieldLink RX2 33 "LyingScale$State" "coins" "I", Cond.static yX4_at, Cond.code yX4_at cX4_at 2 (some .int), Cond.methodLink RX2 137 yX2_volumeLeft, Cond.instanceMethod yX2_volumeLeft, Cond.selects RX2 yX2_volumeLeft yX2_volumeLeft, Cond.code yX2_volumeLeft cX2_volumeLeft 3 (some .long)]
def wsX4_weight_r2 : List Cond := [Cond.fieldLink RX2 37 "LyingScale$State" "limit" "I", Cond.static yX4_volume, Cond.code yX4_volume cX4_volume 8 (some .long), Cond.methodLink RX4 253 Lib.Math.min.name, Cond.static Lib.Math.min.name, Cond.initialized "java/lang/Math", Cond.code Lib.Math.min.name Lib.Math.min.code 2 (some .int)]
def wsX4_weight : List Cond := .code yX4_weight cX4_weight 2 (some .long) :: ((wsX4_weight_r1 ++ wsX4_weight_r2) ++ wsX40 ++ wsX20 ++ (vx_atS RX4 34 "java/lang/IllegalArgumentException" ["java/lang/RuntimeException", "java/lang/Exception"]).filter goodWord)
def wsX4_bound_r1 : List Cond := [Cond.fieldLink RX4 12 "LyingScale" "now" "LLyingScale$State;", Cond.constantLong RX4 170 (3), Cond.methodLink RX4 166 yX2_weightAhead, Cond.instanceMethod yX2_weightAhead, Cond.selects RX2 yX2_weightAhead yX2_weightAhead, Cond.initialized RX2, Cond.code yX2_weightAhead cX2_weightAhead 5 (some .long), Cond.fieldLink RX2 23 "LyingScale$State" "liesOf" "[I", Cond.methodLink RX2 67 yX2_cases, Cond.instanceMethod yX2_cases, Cond.selects RX2 yX2_cases yX2_cases, Cond.code yX2_cases cX2_cases 1 (some .int), Cond.fieldLink RX2 33 "LyingScale$State" "coins" "I", Cond.static yX4_at, Cond.initialized RX4, Cond.code yX4_at cX4_at 2 (some .int), Cond.methodLink RX2 137 yX2_volumeLeft, Cond.instanceMethod yX2_volumeLeft, Cond.selects RX2 yX2_volumeLeft yX2_volumeLeft, Cond.code yX2_volumeLeft cX2_volumeLeft 3 (some .long), Cond.fieldLink RX2 37 "LyingScale$State" "limit" "I", Cond.static yX4_volume, Cond.code yX4_volume cX4_volume 8 (some .long), Cond.methodLink RX4 253 Lib.Math.min.name]
def wsX4_bound_r2 : List Cond := [Cond.static Lib.Math.min.name, Cond.initialized "java/lang/Math", Cond.code Lib.Math.min.name Lib.Math.min.code 2 (some .int)]
def wsX4_bound : List Cond := .code yX4_bound cX4_bound 4 (some .int) :: ((wsX4_bound_r1 ++ wsX4_bound_r2) ++ wsX40 ++ wsX20)
def wsX4_isAnswer : List Cond := .code yX4_isAnswer cX4_isAnswer 1 (some .boolean) :: ([])
def wsX4_weightBehind_r1 : List Cond := [Cond.classLink RX4 30 "java/lang/IllegalArgumentException", Cond.initialized "java/lang/IllegalArgumentException", Cond.fieldLink RX4 12 "LyingScale" "now" "LLyingScale$State;", Cond.methodLink RX4 64 yX2_isWeighing, Cond.instanceMethod yX2_isWeighing, Cond.selects RX2 yX2_isWeighing yX2_isWeighing, Cond.initialized RX2, Cond.code yX2_isWeighing cX2_isWeighing 3 (some .boolean), Cond.fieldLink RX2 33 "LyingScale$State" "coins" "I", Cond.methodLink RX2 71 yJ6_bitCount_0f7a4, Cond.static yJ6_bitCount_0f7a4, Cond.initialized RJ6, Cond.code yJ6_bitCount_0f7a4 cJ6_bitCount_0f7a4 1 (some .int), Cond.constant RJ6 265 (1431655765), Cond.constant RJ6 266 (858993459), Cond.constant RJ6 267 (252645135), Cond.methodLink RX4 68 yX4_isAnswer, Cond.static yX4_isAnswer, Cond.initialized RX4, Cond.code yX4_isAnswer cX4_isAnswer 1 (some .boolean), Cond.methodLink RX4 161 yX4_isAhead, Cond.static yX4_isAhead, Cond.code yX4_isAhead cX4_isAhead 1 (some .boolean), Cond.methodLink RX4 174 yX2_weightIfTold]
def wsX4_weightBehind_r2 : List Cond := [Cond.instanceMethod yX2_weightIfTold, Cond.selects RX2 yX2_weightIfTold yX2_weightIfTold, Cond.code yX2_weightIfTold cX2_weightIfTold 8 (some .long), Cond.methodLink RX2 67 yX2_cases, Cond.instanceMethod yX2_cases, Cond.selects RX2 yX2_cases yX2_cases, Cond.code yX2_cases cX2_cases 1 (some .int), Cond.methodLink RX2 81 yX2_liesIfTold, Cond.instanceMethod yX2_liesIfTold, Cond.selects RX2 yX2_liesIfTold yX2_liesIfTold, Cond.code yX2_liesIfTold cX2_liesIfTold 6 (some .int), Cond.fieldLink RX2 23 "LyingScale$State" "liesOf" "[I", Cond.static yX4_at, Cond.code yX4_at cX4_at 2 (some .int), Cond.static yX4_trueAnswer, Cond.code yX4_trueAnswer cX4_trueAnswer 5 (some .int), Cond.methodLink RX4 264 yX4_coinBit, Cond.static yX4_coinBit, Cond.code yX4_coinBit cX4_coinBit 1 (some .int), Cond.methodLink RX2 137 yX2_volumeLeft, Cond.instanceMethod yX2_volumeLeft, Cond.selects RX2 yX2_volumeLeft yX2_volumeLeft, Cond.code yX2_volumeLeft cX2_volumeLeft 3 (some .long), Cond.fieldLink RX2 37 "LyingScale$State" "limit" "I"]
def wsX4_weightBehind_r3 : List Cond := [Cond.static yX4_volume, Cond.code yX4_volume cX4_volume 8 (some .long), Cond.methodLink RX4 253 Lib.Math.min.name, Cond.static Lib.Math.min.name, Cond.initialized "java/lang/Math", Cond.code Lib.Math.min.name Lib.Math.min.code 2 (some .int)]
def wsX4_weightBehind : List Cond := .code yX4_weightBehind cX4_weightBehind 5 (some .long) :: ((wsX4_weightBehind_r1 ++ (wsX4_weightBehind_r2 ++ wsX4_weightBehind_r3)) ++ wsX40 ++ wsX20 ++ (vx_atS RX4 34 "java/lang/IllegalArgumentException" ["java/lang/RuntimeException", "java/lang/Exception"]).filter goodWord)
def wsX4_undo_r1 : List Cond := [Cond.classLink RX4 78 "java/lang/IllegalStateException", Cond.initialized "java/lang/IllegalStateException", Cond.fieldLink RX4 19 "LyingScale" "history" "LLyingScale$History;", Cond.fieldLink RX4 12 "LyingScale" "now" "LLyingScale$State;", Cond.methodLink RX4 237 yX0_restore, Cond.instanceMethod yX0_restore, Cond.selects RX0 yX0_restore yX0_restore, Cond.initialized RX0, Cond.code yX0_restore cX0_restore 3 none, Cond.fieldLink RX0 18 "LyingScale$History" "count" "I", Cond.methodLink RX0 25 yX0_stateAt, Cond.instanceMethod yX0_stateAt, Cond.selects RX0 yX0_stateAt yX0_stateAt, Cond.code yX0_stateAt cX0_stateAt 2 (some (.object "LyingScale$State")), Cond.fieldLink RX0 11 "LyingScale$History" "states" "[LLyingScale$State;", Cond.methodLink RX0 29 yX2_copyFrom, Cond.instanceMethod yX2_copyFrom, Cond.selects RX2 yX2_copyFrom yX2_copyFrom, Cond.initialized RX2, Cond.code yX2_copyFrom cX2_copyFrom 2 none, Cond.fieldLink RX2 14 "LyingScale$State" "told" "LLyingScale$Weighings;", Cond.fieldLink RX2 20 "LyingScale$State" "plan" "LLyingScale$Weighings;", Cond.fieldLink RX2 23 "LyingScale$State" "liesOf" "[I", Cond.fieldLink RX2 33 "LyingScale$State" "coins" "I"]
def wsX4_undo_r2 : List Cond := [Cond.fieldLink RX2 37 "LyingScale$State" "limit" "I", Cond.fieldLink RX2 58 "LyingScale$State" "hidden" "I", Cond.fieldLink RX2 61 "LyingScale$State" "lieSet" "I", Cond.fieldLink RX2 64 "LyingScale$State" "answered" "I", Cond.methodLink RX2 50 yX3_copyFrom, Cond.instanceMethod yX3_copyFrom, Cond.selects RX3 yX3_copyFrom yX3_copyFrom, Cond.initialized RX3, Cond.code yX3_copyFrom cX3_copyFrom 2 none, Cond.fieldLink RX3 15 "LyingScale$Weighings" "lefts" "[I", Cond.fieldLink RX3 21 "LyingScale$Weighings" "rights" "[I", Cond.fieldLink RX3 24 "LyingScale$Weighings" "answers" "[I", Cond.fieldLink RX3 31 "LyingScale$Weighings" "count" "I", Cond.static yX4_copyRow, Cond.initialized RX4, Cond.code yX4_copyRow cX4_copyRow 2 none, Cond.methodLink RX4 253 Lib.Math.min.name, Cond.static Lib.Math.min.name, Cond.initialized "java/lang/Math", Cond.code Lib.Math.min.name Lib.Math.min.code 2 (some .int), Cond.methodLink RX4 258 arraycopyName, Cond.native arraycopyName, Cond.static arraycopyName, Cond.initialized "java/lang/System"]
def wsX4_undo : List Cond := .code yX4_undo cX4_undo 1 (some .int) :: ((wsX4_undo_r1 ++ wsX4_undo_r2) ++ wsX40 ++ wsX00 ++ wsX20 ++ wsX30 ++ (vx_atS RX4 82 "java/lang/IllegalStateException" ["java/lang/RuntimeException", "java/lang/Exception"]).filter goodWord)
def wsJ9_max_7cf53 : List Cond := .code yJ9_max_7cf53 cJ9_max_7cf53 2 (some .int) :: ([])
def wsJ9_min_7cf53 : List Cond := .code yJ9_min_7cf53 cJ9_min_7cf53 2 (some .int) :: ([])
def wsL_cell : List Cond := .code yL_cell cL_cell 2 (some .int) :: ([.constant RL 7 (214013), .constant RL 8 (2147483647)])
def wsL_asks_r1 : List Cond := [Cond.classLink RL 15 "java/lang/IllegalArgumentException", Cond.classLink RL 18 "java/lang/IllegalStateException", Cond.constant RL 17 (-2000001), Cond.constant RL 20 (-2000002), Cond.methodLink RL 9 yX4_ask, Cond.instanceMethod yX4_ask, Cond.selects RX4 yX4_ask yX4_ask, Cond.initialized RX4, Cond.code yX4_ask cX4_ask 3 (some .int), Cond.classLink RX4 30 "java/lang/IllegalArgumentException", Cond.initialized "java/lang/IllegalArgumentException", Cond.classLink RX4 78 "java/lang/IllegalStateException", Cond.initialized "java/lang/IllegalStateException", Cond.fieldLink RX4 12 "LyingScale" "now" "LLyingScale$State;", Cond.fieldLink RX4 19 "LyingScale" "history" "LLyingScale$History;", Cond.methodLink RX4 64 yX2_isWeighing, Cond.instanceMethod yX2_isWeighing, Cond.selects RX2 yX2_isWeighing yX2_isWeighing, Cond.initialized RX2, Cond.code yX2_isWeighing cX2_isWeighing 3 (some .boolean), Cond.fieldLink RX2 33 "LyingScale$State" "coins" "I", Cond.methodLink RX2 71 yJ6_bitCount_0f7a4, Cond.static yJ6_bitCount_0f7a4, Cond.initialized RJ6]
def wsL_asks_r2 : List Cond := [Cond.code yJ6_bitCount_0f7a4 cJ6_bitCount_0f7a4 1 (some .int), Cond.constant RJ6 265 (1431655765), Cond.constant RJ6 266 (858993459), Cond.constant RJ6 267 (252645135), Cond.methodLink RX4 108 yX2_canReply, Cond.instanceMethod yX2_canReply, Cond.selects RX2 yX2_canReply yX2_canReply, Cond.code yX2_canReply cX2_canReply 1 (some .boolean), Cond.fieldLink RX2 58 "LyingScale$State" "hidden" "I", Cond.fieldLink RX2 64 "LyingScale$State" "answered" "I", Cond.methodLink RX2 97 yX2_canLearn, Cond.instanceMethod yX2_canLearn, Cond.selects RX2 yX2_canLearn yX2_canLearn, Cond.code yX2_canLearn cX2_canLearn 1 (some .boolean), Cond.fieldLink RX2 14 "LyingScale$State" "told" "LLyingScale$Weighings;", Cond.methodLink RX4 37 yX0_save, Cond.instanceMethod yX0_save, Cond.selects RX0 yX0_save yX0_save, Cond.initialized RX0, Cond.code yX0_save cX0_save 3 none, Cond.fieldLink RX0 18 "LyingScale$History" "count" "I", Cond.fieldLink RX0 11 "LyingScale$History" "states" "[LLyingScale$State;", Cond.methodLink RX0 22 yX0_dropOldest, Cond.instanceMethod yX0_dropOldest]
def wsL_asks_r3 : List Cond := [Cond.selects RX0 yX0_dropOldest yX0_dropOldest, Cond.code yX0_dropOldest cX0_dropOldest 4 none, Cond.methodLink RX0 25 yX0_stateAt, Cond.instanceMethod yX0_stateAt, Cond.selects RX0 yX0_stateAt yX0_stateAt, Cond.code yX0_stateAt cX0_stateAt 2 (some (.object "LyingScale$State")), Cond.methodLink RX0 29 yX2_copyFrom, Cond.instanceMethod yX2_copyFrom, Cond.selects RX2 yX2_copyFrom yX2_copyFrom, Cond.code yX2_copyFrom cX2_copyFrom 2 none, Cond.fieldLink RX2 20 "LyingScale$State" "plan" "LLyingScale$Weighings;", Cond.fieldLink RX2 23 "LyingScale$State" "liesOf" "[I", Cond.fieldLink RX2 37 "LyingScale$State" "limit" "I", Cond.fieldLink RX2 61 "LyingScale$State" "lieSet" "I", Cond.methodLink RX2 50 yX3_copyFrom, Cond.instanceMethod yX3_copyFrom, Cond.selects RX3 yX3_copyFrom yX3_copyFrom, Cond.initialized RX3, Cond.code yX3_copyFrom cX3_copyFrom 2 none, Cond.fieldLink RX3 15 "LyingScale$Weighings" "lefts" "[I", Cond.fieldLink RX3 21 "LyingScale$Weighings" "rights" "[I", Cond.fieldLink RX3 24 "LyingScale$Weighings" "answers" "[I", Cond.fieldLink RX3 31 "LyingScale$Weighings" "count" "I", Cond.static yX4_copyRow]
def wsL_asks_r4 : List Cond := [Cond.code yX4_copyRow cX4_copyRow 2 none, Cond.methodLink RX4 253 Lib.Math.min.name, Cond.static Lib.Math.min.name, Cond.initialized "java/lang/Math", Cond.code Lib.Math.min.name Lib.Math.min.code 2 (some .int), Cond.methodLink RX4 258 arraycopyName, Cond.native arraycopyName, Cond.static arraycopyName, Cond.initialized "java/lang/System", Cond.methodLink RX4 113 yX2_reply, Cond.instanceMethod yX2_reply, Cond.selects RX2 yX2_reply yX2_reply, Cond.code yX2_reply cX2_reply 4 (some .int), Cond.static yX4_trueAnswer, Cond.code yX4_trueAnswer cX4_trueAnswer 5 (some .int), Cond.methodLink RX4 264 yX4_coinBit, Cond.static yX4_coinBit, Cond.code yX4_coinBit cX4_coinBit 1 (some .int), Cond.methodLink RX2 101 yX2_learn, Cond.instanceMethod yX2_learn, Cond.selects RX2 yX2_learn yX2_learn, Cond.code yX2_learn cX2_learn 5 none, Cond.methodLink RX2 77 yX3_write, Cond.instanceMethod yX3_write]
def wsL_asks_r5 : List Cond := [Cond.selects RX3 yX3_write yX3_write, Cond.code yX3_write cX3_write 4 none, Cond.static yX4_put, Cond.code yX4_put cX4_put 3 none, Cond.methodLink RX2 67 yX2_cases, Cond.instanceMethod yX2_cases, Cond.selects RX2 yX2_cases yX2_cases, Cond.code yX2_cases cX2_cases 1 (some .int), Cond.methodLink RX2 81 yX2_liesIfTold, Cond.instanceMethod yX2_liesIfTold, Cond.selects RX2 yX2_liesIfTold yX2_liesIfTold, Cond.code yX2_liesIfTold cX2_liesIfTold 6 (some .int), Cond.static yX4_at, Cond.code yX4_at cX4_at 2 (some .int)]
def wsL_asks : List Cond := .codeWith yL_asks cL_asks 4 (some .int) [(0, 6, 7, 15), (0, 6, 11, 18)] :: ((wsL_asks_r1 ++ (wsL_asks_r2 ++ (wsL_asks_r3 ++ (wsL_asks_r4 ++ wsL_asks_r5)))) ++ wsX40 ++ wsX20 ++ wsX30 ++ wsX00 ++ (vx_atS RX4 34 "java/lang/IllegalArgumentException" ["java/lang/RuntimeException", "java/lang/Exception"]).filter goodWord ++ (vx_atS RX4 82 "java/lang/IllegalStateException" ["java/lang/RuntimeException", "java/lang/Exception"]).filter goodWord)
def wsL_hides_r1 : List Cond := [Cond.classLink RL 24 "java/lang/IndexOutOfBoundsException", Cond.classLink RL 15 "java/lang/IllegalArgumentException", Cond.constant RL 17 (-2000001), Cond.constant RL 20 (-2000002), Cond.methodLink RL 21 yX4_hide, Cond.instanceMethod yX4_hide, Cond.selects RX4 yX4_hide yX4_hide, Cond.initialized RX4, Cond.code yX4_hide cX4_hide 4 (some .int), Cond.classLink RX4 93 "java/lang/IndexOutOfBoundsException", Cond.initialized "java/lang/IndexOutOfBoundsException", Cond.classLink RX4 30 "java/lang/IllegalArgumentException", Cond.initialized "java/lang/IllegalArgumentException", Cond.fieldLink RX4 12 "LyingScale" "now" "LLyingScale$State;", Cond.constant RX4 98 (1073741823), Cond.fieldLink RX4 19 "LyingScale" "history" "LLyingScale$History;", Cond.methodLink RX4 90 yX2_isCase, Cond.instanceMethod yX2_isCase, Cond.selects RX2 yX2_isCase yX2_isCase, Cond.initialized RX2, Cond.code yX2_isCase cX2_isCase 2 (some .boolean), Cond.methodLink RX2 67 yX2_cases, Cond.instanceMethod yX2_cases, Cond.selects RX2 yX2_cases yX2_cases]
def wsL_hides_r2 : List Cond := [Cond.code yX2_cases cX2_cases 1 (some .int), Cond.fieldLink RX2 33 "LyingScale$State" "coins" "I", Cond.methodLink RX4 37 yX0_save, Cond.instanceMethod yX0_save, Cond.selects RX0 yX0_save yX0_save, Cond.initialized RX0, Cond.code yX0_save cX0_save 3 none, Cond.fieldLink RX0 18 "LyingScale$History" "count" "I", Cond.fieldLink RX0 11 "LyingScale$History" "states" "[LLyingScale$State;", Cond.methodLink RX0 22 yX0_dropOldest, Cond.instanceMethod yX0_dropOldest, Cond.selects RX0 yX0_dropOldest yX0_dropOldest, Cond.code yX0_dropOldest cX0_dropOldest 4 none, Cond.methodLink RX0 25 yX0_stateAt, Cond.instanceMethod yX0_stateAt, Cond.selects RX0 yX0_stateAt yX0_stateAt, Cond.code yX0_stateAt cX0_stateAt 2 (some (.object "LyingScale$State")), Cond.methodLink RX0 29 yX2_copyFrom, Cond.instanceMethod yX2_copyFrom, Cond.selects RX2 yX2_copyFrom yX2_copyFrom, Cond.code yX2_copyFrom cX2_copyFrom 2 none, Cond.fieldLink RX2 14 "LyingScale$State" "told" "LLyingScale$Weighings;", Cond.fieldLink RX2 20 "LyingScale$State" "plan" "LLyingScale$Weighings;", Cond.fieldLink RX2 23 "LyingScale$State" "liesOf" "[I"]
def wsL_hides_r3 : List Cond := [Cond.fieldLink RX2 37 "LyingScale$State" "limit" "I", Cond.fieldLink RX2 58 "LyingScale$State" "hidden" "I", Cond.fieldLink RX2 61 "LyingScale$State" "lieSet" "I", Cond.fieldLink RX2 64 "LyingScale$State" "answered" "I", Cond.methodLink RX2 50 yX3_copyFrom, Cond.instanceMethod yX3_copyFrom, Cond.selects RX3 yX3_copyFrom yX3_copyFrom, Cond.initialized RX3, Cond.code yX3_copyFrom cX3_copyFrom 2 none, Cond.fieldLink RX3 15 "LyingScale$Weighings" "lefts" "[I", Cond.fieldLink RX3 21 "LyingScale$Weighings" "rights" "[I", Cond.fieldLink RX3 24 "LyingScale$Weighings" "answers" "[I", Cond.fieldLink RX3 31 "LyingScale$Weighings" "count" "I", Cond.static yX4_copyRow, Cond.code yX4_copyRow cX4_copyRow 2 none, Cond.methodLink RX4 253 Lib.Math.min.name, Cond.static Lib.Math.min.name, Cond.initialized "java/lang/Math", Cond.code Lib.Math.min.name Lib.Math.min.code 2 (some .int), Cond.methodLink RX4 258 arraycopyName, Cond.native arraycopyName, Cond.static arraycopyName, Cond.initialized "java/lang/System", Cond.methodLink RX4 102 yX2_hideCase]
def wsL_hides_r4 : List Cond := [Cond.instanceMethod yX2_hideCase, Cond.selects RX2 yX2_hideCase yX2_hideCase, Cond.code yX2_hideCase cX2_hideCase 3 none]
def wsL_hides : List Cond := .codeWith yL_hides cL_hides 4 (some .int) [(0, 6, 7, 24), (0, 6, 11, 15)] :: ((wsL_hides_r1 ++ (wsL_hides_r2 ++ (wsL_hides_r3 ++ wsL_hides_r4))) ++ wsX40 ++ wsX20 ++ wsX00 ++ wsX30 ++ (vx_atS RX4 97 "java/lang/IndexOutOfBoundsException" ["java/lang/RuntimeException", "java/lang/Exception"]).filter goodWord ++ (vx_atS RX4 34 "java/lang/IllegalArgumentException" ["java/lang/RuntimeException", "java/lang/Exception"]).filter goodWord)
def wsL_begins_r1 : List Cond := [Cond.classLink RL 15 "java/lang/IllegalArgumentException", Cond.constant RL 17 (-2000001), Cond.methodLink RL 26 yX4_begin, Cond.instanceMethod yX4_begin, Cond.selects RX4 yX4_begin yX4_begin, Cond.initialized RX4, Cond.code yX4_begin cX4_begin 3 (some .int), Cond.classLink RX4 30 "java/lang/IllegalArgumentException", Cond.initialized "java/lang/IllegalArgumentException", Cond.fieldLink RX4 19 "LyingScale" "history" "LLyingScale$History;", Cond.fieldLink RX4 12 "LyingScale" "now" "LLyingScale$State;", Cond.methodLink RX4 37 yX0_save, Cond.instanceMethod yX0_save, Cond.selects RX0 yX0_save yX0_save, Cond.initialized RX0, Cond.code yX0_save cX0_save 3 none, Cond.fieldLink RX0 18 "LyingScale$History" "count" "I", Cond.fieldLink RX0 11 "LyingScale$History" "states" "[LLyingScale$State;", Cond.methodLink RX0 22 yX0_dropOldest, Cond.instanceMethod yX0_dropOldest, Cond.selects RX0 yX0_dropOldest yX0_dropOldest, Cond.code yX0_dropOldest cX0_dropOldest 4 none, Cond.methodLink RX0 25 yX0_stateAt, Cond.instanceMethod yX0_stateAt]
def wsL_begins_r2 : List Cond := [Cond.selects RX0 yX0_stateAt yX0_stateAt, Cond.code yX0_stateAt cX0_stateAt 2 (some (.object "LyingScale$State")), Cond.methodLink RX0 29 yX2_copyFrom, Cond.instanceMethod yX2_copyFrom, Cond.selects RX2 yX2_copyFrom yX2_copyFrom, Cond.initialized RX2, Cond.code yX2_copyFrom cX2_copyFrom 2 none, Cond.fieldLink RX2 14 "LyingScale$State" "told" "LLyingScale$Weighings;", Cond.fieldLink RX2 20 "LyingScale$State" "plan" "LLyingScale$Weighings;", Cond.fieldLink RX2 23 "LyingScale$State" "liesOf" "[I", Cond.fieldLink RX2 33 "LyingScale$State" "coins" "I", Cond.fieldLink RX2 37 "LyingScale$State" "limit" "I", Cond.fieldLink RX2 58 "LyingScale$State" "hidden" "I", Cond.fieldLink RX2 61 "LyingScale$State" "lieSet" "I", Cond.fieldLink RX2 64 "LyingScale$State" "answered" "I", Cond.methodLink RX2 50 yX3_copyFrom, Cond.instanceMethod yX3_copyFrom, Cond.selects RX3 yX3_copyFrom yX3_copyFrom, Cond.initialized RX3, Cond.code yX3_copyFrom cX3_copyFrom 2 none, Cond.fieldLink RX3 15 "LyingScale$Weighings" "lefts" "[I", Cond.fieldLink RX3 21 "LyingScale$Weighings" "rights" "[I", Cond.fieldLink RX3 24 "LyingScale$Weighings" "answers" "[I", Cond.fieldLink RX3 31 "LyingScale$Weighings" "count" "I"]
def wsL_begins_r3 : List Cond := [Cond.static yX4_copyRow, Cond.code yX4_copyRow cX4_copyRow 2 none, Cond.methodLink RX4 253 Lib.Math.min.name, Cond.static Lib.Math.min.name, Cond.initialized "java/lang/Math", Cond.code Lib.Math.min.name Lib.Math.min.code 2 (some .int), Cond.methodLink RX4 258 arraycopyName, Cond.native arraycopyName, Cond.static arraycopyName, Cond.initialized "java/lang/System", Cond.methodLink RX4 51 yX2_start, Cond.instanceMethod yX2_start, Cond.selects RX2 yX2_start yX2_start, Cond.code yX2_start cX2_start 2 none, Cond.methodLink RX2 43 yX2_hideCase, Cond.instanceMethod yX2_hideCase, Cond.selects RX2 yX2_hideCase yX2_hideCase, Cond.code yX2_hideCase cX2_hideCase 3 none, Cond.methodLink RX2 47 yX2_forgetTold, Cond.instanceMethod yX2_forgetTold, Cond.selects RX2 yX2_forgetTold yX2_forgetTold, Cond.code yX2_forgetTold cX2_forgetTold 2 none, Cond.static yX4_put, Cond.code yX4_put cX4_put 3 none]
def wsL_begins : List Cond := .codeWith yL_begins cL_begins 3 (some .int) [(0, 5, 6, 15)] :: ((wsL_begins_r1 ++ (wsL_begins_r2 ++ wsL_begins_r3)) ++ wsX40 ++ wsX20 ++ wsX30 ++ wsX00 ++ (vx_atS RX4 34 "java/lang/IllegalArgumentException" ["java/lang/RuntimeException", "java/lang/Exception"]).filter goodWord)
def wsL_limits_r1 : List Cond := [Cond.classLink RL 15 "java/lang/IllegalArgumentException", Cond.constant RL 17 (-2000001), Cond.methodLink RL 30 yX4_setLimit, Cond.instanceMethod yX4_setLimit, Cond.selects RX4 yX4_setLimit yX4_setLimit, Cond.initialized RX4, Cond.code yX4_setLimit cX4_setLimit 2 (some .int), Cond.classLink RX4 30 "java/lang/IllegalArgumentException", Cond.initialized "java/lang/IllegalArgumentException", Cond.fieldLink RX4 19 "LyingScale" "history" "LLyingScale$History;", Cond.fieldLink RX4 12 "LyingScale" "now" "LLyingScale$State;", Cond.methodLink RX4 37 yX0_save, Cond.instanceMethod yX0_save, Cond.selects RX0 yX0_save yX0_save, Cond.initialized RX0, Cond.code yX0_save cX0_save 3 none, Cond.fieldLink RX0 18 "LyingScale$History" "count" "I", Cond.fieldLink RX0 11 "LyingScale$History" "states" "[LLyingScale$State;", Cond.methodLink RX0 22 yX0_dropOldest, Cond.instanceMethod yX0_dropOldest, Cond.selects RX0 yX0_dropOldest yX0_dropOldest, Cond.code yX0_dropOldest cX0_dropOldest 4 none, Cond.methodLink RX0 25 yX0_stateAt, Cond.instanceMethod yX0_stateAt]
def wsL_limits_r2 : List Cond := [Cond.selects RX0 yX0_stateAt yX0_stateAt, Cond.code yX0_stateAt cX0_stateAt 2 (some (.object "LyingScale$State")), Cond.methodLink RX0 29 yX2_copyFrom, Cond.instanceMethod yX2_copyFrom, Cond.selects RX2 yX2_copyFrom yX2_copyFrom, Cond.initialized RX2, Cond.code yX2_copyFrom cX2_copyFrom 2 none, Cond.fieldLink RX2 14 "LyingScale$State" "told" "LLyingScale$Weighings;", Cond.fieldLink RX2 20 "LyingScale$State" "plan" "LLyingScale$Weighings;", Cond.fieldLink RX2 23 "LyingScale$State" "liesOf" "[I", Cond.fieldLink RX2 33 "LyingScale$State" "coins" "I", Cond.fieldLink RX2 37 "LyingScale$State" "limit" "I", Cond.fieldLink RX2 58 "LyingScale$State" "hidden" "I", Cond.fieldLink RX2 61 "LyingScale$State" "lieSet" "I", Cond.fieldLink RX2 64 "LyingScale$State" "answered" "I", Cond.methodLink RX2 50 yX3_copyFrom, Cond.instanceMethod yX3_copyFrom, Cond.selects RX3 yX3_copyFrom yX3_copyFrom, Cond.initialized RX3, Cond.code yX3_copyFrom cX3_copyFrom 2 none, Cond.fieldLink RX3 15 "LyingScale$Weighings" "lefts" "[I", Cond.fieldLink RX3 21 "LyingScale$Weighings" "rights" "[I", Cond.fieldLink RX3 24 "LyingScale$Weighings" "answers" "[I", Cond.fieldLink RX3 31 "LyingScale$Weighings" "count" "I"]
def wsL_limits_r3 : List Cond := [Cond.static yX4_copyRow, Cond.code yX4_copyRow cX4_copyRow 2 none, Cond.methodLink RX4 253 Lib.Math.min.name, Cond.static Lib.Math.min.name, Cond.initialized "java/lang/Math", Cond.code Lib.Math.min.name Lib.Math.min.code 2 (some .int), Cond.methodLink RX4 258 arraycopyName, Cond.native arraycopyName, Cond.static arraycopyName, Cond.initialized "java/lang/System", Cond.methodLink RX4 60 yX2_countLeft, Cond.instanceMethod yX2_countLeft, Cond.selects RX2 yX2_countLeft yX2_countLeft, Cond.code yX2_countLeft cX2_countLeft 3 (some .int), Cond.methodLink RX2 67 yX2_cases, Cond.instanceMethod yX2_cases, Cond.selects RX2 yX2_cases yX2_cases, Cond.code yX2_cases cX2_cases 1 (some .int), Cond.methodLink RX2 125 yX2_isLeft, Cond.instanceMethod yX2_isLeft, Cond.selects RX2 yX2_isLeft yX2_isLeft, Cond.code yX2_isLeft cX2_isLeft 2 (some .boolean), Cond.static yX4_at, Cond.code yX4_at cX4_at 2 (some .int)]
def wsL_limits : List Cond := .codeWith yL_limits cL_limits 3 (some .int) [(0, 5, 6, 15)] :: ((wsL_limits_r1 ++ (wsL_limits_r2 ++ wsL_limits_r3)) ++ wsX40 ++ wsX20 ++ wsX00 ++ wsX30 ++ (vx_atS RX4 34 "java/lang/IllegalArgumentException" ["java/lang/RuntimeException", "java/lang/Exception"]).filter goodWord)
def wsL_undoes_r1 : List Cond := [Cond.classLink RL 18 "java/lang/IllegalStateException", Cond.constant RL 17 (-2000001), Cond.methodLink RL 33 yX4_undo, Cond.instanceMethod yX4_undo, Cond.selects RX4 yX4_undo yX4_undo, Cond.initialized RX4, Cond.code yX4_undo cX4_undo 1 (some .int), Cond.classLink RX4 78 "java/lang/IllegalStateException", Cond.initialized "java/lang/IllegalStateException", Cond.fieldLink RX4 19 "LyingScale" "history" "LLyingScale$History;", Cond.fieldLink RX4 12 "LyingScale" "now" "LLyingScale$State;", Cond.methodLink RX4 237 yX0_restore, Cond.instanceMethod yX0_restore, Cond.selects RX0 yX0_restore yX0_restore, Cond.initialized RX0, Cond.code yX0_restore cX0_restore 3 none, Cond.fieldLink RX0 18 "LyingScale$History" "count" "I", Cond.methodLink RX0 25 yX0_stateAt, Cond.instanceMethod yX0_stateAt, Cond.selects RX0 yX0_stateAt yX0_stateAt, Cond.code yX0_stateAt cX0_stateAt 2 (some (.object "LyingScale$State")), Cond.fieldLink RX0 11 "LyingScale$History" "states" "[LLyingScale$State;", Cond.methodLink RX0 29 yX2_copyFrom, Cond.instanceMethod yX2_copyFrom]
def wsL_undoes_r2 : List Cond := [Cond.selects RX2 yX2_copyFrom yX2_copyFrom, Cond.initialized RX2, Cond.code yX2_copyFrom cX2_copyFrom 2 none, Cond.fieldLink RX2 14 "LyingScale$State" "told" "LLyingScale$Weighings;", Cond.fieldLink RX2 20 "LyingScale$State" "plan" "LLyingScale$Weighings;", Cond.fieldLink RX2 23 "LyingScale$State" "liesOf" "[I", Cond.fieldLink RX2 33 "LyingScale$State" "coins" "I", Cond.fieldLink RX2 37 "LyingScale$State" "limit" "I", Cond.fieldLink RX2 58 "LyingScale$State" "hidden" "I", Cond.fieldLink RX2 61 "LyingScale$State" "lieSet" "I", Cond.fieldLink RX2 64 "LyingScale$State" "answered" "I", Cond.methodLink RX2 50 yX3_copyFrom, Cond.instanceMethod yX3_copyFrom, Cond.selects RX3 yX3_copyFrom yX3_copyFrom, Cond.initialized RX3, Cond.code yX3_copyFrom cX3_copyFrom 2 none, Cond.fieldLink RX3 15 "LyingScale$Weighings" "lefts" "[I", Cond.fieldLink RX3 21 "LyingScale$Weighings" "rights" "[I", Cond.fieldLink RX3 24 "LyingScale$Weighings" "answers" "[I", Cond.fieldLink RX3 31 "LyingScale$Weighings" "count" "I", Cond.static yX4_copyRow, Cond.code yX4_copyRow cX4_copyRow 2 none, Cond.methodLink RX4 253 Lib.Math.min.name, Cond.static Lib.Math.min.name]
def wsL_undoes_r3 : List Cond := [Cond.initialized "java/lang/Math", Cond.code Lib.Math.min.name Lib.Math.min.code 2 (some .int), Cond.methodLink RX4 258 arraycopyName, Cond.native arraycopyName, Cond.static arraycopyName, Cond.initialized "java/lang/System"]
def wsL_undoes : List Cond := .codeWith yL_undoes cL_undoes 2 (some .int) [(0, 4, 5, 18)] :: ((wsL_undoes_r1 ++ (wsL_undoes_r2 ++ wsL_undoes_r3)) ++ wsX40 ++ wsX00 ++ wsX20 ++ wsX30 ++ (vx_atS RX4 82 "java/lang/IllegalStateException" ["java/lang/RuntimeException", "java/lang/Exception"]).filter goodWord)
def wsL_liesOf : List Cond := .codeWith yL_liesOf cL_liesOf 3 (some .int) [(0, 5, 6, 24)] :: ([.classLink RL 24 "java/lang/IndexOutOfBoundsException", .constant RL 17 (-2000001), .methodLink RL 37 yX4_lies, .instanceMethod yX4_lies, .selects RX4 yX4_lies yX4_lies, .initialized RX4, .code yX4_lies cX4_lies 2 (some .int), .classLink RX4 93 "java/lang/IndexOutOfBoundsException", .initialized "java/lang/IndexOutOfBoundsException", .fieldLink RX4 12 "LyingScale" "now" "LLyingScale$State;", .methodLink RX4 90 yX2_isCase, .instanceMethod yX2_isCase, .selects RX2 yX2_isCase yX2_isCase, .initialized RX2, .code yX2_isCase cX2_isCase 2 (some .boolean), .methodLink RX2 67 yX2_cases, .instanceMethod yX2_cases, .selects RX2 yX2_cases yX2_cases, .code yX2_cases cX2_cases 1 (some .int), .fieldLink RX2 33 "LyingScale$State" "coins" "I", .methodLink RX4 137 yX4_at, .static yX4_at, .code yX4_at cX4_at 2 (some .int)] ++ wsX40 ++ wsX20 ++ (vx_atS RX4 97 "java/lang/IndexOutOfBoundsException" ["java/lang/RuntimeException", "java/lang/Exception"]).filter goodWord)
def wsL_value_r1 : List Cond := [Cond.classLink RL 15 "java/lang/IllegalArgumentException", Cond.constant RL 17 (-2000001), Cond.methodLink RL 40 yX4_value, Cond.instanceMethod yX4_value, Cond.selects RX4 yX4_value yX4_value, Cond.initialized RX4, Cond.code yX4_value cX4_value 2 (some .int), Cond.classLink RX4 30 "java/lang/IllegalArgumentException", Cond.initialized "java/lang/IllegalArgumentException", Cond.fieldLink RX4 12 "LyingScale" "now" "LLyingScale$State;", Cond.methodLink RX4 158 yX2_number, Cond.instanceMethod yX2_number, Cond.selects RX2 yX2_number yX2_number, Cond.initialized RX2, Cond.code yX2_number cX2_number 2 (some .int), Cond.fieldLink RX2 33 "LyingScale$State" "coins" "I", Cond.fieldLink RX2 37 "LyingScale$State" "limit" "I", Cond.fieldLink RX2 14 "LyingScale$State" "told" "LLyingScale$Weighings;", Cond.fieldLink RX2 20 "LyingScale$State" "plan" "LLyingScale$Weighings;", Cond.fieldLink RX2 58 "LyingScale$State" "hidden" "I", Cond.fieldLink RX2 64 "LyingScale$State" "answered" "I", Cond.methodLink RX2 131 yX2_countLeft, Cond.instanceMethod yX2_countLeft, Cond.selects RX2 yX2_countLeft yX2_countLeft]
def wsL_value_r2 : List Cond := [Cond.code yX2_countLeft cX2_countLeft 3 (some .int), Cond.methodLink RX2 67 yX2_cases, Cond.instanceMethod yX2_cases, Cond.selects RX2 yX2_cases yX2_cases, Cond.code yX2_cases cX2_cases 1 (some .int), Cond.methodLink RX2 125 yX2_isLeft, Cond.instanceMethod yX2_isLeft, Cond.selects RX2 yX2_isLeft yX2_isLeft, Cond.code yX2_isLeft cX2_isLeft 2 (some .boolean), Cond.fieldLink RX2 23 "LyingScale$State" "liesOf" "[I", Cond.static yX4_at, Cond.code yX4_at cX4_at 2 (some .int), Cond.methodLink RX2 134 yX2_falseCoins, Cond.instanceMethod yX2_falseCoins, Cond.selects RX2 yX2_falseCoins yX2_falseCoins, Cond.code yX2_falseCoins cX2_falseCoins 3 (some .int), Cond.static yX4_coinBit, Cond.code yX4_coinBit cX4_coinBit 1 (some .int)]
def wsL_value : List Cond := .codeWith yL_value cL_value 3 (some .int) [(0, 5, 6, 15)] :: ((wsL_value_r1 ++ wsL_value_r2) ++ wsX40 ++ wsX20 ++ wsX30 ++ (vx_atS RX4 34 "java/lang/IllegalArgumentException" ["java/lang/RuntimeException", "java/lang/Exception"]).filter goodWord)
def wsL_weighs_r1 : List Cond := [Cond.classLink RL 15 "java/lang/IllegalArgumentException", Cond.constantLong RL 47 (-2000001), Cond.methodLink RL 43 yX4_weight, Cond.instanceMethod yX4_weight, Cond.selects RX4 yX4_weight yX4_weight, Cond.initialized RX4, Cond.code yX4_weight cX4_weight 2 (some .long), Cond.classLink RX4 30 "java/lang/IllegalArgumentException", Cond.initialized "java/lang/IllegalArgumentException", Cond.fieldLink RX4 12 "LyingScale" "now" "LLyingScale$State;", Cond.methodLink RX4 161 yX4_isAhead, Cond.static yX4_isAhead, Cond.code yX4_isAhead cX4_isAhead 1 (some .boolean), Cond.methodLink RX4 166 yX2_weightAhead, Cond.instanceMethod yX2_weightAhead, Cond.selects RX2 yX2_weightAhead yX2_weightAhead, Cond.initialized RX2, Cond.code yX2_weightAhead cX2_weightAhead 5 (some .long), Cond.fieldLink RX2 23 "LyingScale$State" "liesOf" "[I", Cond.methodLink RX2 67 yX2_cases, Cond.instanceMethod yX2_cases, Cond.selects RX2 yX2_cases yX2_cases, Cond.code yX2_cases cX2_cases 1 (some .int), Cond.fieldLink RX2 33 "LyingScale$State" "coins" "I"]
def wsL_weighs_r2 : List Cond := [Cond.static yX4_at, Cond.code yX4_at cX4_at 2 (some .int), Cond.methodLink RX2 137 yX2_volumeLeft, Cond.instanceMethod yX2_volumeLeft, Cond.selects RX2 yX2_volumeLeft yX2_volumeLeft, Cond.code yX2_volumeLeft cX2_volumeLeft 3 (some .long), Cond.fieldLink RX2 37 "LyingScale$State" "limit" "I", Cond.static yX4_volume, Cond.code yX4_volume cX4_volume 8 (some .long), Cond.methodLink RX4 253 Lib.Math.min.name, Cond.static Lib.Math.min.name, Cond.initialized "java/lang/Math", Cond.code Lib.Math.min.name Lib.Math.min.code 2 (some .int)]
def wsL_weighs : List Cond := .codeWith yL_weighs cL_weighs 3 (some .long) [(0, 5, 6, 15)] :: ((wsL_weighs_r1 ++ wsL_weighs_r2) ++ wsX40 ++ wsX20 ++ (vx_atS RX4 34 "java/lang/IllegalArgumentException" ["java/lang/RuntimeException", "java/lang/Exception"]).filter goodWord)
def wsL_behind_r1 : List Cond := [Cond.classLink RL 15 "java/lang/IllegalArgumentException", Cond.constantLong RL 47 (-2000001), Cond.methodLink RL 49 yX4_weightBehind, Cond.instanceMethod yX4_weightBehind, Cond.selects RX4 yX4_weightBehind yX4_weightBehind, Cond.initialized RX4, Cond.code yX4_weightBehind cX4_weightBehind 5 (some .long), Cond.classLink RX4 30 "java/lang/IllegalArgumentException", Cond.initialized "java/lang/IllegalArgumentException", Cond.fieldLink RX4 12 "LyingScale" "now" "LLyingScale$State;", Cond.methodLink RX4 64 yX2_isWeighing, Cond.instanceMethod yX2_isWeighing, Cond.selects RX2 yX2_isWeighing yX2_isWeighing, Cond.initialized RX2, Cond.code yX2_isWeighing cX2_isWeighing 3 (some .boolean), Cond.fieldLink RX2 33 "LyingScale$State" "coins" "I", Cond.methodLink RX2 71 yJ6_bitCount_0f7a4, Cond.static yJ6_bitCount_0f7a4, Cond.initialized RJ6, Cond.code yJ6_bitCount_0f7a4 cJ6_bitCount_0f7a4 1 (some .int), Cond.constant RJ6 265 (1431655765), Cond.constant RJ6 266 (858993459), Cond.constant RJ6 267 (252645135), Cond.methodLink RX4 68 yX4_isAnswer]
def wsL_behind_r2 : List Cond := [Cond.static yX4_isAnswer, Cond.code yX4_isAnswer cX4_isAnswer 1 (some .boolean), Cond.methodLink RX4 161 yX4_isAhead, Cond.static yX4_isAhead, Cond.code yX4_isAhead cX4_isAhead 1 (some .boolean), Cond.methodLink RX4 174 yX2_weightIfTold, Cond.instanceMethod yX2_weightIfTold, Cond.selects RX2 yX2_weightIfTold yX2_weightIfTold, Cond.code yX2_weightIfTold cX2_weightIfTold 8 (some .long), Cond.methodLink RX2 67 yX2_cases, Cond.instanceMethod yX2_cases, Cond.selects RX2 yX2_cases yX2_cases, Cond.code yX2_cases cX2_cases 1 (some .int), Cond.methodLink RX2 81 yX2_liesIfTold, Cond.instanceMethod yX2_liesIfTold, Cond.selects RX2 yX2_liesIfTold yX2_liesIfTold, Cond.code yX2_liesIfTold cX2_liesIfTold 6 (some .int), Cond.fieldLink RX2 23 "LyingScale$State" "liesOf" "[I", Cond.static yX4_at, Cond.code yX4_at cX4_at 2 (some .int), Cond.static yX4_trueAnswer, Cond.code yX4_trueAnswer cX4_trueAnswer 5 (some .int), Cond.methodLink RX4 264 yX4_coinBit, Cond.static yX4_coinBit]
def wsL_behind_r3 : List Cond := [Cond.code yX4_coinBit cX4_coinBit 1 (some .int), Cond.methodLink RX2 137 yX2_volumeLeft, Cond.instanceMethod yX2_volumeLeft, Cond.selects RX2 yX2_volumeLeft yX2_volumeLeft, Cond.code yX2_volumeLeft cX2_volumeLeft 3 (some .long), Cond.fieldLink RX2 37 "LyingScale$State" "limit" "I", Cond.static yX4_volume, Cond.code yX4_volume cX4_volume 8 (some .long), Cond.methodLink RX4 253 Lib.Math.min.name, Cond.static Lib.Math.min.name, Cond.initialized "java/lang/Math", Cond.code Lib.Math.min.name Lib.Math.min.code 2 (some .int)]
def wsL_behind : List Cond := .codeWith yL_behind cL_behind 6 (some .long) [(0, 9, 10, 15)] :: ((wsL_behind_r1 ++ (wsL_behind_r2 ++ wsL_behind_r3)) ++ wsX40 ++ wsX20 ++ (vx_atS RX4 34 "java/lang/IllegalArgumentException" ["java/lang/RuntimeException", "java/lang/Exception"]).filter goodWord)
def wsL_holds_r1 : List Cond := [Cond.methodLink RL 53 yL_value, Cond.static yL_value, Cond.initialized RL, Cond.codeWith yL_value cL_value 3 (some .int) [(0, 5, 6, 15)], Cond.classLink RL 15 "java/lang/IllegalArgumentException", Cond.constant RL 17 (-2000001), Cond.methodLink RL 40 yX4_value, Cond.instanceMethod yX4_value, Cond.selects RX4 yX4_value yX4_value, Cond.initialized RX4, Cond.code yX4_value cX4_value 2 (some .int), Cond.classLink RX4 30 "java/lang/IllegalArgumentException", Cond.initialized "java/lang/IllegalArgumentException", Cond.fieldLink RX4 12 "LyingScale" "now" "LLyingScale$State;", Cond.methodLink RX4 158 yX2_number, Cond.instanceMethod yX2_number, Cond.selects RX2 yX2_number yX2_number, Cond.initialized RX2, Cond.code yX2_number cX2_number 2 (some .int), Cond.fieldLink RX2 33 "LyingScale$State" "coins" "I", Cond.fieldLink RX2 37 "LyingScale$State" "limit" "I", Cond.fieldLink RX2 14 "LyingScale$State" "told" "LLyingScale$Weighings;", Cond.fieldLink RX2 20 "LyingScale$State" "plan" "LLyingScale$Weighings;", Cond.fieldLink RX2 58 "LyingScale$State" "hidden" "I"]
def wsL_holds_r2 : List Cond := [Cond.fieldLink RX2 64 "LyingScale$State" "answered" "I", Cond.methodLink RX2 131 yX2_countLeft, Cond.instanceMethod yX2_countLeft, Cond.selects RX2 yX2_countLeft yX2_countLeft, Cond.code yX2_countLeft cX2_countLeft 3 (some .int), Cond.methodLink RX2 67 yX2_cases, Cond.instanceMethod yX2_cases, Cond.selects RX2 yX2_cases yX2_cases, Cond.code yX2_cases cX2_cases 1 (some .int), Cond.methodLink RX2 125 yX2_isLeft, Cond.instanceMethod yX2_isLeft, Cond.selects RX2 yX2_isLeft yX2_isLeft, Cond.code yX2_isLeft cX2_isLeft 2 (some .boolean), Cond.fieldLink RX2 23 "LyingScale$State" "liesOf" "[I", Cond.static yX4_at, Cond.code yX4_at cX4_at 2 (some .int), Cond.methodLink RX2 134 yX2_falseCoins, Cond.instanceMethod yX2_falseCoins, Cond.selects RX2 yX2_falseCoins yX2_falseCoins, Cond.code yX2_falseCoins cX2_falseCoins 3 (some .int), Cond.static yX4_coinBit, Cond.code yX4_coinBit cX4_coinBit 1 (some .int), Cond.methodLink RL 58 yL_liesOf, Cond.static yL_liesOf]
def wsL_holds_r3 : List Cond := [Cond.codeWith yL_liesOf cL_liesOf 3 (some .int) [(0, 5, 6, 24)], Cond.classLink RL 24 "java/lang/IndexOutOfBoundsException", Cond.methodLink RL 37 yX4_lies, Cond.instanceMethod yX4_lies, Cond.selects RX4 yX4_lies yX4_lies, Cond.code yX4_lies cX4_lies 2 (some .int), Cond.classLink RX4 93 "java/lang/IndexOutOfBoundsException", Cond.initialized "java/lang/IndexOutOfBoundsException", Cond.methodLink RX4 90 yX2_isCase, Cond.instanceMethod yX2_isCase, Cond.selects RX2 yX2_isCase yX2_isCase, Cond.code yX2_isCase cX2_isCase 2 (some .boolean), Cond.methodLink RX4 137 yX4_at, Cond.methodLink RL 61 yL_weighs, Cond.static yL_weighs, Cond.codeWith yL_weighs cL_weighs 3 (some .long) [(0, 5, 6, 15)], Cond.constantLong RL 47 (-2000001), Cond.methodLink RL 43 yX4_weight, Cond.instanceMethod yX4_weight, Cond.selects RX4 yX4_weight yX4_weight, Cond.code yX4_weight cX4_weight 2 (some .long), Cond.methodLink RX4 161 yX4_isAhead, Cond.static yX4_isAhead, Cond.code yX4_isAhead cX4_isAhead 1 (some .boolean)]
def wsL_holds_r4 : List Cond := [Cond.methodLink RX4 166 yX2_weightAhead, Cond.instanceMethod yX2_weightAhead, Cond.selects RX2 yX2_weightAhead yX2_weightAhead, Cond.code yX2_weightAhead cX2_weightAhead 5 (some .long), Cond.methodLink RX2 137 yX2_volumeLeft, Cond.instanceMethod yX2_volumeLeft, Cond.selects RX2 yX2_volumeLeft yX2_volumeLeft, Cond.code yX2_volumeLeft cX2_volumeLeft 3 (some .long), Cond.static yX4_volume, Cond.code yX4_volume cX4_volume 8 (some .long), Cond.methodLink RX4 253 Lib.Math.min.name, Cond.static Lib.Math.min.name, Cond.initialized "java/lang/Math", Cond.code Lib.Math.min.name Lib.Math.min.code 2 (some .int), Cond.methodLink RL 65 yX4_bound, Cond.instanceMethod yX4_bound, Cond.selects RX4 yX4_bound yX4_bound, Cond.code yX4_bound cX4_bound 4 (some .int), Cond.constantLong RX4 170 (3)]
def wsL_holds : List Cond := .code yL_holds cL_holds 9 (some .boolean) :: ((wsL_holds_r1 ++ (wsL_holds_r2 ++ (wsL_holds_r3 ++ wsL_holds_r4))) ++ wsX40 ++ wsX20 ++ wsX30 ++ (vx_atS RX4 34 "java/lang/IllegalArgumentException" ["java/lang/RuntimeException", "java/lang/Exception"]).filter goodWord ++ (vx_atS RX4 97 "java/lang/IndexOutOfBoundsException" ["java/lang/RuntimeException", "java/lang/Exception"]).filter goodWord)
def wsL_splits_r1 : List Cond := [Cond.methodLink RL 68 yL_behind, Cond.static yL_behind, Cond.initialized RL, Cond.codeWith yL_behind cL_behind 6 (some .long) [(0, 9, 10, 15)], Cond.classLink RL 15 "java/lang/IllegalArgumentException", Cond.constantLong RL 47 (-2000001), Cond.methodLink RL 49 yX4_weightBehind, Cond.instanceMethod yX4_weightBehind, Cond.selects RX4 yX4_weightBehind yX4_weightBehind, Cond.initialized RX4, Cond.code yX4_weightBehind cX4_weightBehind 5 (some .long), Cond.classLink RX4 30 "java/lang/IllegalArgumentException", Cond.initialized "java/lang/IllegalArgumentException", Cond.fieldLink RX4 12 "LyingScale" "now" "LLyingScale$State;", Cond.methodLink RX4 64 yX2_isWeighing, Cond.instanceMethod yX2_isWeighing, Cond.selects RX2 yX2_isWeighing yX2_isWeighing, Cond.initialized RX2, Cond.code yX2_isWeighing cX2_isWeighing 3 (some .boolean), Cond.fieldLink RX2 33 "LyingScale$State" "coins" "I", Cond.methodLink RX2 71 yJ6_bitCount_0f7a4, Cond.static yJ6_bitCount_0f7a4, Cond.initialized RJ6, Cond.code yJ6_bitCount_0f7a4 cJ6_bitCount_0f7a4 1 (some .int)]
def wsL_splits_r2 : List Cond := [Cond.constant RJ6 265 (1431655765), Cond.constant RJ6 266 (858993459), Cond.constant RJ6 267 (252645135), Cond.methodLink RX4 68 yX4_isAnswer, Cond.static yX4_isAnswer, Cond.code yX4_isAnswer cX4_isAnswer 1 (some .boolean), Cond.methodLink RX4 161 yX4_isAhead, Cond.static yX4_isAhead, Cond.code yX4_isAhead cX4_isAhead 1 (some .boolean), Cond.methodLink RX4 174 yX2_weightIfTold, Cond.instanceMethod yX2_weightIfTold, Cond.selects RX2 yX2_weightIfTold yX2_weightIfTold, Cond.code yX2_weightIfTold cX2_weightIfTold 8 (some .long), Cond.methodLink RX2 67 yX2_cases, Cond.instanceMethod yX2_cases, Cond.selects RX2 yX2_cases yX2_cases, Cond.code yX2_cases cX2_cases 1 (some .int), Cond.methodLink RX2 81 yX2_liesIfTold, Cond.instanceMethod yX2_liesIfTold, Cond.selects RX2 yX2_liesIfTold yX2_liesIfTold, Cond.code yX2_liesIfTold cX2_liesIfTold 6 (some .int), Cond.fieldLink RX2 23 "LyingScale$State" "liesOf" "[I", Cond.static yX4_at, Cond.code yX4_at cX4_at 2 (some .int)]
def wsL_splits_r3 : List Cond := [Cond.static yX4_trueAnswer, Cond.code yX4_trueAnswer cX4_trueAnswer 5 (some .int), Cond.methodLink RX4 264 yX4_coinBit, Cond.static yX4_coinBit, Cond.code yX4_coinBit cX4_coinBit 1 (some .int), Cond.methodLink RX2 137 yX2_volumeLeft, Cond.instanceMethod yX2_volumeLeft, Cond.selects RX2 yX2_volumeLeft yX2_volumeLeft, Cond.code yX2_volumeLeft cX2_volumeLeft 3 (some .long), Cond.fieldLink RX2 37 "LyingScale$State" "limit" "I", Cond.static yX4_volume, Cond.code yX4_volume cX4_volume 8 (some .long), Cond.methodLink RX4 253 Lib.Math.min.name, Cond.static Lib.Math.min.name, Cond.initialized "java/lang/Math", Cond.code Lib.Math.min.name Lib.Math.min.code 2 (some .int), Cond.methodLink RL 61 yL_weighs, Cond.static yL_weighs, Cond.codeWith yL_weighs cL_weighs 3 (some .long) [(0, 5, 6, 15)], Cond.methodLink RL 43 yX4_weight, Cond.instanceMethod yX4_weight, Cond.selects RX4 yX4_weight yX4_weight, Cond.code yX4_weight cX4_weight 2 (some .long), Cond.methodLink RX4 166 yX2_weightAhead]
def wsL_splits_r4 : List Cond := [Cond.instanceMethod yX2_weightAhead, Cond.selects RX2 yX2_weightAhead yX2_weightAhead, Cond.code yX2_weightAhead cX2_weightAhead 5 (some .long)]
def wsL_splits : List Cond := .code yL_splits cL_splits 6 (some .boolean) :: ((wsL_splits_r1 ++ (wsL_splits_r2 ++ (wsL_splits_r3 ++ wsL_splits_r4))) ++ wsX40 ++ wsX20 ++ (vx_atS RX4 34 "java/lang/IllegalArgumentException" ["java/lang/RuntimeException", "java/lang/Exception"]).filter goodWord)
def wsL_law0_r1 : List Cond := [Cond.classLink RL 10 RX4, Cond.instantiable RX4 3, Cond.initialized RX4, Cond.constant RL 77 (1073741823), Cond.constant RL 20 (-2000002), Cond.constant RL 17 (-2000001), Cond.methodLink RL 72 yX4_init, Cond.instanceMethod yX4_init, Cond.code yX4_init cX4_init 1 none, Cond.methodLink RX4 3 objectInit, Cond.instanceMethod objectInit, Cond.code objectInit ⟨#[0xb1]⟩ 1 none, Cond.classLink RX4 9 RX2, Cond.instantiable RX2 9, Cond.initialized RX2, Cond.fieldLink RX4 12 "LyingScale" "now" "LLyingScale$State;", Cond.classLink RX4 16 RX0, Cond.instantiable RX0 2, Cond.initialized RX0, Cond.fieldLink RX4 19 "LyingScale" "history" "LLyingScale$History;", Cond.classLink RX4 23 RX1, Cond.instantiable RX1 9, Cond.initialized RX1, Cond.fieldLink RX4 26 "LyingScale" "orders" "LLyingScale$Orders;"]
def wsL_law0_r2 : List Cond := [Cond.methodLink RX4 11 yX2_init, Cond.instanceMethod yX2_init, Cond.code yX2_init cX2_init 1 none, Cond.methodLink RX2 3 objectInit, Cond.classLink RX2 9 RX3, Cond.instantiable RX3 4, Cond.initialized RX3, Cond.fieldLink RX2 14 "LyingScale$State" "told" "LLyingScale$Weighings;", Cond.fieldLink RX2 20 "LyingScale$State" "plan" "LLyingScale$Weighings;", Cond.arrayClass .int, Cond.fieldLink RX2 23 "LyingScale$State" "liesOf" "[I", Cond.fieldLink RX2 27 "LyingScale$State" "words" "[I", Cond.methodLink RX2 11 yX3_init, Cond.instanceMethod yX3_init, Cond.code yX3_init cX3_init 3 none, Cond.methodLink RX3 3 objectInit, Cond.methodLink RX3 9 Lib.Math.max.name, Cond.static Lib.Math.max.name, Cond.initialized "java/lang/Math", Cond.code Lib.Math.max.name Lib.Math.max.code 2 (some .int), Cond.fieldLink RX3 15 "LyingScale$Weighings" "lefts" "[I", Cond.fieldLink RX3 21 "LyingScale$Weighings" "rights" "[I", Cond.fieldLink RX3 24 "LyingScale$Weighings" "answers" "[I", Cond.methodLink RX2 30 yX2_start]
def wsL_law0_r3 : List Cond := [Cond.instanceMethod yX2_start, Cond.selects RX2 yX2_start yX2_start, Cond.code yX2_start cX2_start 2 none, Cond.fieldLink RX2 33 "LyingScale$State" "coins" "I", Cond.fieldLink RX2 37 "LyingScale$State" "limit" "I", Cond.methodLink RX2 43 yX2_hideCase, Cond.instanceMethod yX2_hideCase, Cond.selects RX2 yX2_hideCase yX2_hideCase, Cond.code yX2_hideCase cX2_hideCase 3 none, Cond.fieldLink RX2 58 "LyingScale$State" "hidden" "I", Cond.fieldLink RX2 61 "LyingScale$State" "lieSet" "I", Cond.fieldLink RX2 64 "LyingScale$State" "answered" "I", Cond.methodLink RX2 47 yX2_forgetTold, Cond.instanceMethod yX2_forgetTold, Cond.selects RX2 yX2_forgetTold yX2_forgetTold, Cond.code yX2_forgetTold cX2_forgetTold 2 none, Cond.static yX4_put, Cond.code yX4_put cX4_put 3 none, Cond.methodLink RX4 18 yX0_init, Cond.instanceMethod yX0_init, Cond.code yX0_init cX0_init 2 none, Cond.methodLink RX0 3 objectInit, Cond.classLink RX0 9 RX2, Cond.fieldLink RX0 11 "LyingScale$History" "states" "[LLyingScale$State;"]
def wsL_law0_r4 : List Cond := [Cond.methodLink RX0 17 yX2_init, Cond.methodLink RX4 25 yX1_init, Cond.instanceMethod yX1_init, Cond.code yX1_init cX1_init 1 none, Cond.methodLink RX1 3 objectInit, Cond.fieldLink RX1 9 "LyingScale$Orders" "bytes" "[I", Cond.fieldLink RX1 15 "LyingScale$Orders" "lefts" "[I", Cond.fieldLink RX1 18 "LyingScale$Orders" "rights" "[I", Cond.fieldLink RX1 21 "LyingScale$Orders" "deeds" "[I", Cond.methodLink RL 73 yL_cell, Cond.static yL_cell, Cond.initialized RL, Cond.code yL_cell cL_cell 2 (some .int), Cond.constant RL 7 (214013), Cond.constant RL 8 (2147483647), Cond.methodLink RL 78 yL_begins, Cond.static yL_begins, Cond.codeWith yL_begins cL_begins 3 (some .int) [(0, 5, 6, 15)], Cond.classLink RL 15 "java/lang/IllegalArgumentException", Cond.methodLink RL 26 yX4_begin, Cond.instanceMethod yX4_begin, Cond.selects RX4 yX4_begin yX4_begin, Cond.code yX4_begin cX4_begin 3 (some .int), Cond.classLink RX4 30 "java/lang/IllegalArgumentException"]
def wsL_law0_r5 : List Cond := [Cond.initialized "java/lang/IllegalArgumentException", Cond.methodLink RX4 37 yX0_save, Cond.instanceMethod yX0_save, Cond.selects RX0 yX0_save yX0_save, Cond.code yX0_save cX0_save 3 none, Cond.fieldLink RX0 18 "LyingScale$History" "count" "I", Cond.methodLink RX0 22 yX0_dropOldest, Cond.instanceMethod yX0_dropOldest, Cond.selects RX0 yX0_dropOldest yX0_dropOldest, Cond.code yX0_dropOldest cX0_dropOldest 4 none, Cond.methodLink RX0 25 yX0_stateAt, Cond.instanceMethod yX0_stateAt, Cond.selects RX0 yX0_stateAt yX0_stateAt, Cond.code yX0_stateAt cX0_stateAt 2 (some (.object "LyingScale$State")), Cond.methodLink RX0 29 yX2_copyFrom, Cond.instanceMethod yX2_copyFrom, Cond.selects RX2 yX2_copyFrom yX2_copyFrom, Cond.code yX2_copyFrom cX2_copyFrom 2 none, Cond.methodLink RX2 50 yX3_copyFrom, Cond.instanceMethod yX3_copyFrom, Cond.selects RX3 yX3_copyFrom yX3_copyFrom, Cond.code yX3_copyFrom cX3_copyFrom 2 none, Cond.fieldLink RX3 31 "LyingScale$Weighings" "count" "I", Cond.static yX4_copyRow]
def wsL_law0_r6 : List Cond := [Cond.code yX4_copyRow cX4_copyRow 2 none, Cond.methodLink RX4 253 Lib.Math.min.name, Cond.static Lib.Math.min.name, Cond.code Lib.Math.min.name Lib.Math.min.code 2 (some .int), Cond.methodLink RX4 258 arraycopyName, Cond.native arraycopyName, Cond.static arraycopyName, Cond.initialized "java/lang/System", Cond.methodLink RX4 51 yX2_start, Cond.methodLink RL 81 yL_asks, Cond.static yL_asks, Cond.codeWith yL_asks cL_asks 4 (some .int) [(0, 6, 7, 15), (0, 6, 11, 18)], Cond.classLink RL 18 "java/lang/IllegalStateException", Cond.methodLink RL 9 yX4_ask, Cond.instanceMethod yX4_ask, Cond.selects RX4 yX4_ask yX4_ask, Cond.code yX4_ask cX4_ask 3 (some .int), Cond.classLink RX4 78 "java/lang/IllegalStateException", Cond.initialized "java/lang/IllegalStateException", Cond.methodLink RX4 64 yX2_isWeighing, Cond.instanceMethod yX2_isWeighing, Cond.selects RX2 yX2_isWeighing yX2_isWeighing, Cond.code yX2_isWeighing cX2_isWeighing 3 (some .boolean), Cond.methodLink RX2 71 yJ6_bitCount_0f7a4]
def wsL_law0_r7 : List Cond := [Cond.static yJ6_bitCount_0f7a4, Cond.initialized RJ6, Cond.code yJ6_bitCount_0f7a4 cJ6_bitCount_0f7a4 1 (some .int), Cond.constant RJ6 265 (1431655765), Cond.constant RJ6 266 (858993459), Cond.constant RJ6 267 (252645135), Cond.methodLink RX4 108 yX2_canReply, Cond.instanceMethod yX2_canReply, Cond.selects RX2 yX2_canReply yX2_canReply, Cond.code yX2_canReply cX2_canReply 1 (some .boolean), Cond.methodLink RX2 97 yX2_canLearn, Cond.instanceMethod yX2_canLearn, Cond.selects RX2 yX2_canLearn yX2_canLearn, Cond.code yX2_canLearn cX2_canLearn 1 (some .boolean), Cond.methodLink RX4 113 yX2_reply, Cond.instanceMethod yX2_reply, Cond.selects RX2 yX2_reply yX2_reply, Cond.code yX2_reply cX2_reply 4 (some .int), Cond.static yX4_trueAnswer, Cond.code yX4_trueAnswer cX4_trueAnswer 5 (some .int), Cond.methodLink RX4 264 yX4_coinBit, Cond.static yX4_coinBit, Cond.code yX4_coinBit cX4_coinBit 1 (some .int), Cond.methodLink RX2 101 yX2_learn]
def wsL_law0_r8 : List Cond := [Cond.instanceMethod yX2_learn, Cond.selects RX2 yX2_learn yX2_learn, Cond.code yX2_learn cX2_learn 5 none, Cond.methodLink RX2 77 yX3_write, Cond.instanceMethod yX3_write, Cond.selects RX3 yX3_write yX3_write, Cond.code yX3_write cX3_write 4 none, Cond.methodLink RX2 67 yX2_cases, Cond.instanceMethod yX2_cases, Cond.selects RX2 yX2_cases yX2_cases, Cond.code yX2_cases cX2_cases 1 (some .int), Cond.methodLink RX2 81 yX2_liesIfTold, Cond.instanceMethod yX2_liesIfTold, Cond.selects RX2 yX2_liesIfTold yX2_liesIfTold, Cond.code yX2_liesIfTold cX2_liesIfTold 6 (some .int), Cond.static yX4_at, Cond.code yX4_at cX4_at 2 (some .int), Cond.methodLink RL 85 yL_limits, Cond.static yL_limits, Cond.codeWith yL_limits cL_limits 3 (some .int) [(0, 5, 6, 15)], Cond.methodLink RL 30 yX4_setLimit, Cond.instanceMethod yX4_setLimit, Cond.selects RX4 yX4_setLimit yX4_setLimit, Cond.code yX4_setLimit cX4_setLimit 2 (some .int)]
def wsL_law0_r9 : List Cond := [Cond.methodLink RX4 60 yX2_countLeft, Cond.instanceMethod yX2_countLeft, Cond.selects RX2 yX2_countLeft yX2_countLeft, Cond.code yX2_countLeft cX2_countLeft 3 (some .int), Cond.methodLink RX2 125 yX2_isLeft, Cond.instanceMethod yX2_isLeft, Cond.selects RX2 yX2_isLeft yX2_isLeft, Cond.code yX2_isLeft cX2_isLeft 2 (some .boolean), Cond.methodLink RL 88 yL_hides, Cond.static yL_hides, Cond.codeWith yL_hides cL_hides 4 (some .int) [(0, 6, 7, 24), (0, 6, 11, 15)], Cond.classLink RL 24 "java/lang/IndexOutOfBoundsException", Cond.methodLink RL 21 yX4_hide, Cond.instanceMethod yX4_hide, Cond.selects RX4 yX4_hide yX4_hide, Cond.code yX4_hide cX4_hide 4 (some .int), Cond.classLink RX4 93 "java/lang/IndexOutOfBoundsException", Cond.initialized "java/lang/IndexOutOfBoundsException", Cond.constant RX4 98 (1073741823), Cond.methodLink RX4 90 yX2_isCase, Cond.instanceMethod yX2_isCase, Cond.selects RX2 yX2_isCase yX2_isCase, Cond.code yX2_isCase cX2_isCase 2 (some .boolean), Cond.methodLink RX4 102 yX2_hideCase]
def wsL_law0_r10 : List Cond := [Cond.methodLink RL 91 yL_holds, Cond.static yL_holds, Cond.code yL_holds cL_holds 9 (some .boolean), Cond.methodLink RL 53 yL_value, Cond.static yL_value, Cond.codeWith yL_value cL_value 3 (some .int) [(0, 5, 6, 15)], Cond.methodLink RL 40 yX4_value, Cond.instanceMethod yX4_value, Cond.selects RX4 yX4_value yX4_value, Cond.code yX4_value cX4_value 2 (some .int), Cond.methodLink RX4 158 yX2_number, Cond.instanceMethod yX2_number, Cond.selects RX2 yX2_number yX2_number, Cond.code yX2_number cX2_number 2 (some .int), Cond.methodLink RX2 131 yX2_countLeft, Cond.methodLink RX2 134 yX2_falseCoins, Cond.instanceMethod yX2_falseCoins, Cond.selects RX2 yX2_falseCoins yX2_falseCoins, Cond.code yX2_falseCoins cX2_falseCoins 3 (some .int), Cond.methodLink RL 58 yL_liesOf, Cond.static yL_liesOf, Cond.codeWith yL_liesOf cL_liesOf 3 (some .int) [(0, 5, 6, 24)], Cond.methodLink RL 37 yX4_lies, Cond.instanceMethod yX4_lies]
def wsL_law0_r11 : List Cond := [Cond.selects RX4 yX4_lies yX4_lies, Cond.code yX4_lies cX4_lies 2 (some .int), Cond.methodLink RX4 137 yX4_at, Cond.methodLink RL 61 yL_weighs, Cond.static yL_weighs, Cond.codeWith yL_weighs cL_weighs 3 (some .long) [(0, 5, 6, 15)], Cond.constantLong RL 47 (-2000001), Cond.methodLink RL 43 yX4_weight, Cond.instanceMethod yX4_weight, Cond.selects RX4 yX4_weight yX4_weight, Cond.code yX4_weight cX4_weight 2 (some .long), Cond.methodLink RX4 161 yX4_isAhead, Cond.static yX4_isAhead, Cond.code yX4_isAhead cX4_isAhead 1 (some .boolean), Cond.methodLink RX4 166 yX2_weightAhead, Cond.instanceMethod yX2_weightAhead, Cond.selects RX2 yX2_weightAhead yX2_weightAhead, Cond.code yX2_weightAhead cX2_weightAhead 5 (some .long), Cond.methodLink RX2 137 yX2_volumeLeft, Cond.instanceMethod yX2_volumeLeft, Cond.selects RX2 yX2_volumeLeft yX2_volumeLeft, Cond.code yX2_volumeLeft cX2_volumeLeft 3 (some .long), Cond.static yX4_volume, Cond.code yX4_volume cX4_volume 8 (some .long)]
def wsL_law0_r12 : List Cond := [Cond.methodLink RL 65 yX4_bound, Cond.instanceMethod yX4_bound, Cond.selects RX4 yX4_bound yX4_bound, Cond.code yX4_bound cX4_bound 4 (some .int), Cond.constantLong RX4 170 (3), Cond.methodLink RL 95 yL_splits, Cond.static yL_splits, Cond.code yL_splits cL_splits 6 (some .boolean), Cond.methodLink RL 68 yL_behind, Cond.static yL_behind, Cond.codeWith yL_behind cL_behind 6 (some .long) [(0, 9, 10, 15)], Cond.methodLink RL 49 yX4_weightBehind, Cond.instanceMethod yX4_weightBehind, Cond.selects RX4 yX4_weightBehind yX4_weightBehind, Cond.code yX4_weightBehind cX4_weightBehind 5 (some .long), Cond.methodLink RX4 68 yX4_isAnswer, Cond.static yX4_isAnswer, Cond.code yX4_isAnswer cX4_isAnswer 1 (some .boolean), Cond.methodLink RX4 174 yX2_weightIfTold, Cond.instanceMethod yX2_weightIfTold, Cond.selects RX2 yX2_weightIfTold yX2_weightIfTold, Cond.code yX2_weightIfTold cX2_weightIfTold 8 (some .long), Cond.methodLink RL 99 yX4_forget, Cond.instanceMethod yX4_forget]
def wsL_law0_r13 : List Cond := [Cond.selects RX4 yX4_forget yX4_forget, Cond.code yX4_forget cX4_forget 2 (some .int), Cond.methodLink RX4 87 yX2_forgetTold, Cond.methodLink RL 102 yL_undoes, Cond.static yL_undoes, Cond.codeWith yL_undoes cL_undoes 2 (some .int) [(0, 4, 5, 18)], Cond.methodLink RL 33 yX4_undo, Cond.instanceMethod yX4_undo, Cond.selects RX4 yX4_undo yX4_undo, Cond.code yX4_undo cX4_undo 1 (some .int), Cond.methodLink RX4 237 yX0_restore, Cond.instanceMethod yX0_restore, Cond.selects RX0 yX0_restore yX0_restore, Cond.code yX0_restore cX0_restore 3 none]
def wsL_law0 : List Cond := (wsL_law0_r1 ++ (wsL_law0_r2 ++ (wsL_law0_r3 ++ (wsL_law0_r4 ++ (wsL_law0_r5 ++ (wsL_law0_r6 ++ (wsL_law0_r7 ++ (wsL_law0_r8 ++ (wsL_law0_r9 ++ (wsL_law0_r10 ++ (wsL_law0_r11 ++ (wsL_law0_r12 ++ wsL_law0_r13)))))))))))) ++ wsX40 ++ wsX20 ++ wsX00 ++ wsX10 ++ wsX30 ++ ([] : List Cond)
def wsL_law : List Cond := wsL_law0 ++ (vx_atS RX4 34 "java/lang/IllegalArgumentException" ["java/lang/RuntimeException", "java/lang/Exception"]).filter goodWord ++ (vx_atS RX4 82 "java/lang/IllegalStateException" ["java/lang/RuntimeException", "java/lang/Exception"]).filter goodWord ++ (vx_atS RX4 97 "java/lang/IndexOutOfBoundsException" ["java/lang/RuntimeException", "java/lang/Exception"]).filter goodWord
end
section
set_option maxRecDepth 20000 in
theorem ggX0_init_X2_init : GoodIn wsX0_init wsX2_init := goodIn_r _ [10, 11, 2, 3, 12, 13, 14, 15, 16, 17, 18, 19, 20, 21, 22, 23, 24, 25, 26, 27, 28, 29, 30, 31, 32, 33, 7, 34, 35, 36, 37, 38, 39, 40, 41, 42, 43, 44, 45, 46, 47, 48, 49, 50, 62, 63, 64, 65, 53, 54, 55, 56, 57, 58, 59, 60, 61] (by decide +kernel) (by decide +kernel)
set_option maxRecDepth 20000 in
theorem gX0_init_X2_init : GoodIn wsX0_init (wsX2_init) := ggX0_init_X2_init
theorem dX0_init_0 : decode cX0_init 0 = .ok (.aload_n 0, 1) := by decide +kernel
theorem dX0_init_1 : decode cX0_init 1 = .ok (.invokespecial 3, 3) := by decide +kernel
theorem dX0_init_4 : decode cX0_init 4 = .ok (.aload_n 0, 1) := by decide +kernel
theorem dX0_init_5 : decode cX0_init 5 = .ok (.iconst 4, 1) := by decide +kernel
theorem dX0_init_6 : decode cX0_init 6 = .ok (.anewarray 9, 3) := by decide +kernel
theorem dX0_init_9 : decode cX0_init 9 = .ok (.putfield 11, 3) := by decide +kernel
theorem dX0_init_12 : decode cX0_init 12 = .ok (.iconst 0, 1) := by decide +kernel
theorem dX0_init_13 : decode cX0_init 13 = .ok (.istore_n 1, 1) := by decide +kernel
theorem dX0_init_14 : decode cX0_init 14 = .ok (.iload_n 1, 1) := by decide +kernel
theorem dX0_init_15 : decode cX0_init 15 = .ok (.aload_n 0, 1) := by decide +kernel
theorem dX0_init_16 : decode cX0_init 16 = .ok (.getfield 11, 3) := by decide +kernel
theorem dX0_init_19 : decode cX0_init 19 = .ok (.arraylength, 1) := by decide +kernel
theorem dX0_init_20 : decode cX0_init 20 = .ok (.if_icmp .ge 22, 3) := by decide +kernel
theorem dX0_init_23 : decode cX0_init 23 = .ok (.aload_n 0, 1) := by decide +kernel
theorem dX0_init_24 : decode cX0_init 24 = .ok (.getfield 11, 3) := by decide +kernel
theorem dX0_init_27 : decode cX0_init 27 = .ok (.iload_n 1, 1) := by decide +kernel
theorem dX0_init_28 : decode cX0_init 28 = .ok (.new 9, 3) := by decide +kernel
theorem dX0_init_31 : decode cX0_init 31 = .ok (.dup, 1) := by decide +kernel
theorem dX0_init_32 : decode cX0_init 32 = .ok (.invokespecial 17, 3) := by decide +kernel
theorem dX0_init_35 : decode cX0_init 35 = .ok (.aastore, 1) := by decide +kernel
theorem dX0_init_36 : decode cX0_init 36 = .ok (.iinc 1 1, 3) := by decide +kernel
theorem dX0_init_39 : decode cX0_init 39 = .ok (.goto (-25), 3) := by decide +kernel
theorem dX0_init_42 : decode cX0_init 42 = .ok (.return_, 1) := by decide +kernel
set_option maxRecDepth 20000 in
theorem ggX0_save_X0_dropOldest : GoodIn wsX0_save wsX0_dropOldest := goodIn_r _ [7, 2, 1, 8, 9, 10, 6, 11, 45, 46] (by decide +kernel) (by decide +kernel)
set_option maxRecDepth 20000 in
theorem gX0_save_X0_dropOldest : GoodIn wsX0_save (wsV RX0 22 RX0 yX0_dropOldest wsX0_dropOldest) := goodIn_app (goodIn_of _ (by decide +kernel)) ggX0_save_X0_dropOldest
set_option maxRecDepth 20000 in
theorem ggX0_save_X0_stateAt : GoodIn wsX0_save wsX0_stateAt := goodIn_r _ [11, 2, 45, 46] (by decide +kernel) (by decide +kernel)
set_option maxRecDepth 20000 in
theorem gX0_save_X0_stateAt : GoodIn wsX0_save (wsV RX0 25 RX0 yX0_stateAt wsX0_stateAt) := goodIn_app (goodIn_of _ (by decide +kernel)) ggX0_save_X0_stateAt
set_option maxRecDepth 20000 in
theorem ggX0_save_X2_copyFrom : GoodIn wsX0_save wsX2_copyFrom := goodIn_r _ [16, 17, 18, 19, 20, 21, 22, 23, 24, 25, 26, 27, 28, 29, 30, 31, 32, 33, 34, 35, 36, 37, 38, 39, 40, 41, 42, 43, 44, 47, 48, 49, 50, 51, 52, 53, 54, 55, 56, 57, 58, 59] (by decide +kernel) (by decide +kernel)
set_option maxRecDepth 20000 in
theorem gX0_save_X2_copyFrom : GoodIn wsX0_save (wsV RX0 29 RX2 yX2_copyFrom wsX2_copyFrom) := goodIn_app (goodIn_of _ (by decide +kernel)) ggX0_save_X2_copyFrom
theorem dX0_save_0 : decode cX0_save 0 = .ok (.aload_n 0, 1) := by decide +kernel
theorem dX0_save_1 : decode cX0_save 1 = .ok (.getfield 18, 3) := by decide +kernel
theorem dX0_save_4 : decode cX0_save 4 = .ok (.aload_n 0, 1) := by decide +kernel
theorem dX0_save_5 : decode cX0_save 5 = .ok (.getfield 11, 3) := by decide +kernel
theorem dX0_save_8 : decode cX0_save 8 = .ok (.arraylength, 1) := by decide +kernel
theorem dX0_save_9 : decode cX0_save 9 = .ok (.if_icmp .lt 7, 3) := by decide +kernel
theorem dX0_save_12 : decode cX0_save 12 = .ok (.aload_n 0, 1) := by decide +kernel
theorem dX0_save_13 : decode cX0_save 13 = .ok (.invokevirtual 22, 3) := by decide +kernel
theorem dX0_save_16 : decode cX0_save 16 = .ok (.aload_n 0, 1) := by decide +kernel
theorem dX0_save_17 : decode cX0_save 17 = .ok (.aload_n 0, 1) := by decide +kernel
theorem dX0_save_18 : decode cX0_save 18 = .ok (.getfield 18, 3) := by decide +kernel
theorem dX0_save_21 : decode cX0_save 21 = .ok (.invokevirtual 25, 3) := by decide +kernel
theorem dX0_save_24 : decode cX0_save 24 = .ok (.astore_n 2, 1) := by decide +kernel
theorem dX0_save_25 : decode cX0_save 25 = .ok (.aload_n 2, 1) := by decide +kernel
theorem dX0_save_26 : decode cX0_save 26 = .ok (.ifnull 18, 3) := by decide +kernel
theorem dX0_save_29 : decode cX0_save 29 = .ok (.aload_n 2, 1) := by decide +kernel
theorem dX0_save_30 : decode cX0_save 30 = .ok (.aload_n 1, 1) := by decide +kernel
theorem dX0_save_31 : decode cX0_save 31 = .ok (.invokevirtual 29, 3) := by decide +kernel
theorem dX0_save_34 : decode cX0_save 34 = .ok (.aload_n 0, 1) := by decide +kernel
theorem dX0_save_35 : decode cX0_save 35 = .ok (.dup, 1) := by decide +kernel
theorem dX0_save_36 : decode cX0_save 36 = .ok (.getfield 18, 3) := by decide +kernel
theorem dX0_save_39 : decode cX0_save 39 = .ok (.iconst 1, 1) := by decide +kernel
theorem dX0_save_40 : decode cX0_save 40 = .ok (.iadd, 1) := by decide +kernel
theorem dX0_save_41 : decode cX0_save 41 = .ok (.putfield 18, 3) := by decide +kernel
theorem dX0_save_44 : decode cX0_save 44 = .ok (.return_, 1) := by decide +kernel
set_option maxRecDepth 20000 in
theorem ggX0_restore_X0_stateAt : GoodIn wsX0_restore wsX0_stateAt := goodIn_r _ [6, 7, 41, 42] (by decide +kernel) (by decide +kernel)
set_option maxRecDepth 20000 in
theorem gX0_restore_X0_stateAt : GoodIn wsX0_restore (wsV RX0 25 RX0 yX0_stateAt wsX0_stateAt) := goodIn_app (goodIn_of _ (by decide +kernel)) ggX0_restore_X0_stateAt
set_option maxRecDepth 20000 in
theorem ggX0_restore_X2_copyFrom : GoodIn wsX0_restore wsX2_copyFrom := goodIn_r _ [12, 13, 14, 15, 16, 17, 18, 19, 20, 21, 22, 23, 24, 25, 26, 27, 28, 29, 30, 31, 32, 33, 34, 35, 36, 37, 38, 39, 40, 43, 44, 45, 46, 47, 48, 49, 50, 51, 52, 53, 54, 55] (by decide +kernel) (by decide +kernel)
set_option maxRecDepth 20000 in
theorem gX0_restore_X2_copyFrom : GoodIn wsX0_restore (wsV RX0 29 RX2 yX2_copyFrom wsX2_copyFrom) := goodIn_app (goodIn_of _ (by decide +kernel)) ggX0_restore_X2_copyFrom
theorem dX0_restore_0 : decode cX0_restore 0 = .ok (.aload_n 0, 1) := by decide +kernel
theorem dX0_restore_1 : decode cX0_restore 1 = .ok (.aload_n 0, 1) := by decide +kernel
theorem dX0_restore_2 : decode cX0_restore 2 = .ok (.getfield 18, 3) := by decide +kernel
theorem dX0_restore_5 : decode cX0_restore 5 = .ok (.iconst 1, 1) := by decide +kernel
theorem dX0_restore_6 : decode cX0_restore 6 = .ok (.isub, 1) := by decide +kernel
theorem dX0_restore_7 : decode cX0_restore 7 = .ok (.invokevirtual 25, 3) := by decide +kernel
theorem dX0_restore_10 : decode cX0_restore 10 = .ok (.astore_n 2, 1) := by decide +kernel
theorem dX0_restore_11 : decode cX0_restore 11 = .ok (.aload_n 2, 1) := by decide +kernel
theorem dX0_restore_12 : decode cX0_restore 12 = .ok (.ifnull 18, 3) := by decide +kernel
theorem dX0_restore_15 : decode cX0_restore 15 = .ok (.aload_n 1, 1) := by decide +kernel
theorem dX0_restore_16 : decode cX0_restore 16 = .ok (.aload_n 2, 1) := by decide +kernel
theorem dX0_restore_17 : decode cX0_restore 17 = .ok (.invokevirtual 29, 3) := by decide +kernel
theorem dX0_restore_20 : decode cX0_restore 20 = .ok (.aload_n 0, 1) := by decide +kernel
theorem dX0_restore_21 : decode cX0_restore 21 = .ok (.dup, 1) := by decide +kernel
theorem dX0_restore_22 : decode cX0_restore 22 = .ok (.getfield 18, 3) := by decide +kernel
theorem dX0_restore_25 : decode cX0_restore 25 = .ok (.iconst 1, 1) := by decide +kernel
theorem dX0_restore_26 : decode cX0_restore 26 = .ok (.isub, 1) := by decide +kernel
theorem dX0_restore_27 : decode cX0_restore 27 = .ok (.putfield 18, 3) := by decide +kernel
theorem dX0_restore_30 : decode cX0_restore 30 = .ok (.return_, 1) := by decide +kernel
theorem dX0_stateAt_0 : decode cX0_stateAt 0 = .ok (.iload_n 1, 1) := by decide +kernel
theorem dX0_stateAt_1 : decode cX0_stateAt 1 = .ok (.ifCond .lt 21, 3) := by decide +kernel
theorem dX0_stateAt_4 : decode cX0_stateAt 4 = .ok (.iload_n 1, 1) := by decide +kernel
theorem dX0_stateAt_5 : decode cX0_stateAt 5 = .ok (.aload_n 0, 1) := by decide +kernel
theorem dX0_stateAt_6 : decode cX0_stateAt 6 = .ok (.getfield 11, 3) := by decide +kernel
theorem dX0_stateAt_9 : decode cX0_stateAt 9 = .ok (.arraylength, 1) := by decide +kernel
theorem dX0_stateAt_10 : decode cX0_stateAt 10 = .ok (.if_icmp .ge 12, 3) := by decide +kernel
theorem dX0_stateAt_13 : decode cX0_stateAt 13 = .ok (.aload_n 0, 1) := by decide +kernel
theorem dX0_stateAt_14 : decode cX0_stateAt 14 = .ok (.getfield 11, 3) := by decide +kernel
theorem dX0_stateAt_17 : decode cX0_stateAt 17 = .ok (.iload_n 1, 1) := by decide +kernel
theorem dX0_stateAt_18 : decode cX0_stateAt 18 = .ok (.aaload, 1) := by decide +kernel
theorem dX0_stateAt_19 : decode cX0_stateAt 19 = .ok (.goto 4, 3) := by decide +kernel
theorem dX0_stateAt_22 : decode cX0_stateAt 22 = .ok (.aconst_null, 1) := by decide +kernel
theorem dX0_stateAt_23 : decode cX0_stateAt 23 = .ok (.areturn, 1) := by decide +kernel
set_option maxRecDepth 20000 in
theorem ggX0_dropOldest_X0_stateAt : GoodIn wsX0_dropOldest wsX0_stateAt := goodIn_r _ [7, 1, 8, 9] (by decide +kernel) (by decide +kernel)
set_option maxRecDepth 20000 in
theorem gX0_dropOldest_X0_stateAt : GoodIn wsX0_dropOldest (wsV RX0 25 RX0 yX0_stateAt wsX0_stateAt) := goodIn_app (goodIn_of _ (by decide +kernel)) ggX0_dropOldest_X0_stateAt
theorem dX0_dropOldest_0 : decode cX0_dropOldest 0 = .ok (.aload_n 0, 1) := by decide +kernel
theorem dX0_dropOldest_1 : decode cX0_dropOldest 1 = .ok (.iconst 0, 1) := by decide +kernel
theorem dX0_dropOldest_2 : decode cX0_dropOldest 2 = .ok (.invokevirtual 25, 3) := by decide +kernel
theorem dX0_dropOldest_5 : decode cX0_dropOldest 5 = .ok (.astore_n 1, 1) := by decide +kernel
theorem dX0_dropOldest_6 : decode cX0_dropOldest 6 = .ok (.aload_n 0, 1) := by decide +kernel
theorem dX0_dropOldest_7 : decode cX0_dropOldest 7 = .ok (.getfield 11, 3) := by decide +kernel
theorem dX0_dropOldest_10 : decode cX0_dropOldest 10 = .ok (.arraylength, 1) := by decide +kernel
theorem dX0_dropOldest_11 : decode cX0_dropOldest 11 = .ok (.iconst 1, 1) := by decide +kernel
theorem dX0_dropOldest_12 : decode cX0_dropOldest 12 = .ok (.isub, 1) := by decide +kernel
theorem dX0_dropOldest_13 : decode cX0_dropOldest 13 = .ok (.istore_n 2, 1) := by decide +kernel
theorem dX0_dropOldest_14 : decode cX0_dropOldest 14 = .ok (.iconst 0, 1) := by decide +kernel
theorem dX0_dropOldest_15 : decode cX0_dropOldest 15 = .ok (.istore_n 3, 1) := by decide +kernel
theorem dX0_dropOldest_16 : decode cX0_dropOldest 16 = .ok (.iload_n 3, 1) := by decide +kernel
theorem dX0_dropOldest_17 : decode cX0_dropOldest 17 = .ok (.iload_n 2, 1) := by decide +kernel
theorem dX0_dropOldest_18 : decode cX0_dropOldest 18 = .ok (.if_icmp .ge 23, 3) := by decide +kernel
theorem dX0_dropOldest_21 : decode cX0_dropOldest 21 = .ok (.aload_n 0, 1) := by decide +kernel
theorem dX0_dropOldest_22 : decode cX0_dropOldest 22 = .ok (.getfield 11, 3) := by decide +kernel
theorem dX0_dropOldest_25 : decode cX0_dropOldest 25 = .ok (.iload_n 3, 1) := by decide +kernel
theorem dX0_dropOldest_26 : decode cX0_dropOldest 26 = .ok (.aload_n 0, 1) := by decide +kernel
theorem dX0_dropOldest_27 : decode cX0_dropOldest 27 = .ok (.getfield 11, 3) := by decide +kernel
theorem dX0_dropOldest_30 : decode cX0_dropOldest 30 = .ok (.iload_n 3, 1) := by decide +kernel
theorem dX0_dropOldest_31 : decode cX0_dropOldest 31 = .ok (.iconst 1, 1) := by decide +kernel
theorem dX0_dropOldest_32 : decode cX0_dropOldest 32 = .ok (.iadd, 1) := by decide +kernel
theorem dX0_dropOldest_33 : decode cX0_dropOldest 33 = .ok (.aaload, 1) := by decide +kernel
theorem dX0_dropOldest_34 : decode cX0_dropOldest 34 = .ok (.aastore, 1) := by decide +kernel
theorem dX0_dropOldest_35 : decode cX0_dropOldest 35 = .ok (.iinc 3 1, 3) := by decide +kernel
theorem dX0_dropOldest_38 : decode cX0_dropOldest 38 = .ok (.goto (-22), 3) := by decide +kernel
theorem dX0_dropOldest_41 : decode cX0_dropOldest 41 = .ok (.iload_n 2, 1) := by decide +kernel
theorem dX0_dropOldest_42 : decode cX0_dropOldest 42 = .ok (.ifCond .lt 15, 3) := by decide +kernel
theorem dX0_dropOldest_45 : decode cX0_dropOldest 45 = .ok (.aload_n 0, 1) := by decide +kernel
theorem dX0_dropOldest_46 : decode cX0_dropOldest 46 = .ok (.getfield 11, 3) := by decide +kernel
theorem dX0_dropOldest_49 : decode cX0_dropOldest 49 = .ok (.iload_n 2, 1) := by decide +kernel
theorem dX0_dropOldest_50 : decode cX0_dropOldest 50 = .ok (.aload_n 1, 1) := by decide +kernel
theorem dX0_dropOldest_51 : decode cX0_dropOldest 51 = .ok (.aastore, 1) := by decide +kernel
theorem dX0_dropOldest_52 : decode cX0_dropOldest 52 = .ok (.aload_n 0, 1) := by decide +kernel
theorem dX0_dropOldest_53 : decode cX0_dropOldest 53 = .ok (.iload_n 2, 1) := by decide +kernel
theorem dX0_dropOldest_54 : decode cX0_dropOldest 54 = .ok (.putfield 18, 3) := by decide +kernel
theorem dX0_dropOldest_57 : decode cX0_dropOldest 57 = .ok (.return_, 1) := by decide +kernel
theorem dX1_init_0 : decode cX1_init 0 = .ok (.aload_n 0, 1) := by decide +kernel
theorem dX1_init_1 : decode cX1_init 1 = .ok (.invokespecial 3, 3) := by decide +kernel
theorem dX1_init_4 : decode cX1_init 4 = .ok (.aload_n 0, 1) := by decide +kernel
theorem dX1_init_5 : decode cX1_init 5 = .ok (.bipush 100, 2) := by decide +kernel
theorem dX1_init_7 : decode cX1_init 7 = .ok (.newarray .int, 2) := by decide +kernel
theorem dX1_init_9 : decode cX1_init 9 = .ok (.putfield 9, 3) := by decide +kernel
theorem dX1_init_12 : decode cX1_init 12 = .ok (.aload_n 0, 1) := by decide +kernel
theorem dX1_init_13 : decode cX1_init 13 = .ok (.bipush 20, 2) := by decide +kernel
theorem dX1_init_15 : decode cX1_init 15 = .ok (.newarray .int, 2) := by decide +kernel
theorem dX1_init_17 : decode cX1_init 17 = .ok (.putfield 15, 3) := by decide +kernel
theorem dX1_init_20 : decode cX1_init 20 = .ok (.aload_n 0, 1) := by decide +kernel
theorem dX1_init_21 : decode cX1_init 21 = .ok (.bipush 20, 2) := by decide +kernel
theorem dX1_init_23 : decode cX1_init 23 = .ok (.newarray .int, 2) := by decide +kernel
theorem dX1_init_25 : decode cX1_init 25 = .ok (.putfield 18, 3) := by decide +kernel
theorem dX1_init_28 : decode cX1_init 28 = .ok (.aload_n 0, 1) := by decide +kernel
theorem dX1_init_29 : decode cX1_init 29 = .ok (.bipush 20, 2) := by decide +kernel
theorem dX1_init_31 : decode cX1_init 31 = .ok (.newarray .int, 2) := by decide +kernel
theorem dX1_init_33 : decode cX1_init 33 = .ok (.putfield 21, 3) := by decide +kernel
theorem dX1_init_36 : decode cX1_init 36 = .ok (.return_, 1) := by decide +kernel
set_option maxRecDepth 20000 in
theorem ggX2_init_X3_init : GoodIn wsX2_init wsX3_init := goodIn_r _ [14, 15, 2, 3, 16, 17, 18, 19, 9, 20, 21, 22, 44, 45, 46, 47] (by decide +kernel) (by decide +kernel)
set_option maxRecDepth 20000 in
theorem gX2_init_X3_init : GoodIn wsX2_init (wsX3_init) := ggX2_init_X3_init
set_option maxRecDepth 20000 in
theorem ggX2_init_X2_start : GoodIn wsX2_init wsX2_start := goodIn_r _ [27, 28, 29, 8, 30, 31, 32, 26, 33, 34, 35, 36, 37, 38, 39, 40, 7, 10, 41, 42, 43, 48, 49, 50, 51, 52, 53, 54, 55, 56, 44, 45, 46, 47] (by decide +kernel) (by decide +kernel)
set_option maxRecDepth 20000 in
theorem gX2_init_X2_start : GoodIn wsX2_init (wsV RX2 30 RX2 yX2_start wsX2_start) := goodIn_app (goodIn_of _ (by decide +kernel)) ggX2_init_X2_start
theorem dX2_init_0 : decode cX2_init 0 = .ok (.aload_n 0, 1) := by decide +kernel
theorem dX2_init_1 : decode cX2_init 1 = .ok (.invokespecial 3, 3) := by decide +kernel
theorem dX2_init_4 : decode cX2_init 4 = .ok (.aload_n 0, 1) := by decide +kernel
theorem dX2_init_5 : decode cX2_init 5 = .ok (.new 9, 3) := by decide +kernel
theorem dX2_init_8 : decode cX2_init 8 = .ok (.dup, 1) := by decide +kernel
theorem dX2_init_9 : decode cX2_init 9 = .ok (.bipush 40, 2) := by decide +kernel
theorem dX2_init_11 : decode cX2_init 11 = .ok (.invokespecial 11, 3) := by decide +kernel
theorem dX2_init_14 : decode cX2_init 14 = .ok (.putfield 14, 3) := by decide +kernel
theorem dX2_init_17 : decode cX2_init 17 = .ok (.aload_n 0, 1) := by decide +kernel
theorem dX2_init_18 : decode cX2_init 18 = .ok (.new 9, 3) := by decide +kernel
theorem dX2_init_21 : decode cX2_init 21 = .ok (.dup, 1) := by decide +kernel
theorem dX2_init_22 : decode cX2_init 22 = .ok (.bipush 8, 2) := by decide +kernel
theorem dX2_init_24 : decode cX2_init 24 = .ok (.invokespecial 11, 3) := by decide +kernel
theorem dX2_init_27 : decode cX2_init 27 = .ok (.putfield 20, 3) := by decide +kernel
theorem dX2_init_30 : decode cX2_init 30 = .ok (.aload_n 0, 1) := by decide +kernel
theorem dX2_init_31 : decode cX2_init 31 = .ok (.bipush 33, 2) := by decide +kernel
theorem dX2_init_33 : decode cX2_init 33 = .ok (.newarray .int, 2) := by decide +kernel
theorem dX2_init_35 : decode cX2_init 35 = .ok (.putfield 23, 3) := by decide +kernel
theorem dX2_init_38 : decode cX2_init 38 = .ok (.aload_n 0, 1) := by decide +kernel
theorem dX2_init_39 : decode cX2_init 39 = .ok (.bipush 33, 2) := by decide +kernel
theorem dX2_init_41 : decode cX2_init 41 = .ok (.newarray .int, 2) := by decide +kernel
theorem dX2_init_43 : decode cX2_init 43 = .ok (.putfield 27, 3) := by decide +kernel
theorem dX2_init_46 : decode cX2_init 46 = .ok (.aload_n 0, 1) := by decide +kernel
theorem dX2_init_47 : decode cX2_init 47 = .ok (.bipush 8, 2) := by decide +kernel
theorem dX2_init_49 : decode cX2_init 49 = .ok (.invokevirtual 30, 3) := by decide +kernel
theorem dX2_init_52 : decode cX2_init 52 = .ok (.return_, 1) := by decide +kernel
set_option maxRecDepth 20000 in
theorem ggX2_start_X2_hideCase : GoodIn wsX2_start wsX2_hideCase := goodIn_r _ [8, 9, 10, 11, 21, 22, 23, 24, 25, 26, 27, 28, 29] (by decide +kernel) (by decide +kernel)
set_option maxRecDepth 20000 in
theorem gX2_start_X2_hideCase : GoodIn wsX2_start (wsV RX2 43 RX2 yX2_hideCase wsX2_hideCase) := goodIn_app (goodIn_of _ (by decide +kernel)) ggX2_start_X2_hideCase
set_option maxRecDepth 20000 in
theorem ggX2_start_X2_forgetTold : GoodIn wsX2_start wsX2_forgetTold := goodIn_r _ [15, 16, 17, 18, 19, 20, 21, 22, 23, 24, 25, 26, 27, 28, 29, 30, 31, 32, 33] (by decide +kernel) (by decide +kernel)
set_option maxRecDepth 20000 in
theorem gX2_start_X2_forgetTold : GoodIn wsX2_start (wsV RX2 47 RX2 yX2_forgetTold wsX2_forgetTold) := goodIn_app (goodIn_of _ (by decide +kernel)) ggX2_start_X2_forgetTold
theorem dX2_start_0 : decode cX2_start 0 = .ok (.aload_n 0, 1) := by decide +kernel
theorem dX2_start_1 : decode cX2_start 1 = .ok (.iload_n 1, 1) := by decide +kernel
theorem dX2_start_2 : decode cX2_start 2 = .ok (.putfield 33, 3) := by decide +kernel
theorem dX2_start_5 : decode cX2_start 5 = .ok (.aload_n 0, 1) := by decide +kernel
theorem dX2_start_6 : decode cX2_start 6 = .ok (.iconst 1, 1) := by decide +kernel
theorem dX2_start_7 : decode cX2_start 7 = .ok (.putfield 37, 3) := by decide +kernel
theorem dX2_start_10 : decode cX2_start 10 = .ok (.aload_n 0, 1) := by decide +kernel
theorem dX2_start_11 : decode cX2_start 11 = .ok (.getfield 20, 3) := by decide +kernel
theorem dX2_start_14 : decode cX2_start 14 = .ok (.iconst 0, 1) := by decide +kernel
theorem dX2_start_15 : decode cX2_start 15 = .ok (.putfield 40, 3) := by decide +kernel
theorem dX2_start_18 : decode cX2_start 18 = .ok (.aload_n 0, 1) := by decide +kernel
theorem dX2_start_19 : decode cX2_start 19 = .ok (.iconst (-1), 1) := by decide +kernel
theorem dX2_start_20 : decode cX2_start 20 = .ok (.iconst 0, 1) := by decide +kernel
theorem dX2_start_21 : decode cX2_start 21 = .ok (.invokevirtual 43, 3) := by decide +kernel
theorem dX2_start_24 : decode cX2_start 24 = .ok (.aload_n 0, 1) := by decide +kernel
theorem dX2_start_25 : decode cX2_start 25 = .ok (.invokevirtual 47, 3) := by decide +kernel
theorem dX2_start_28 : decode cX2_start 28 = .ok (.return_, 1) := by decide +kernel
set_option maxRecDepth 20000 in
theorem ggX2_copyFrom_X3_copyFrom : GoodIn wsX2_copyFrom wsX3_copyFrom := goodIn_r _ [13, 14, 15, 16, 17, 18, 19, 20, 21, 22, 23, 24, 25, 26, 27, 28, 38, 39, 40, 41] (by decide +kernel) (by decide +kernel)
set_option maxRecDepth 20000 in
theorem gX2_copyFrom_X3_copyFrom : GoodIn wsX2_copyFrom (wsV RX2 50 RX3 yX3_copyFrom wsX3_copyFrom) := goodIn_app (goodIn_of _ (by decide +kernel)) ggX2_copyFrom_X3_copyFrom
set_option maxRecDepth 20000 in
theorem ggX2_copyFrom_X4_copyRow : GoodIn wsX2_copyFrom wsX4_copyRow := goodIn_r _ [20, 21, 22, 23, 24, 25, 26, 27, 28] (by decide +kernel) (by decide +kernel)
set_option maxRecDepth 20000 in
theorem gX2_copyFrom_X4_copyRow_n54 : GoodIn wsX2_copyFrom (wsX4_copyRow) := ggX2_copyFrom_X4_copyRow
theorem dX2_copyFrom_0 : decode cX2_copyFrom 0 = .ok (.aload_n 0, 1) := by decide +kernel
theorem dX2_copyFrom_1 : decode cX2_copyFrom 1 = .ok (.getfield 14, 3) := by decide +kernel
theorem dX2_copyFrom_4 : decode cX2_copyFrom 4 = .ok (.aload_n 1, 1) := by decide +kernel
theorem dX2_copyFrom_5 : decode cX2_copyFrom 5 = .ok (.getfield 14, 3) := by decide +kernel
theorem dX2_copyFrom_8 : decode cX2_copyFrom 8 = .ok (.invokevirtual 50, 3) := by decide +kernel
theorem dX2_copyFrom_11 : decode cX2_copyFrom 11 = .ok (.aload_n 0, 1) := by decide +kernel
theorem dX2_copyFrom_12 : decode cX2_copyFrom 12 = .ok (.getfield 20, 3) := by decide +kernel
theorem dX2_copyFrom_15 : decode cX2_copyFrom 15 = .ok (.aload_n 1, 1) := by decide +kernel
theorem dX2_copyFrom_16 : decode cX2_copyFrom 16 = .ok (.getfield 20, 3) := by decide +kernel
theorem dX2_copyFrom_19 : decode cX2_copyFrom 19 = .ok (.invokevirtual 50, 3) := by decide +kernel
theorem dX2_copyFrom_22 : decode cX2_copyFrom 22 = .ok (.aload_n 1, 1) := by decide +kernel
theorem dX2_copyFrom_23 : decode cX2_copyFrom 23 = .ok (.getfield 23, 3) := by decide +kernel
theorem dX2_copyFrom_26 : decode cX2_copyFrom 26 = .ok (.aload_n 0, 1) := by decide +kernel
theorem dX2_copyFrom_27 : decode cX2_copyFrom 27 = .ok (.getfield 23, 3) := by decide +kernel
theorem dX2_copyFrom_30 : decode cX2_copyFrom 30 = .ok (.invokestatic 54, 3) := by decide +kernel
theorem dX2_copyFrom_33 : decode cX2_copyFrom 33 = .ok (.aload_n 0, 1) := by decide +kernel
theorem dX2_copyFrom_34 : decode cX2_copyFrom 34 = .ok (.aload_n 1, 1) := by decide +kernel
theorem dX2_copyFrom_35 : decode cX2_copyFrom 35 = .ok (.getfield 33, 3) := by decide +kernel
theorem dX2_copyFrom_38 : decode cX2_copyFrom 38 = .ok (.putfield 33, 3) := by decide +kernel
theorem dX2_copyFrom_41 : decode cX2_copyFrom 41 = .ok (.aload_n 0, 1) := by decide +kernel
theorem dX2_copyFrom_42 : decode cX2_copyFrom 42 = .ok (.aload_n 1, 1) := by decide +kernel
theorem dX2_copyFrom_43 : decode cX2_copyFrom 43 = .ok (.getfield 37, 3) := by decide +kernel
theorem dX2_copyFrom_46 : decode cX2_copyFrom 46 = .ok (.putfield 37, 3) := by decide +kernel
theorem dX2_copyFrom_49 : decode cX2_copyFrom 49 = .ok (.aload_n 0, 1) := by decide +kernel
theorem dX2_copyFrom_50 : decode cX2_copyFrom 50 = .ok (.aload_n 1, 1) := by decide +kernel
theorem dX2_copyFrom_51 : decode cX2_copyFrom 51 = .ok (.getfield 58, 3) := by decide +kernel
theorem dX2_copyFrom_54 : decode cX2_copyFrom 54 = .ok (.putfield 58, 3) := by decide +kernel
theorem dX2_copyFrom_57 : decode cX2_copyFrom 57 = .ok (.aload_n 0, 1) := by decide +kernel
theorem dX2_copyFrom_58 : decode cX2_copyFrom 58 = .ok (.aload_n 1, 1) := by decide +kernel
theorem dX2_copyFrom_59 : decode cX2_copyFrom 59 = .ok (.getfield 61, 3) := by decide +kernel
theorem dX2_copyFrom_62 : decode cX2_copyFrom 62 = .ok (.putfield 61, 3) := by decide +kernel
theorem dX2_copyFrom_65 : decode cX2_copyFrom 65 = .ok (.aload_n 0, 1) := by decide +kernel
theorem dX2_copyFrom_66 : decode cX2_copyFrom 66 = .ok (.aload_n 1, 1) := by decide +kernel
theorem dX2_copyFrom_67 : decode cX2_copyFrom 67 = .ok (.getfield 64, 3) := by decide +kernel
theorem dX2_copyFrom_70 : decode cX2_copyFrom 70 = .ok (.putfield 64, 3) := by decide +kernel
theorem dX2_copyFrom_73 : decode cX2_copyFrom 73 = .ok (.return_, 1) := by decide +kernel
theorem dX2_cases_0 : decode cX2_cases 0 = .ok (.iconst 2, 1) := by decide +kernel
theorem dX2_cases_1 : decode cX2_cases 1 = .ok (.aload_n 0, 1) := by decide +kernel
theorem dX2_cases_2 : decode cX2_cases 2 = .ok (.getfield 33, 3) := by decide +kernel
theorem dX2_cases_5 : decode cX2_cases 5 = .ok (.imul, 1) := by decide +kernel
theorem dX2_cases_6 : decode cX2_cases 6 = .ok (.iconst 1, 1) := by decide +kernel
theorem dX2_cases_7 : decode cX2_cases 7 = .ok (.iadd, 1) := by decide +kernel
theorem dX2_cases_8 : decode cX2_cases 8 = .ok (.ireturn, 1) := by decide +kernel
set_option maxRecDepth 20000 in
theorem ggX2_isCase_X2_cases : GoodIn wsX2_isCase wsX2_cases := goodIn_r _ [5, 6, 7, 8, 9, 10, 11, 12, 13, 14, 15] (by decide +kernel) (by decide +kernel)
set_option maxRecDepth 20000 in
theorem gX2_isCase_X2_cases : GoodIn wsX2_isCase (wsV RX2 67 RX2 yX2_cases wsX2_cases) := goodIn_app (goodIn_of _ (by decide +kernel)) ggX2_isCase_X2_cases
theorem dX2_isCase_0 : decode cX2_isCase 0 = .ok (.iload_n 1, 1) := by decide +kernel
theorem dX2_isCase_1 : decode cX2_isCase 1 = .ok (.ifCond .lt 15, 3) := by decide +kernel
theorem dX2_isCase_4 : decode cX2_isCase 4 = .ok (.iload_n 1, 1) := by decide +kernel
theorem dX2_isCase_5 : decode cX2_isCase 5 = .ok (.aload_n 0, 1) := by decide +kernel
theorem dX2_isCase_6 : decode cX2_isCase 6 = .ok (.invokevirtual 67, 3) := by decide +kernel
theorem dX2_isCase_9 : decode cX2_isCase 9 = .ok (.if_icmp .ge 7, 3) := by decide +kernel
theorem dX2_isCase_12 : decode cX2_isCase 12 = .ok (.iconst 1, 1) := by decide +kernel
theorem dX2_isCase_13 : decode cX2_isCase 13 = .ok (.goto 4, 3) := by decide +kernel
theorem dX2_isCase_16 : decode cX2_isCase 16 = .ok (.iconst 0, 1) := by decide +kernel
theorem dX2_isCase_17 : decode cX2_isCase 17 = .ok (.ireturn, 1) := by decide +kernel
set_option maxRecDepth 20000 in
theorem ggX2_isWeighing_J6_bitCount_0f7a4 : GoodIn wsX2_isWeighing wsJ6_bitCount_0f7a4 := goodIn_r _ [5, 6, 7, 8] (by decide +kernel) (by decide +kernel)
set_option maxRecDepth 20000 in
theorem gX2_isWeighing_J6_bitCount_0f7a4 : GoodIn wsX2_isWeighing (va_wsS RX2 71 yJ6_bitCount_0f7a4 wsJ6_bitCount_0f7a4) := goodIn_app (goodIn_of _ (by decide +kernel)) ggX2_isWeighing_J6_bitCount_0f7a4
theorem dX2_isWeighing_0 : decode cX2_isWeighing 0 = .ok (.iload_n 1, 1) := by decide +kernel
theorem dX2_isWeighing_1 : decode cX2_isWeighing 1 = .ok (.ifCond .eq 35, 3) := by decide +kernel
theorem dX2_isWeighing_4 : decode cX2_isWeighing 4 = .ok (.iload_n 1, 1) := by decide +kernel
theorem dX2_isWeighing_5 : decode cX2_isWeighing 5 = .ok (.iload_n 2, 1) := by decide +kernel
theorem dX2_isWeighing_6 : decode cX2_isWeighing 6 = .ok (.iand, 1) := by decide +kernel
theorem dX2_isWeighing_7 : decode cX2_isWeighing 7 = .ok (.ifCond .ne 29, 3) := by decide +kernel
theorem dX2_isWeighing_10 : decode cX2_isWeighing 10 = .ok (.iload_n 1, 1) := by decide +kernel
theorem dX2_isWeighing_11 : decode cX2_isWeighing 11 = .ok (.iload_n 2, 1) := by decide +kernel
theorem dX2_isWeighing_12 : decode cX2_isWeighing 12 = .ok (.ior, 1) := by decide +kernel
theorem dX2_isWeighing_13 : decode cX2_isWeighing 13 = .ok (.aload_n 0, 1) := by decide +kernel
theorem dX2_isWeighing_14 : decode cX2_isWeighing 14 = .ok (.getfield 33, 3) := by decide +kernel
theorem dX2_isWeighing_17 : decode cX2_isWeighing 17 = .ok (.iushr, 1) := by decide +kernel
theorem dX2_isWeighing_18 : decode cX2_isWeighing 18 = .ok (.ifCond .ne 18, 3) := by decide +kernel
theorem dX2_isWeighing_21 : decode cX2_isWeighing 21 = .ok (.iload_n 1, 1) := by decide +kernel
theorem dX2_isWeighing_22 : decode cX2_isWeighing 22 = .ok (.invokestatic 71, 3) := by decide +kernel
theorem dX2_isWeighing_25 : decode cX2_isWeighing 25 = .ok (.iload_n 2, 1) := by decide +kernel
theorem dX2_isWeighing_26 : decode cX2_isWeighing 26 = .ok (.invokestatic 71, 3) := by decide +kernel
theorem dX2_isWeighing_29 : decode cX2_isWeighing 29 = .ok (.if_icmp .ne 7, 3) := by decide +kernel
theorem dX2_isWeighing_32 : decode cX2_isWeighing 32 = .ok (.iconst 1, 1) := by decide +kernel
theorem dX2_isWeighing_33 : decode cX2_isWeighing 33 = .ok (.goto 4, 3) := by decide +kernel
theorem dX2_isWeighing_36 : decode cX2_isWeighing 36 = .ok (.iconst 0, 1) := by decide +kernel
theorem dX2_isWeighing_37 : decode cX2_isWeighing 37 = .ok (.ireturn, 1) := by decide +kernel
theorem dX2_canLearn_0 : decode cX2_canLearn 0 = .ok (.aload_n 0, 1) := by decide +kernel
theorem dX2_canLearn_1 : decode cX2_canLearn 1 = .ok (.getfield 14, 3) := by decide +kernel
theorem dX2_canLearn_4 : decode cX2_canLearn 4 = .ok (.getfield 40, 3) := by decide +kernel
theorem dX2_canLearn_7 : decode cX2_canLearn 7 = .ok (.bipush 40, 2) := by decide +kernel
theorem dX2_canLearn_9 : decode cX2_canLearn 9 = .ok (.if_icmp .ge 7, 3) := by decide +kernel
theorem dX2_canLearn_12 : decode cX2_canLearn 12 = .ok (.iconst 1, 1) := by decide +kernel
theorem dX2_canLearn_13 : decode cX2_canLearn 13 = .ok (.goto 4, 3) := by decide +kernel
theorem dX2_canLearn_16 : decode cX2_canLearn 16 = .ok (.iconst 0, 1) := by decide +kernel
theorem dX2_canLearn_17 : decode cX2_canLearn 17 = .ok (.ireturn, 1) := by decide +kernel
set_option maxRecDepth 20000 in
theorem ggX2_learn_X3_write : GoodIn wsX2_learn wsX3_write := goodIn_r _ [7, 8, 9, 10, 11, 12, 13, 14, 41, 42, 43, 44] (by decide +kernel) (by decide +kernel)
set_option maxRecDepth 20000 in
theorem gX2_learn_X3_write : GoodIn wsX2_learn (wsV RX2 77 RX3 yX3_write wsX3_write) := goodIn_app (goodIn_of _ (by decide +kernel)) ggX2_learn_X3_write
set_option maxRecDepth 20000 in
theorem ggX2_learn_X2_cases : GoodIn wsX2_learn wsX2_cases := goodIn_r _ [19, 20, 32, 33, 34, 35, 36, 37, 38, 39, 40] (by decide +kernel) (by decide +kernel)
set_option maxRecDepth 20000 in
theorem gX2_learn_X2_cases : GoodIn wsX2_learn (wsV RX2 67 RX2 yX2_cases wsX2_cases) := goodIn_app (goodIn_of _ (by decide +kernel)) ggX2_learn_X2_cases
set_option maxRecDepth 20000 in
theorem ggX2_learn_X2_liesIfTold : GoodIn wsX2_learn wsX2_liesIfTold := goodIn_r _ [24, 2, 25, 13, 26, 27, 28, 29, 30, 31, 32, 33, 34, 35, 36, 37, 38, 39, 40] (by decide +kernel) (by decide +kernel)
set_option maxRecDepth 20000 in
theorem gX2_learn_X2_liesIfTold : GoodIn wsX2_learn (wsV RX2 81 RX2 yX2_liesIfTold wsX2_liesIfTold) := goodIn_app (goodIn_of _ (by decide +kernel)) ggX2_learn_X2_liesIfTold
set_option maxRecDepth 20000 in
theorem ggX2_learn_X4_put : GoodIn wsX2_learn wsX4_put := goodIn_r _ [14] (by decide +kernel) (by decide +kernel)
set_option maxRecDepth 20000 in
theorem gX2_learn_X4_put_n85 : GoodIn wsX2_learn (wsX4_put) := ggX2_learn_X4_put
theorem dX2_learn_0 : decode cX2_learn 0 = .ok (.aload_n 0, 1) := by decide +kernel
theorem dX2_learn_1 : decode cX2_learn 1 = .ok (.getfield 14, 3) := by decide +kernel
theorem dX2_learn_4 : decode cX2_learn 4 = .ok (.iload_n 1, 1) := by decide +kernel
theorem dX2_learn_5 : decode cX2_learn 5 = .ok (.iload_n 2, 1) := by decide +kernel
theorem dX2_learn_6 : decode cX2_learn 6 = .ok (.iload_n 3, 1) := by decide +kernel
theorem dX2_learn_7 : decode cX2_learn 7 = .ok (.invokevirtual 77, 3) := by decide +kernel
theorem dX2_learn_10 : decode cX2_learn 10 = .ok (.iconst 0, 1) := by decide +kernel
theorem dX2_learn_11 : decode cX2_learn 11 = .ok (.istore 4, 2) := by decide +kernel
theorem dX2_learn_13 : decode cX2_learn 13 = .ok (.iload 4, 2) := by decide +kernel
theorem dX2_learn_15 : decode cX2_learn 15 = .ok (.aload_n 0, 1) := by decide +kernel
theorem dX2_learn_16 : decode cX2_learn 16 = .ok (.invokevirtual 67, 3) := by decide +kernel
theorem dX2_learn_19 : decode cX2_learn 19 = .ok (.if_icmp .ge 27, 3) := by decide +kernel
theorem dX2_learn_22 : decode cX2_learn 22 = .ok (.aload_n 0, 1) := by decide +kernel
theorem dX2_learn_23 : decode cX2_learn 23 = .ok (.getfield 23, 3) := by decide +kernel
theorem dX2_learn_26 : decode cX2_learn 26 = .ok (.iload 4, 2) := by decide +kernel
theorem dX2_learn_28 : decode cX2_learn 28 = .ok (.aload_n 0, 1) := by decide +kernel
theorem dX2_learn_29 : decode cX2_learn 29 = .ok (.iload 4, 2) := by decide +kernel
theorem dX2_learn_31 : decode cX2_learn 31 = .ok (.iload_n 1, 1) := by decide +kernel
theorem dX2_learn_32 : decode cX2_learn 32 = .ok (.iload_n 2, 1) := by decide +kernel
theorem dX2_learn_33 : decode cX2_learn 33 = .ok (.iload_n 3, 1) := by decide +kernel
theorem dX2_learn_34 : decode cX2_learn 34 = .ok (.invokevirtual 81, 3) := by decide +kernel
theorem dX2_learn_37 : decode cX2_learn 37 = .ok (.invokestatic 85, 3) := by decide +kernel
theorem dX2_learn_40 : decode cX2_learn 40 = .ok (.iinc 4 1, 3) := by decide +kernel
theorem dX2_learn_43 : decode cX2_learn 43 = .ok (.goto (-30), 3) := by decide +kernel
theorem dX2_learn_46 : decode cX2_learn 46 = .ok (.return_, 1) := by decide +kernel
set_option maxRecDepth 20000 in
theorem ggX2_liesIfTold_X4_at : GoodIn wsX2_liesIfTold wsX4_at := goodIn_r _ [4] (by decide +kernel) (by decide +kernel)
set_option maxRecDepth 20000 in
theorem gX2_liesIfTold_X4_at_n89 : GoodIn wsX2_liesIfTold (wsX4_at) := ggX2_liesIfTold_X4_at
set_option maxRecDepth 20000 in
theorem ggX2_liesIfTold_X4_trueAnswer : GoodIn wsX2_liesIfTold wsX4_trueAnswer := goodIn_r _ [6, 7, 8, 3, 9] (by decide +kernel) (by decide +kernel)
set_option maxRecDepth 20000 in
theorem gX2_liesIfTold_X4_trueAnswer_n93 : GoodIn wsX2_liesIfTold (wsX4_trueAnswer) := ggX2_liesIfTold_X4_trueAnswer
theorem dX2_liesIfTold_0 : decode cX2_liesIfTold 0 = .ok (.aload_n 0, 1) := by decide +kernel
theorem dX2_liesIfTold_1 : decode cX2_liesIfTold 1 = .ok (.getfield 23, 3) := by decide +kernel
theorem dX2_liesIfTold_4 : decode cX2_liesIfTold 4 = .ok (.iload_n 1, 1) := by decide +kernel
theorem dX2_liesIfTold_5 : decode cX2_liesIfTold 5 = .ok (.invokestatic 89, 3) := by decide +kernel
theorem dX2_liesIfTold_8 : decode cX2_liesIfTold 8 = .ok (.istore 5, 2) := by decide +kernel
theorem dX2_liesIfTold_10 : decode cX2_liesIfTold 10 = .ok (.iload_n 1, 1) := by decide +kernel
theorem dX2_liesIfTold_11 : decode cX2_liesIfTold 11 = .ok (.iload_n 2, 1) := by decide +kernel
theorem dX2_liesIfTold_12 : decode cX2_liesIfTold 12 = .ok (.iload_n 3, 1) := by decide +kernel
theorem dX2_liesIfTold_13 : decode cX2_liesIfTold 13 = .ok (.invokestatic 93, 3) := by decide +kernel
theorem dX2_liesIfTold_16 : decode cX2_liesIfTold 16 = .ok (.iload 4, 2) := by decide +kernel
theorem dX2_liesIfTold_18 : decode cX2_liesIfTold 18 = .ok (.if_icmp .ne 8, 3) := by decide +kernel
theorem dX2_liesIfTold_21 : decode cX2_liesIfTold 21 = .ok (.iload 5, 2) := by decide +kernel
theorem dX2_liesIfTold_23 : decode cX2_liesIfTold 23 = .ok (.goto 7, 3) := by decide +kernel
theorem dX2_liesIfTold_26 : decode cX2_liesIfTold 26 = .ok (.iload 5, 2) := by decide +kernel
theorem dX2_liesIfTold_28 : decode cX2_liesIfTold 28 = .ok (.iconst 1, 1) := by decide +kernel
theorem dX2_liesIfTold_29 : decode cX2_liesIfTold 29 = .ok (.iadd, 1) := by decide +kernel
theorem dX2_liesIfTold_30 : decode cX2_liesIfTold 30 = .ok (.ireturn, 1) := by decide +kernel
set_option maxRecDepth 20000 in
theorem ggX2_forgetTold_X4_put : GoodIn wsX2_forgetTold wsX4_put := goodIn_r _ [5] (by decide +kernel) (by decide +kernel)
set_option maxRecDepth 20000 in
theorem gX2_forgetTold_X4_put_n85 : GoodIn wsX2_forgetTold (wsX4_put) := ggX2_forgetTold_X4_put
theorem dX2_forgetTold_0 : decode cX2_forgetTold 0 = .ok (.aload_n 0, 1) := by decide +kernel
theorem dX2_forgetTold_1 : decode cX2_forgetTold 1 = .ok (.getfield 14, 3) := by decide +kernel
theorem dX2_forgetTold_4 : decode cX2_forgetTold 4 = .ok (.iconst 0, 1) := by decide +kernel
theorem dX2_forgetTold_5 : decode cX2_forgetTold 5 = .ok (.putfield 40, 3) := by decide +kernel
theorem dX2_forgetTold_8 : decode cX2_forgetTold 8 = .ok (.iconst 0, 1) := by decide +kernel
theorem dX2_forgetTold_9 : decode cX2_forgetTold 9 = .ok (.istore_n 1, 1) := by decide +kernel
theorem dX2_forgetTold_10 : decode cX2_forgetTold 10 = .ok (.iload_n 1, 1) := by decide +kernel
theorem dX2_forgetTold_11 : decode cX2_forgetTold 11 = .ok (.bipush 33, 2) := by decide +kernel
theorem dX2_forgetTold_13 : decode cX2_forgetTold 13 = .ok (.if_icmp .ge 18, 3) := by decide +kernel
theorem dX2_forgetTold_16 : decode cX2_forgetTold 16 = .ok (.aload_n 0, 1) := by decide +kernel
theorem dX2_forgetTold_17 : decode cX2_forgetTold 17 = .ok (.getfield 23, 3) := by decide +kernel
theorem dX2_forgetTold_20 : decode cX2_forgetTold 20 = .ok (.iload_n 1, 1) := by decide +kernel
theorem dX2_forgetTold_21 : decode cX2_forgetTold 21 = .ok (.iconst 0, 1) := by decide +kernel
theorem dX2_forgetTold_22 : decode cX2_forgetTold 22 = .ok (.invokestatic 85, 3) := by decide +kernel
theorem dX2_forgetTold_25 : decode cX2_forgetTold 25 = .ok (.iinc 1 1, 3) := by decide +kernel
theorem dX2_forgetTold_28 : decode cX2_forgetTold 28 = .ok (.goto (-18), 3) := by decide +kernel
theorem dX2_forgetTold_31 : decode cX2_forgetTold 31 = .ok (.return_, 1) := by decide +kernel
theorem dX2_hideCase_0 : decode cX2_hideCase 0 = .ok (.aload_n 0, 1) := by decide +kernel
theorem dX2_hideCase_1 : decode cX2_hideCase 1 = .ok (.iload_n 1, 1) := by decide +kernel
theorem dX2_hideCase_2 : decode cX2_hideCase 2 = .ok (.putfield 58, 3) := by decide +kernel
theorem dX2_hideCase_5 : decode cX2_hideCase 5 = .ok (.aload_n 0, 1) := by decide +kernel
theorem dX2_hideCase_6 : decode cX2_hideCase 6 = .ok (.iload_n 2, 1) := by decide +kernel
theorem dX2_hideCase_7 : decode cX2_hideCase 7 = .ok (.putfield 61, 3) := by decide +kernel
theorem dX2_hideCase_10 : decode cX2_hideCase 10 = .ok (.aload_n 0, 1) := by decide +kernel
theorem dX2_hideCase_11 : decode cX2_hideCase 11 = .ok (.iconst 0, 1) := by decide +kernel
theorem dX2_hideCase_12 : decode cX2_hideCase 12 = .ok (.putfield 64, 3) := by decide +kernel
theorem dX2_hideCase_15 : decode cX2_hideCase 15 = .ok (.return_, 1) := by decide +kernel
set_option maxRecDepth 20000 in
theorem ggX2_canReply_X2_canLearn : GoodIn wsX2_canReply wsX2_canLearn := goodIn_r _ [7, 8, 9, 10, 11, 12, 13, 14, 15, 16, 17, 18, 19, 20, 21] (by decide +kernel) (by decide +kernel)
set_option maxRecDepth 20000 in
theorem gX2_canReply_X2_canLearn : GoodIn wsX2_canReply (wsV RX2 97 RX2 yX2_canLearn wsX2_canLearn) := goodIn_app (goodIn_of _ (by decide +kernel)) ggX2_canReply_X2_canLearn
theorem dX2_canReply_0 : decode cX2_canReply 0 = .ok (.aload_n 0, 1) := by decide +kernel
theorem dX2_canReply_1 : decode cX2_canReply 1 = .ok (.getfield 58, 3) := by decide +kernel
theorem dX2_canReply_4 : decode cX2_canReply 4 = .ok (.iconst (-1), 1) := by decide +kernel
theorem dX2_canReply_5 : decode cX2_canReply 5 = .ok (.if_icmp .eq 23, 3) := by decide +kernel
theorem dX2_canReply_8 : decode cX2_canReply 8 = .ok (.aload_n 0, 1) := by decide +kernel
theorem dX2_canReply_9 : decode cX2_canReply 9 = .ok (.invokevirtual 97, 3) := by decide +kernel
theorem dX2_canReply_12 : decode cX2_canReply 12 = .ok (.ifCond .eq 16, 3) := by decide +kernel
theorem dX2_canReply_15 : decode cX2_canReply 15 = .ok (.aload_n 0, 1) := by decide +kernel
theorem dX2_canReply_16 : decode cX2_canReply 16 = .ok (.getfield 64, 3) := by decide +kernel
theorem dX2_canReply_19 : decode cX2_canReply 19 = .ok (.bipush 30, 2) := by decide +kernel
theorem dX2_canReply_21 : decode cX2_canReply 21 = .ok (.if_icmp .ge 7, 3) := by decide +kernel
theorem dX2_canReply_24 : decode cX2_canReply 24 = .ok (.iconst 1, 1) := by decide +kernel
theorem dX2_canReply_25 : decode cX2_canReply 25 = .ok (.goto 4, 3) := by decide +kernel
theorem dX2_canReply_28 : decode cX2_canReply 28 = .ok (.iconst 0, 1) := by decide +kernel
theorem dX2_canReply_29 : decode cX2_canReply 29 = .ok (.ireturn, 1) := by decide +kernel
set_option maxRecDepth 20000 in
theorem ggX2_reply_X4_trueAnswer : GoodIn wsX2_reply wsX4_trueAnswer := goodIn_r _ [6, 7, 8, 5, 9] (by decide +kernel) (by decide +kernel)
set_option maxRecDepth 20000 in
theorem gX2_reply_X4_trueAnswer_n93 : GoodIn wsX2_reply (wsX4_trueAnswer) := ggX2_reply_X4_trueAnswer
set_option maxRecDepth 20000 in
theorem ggX2_reply_X2_learn : GoodIn wsX2_reply wsX2_learn := goodIn_r _ [14, 15, 16, 17, 18, 19, 20, 21, 22, 23, 24, 25, 26, 5, 27, 28, 29, 30, 13, 31, 32, 33, 34, 35, 36, 37, 38, 4, 6, 7, 8, 9, 39, 40, 41, 42, 43, 44, 45, 46, 47, 48, 49, 50, 51] (by decide +kernel) (by decide +kernel)
set_option maxRecDepth 20000 in
theorem gX2_reply_X2_learn : GoodIn wsX2_reply (wsV RX2 101 RX2 yX2_learn wsX2_learn) := goodIn_app (goodIn_of _ (by decide +kernel)) ggX2_reply_X2_learn
theorem dX2_reply_0 : decode cX2_reply 0 = .ok (.aload_n 0, 1) := by decide +kernel
theorem dX2_reply_1 : decode cX2_reply 1 = .ok (.getfield 58, 3) := by decide +kernel
theorem dX2_reply_4 : decode cX2_reply 4 = .ok (.iload_n 1, 1) := by decide +kernel
theorem dX2_reply_5 : decode cX2_reply 5 = .ok (.iload_n 2, 1) := by decide +kernel
theorem dX2_reply_6 : decode cX2_reply 6 = .ok (.invokestatic 93, 3) := by decide +kernel
theorem dX2_reply_9 : decode cX2_reply 9 = .ok (.istore_n 3, 1) := by decide +kernel
theorem dX2_reply_10 : decode cX2_reply 10 = .ok (.aload_n 0, 1) := by decide +kernel
theorem dX2_reply_11 : decode cX2_reply 11 = .ok (.getfield 61, 3) := by decide +kernel
theorem dX2_reply_14 : decode cX2_reply 14 = .ok (.aload_n 0, 1) := by decide +kernel
theorem dX2_reply_15 : decode cX2_reply 15 = .ok (.getfield 64, 3) := by decide +kernel
theorem dX2_reply_18 : decode cX2_reply 18 = .ok (.iushr, 1) := by decide +kernel
theorem dX2_reply_19 : decode cX2_reply 19 = .ok (.iconst 1, 1) := by decide +kernel
theorem dX2_reply_20 : decode cX2_reply 20 = .ok (.iand, 1) := by decide +kernel
theorem dX2_reply_21 : decode cX2_reply 21 = .ok (.iconst 1, 1) := by decide +kernel
theorem dX2_reply_22 : decode cX2_reply 22 = .ok (.if_icmp .ne 16, 3) := by decide +kernel
theorem dX2_reply_25 : decode cX2_reply 25 = .ok (.iload_n 3, 1) := by decide +kernel
theorem dX2_reply_26 : decode cX2_reply 26 = .ok (.iconst 2, 1) := by decide +kernel
theorem dX2_reply_27 : decode cX2_reply 27 = .ok (.if_icmp .ne 7, 3) := by decide +kernel
theorem dX2_reply_30 : decode cX2_reply 30 = .ok (.iconst 0, 1) := by decide +kernel
theorem dX2_reply_31 : decode cX2_reply 31 = .ok (.goto 6, 3) := by decide +kernel
theorem dX2_reply_34 : decode cX2_reply 34 = .ok (.iload_n 3, 1) := by decide +kernel
theorem dX2_reply_35 : decode cX2_reply 35 = .ok (.iconst 1, 1) := by decide +kernel
theorem dX2_reply_36 : decode cX2_reply 36 = .ok (.iadd, 1) := by decide +kernel
theorem dX2_reply_37 : decode cX2_reply 37 = .ok (.istore_n 3, 1) := by decide +kernel
theorem dX2_reply_38 : decode cX2_reply 38 = .ok (.aload_n 0, 1) := by decide +kernel
theorem dX2_reply_39 : decode cX2_reply 39 = .ok (.dup, 1) := by decide +kernel
theorem dX2_reply_40 : decode cX2_reply 40 = .ok (.getfield 64, 3) := by decide +kernel
theorem dX2_reply_43 : decode cX2_reply 43 = .ok (.iconst 1, 1) := by decide +kernel
theorem dX2_reply_44 : decode cX2_reply 44 = .ok (.iadd, 1) := by decide +kernel
theorem dX2_reply_45 : decode cX2_reply 45 = .ok (.putfield 64, 3) := by decide +kernel
theorem dX2_reply_48 : decode cX2_reply 48 = .ok (.aload_n 0, 1) := by decide +kernel
theorem dX2_reply_49 : decode cX2_reply 49 = .ok (.iload_n 1, 1) := by decide +kernel
theorem dX2_reply_50 : decode cX2_reply 50 = .ok (.iload_n 2, 1) := by decide +kernel
theorem dX2_reply_51 : decode cX2_reply 51 = .ok (.iload_n 3, 1) := by decide +kernel
theorem dX2_reply_52 : decode cX2_reply 52 = .ok (.invokevirtual 101, 3) := by decide +kernel
theorem dX2_reply_55 : decode cX2_reply 55 = .ok (.iload_n 3, 1) := by decide +kernel
theorem dX2_reply_56 : decode cX2_reply 56 = .ok (.ireturn, 1) := by decide +kernel
set_option maxRecDepth 20000 in
theorem ggX2_isLeft_X4_at : GoodIn wsX2_isLeft wsX4_at := goodIn_r _ [5] (by decide +kernel) (by decide +kernel)
set_option maxRecDepth 20000 in
theorem gX2_isLeft_X4_at_n89 : GoodIn wsX2_isLeft (wsX4_at) := ggX2_isLeft_X4_at
theorem dX2_isLeft_0 : decode cX2_isLeft 0 = .ok (.aload_n 0, 1) := by decide +kernel
theorem dX2_isLeft_1 : decode cX2_isLeft 1 = .ok (.getfield 23, 3) := by decide +kernel
theorem dX2_isLeft_4 : decode cX2_isLeft 4 = .ok (.iload_n 1, 1) := by decide +kernel
theorem dX2_isLeft_5 : decode cX2_isLeft 5 = .ok (.invokestatic 89, 3) := by decide +kernel
theorem dX2_isLeft_8 : decode cX2_isLeft 8 = .ok (.aload_n 0, 1) := by decide +kernel
theorem dX2_isLeft_9 : decode cX2_isLeft 9 = .ok (.getfield 37, 3) := by decide +kernel
theorem dX2_isLeft_12 : decode cX2_isLeft 12 = .ok (.if_icmp .gt 7, 3) := by decide +kernel
theorem dX2_isLeft_15 : decode cX2_isLeft 15 = .ok (.iconst 1, 1) := by decide +kernel
theorem dX2_isLeft_16 : decode cX2_isLeft 16 = .ok (.goto 4, 3) := by decide +kernel
theorem dX2_isLeft_19 : decode cX2_isLeft 19 = .ok (.iconst 0, 1) := by decide +kernel
theorem dX2_isLeft_20 : decode cX2_isLeft 20 = .ok (.ireturn, 1) := by decide +kernel
set_option maxRecDepth 20000 in
theorem ggX2_countLeft_X2_cases : GoodIn wsX2_countLeft wsX2_cases := goodIn_r _ [5, 6, 16, 17, 18, 19, 20, 21, 22, 23, 24] (by decide +kernel) (by decide +kernel)
set_option maxRecDepth 20000 in
theorem gX2_countLeft_X2_cases : GoodIn wsX2_countLeft (wsV RX2 67 RX2 yX2_cases wsX2_cases) := goodIn_app (goodIn_of _ (by decide +kernel)) ggX2_countLeft_X2_cases
set_option maxRecDepth 20000 in
theorem ggX2_countLeft_X2_isLeft : GoodIn wsX2_countLeft wsX2_isLeft := goodIn_r _ [10, 11, 12, 13, 14, 15, 16, 17, 18, 19, 20, 21, 22, 23, 24] (by decide +kernel) (by decide +kernel)
set_option maxRecDepth 20000 in
theorem gX2_countLeft_X2_isLeft : GoodIn wsX2_countLeft (wsV RX2 125 RX2 yX2_isLeft wsX2_isLeft) := goodIn_app (goodIn_of _ (by decide +kernel)) ggX2_countLeft_X2_isLeft
theorem dX2_countLeft_0 : decode cX2_countLeft 0 = .ok (.iconst 0, 1) := by decide +kernel
theorem dX2_countLeft_1 : decode cX2_countLeft 1 = .ok (.istore_n 1, 1) := by decide +kernel
theorem dX2_countLeft_2 : decode cX2_countLeft 2 = .ok (.iconst 0, 1) := by decide +kernel
theorem dX2_countLeft_3 : decode cX2_countLeft 3 = .ok (.istore_n 2, 1) := by decide +kernel
theorem dX2_countLeft_4 : decode cX2_countLeft 4 = .ok (.iload_n 2, 1) := by decide +kernel
theorem dX2_countLeft_5 : decode cX2_countLeft 5 = .ok (.aload_n 0, 1) := by decide +kernel
theorem dX2_countLeft_6 : decode cX2_countLeft 6 = .ok (.invokevirtual 67, 3) := by decide +kernel
theorem dX2_countLeft_9 : decode cX2_countLeft 9 = .ok (.if_icmp .ge 20, 3) := by decide +kernel
theorem dX2_countLeft_12 : decode cX2_countLeft 12 = .ok (.aload_n 0, 1) := by decide +kernel
theorem dX2_countLeft_13 : decode cX2_countLeft 13 = .ok (.iload_n 2, 1) := by decide +kernel
theorem dX2_countLeft_14 : decode cX2_countLeft 14 = .ok (.invokevirtual 125, 3) := by decide +kernel
theorem dX2_countLeft_17 : decode cX2_countLeft 17 = .ok (.ifCond .eq 6, 3) := by decide +kernel
theorem dX2_countLeft_20 : decode cX2_countLeft 20 = .ok (.iinc 1 1, 3) := by decide +kernel
theorem dX2_countLeft_23 : decode cX2_countLeft 23 = .ok (.iinc 2 1, 3) := by decide +kernel
theorem dX2_countLeft_26 : decode cX2_countLeft 26 = .ok (.goto (-22), 3) := by decide +kernel
theorem dX2_countLeft_29 : decode cX2_countLeft 29 = .ok (.iload_n 1, 1) := by decide +kernel
theorem dX2_countLeft_30 : decode cX2_countLeft 30 = .ok (.ireturn, 1) := by decide +kernel
set_option maxRecDepth 20000 in
theorem ggX2_falseCoins_X2_cases : GoodIn wsX2_falseCoins wsX2_cases := goodIn_r _ [5, 6, 18, 19, 20, 21, 22, 23, 24, 25, 26] (by decide +kernel) (by decide +kernel)
set_option maxRecDepth 20000 in
theorem gX2_falseCoins_X2_cases : GoodIn wsX2_falseCoins (wsV RX2 67 RX2 yX2_cases wsX2_cases) := goodIn_app (goodIn_of _ (by decide +kernel)) ggX2_falseCoins_X2_cases
set_option maxRecDepth 20000 in
theorem ggX2_falseCoins_X2_isLeft : GoodIn wsX2_falseCoins wsX2_isLeft := goodIn_r _ [10, 11, 12, 13, 14, 15, 18, 19, 20, 21, 22, 23, 24, 25, 26] (by decide +kernel) (by decide +kernel)
set_option maxRecDepth 20000 in
theorem gX2_falseCoins_X2_isLeft : GoodIn wsX2_falseCoins (wsV RX2 125 RX2 yX2_isLeft wsX2_isLeft) := goodIn_app (goodIn_of _ (by decide +kernel)) ggX2_falseCoins_X2_isLeft
set_option maxRecDepth 20000 in
theorem ggX2_falseCoins_X4_coinBit : GoodIn wsX2_falseCoins wsX4_coinBit := goodIn_r _ [17] (by decide +kernel) (by decide +kernel)
set_option maxRecDepth 20000 in
theorem gX2_falseCoins_X4_coinBit_n128 : GoodIn wsX2_falseCoins (wsX4_coinBit) := ggX2_falseCoins_X4_coinBit
theorem dX2_falseCoins_0 : decode cX2_falseCoins 0 = .ok (.iconst 0, 1) := by decide +kernel
theorem dX2_falseCoins_1 : decode cX2_falseCoins 1 = .ok (.istore_n 1, 1) := by decide +kernel
theorem dX2_falseCoins_2 : decode cX2_falseCoins 2 = .ok (.iconst 0, 1) := by decide +kernel
theorem dX2_falseCoins_3 : decode cX2_falseCoins 3 = .ok (.istore_n 2, 1) := by decide +kernel
theorem dX2_falseCoins_4 : decode cX2_falseCoins 4 = .ok (.iload_n 2, 1) := by decide +kernel
theorem dX2_falseCoins_5 : decode cX2_falseCoins 5 = .ok (.aload_n 0, 1) := by decide +kernel
theorem dX2_falseCoins_6 : decode cX2_falseCoins 6 = .ok (.invokevirtual 67, 3) := by decide +kernel
theorem dX2_falseCoins_9 : decode cX2_falseCoins 9 = .ok (.if_icmp .ge 24, 3) := by decide +kernel
theorem dX2_falseCoins_12 : decode cX2_falseCoins 12 = .ok (.aload_n 0, 1) := by decide +kernel
theorem dX2_falseCoins_13 : decode cX2_falseCoins 13 = .ok (.iload_n 2, 1) := by decide +kernel
theorem dX2_falseCoins_14 : decode cX2_falseCoins 14 = .ok (.invokevirtual 125, 3) := by decide +kernel
theorem dX2_falseCoins_17 : decode cX2_falseCoins 17 = .ok (.ifCond .eq 10, 3) := by decide +kernel
theorem dX2_falseCoins_20 : decode cX2_falseCoins 20 = .ok (.iload_n 1, 1) := by decide +kernel
theorem dX2_falseCoins_21 : decode cX2_falseCoins 21 = .ok (.iload_n 2, 1) := by decide +kernel
theorem dX2_falseCoins_22 : decode cX2_falseCoins 22 = .ok (.invokestatic 128, 3) := by decide +kernel
theorem dX2_falseCoins_25 : decode cX2_falseCoins 25 = .ok (.ior, 1) := by decide +kernel
theorem dX2_falseCoins_26 : decode cX2_falseCoins 26 = .ok (.istore_n 1, 1) := by decide +kernel
theorem dX2_falseCoins_27 : decode cX2_falseCoins 27 = .ok (.iinc 2 1, 3) := by decide +kernel
theorem dX2_falseCoins_30 : decode cX2_falseCoins 30 = .ok (.goto (-26), 3) := by decide +kernel
theorem dX2_falseCoins_33 : decode cX2_falseCoins 33 = .ok (.iload_n 1, 1) := by decide +kernel
theorem dX2_falseCoins_34 : decode cX2_falseCoins 34 = .ok (.ireturn, 1) := by decide +kernel
set_option maxRecDepth 20000 in
theorem ggX2_number_X2_countLeft : GoodIn wsX2_number wsX2_countLeft := goodIn_r _ [11, 12, 13, 14, 10, 15, 1, 16, 17, 18, 19, 20, 2, 21, 22, 23, 30, 31, 32, 33, 34, 35, 36, 37, 38] (by decide +kernel) (by decide +kernel)
set_option maxRecDepth 20000 in
theorem gX2_number_X2_countLeft : GoodIn wsX2_number (wsV RX2 131 RX2 yX2_countLeft wsX2_countLeft) := goodIn_app (goodIn_of _ (by decide +kernel)) ggX2_number_X2_countLeft
set_option maxRecDepth 20000 in
theorem ggX2_number_X2_falseCoins : GoodIn wsX2_number wsX2_falseCoins := goodIn_r _ [27, 12, 13, 14, 10, 15, 1, 16, 17, 18, 19, 20, 2, 21, 22, 23, 28, 29, 30, 31, 32, 33, 34, 35, 36, 37, 38] (by decide +kernel) (by decide +kernel)
set_option maxRecDepth 20000 in
theorem gX2_number_X2_falseCoins : GoodIn wsX2_number (wsV RX2 134 RX2 yX2_falseCoins wsX2_falseCoins) := goodIn_app (goodIn_of _ (by decide +kernel)) ggX2_number_X2_falseCoins
set_option maxRecDepth 20000 in
theorem ggX2_number_X2_isLeft : GoodIn wsX2_number wsX2_isLeft := goodIn_r _ [19, 20, 2, 21, 22, 23, 30, 31, 32, 33, 34, 35, 36, 37, 38] (by decide +kernel) (by decide +kernel)
set_option maxRecDepth 20000 in
theorem gX2_number_X2_isLeft : GoodIn wsX2_number (wsV RX2 125 RX2 yX2_isLeft wsX2_isLeft) := goodIn_app (goodIn_of _ (by decide +kernel)) ggX2_number_X2_isLeft
theorem dX2_number_0 : decode cX2_number 0 = .ok (.iload_n 1, 1) := by decide +kernel
theorem dX2_number_1 : decode cX2_number 1 = .ok (.tableswitch 93 0 7 #[47, 52, 57, 65, 70, 78, 83, 88], 47) := by decide +kernel
theorem dX2_number_48 : decode cX2_number 48 = .ok (.aload_n 0, 1) := by decide +kernel
theorem dX2_number_49 : decode cX2_number 49 = .ok (.getfield 33, 3) := by decide +kernel
theorem dX2_number_52 : decode cX2_number 52 = .ok (.ireturn, 1) := by decide +kernel
theorem dX2_number_53 : decode cX2_number 53 = .ok (.aload_n 0, 1) := by decide +kernel
theorem dX2_number_54 : decode cX2_number 54 = .ok (.getfield 37, 3) := by decide +kernel
theorem dX2_number_57 : decode cX2_number 57 = .ok (.ireturn, 1) := by decide +kernel
theorem dX2_number_58 : decode cX2_number 58 = .ok (.aload_n 0, 1) := by decide +kernel
theorem dX2_number_59 : decode cX2_number 59 = .ok (.getfield 14, 3) := by decide +kernel
theorem dX2_number_62 : decode cX2_number 62 = .ok (.getfield 40, 3) := by decide +kernel
theorem dX2_number_65 : decode cX2_number 65 = .ok (.ireturn, 1) := by decide +kernel
theorem dX2_number_66 : decode cX2_number 66 = .ok (.aload_n 0, 1) := by decide +kernel
theorem dX2_number_67 : decode cX2_number 67 = .ok (.invokevirtual 131, 3) := by decide +kernel
theorem dX2_number_70 : decode cX2_number 70 = .ok (.ireturn, 1) := by decide +kernel
theorem dX2_number_71 : decode cX2_number 71 = .ok (.aload_n 0, 1) := by decide +kernel
theorem dX2_number_72 : decode cX2_number 72 = .ok (.getfield 20, 3) := by decide +kernel
theorem dX2_number_75 : decode cX2_number 75 = .ok (.getfield 40, 3) := by decide +kernel
theorem dX2_number_78 : decode cX2_number 78 = .ok (.ireturn, 1) := by decide +kernel
theorem dX2_number_79 : decode cX2_number 79 = .ok (.aload_n 0, 1) := by decide +kernel
theorem dX2_number_80 : decode cX2_number 80 = .ok (.getfield 58, 3) := by decide +kernel
theorem dX2_number_83 : decode cX2_number 83 = .ok (.ireturn, 1) := by decide +kernel
theorem dX2_number_84 : decode cX2_number 84 = .ok (.aload_n 0, 1) := by decide +kernel
theorem dX2_number_85 : decode cX2_number 85 = .ok (.getfield 64, 3) := by decide +kernel
theorem dX2_number_88 : decode cX2_number 88 = .ok (.ireturn, 1) := by decide +kernel
theorem dX2_number_89 : decode cX2_number 89 = .ok (.aload_n 0, 1) := by decide +kernel
theorem dX2_number_90 : decode cX2_number 90 = .ok (.invokevirtual 134, 3) := by decide +kernel
theorem dX2_number_93 : decode cX2_number 93 = .ok (.ireturn, 1) := by decide +kernel
theorem dX2_number_94 : decode cX2_number 94 = .ok (.aload_n 0, 1) := by decide +kernel
theorem dX2_number_95 : decode cX2_number 95 = .ok (.iconst 0, 1) := by decide +kernel
theorem dX2_number_96 : decode cX2_number 96 = .ok (.invokevirtual 125, 3) := by decide +kernel
theorem dX2_number_99 : decode cX2_number 99 = .ok (.ifCond .eq 7, 3) := by decide +kernel
theorem dX2_number_102 : decode cX2_number 102 = .ok (.iconst 1, 1) := by decide +kernel
theorem dX2_number_103 : decode cX2_number 103 = .ok (.goto 4, 3) := by decide +kernel
theorem dX2_number_106 : decode cX2_number 106 = .ok (.iconst 0, 1) := by decide +kernel
theorem dX2_number_107 : decode cX2_number 107 = .ok (.ireturn, 1) := by decide +kernel
set_option maxRecDepth 20000 in
theorem ggX2_weightAhead_X2_cases : GoodIn wsX2_weightAhead wsX2_cases := goodIn_r _ [6, 7, 22, 23, 24, 25, 26, 27, 28, 29, 30] (by decide +kernel) (by decide +kernel)
set_option maxRecDepth 20000 in
theorem gX2_weightAhead_X2_cases : GoodIn wsX2_weightAhead (wsV RX2 67 RX2 yX2_cases wsX2_cases) := goodIn_app (goodIn_of _ (by decide +kernel)) ggX2_weightAhead_X2_cases
set_option maxRecDepth 20000 in
theorem ggX2_weightAhead_X4_at : GoodIn wsX2_weightAhead wsX4_at := goodIn_r _ [10] (by decide +kernel) (by decide +kernel)
set_option maxRecDepth 20000 in
theorem gX2_weightAhead_X4_at_n89 : GoodIn wsX2_weightAhead (wsX4_at) := ggX2_weightAhead_X4_at
set_option maxRecDepth 20000 in
theorem ggX2_weightAhead_X2_volumeLeft : GoodIn wsX2_weightAhead wsX2_volumeLeft := goodIn_r _ [14, 15, 16, 9, 17, 18, 19, 20, 21, 22, 23, 24, 25, 26, 27, 28, 29, 30] (by decide +kernel) (by decide +kernel)
set_option maxRecDepth 20000 in
theorem gX2_weightAhead_X2_volumeLeft : GoodIn wsX2_weightAhead (wsV RX2 137 RX2 yX2_volumeLeft wsX2_volumeLeft) := goodIn_app (goodIn_of _ (by decide +kernel)) ggX2_weightAhead_X2_volumeLeft
theorem dX2_weightAhead_0 : decode cX2_weightAhead 0 = .ok (.lconst 0, 1) := by decide +kernel
theorem dX2_weightAhead_1 : decode cX2_weightAhead 1 = .ok (.lstore_n 2, 1) := by decide +kernel
theorem dX2_weightAhead_2 : decode cX2_weightAhead 2 = .ok (.iconst 0, 1) := by decide +kernel
theorem dX2_weightAhead_3 : decode cX2_weightAhead 3 = .ok (.istore 4, 2) := by decide +kernel
theorem dX2_weightAhead_5 : decode cX2_weightAhead 5 = .ok (.iload 4, 2) := by decide +kernel
theorem dX2_weightAhead_7 : decode cX2_weightAhead 7 = .ok (.aload_n 0, 1) := by decide +kernel
theorem dX2_weightAhead_8 : decode cX2_weightAhead 8 = .ok (.invokevirtual 67, 3) := by decide +kernel
theorem dX2_weightAhead_11 : decode cX2_weightAhead 11 = .ok (.if_icmp .ge 26, 3) := by decide +kernel
theorem dX2_weightAhead_14 : decode cX2_weightAhead 14 = .ok (.lload_n 2, 1) := by decide +kernel
theorem dX2_weightAhead_15 : decode cX2_weightAhead 15 = .ok (.aload_n 0, 1) := by decide +kernel
theorem dX2_weightAhead_16 : decode cX2_weightAhead 16 = .ok (.aload_n 0, 1) := by decide +kernel
theorem dX2_weightAhead_17 : decode cX2_weightAhead 17 = .ok (.getfield 23, 3) := by decide +kernel
theorem dX2_weightAhead_20 : decode cX2_weightAhead 20 = .ok (.iload 4, 2) := by decide +kernel
theorem dX2_weightAhead_22 : decode cX2_weightAhead 22 = .ok (.invokestatic 89, 3) := by decide +kernel
theorem dX2_weightAhead_25 : decode cX2_weightAhead 25 = .ok (.iload_n 1, 1) := by decide +kernel
theorem dX2_weightAhead_26 : decode cX2_weightAhead 26 = .ok (.invokevirtual 137, 3) := by decide +kernel
theorem dX2_weightAhead_29 : decode cX2_weightAhead 29 = .ok (.ladd, 1) := by decide +kernel
theorem dX2_weightAhead_30 : decode cX2_weightAhead 30 = .ok (.lstore_n 2, 1) := by decide +kernel
theorem dX2_weightAhead_31 : decode cX2_weightAhead 31 = .ok (.iinc 4 1, 3) := by decide +kernel
theorem dX2_weightAhead_34 : decode cX2_weightAhead 34 = .ok (.goto (-29), 3) := by decide +kernel
theorem dX2_weightAhead_37 : decode cX2_weightAhead 37 = .ok (.lload_n 2, 1) := by decide +kernel
theorem dX2_weightAhead_38 : decode cX2_weightAhead 38 = .ok (.lreturn, 1) := by decide +kernel
set_option maxRecDepth 20000 in
theorem ggX2_weightIfTold_X2_cases : GoodIn wsX2_weightIfTold wsX2_cases := goodIn_r _ [5, 6, 31, 32, 33, 34, 35, 36, 37, 38, 39] (by decide +kernel) (by decide +kernel)
set_option maxRecDepth 20000 in
theorem gX2_weightIfTold_X2_cases : GoodIn wsX2_weightIfTold (wsV RX2 67 RX2 yX2_cases wsX2_cases) := goodIn_app (goodIn_of _ (by decide +kernel)) ggX2_weightIfTold_X2_cases
set_option maxRecDepth 20000 in
theorem ggX2_weightIfTold_X2_liesIfTold : GoodIn wsX2_weightIfTold wsX2_liesIfTold := goodIn_r _ [10, 11, 12, 13, 14, 15, 16, 17, 18, 19, 31, 32, 33, 34, 35, 36, 37, 38, 39] (by decide +kernel) (by decide +kernel)
set_option maxRecDepth 20000 in
theorem gX2_weightIfTold_X2_liesIfTold : GoodIn wsX2_weightIfTold (wsV RX2 81 RX2 yX2_liesIfTold wsX2_liesIfTold) := goodIn_app (goodIn_of _ (by decide +kernel)) ggX2_weightIfTold_X2_liesIfTold
set_option maxRecDepth 20000 in
theorem ggX2_weightIfTold_X2_volumeLeft : GoodIn wsX2_weightIfTold wsX2_volumeLeft := goodIn_r _ [23, 24, 25, 13, 26, 27, 28, 29, 30, 31, 32, 33, 34, 35, 36, 37, 38, 39] (by decide +kernel) (by decide +kernel)
set_option maxRecDepth 20000 in
theorem gX2_weightIfTold_X2_volumeLeft : GoodIn wsX2_weightIfTold (wsV RX2 137 RX2 yX2_volumeLeft wsX2_volumeLeft) := goodIn_app (goodIn_of _ (by decide +kernel)) ggX2_weightIfTold_X2_volumeLeft
theorem dX2_weightIfTold_0 : decode cX2_weightIfTold 0 = .ok (.lconst 0, 1) := by decide +kernel
theorem dX2_weightIfTold_1 : decode cX2_weightIfTold 1 = .ok (.lstore 5, 2) := by decide +kernel
theorem dX2_weightIfTold_3 : decode cX2_weightIfTold 3 = .ok (.iconst 0, 1) := by decide +kernel
theorem dX2_weightIfTold_4 : decode cX2_weightIfTold 4 = .ok (.istore 7, 2) := by decide +kernel
theorem dX2_weightIfTold_6 : decode cX2_weightIfTold 6 = .ok (.iload 7, 2) := by decide +kernel
theorem dX2_weightIfTold_8 : decode cX2_weightIfTold 8 = .ok (.aload_n 0, 1) := by decide +kernel
theorem dX2_weightIfTold_9 : decode cX2_weightIfTold 9 = .ok (.invokevirtual 67, 3) := by decide +kernel
theorem dX2_weightIfTold_12 : decode cX2_weightIfTold 12 = .ok (.if_icmp .ge 29, 3) := by decide +kernel
theorem dX2_weightIfTold_15 : decode cX2_weightIfTold 15 = .ok (.lload 5, 2) := by decide +kernel
theorem dX2_weightIfTold_17 : decode cX2_weightIfTold 17 = .ok (.aload_n 0, 1) := by decide +kernel
theorem dX2_weightIfTold_18 : decode cX2_weightIfTold 18 = .ok (.aload_n 0, 1) := by decide +kernel
theorem dX2_weightIfTold_19 : decode cX2_weightIfTold 19 = .ok (.iload 7, 2) := by decide +kernel
theorem dX2_weightIfTold_21 : decode cX2_weightIfTold 21 = .ok (.iload_n 1, 1) := by decide +kernel
theorem dX2_weightIfTold_22 : decode cX2_weightIfTold 22 = .ok (.iload_n 2, 1) := by decide +kernel
end
section
theorem dX2_weightIfTold_23 : decode cX2_weightIfTold 23 = .ok (.iload_n 3, 1) := by decide +kernel
theorem dX2_weightIfTold_24 : decode cX2_weightIfTold 24 = .ok (.invokevirtual 81, 3) := by decide +kernel
theorem dX2_weightIfTold_27 : decode cX2_weightIfTold 27 = .ok (.iload 4, 2) := by decide +kernel
theorem dX2_weightIfTold_29 : decode cX2_weightIfTold 29 = .ok (.invokevirtual 137, 3) := by decide +kernel
theorem dX2_weightIfTold_32 : decode cX2_weightIfTold 32 = .ok (.ladd, 1) := by decide +kernel
theorem dX2_weightIfTold_33 : decode cX2_weightIfTold 33 = .ok (.lstore 5, 2) := by decide +kernel
theorem dX2_weightIfTold_35 : decode cX2_weightIfTold 35 = .ok (.iinc 7 1, 3) := by decide +kernel
theorem dX2_weightIfTold_38 : decode cX2_weightIfTold 38 = .ok (.goto (-32), 3) := by decide +kernel
theorem dX2_weightIfTold_41 : decode cX2_weightIfTold 41 = .ok (.lload 5, 2) := by decide +kernel
theorem dX2_weightIfTold_43 : decode cX2_weightIfTold 43 = .ok (.lreturn, 1) := by decide +kernel
set_option maxRecDepth 20000 in
theorem ggX2_volumeLeft_X4_volume : GoodIn wsX2_volumeLeft wsX4_volume := goodIn_r _ [4, 5, 6, 7, 8] (by decide +kernel) (by decide +kernel)
set_option maxRecDepth 20000 in
theorem gX2_volumeLeft_X4_volume_n141 : GoodIn wsX2_volumeLeft (wsX4_volume) := ggX2_volumeLeft_X4_volume
theorem dX2_volumeLeft_0 : decode cX2_volumeLeft 0 = .ok (.iload_n 1, 1) := by decide +kernel
theorem dX2_volumeLeft_1 : decode cX2_volumeLeft 1 = .ok (.aload_n 0, 1) := by decide +kernel
theorem dX2_volumeLeft_2 : decode cX2_volumeLeft 2 = .ok (.getfield 37, 3) := by decide +kernel
theorem dX2_volumeLeft_5 : decode cX2_volumeLeft 5 = .ok (.if_icmp .le 7, 3) := by decide +kernel
theorem dX2_volumeLeft_8 : decode cX2_volumeLeft 8 = .ok (.lconst 0, 1) := by decide +kernel
theorem dX2_volumeLeft_9 : decode cX2_volumeLeft 9 = .ok (.goto 13, 3) := by decide +kernel
theorem dX2_volumeLeft_12 : decode cX2_volumeLeft 12 = .ok (.iload_n 2, 1) := by decide +kernel
theorem dX2_volumeLeft_13 : decode cX2_volumeLeft 13 = .ok (.aload_n 0, 1) := by decide +kernel
theorem dX2_volumeLeft_14 : decode cX2_volumeLeft 14 = .ok (.getfield 37, 3) := by decide +kernel
theorem dX2_volumeLeft_17 : decode cX2_volumeLeft 17 = .ok (.iload_n 1, 1) := by decide +kernel
theorem dX2_volumeLeft_18 : decode cX2_volumeLeft 18 = .ok (.isub, 1) := by decide +kernel
theorem dX2_volumeLeft_19 : decode cX2_volumeLeft 19 = .ok (.invokestatic 141, 3) := by decide +kernel
theorem dX2_volumeLeft_22 : decode cX2_volumeLeft 22 = .ok (.lreturn, 1) := by decide +kernel
theorem dX3_init_0 : decode cX3_init 0 = .ok (.aload_n 0, 1) := by decide +kernel
theorem dX3_init_1 : decode cX3_init 1 = .ok (.invokespecial 3, 3) := by decide +kernel
theorem dX3_init_4 : decode cX3_init 4 = .ok (.iload_n 1, 1) := by decide +kernel
theorem dX3_init_5 : decode cX3_init 5 = .ok (.iconst 0, 1) := by decide +kernel
theorem dX3_init_6 : decode cX3_init 6 = .ok (.invokestatic 9, 3) := by decide +kernel
theorem dX3_init_9 : decode cX3_init 9 = .ok (.istore_n 2, 1) := by decide +kernel
theorem dX3_init_10 : decode cX3_init 10 = .ok (.aload_n 0, 1) := by decide +kernel
theorem dX3_init_11 : decode cX3_init 11 = .ok (.iload_n 2, 1) := by decide +kernel
theorem dX3_init_12 : decode cX3_init 12 = .ok (.newarray .int, 2) := by decide +kernel
theorem dX3_init_14 : decode cX3_init 14 = .ok (.putfield 15, 3) := by decide +kernel
theorem dX3_init_17 : decode cX3_init 17 = .ok (.aload_n 0, 1) := by decide +kernel
theorem dX3_init_18 : decode cX3_init 18 = .ok (.iload_n 2, 1) := by decide +kernel
theorem dX3_init_19 : decode cX3_init 19 = .ok (.newarray .int, 2) := by decide +kernel
theorem dX3_init_21 : decode cX3_init 21 = .ok (.putfield 21, 3) := by decide +kernel
theorem dX3_init_24 : decode cX3_init 24 = .ok (.aload_n 0, 1) := by decide +kernel
theorem dX3_init_25 : decode cX3_init 25 = .ok (.iload_n 2, 1) := by decide +kernel
theorem dX3_init_26 : decode cX3_init 26 = .ok (.newarray .int, 2) := by decide +kernel
theorem dX3_init_28 : decode cX3_init 28 = .ok (.putfield 24, 3) := by decide +kernel
theorem dX3_init_31 : decode cX3_init 31 = .ok (.return_, 1) := by decide +kernel
set_option maxRecDepth 20000 in
theorem ggX3_copyFrom_X4_copyRow : GoodIn wsX3_copyFrom wsX4_copyRow := goodIn_r _ [7, 8, 9, 10, 11, 12, 13, 14, 15] (by decide +kernel) (by decide +kernel)
set_option maxRecDepth 20000 in
theorem gX3_copyFrom_X4_copyRow_n27 : GoodIn wsX3_copyFrom (wsX4_copyRow) := ggX3_copyFrom_X4_copyRow
theorem dX3_copyFrom_0 : decode cX3_copyFrom 0 = .ok (.aload_n 1, 1) := by decide +kernel
theorem dX3_copyFrom_1 : decode cX3_copyFrom 1 = .ok (.getfield 15, 3) := by decide +kernel
theorem dX3_copyFrom_4 : decode cX3_copyFrom 4 = .ok (.aload_n 0, 1) := by decide +kernel
theorem dX3_copyFrom_5 : decode cX3_copyFrom 5 = .ok (.getfield 15, 3) := by decide +kernel
theorem dX3_copyFrom_8 : decode cX3_copyFrom 8 = .ok (.invokestatic 27, 3) := by decide +kernel
theorem dX3_copyFrom_11 : decode cX3_copyFrom 11 = .ok (.aload_n 1, 1) := by decide +kernel
theorem dX3_copyFrom_12 : decode cX3_copyFrom 12 = .ok (.getfield 21, 3) := by decide +kernel
theorem dX3_copyFrom_15 : decode cX3_copyFrom 15 = .ok (.aload_n 0, 1) := by decide +kernel
theorem dX3_copyFrom_16 : decode cX3_copyFrom 16 = .ok (.getfield 21, 3) := by decide +kernel
theorem dX3_copyFrom_19 : decode cX3_copyFrom 19 = .ok (.invokestatic 27, 3) := by decide +kernel
theorem dX3_copyFrom_22 : decode cX3_copyFrom 22 = .ok (.aload_n 1, 1) := by decide +kernel
theorem dX3_copyFrom_23 : decode cX3_copyFrom 23 = .ok (.getfield 24, 3) := by decide +kernel
theorem dX3_copyFrom_26 : decode cX3_copyFrom 26 = .ok (.aload_n 0, 1) := by decide +kernel
theorem dX3_copyFrom_27 : decode cX3_copyFrom 27 = .ok (.getfield 24, 3) := by decide +kernel
theorem dX3_copyFrom_30 : decode cX3_copyFrom 30 = .ok (.invokestatic 27, 3) := by decide +kernel
theorem dX3_copyFrom_33 : decode cX3_copyFrom 33 = .ok (.aload_n 0, 1) := by decide +kernel
theorem dX3_copyFrom_34 : decode cX3_copyFrom 34 = .ok (.aload_n 1, 1) := by decide +kernel
theorem dX3_copyFrom_35 : decode cX3_copyFrom 35 = .ok (.getfield 31, 3) := by decide +kernel
theorem dX3_copyFrom_38 : decode cX3_copyFrom 38 = .ok (.putfield 31, 3) := by decide +kernel
theorem dX3_copyFrom_41 : decode cX3_copyFrom 41 = .ok (.return_, 1) := by decide +kernel
set_option maxRecDepth 20000 in
theorem ggX3_write_X4_put : GoodIn wsX3_write wsX4_put := goodIn_r _ [7] (by decide +kernel) (by decide +kernel)
set_option maxRecDepth 20000 in
theorem gX3_write_X4_put_n35 : GoodIn wsX3_write (wsX4_put) := ggX3_write_X4_put
theorem dX3_write_0 : decode cX3_write 0 = .ok (.aload_n 0, 1) := by decide +kernel
theorem dX3_write_1 : decode cX3_write 1 = .ok (.getfield 31, 3) := by decide +kernel
theorem dX3_write_4 : decode cX3_write 4 = .ok (.aload_n 0, 1) := by decide +kernel
theorem dX3_write_5 : decode cX3_write 5 = .ok (.getfield 15, 3) := by decide +kernel
theorem dX3_write_8 : decode cX3_write 8 = .ok (.arraylength, 1) := by decide +kernel
theorem dX3_write_9 : decode cX3_write 9 = .ok (.if_icmp .ge 49, 3) := by decide +kernel
theorem dX3_write_12 : decode cX3_write 12 = .ok (.aload_n 0, 1) := by decide +kernel
theorem dX3_write_13 : decode cX3_write 13 = .ok (.getfield 15, 3) := by decide +kernel
theorem dX3_write_16 : decode cX3_write 16 = .ok (.aload_n 0, 1) := by decide +kernel
theorem dX3_write_17 : decode cX3_write 17 = .ok (.getfield 31, 3) := by decide +kernel
theorem dX3_write_20 : decode cX3_write 20 = .ok (.iload_n 1, 1) := by decide +kernel
theorem dX3_write_21 : decode cX3_write 21 = .ok (.invokestatic 35, 3) := by decide +kernel
theorem dX3_write_24 : decode cX3_write 24 = .ok (.aload_n 0, 1) := by decide +kernel
theorem dX3_write_25 : decode cX3_write 25 = .ok (.getfield 21, 3) := by decide +kernel
theorem dX3_write_28 : decode cX3_write 28 = .ok (.aload_n 0, 1) := by decide +kernel
theorem dX3_write_29 : decode cX3_write 29 = .ok (.getfield 31, 3) := by decide +kernel
theorem dX3_write_32 : decode cX3_write 32 = .ok (.iload_n 2, 1) := by decide +kernel
theorem dX3_write_33 : decode cX3_write 33 = .ok (.invokestatic 35, 3) := by decide +kernel
theorem dX3_write_36 : decode cX3_write 36 = .ok (.aload_n 0, 1) := by decide +kernel
theorem dX3_write_37 : decode cX3_write 37 = .ok (.getfield 24, 3) := by decide +kernel
theorem dX3_write_40 : decode cX3_write 40 = .ok (.aload_n 0, 1) := by decide +kernel
theorem dX3_write_41 : decode cX3_write 41 = .ok (.getfield 31, 3) := by decide +kernel
theorem dX3_write_44 : decode cX3_write 44 = .ok (.iload_n 3, 1) := by decide +kernel
theorem dX3_write_45 : decode cX3_write 45 = .ok (.invokestatic 35, 3) := by decide +kernel
theorem dX3_write_48 : decode cX3_write 48 = .ok (.aload_n 0, 1) := by decide +kernel
theorem dX3_write_49 : decode cX3_write 49 = .ok (.dup, 1) := by decide +kernel
theorem dX3_write_50 : decode cX3_write 50 = .ok (.getfield 31, 3) := by decide +kernel
theorem dX3_write_53 : decode cX3_write 53 = .ok (.iconst 1, 1) := by decide +kernel
theorem dX3_write_54 : decode cX3_write 54 = .ok (.iadd, 1) := by decide +kernel
theorem dX3_write_55 : decode cX3_write 55 = .ok (.putfield 31, 3) := by decide +kernel
theorem dX3_write_58 : decode cX3_write 58 = .ok (.return_, 1) := by decide +kernel
set_option maxRecDepth 20000 in
theorem ggX4_init_X2_init : GoodIn wsX4_init wsX2_init := goodIn_r _ [18, 19, 2, 3, 20, 21, 22, 23, 24, 25, 26, 27, 28, 29, 30, 31, 32, 33, 34, 35, 36, 37, 38, 39, 40, 41, 6, 42, 43, 44, 45, 46, 47, 48, 49, 50, 51, 52, 53, 54, 55, 56, 57, 58, 97, 98, 99, 100, 74, 75, 76, 77, 78, 79, 80, 81, 82] (by decide +kernel) (by decide +kernel)
set_option maxRecDepth 20000 in
theorem gX4_init_X2_init : GoodIn wsX4_init (wsX2_init) := ggX4_init_X2_init
set_option maxRecDepth 20000 in
theorem ggX4_init_X0_init : GoodIn wsX4_init wsX0_init := goodIn_r _ [61, 62, 2, 3, 63, 64, 5, 6, 65, 17, 18, 19, 20, 21, 22, 23, 24, 25, 26, 27, 28, 29, 30, 31, 32, 33, 34, 35, 36, 37, 38, 39, 40, 41, 42, 43, 44, 45, 46, 47, 48, 49, 50, 51, 52, 53, 54, 55, 56, 57, 58, 86, 87, 74, 75, 76, 77, 78, 79, 80, 81, 82, 97, 98, 99, 100] (by decide +kernel) (by decide +kernel)
set_option maxRecDepth 20000 in
theorem gX4_init_X0_init : GoodIn wsX4_init (wsX0_init) := ggX4_init_X0_init
set_option maxRecDepth 20000 in
theorem ggX4_init_X1_init : GoodIn wsX4_init wsX1_init := goodIn_r _ [68, 69, 2, 3, 25, 70, 71, 72, 73, 88, 89, 90, 91, 92, 93, 94, 95, 96] (by decide +kernel) (by decide +kernel)
set_option maxRecDepth 20000 in
theorem gX4_init_X1_init : GoodIn wsX4_init (wsX1_init) := ggX4_init_X1_init
theorem dX4_init_0 : decode cX4_init 0 = .ok (.aload_n 0, 1) := by decide +kernel
theorem dX4_init_1 : decode cX4_init 1 = .ok (.invokespecial 3, 3) := by decide +kernel
theorem dX4_init_4 : decode cX4_init 4 = .ok (.aload_n 0, 1) := by decide +kernel
theorem dX4_init_5 : decode cX4_init 5 = .ok (.new 9, 3) := by decide +kernel
theorem dX4_init_8 : decode cX4_init 8 = .ok (.dup, 1) := by decide +kernel
theorem dX4_init_9 : decode cX4_init 9 = .ok (.invokespecial 11, 3) := by decide +kernel
theorem dX4_init_12 : decode cX4_init 12 = .ok (.putfield 12, 3) := by decide +kernel
theorem dX4_init_15 : decode cX4_init 15 = .ok (.aload_n 0, 1) := by decide +kernel
theorem dX4_init_16 : decode cX4_init 16 = .ok (.new 16, 3) := by decide +kernel
theorem dX4_init_19 : decode cX4_init 19 = .ok (.dup, 1) := by decide +kernel
theorem dX4_init_20 : decode cX4_init 20 = .ok (.invokespecial 18, 3) := by decide +kernel
theorem dX4_init_23 : decode cX4_init 23 = .ok (.putfield 19, 3) := by decide +kernel
theorem dX4_init_26 : decode cX4_init 26 = .ok (.aload_n 0, 1) := by decide +kernel
theorem dX4_init_27 : decode cX4_init 27 = .ok (.new 23, 3) := by decide +kernel
theorem dX4_init_30 : decode cX4_init 30 = .ok (.dup, 1) := by decide +kernel
theorem dX4_init_31 : decode cX4_init 31 = .ok (.invokespecial 25, 3) := by decide +kernel
theorem dX4_init_34 : decode cX4_init 34 = .ok (.putfield 26, 3) := by decide +kernel
theorem dX4_init_37 : decode cX4_init 37 = .ok (.return_, 1) := by decide +kernel
set_option maxRecDepth 20000 in
theorem ggX4_begin_X0_save : GoodIn wsX4_begin wsX0_save := goodIn_r _ [9, 10, 11, 12, 13, 14, 8, 15, 16, 17, 18, 19, 20, 21, 22, 23, 24, 25, 26, 27, 28, 29, 30, 31, 32, 33, 34, 35, 36, 37, 38, 39, 40, 41, 42, 43, 44, 45, 46, 47, 48, 49, 50, 51, 52, 83, 84, 70, 71, 72, 73, 74, 75, 76, 77, 78, 79, 80, 81, 82] (by decide +kernel) (by decide +kernel)
set_option maxRecDepth 20000 in
theorem gX4_begin_X0_save : GoodIn wsX4_begin (wsV RX4 37 RX0 yX0_save wsX0_save) := goodIn_app (goodIn_of _ (by decide +kernel)) ggX4_begin_X0_save
set_option maxRecDepth 20000 in
theorem ggX4_begin_X2_start : GoodIn wsX4_begin wsX2_start := goodIn_r _ [56, 28, 29, 26, 57, 58, 59, 23, 60, 30, 31, 32, 61, 62, 63, 64, 25, 27, 65, 43, 66, 70, 71, 72, 73, 74, 75, 76, 77, 78, 79, 80, 81, 82] (by decide +kernel) (by decide +kernel)
set_option maxRecDepth 20000 in
theorem gX4_begin_X2_start : GoodIn wsX4_begin (wsV RX4 51 RX2 yX2_start wsX2_start) := goodIn_app (goodIn_of _ (by decide +kernel)) ggX4_begin_X2_start
theorem dX4_begin_0 : decode cX4_begin 0 = .ok (.iload_n 1, 1) := by decide +kernel
theorem dX4_begin_1 : decode cX4_begin 1 = .ok (.iconst 2, 1) := by decide +kernel
theorem dX4_begin_2 : decode cX4_begin 2 = .ok (.if_icmp .lt 9, 3) := by decide +kernel
theorem dX4_begin_5 : decode cX4_begin 5 = .ok (.iload_n 1, 1) := by decide +kernel
theorem dX4_begin_6 : decode cX4_begin 6 = .ok (.bipush 16, 2) := by decide +kernel
theorem dX4_begin_8 : decode cX4_begin 8 = .ok (.if_icmp .le 13, 3) := by decide +kernel
theorem dX4_begin_11 : decode cX4_begin 11 = .ok (.new 30, 3) := by decide +kernel
theorem dX4_begin_14 : decode cX4_begin 14 = .ok (.dup, 1) := by decide +kernel
theorem dX4_begin_15 : decode cX4_begin 15 = .ok (.ldc 32, 2) := by decide +kernel
theorem dX4_begin_17 : decode cX4_begin 17 = .ok (.invokespecial 34, 3) := by decide +kernel
theorem dX4_begin_20 : decode cX4_begin 20 = .ok (.athrow, 1) := by decide +kernel
theorem dX4_begin_21 : decode cX4_begin 21 = .ok (.aload_n 0, 1) := by decide +kernel
theorem dX4_begin_22 : decode cX4_begin 22 = .ok (.getfield 19, 3) := by decide +kernel
theorem dX4_begin_25 : decode cX4_begin 25 = .ok (.aload_n 0, 1) := by decide +kernel
theorem dX4_begin_26 : decode cX4_begin 26 = .ok (.getfield 12, 3) := by decide +kernel
theorem dX4_begin_29 : decode cX4_begin 29 = .ok (.invokevirtual 37, 3) := by decide +kernel
theorem dX4_begin_32 : decode cX4_begin 32 = .ok (.aload_n 0, 1) := by decide +kernel
theorem dX4_begin_33 : decode cX4_begin 33 = .ok (.getfield 12, 3) := by decide +kernel
theorem dX4_begin_36 : decode cX4_begin 36 = .ok (.getfield 41, 3) := by decide +kernel
theorem dX4_begin_39 : decode cX4_begin 39 = .ok (.getfield 45, 3) := by decide +kernel
theorem dX4_begin_42 : decode cX4_begin 42 = .ok (.istore_n 2, 1) := by decide +kernel
theorem dX4_begin_43 : decode cX4_begin 43 = .ok (.aload_n 0, 1) := by decide +kernel
theorem dX4_begin_44 : decode cX4_begin 44 = .ok (.getfield 12, 3) := by decide +kernel
theorem dX4_begin_47 : decode cX4_begin 47 = .ok (.iload_n 1, 1) := by decide +kernel
theorem dX4_begin_48 : decode cX4_begin 48 = .ok (.invokevirtual 51, 3) := by decide +kernel
theorem dX4_begin_51 : decode cX4_begin 51 = .ok (.iload_n 2, 1) := by decide +kernel
theorem dX4_begin_52 : decode cX4_begin 52 = .ok (.ireturn, 1) := by decide +kernel
set_option maxRecDepth 20000 in
theorem ggX4_setLimit_X0_save : GoodIn wsX4_setLimit wsX0_save := goodIn_r _ [9, 10, 11, 12, 13, 14, 8, 15, 16, 17, 18, 19, 20, 21, 22, 23, 24, 25, 26, 27, 28, 29, 30, 31, 32, 33, 34, 35, 36, 37, 38, 39, 40, 41, 42, 43, 44, 45, 46, 47, 48, 49, 50, 51, 52, 79, 80, 70, 71, 72, 73, 74, 75, 76, 77, 78, 81, 82, 83, 84] (by decide +kernel) (by decide +kernel)
set_option maxRecDepth 20000 in
theorem gX4_setLimit_X0_save : GoodIn wsX4_setLimit (wsV RX4 37 RX0 yX0_save wsX0_save) := goodIn_app (goodIn_of _ (by decide +kernel)) ggX4_setLimit_X0_save
set_option maxRecDepth 20000 in
theorem ggX4_setLimit_X2_countLeft : GoodIn wsX4_setLimit wsX2_countLeft := goodIn_r _ [56, 57, 58, 59, 23, 60, 28, 61, 62, 63, 64, 27, 29, 65, 43, 66, 70, 71, 72, 73, 74, 75, 76, 77, 78] (by decide +kernel) (by decide +kernel)
set_option maxRecDepth 20000 in
theorem gX4_setLimit_X2_countLeft : GoodIn wsX4_setLimit (wsV RX4 60 RX2 yX2_countLeft wsX2_countLeft) := goodIn_app (goodIn_of _ (by decide +kernel)) ggX4_setLimit_X2_countLeft
theorem dX4_setLimit_0 : decode cX4_setLimit 0 = .ok (.iload_n 1, 1) := by decide +kernel
theorem dX4_setLimit_1 : decode cX4_setLimit 1 = .ok (.ifCond .lt 8, 3) := by decide +kernel
theorem dX4_setLimit_4 : decode cX4_setLimit 4 = .ok (.iload_n 1, 1) := by decide +kernel
theorem dX4_setLimit_5 : decode cX4_setLimit 5 = .ok (.iconst 2, 1) := by decide +kernel
theorem dX4_setLimit_6 : decode cX4_setLimit 6 = .ok (.if_icmp .le 13, 3) := by decide +kernel
theorem dX4_setLimit_9 : decode cX4_setLimit 9 = .ok (.new 30, 3) := by decide +kernel
theorem dX4_setLimit_12 : decode cX4_setLimit 12 = .ok (.dup, 1) := by decide +kernel
theorem dX4_setLimit_13 : decode cX4_setLimit 13 = .ok (.ldc 55, 2) := by decide +kernel
theorem dX4_setLimit_15 : decode cX4_setLimit 15 = .ok (.invokespecial 34, 3) := by decide +kernel
theorem dX4_setLimit_18 : decode cX4_setLimit 18 = .ok (.athrow, 1) := by decide +kernel
theorem dX4_setLimit_19 : decode cX4_setLimit 19 = .ok (.aload_n 0, 1) := by decide +kernel
theorem dX4_setLimit_20 : decode cX4_setLimit 20 = .ok (.getfield 19, 3) := by decide +kernel
theorem dX4_setLimit_23 : decode cX4_setLimit 23 = .ok (.aload_n 0, 1) := by decide +kernel
theorem dX4_setLimit_24 : decode cX4_setLimit 24 = .ok (.getfield 12, 3) := by decide +kernel
theorem dX4_setLimit_27 : decode cX4_setLimit 27 = .ok (.invokevirtual 37, 3) := by decide +kernel
theorem dX4_setLimit_30 : decode cX4_setLimit 30 = .ok (.aload_n 0, 1) := by decide +kernel
theorem dX4_setLimit_31 : decode cX4_setLimit 31 = .ok (.getfield 12, 3) := by decide +kernel
theorem dX4_setLimit_34 : decode cX4_setLimit 34 = .ok (.iload_n 1, 1) := by decide +kernel
theorem dX4_setLimit_35 : decode cX4_setLimit 35 = .ok (.putfield 57, 3) := by decide +kernel
theorem dX4_setLimit_38 : decode cX4_setLimit 38 = .ok (.aload_n 0, 1) := by decide +kernel
theorem dX4_setLimit_39 : decode cX4_setLimit 39 = .ok (.getfield 12, 3) := by decide +kernel
theorem dX4_setLimit_42 : decode cX4_setLimit 42 = .ok (.invokevirtual 60, 3) := by decide +kernel
theorem dX4_setLimit_45 : decode cX4_setLimit 45 = .ok (.ireturn, 1) := by decide +kernel
set_option maxRecDepth 20000 in
theorem ggX4_forget_X0_save : GoodIn wsX4_forget wsX0_save := goodIn_r _ [7, 8, 9, 10, 11, 12, 6, 13, 14, 15, 16, 17, 18, 19, 20, 21, 22, 23, 24, 25, 26, 27, 28, 29, 30, 31, 32, 33, 34, 35, 36, 37, 38, 39, 40, 41, 42, 43, 44, 45, 46, 47, 48, 49, 50, 73, 74, 60, 61, 62, 63, 64, 65, 66, 67, 68, 69, 70, 71, 72] (by decide +kernel) (by decide +kernel)
set_option maxRecDepth 20000 in
theorem gX4_forget_X0_save : GoodIn wsX4_forget (wsV RX4 37 RX0 yX0_save wsX0_save) := goodIn_app (goodIn_of _ (by decide +kernel)) ggX4_forget_X0_save
set_option maxRecDepth 20000 in
theorem ggX4_forget_X2_forgetTold : GoodIn wsX4_forget wsX2_forgetTold := goodIn_r _ [54, 23, 25, 55, 41, 56, 60, 61, 62, 63, 64, 65, 66, 67, 68, 69, 70, 71, 72] (by decide +kernel) (by decide +kernel)
set_option maxRecDepth 20000 in
theorem gX4_forget_X2_forgetTold : GoodIn wsX4_forget (wsV RX4 87 RX2 yX2_forgetTold wsX2_forgetTold) := goodIn_app (goodIn_of _ (by decide +kernel)) ggX4_forget_X2_forgetTold
theorem dX4_forget_0 : decode cX4_forget 0 = .ok (.aload_n 0, 1) := by decide +kernel
theorem dX4_forget_1 : decode cX4_forget 1 = .ok (.getfield 19, 3) := by decide +kernel
theorem dX4_forget_4 : decode cX4_forget 4 = .ok (.aload_n 0, 1) := by decide +kernel
theorem dX4_forget_5 : decode cX4_forget 5 = .ok (.getfield 12, 3) := by decide +kernel
theorem dX4_forget_8 : decode cX4_forget 8 = .ok (.invokevirtual 37, 3) := by decide +kernel
theorem dX4_forget_11 : decode cX4_forget 11 = .ok (.aload_n 0, 1) := by decide +kernel
theorem dX4_forget_12 : decode cX4_forget 12 = .ok (.getfield 12, 3) := by decide +kernel
theorem dX4_forget_15 : decode cX4_forget 15 = .ok (.getfield 41, 3) := by decide +kernel
theorem dX4_forget_18 : decode cX4_forget 18 = .ok (.getfield 45, 3) := by decide +kernel
theorem dX4_forget_21 : decode cX4_forget 21 = .ok (.istore_n 1, 1) := by decide +kernel
theorem dX4_forget_22 : decode cX4_forget 22 = .ok (.aload_n 0, 1) := by decide +kernel
theorem dX4_forget_23 : decode cX4_forget 23 = .ok (.getfield 12, 3) := by decide +kernel
theorem dX4_forget_26 : decode cX4_forget 26 = .ok (.invokevirtual 87, 3) := by decide +kernel
theorem dX4_forget_29 : decode cX4_forget 29 = .ok (.iload_n 1, 1) := by decide +kernel
theorem dX4_forget_30 : decode cX4_forget 30 = .ok (.ireturn, 1) := by decide +kernel
set_option maxRecDepth 20000 in
theorem ggX4_hide_X2_isCase : GoodIn wsX4_hide wsX2_isCase := goodIn_r _ [12, 13, 14, 15, 11, 16, 17, 71, 72, 73, 74, 75, 76, 77, 78, 79] (by decide +kernel) (by decide +kernel)
set_option maxRecDepth 20000 in
theorem gX4_hide_X2_isCase : GoodIn wsX4_hide (wsV RX4 90 RX2 yX2_isCase wsX2_isCase) := goodIn_app (goodIn_of _ (by decide +kernel)) ggX4_hide_X2_isCase
set_option maxRecDepth 20000 in
theorem ggX4_hide_X0_save : GoodIn wsX4_hide wsX0_save := goodIn_r _ [22, 23, 24, 25, 26, 27, 21, 28, 29, 30, 31, 32, 33, 34, 35, 11, 36, 37, 38, 39, 17, 40, 41, 42, 43, 44, 45, 46, 47, 48, 49, 50, 51, 52, 53, 54, 55, 56, 57, 58, 59, 60, 61, 62, 63, 80, 81, 71, 72, 73, 74, 75, 76, 77, 78, 79, 82, 83, 84, 85] (by decide +kernel) (by decide +kernel)
set_option maxRecDepth 20000 in
theorem gX4_hide_X0_save : GoodIn wsX4_hide (wsV RX4 37 RX0 yX0_save wsX0_save) := goodIn_app (goodIn_of _ (by decide +kernel)) ggX4_hide_X0_save
set_option maxRecDepth 20000 in
theorem ggX4_hide_X2_hideCase : GoodIn wsX4_hide wsX2_hideCase := goodIn_r _ [67, 41, 42, 43, 71, 72, 73, 74, 75, 76, 77, 78, 79] (by decide +kernel) (by decide +kernel)
set_option maxRecDepth 20000 in
theorem gX4_hide_X2_hideCase : GoodIn wsX4_hide (wsV RX4 102 RX2 yX2_hideCase wsX2_hideCase) := goodIn_app (goodIn_of _ (by decide +kernel)) ggX4_hide_X2_hideCase
theorem dX4_hide_0 : decode cX4_hide 0 = .ok (.aload_n 0, 1) := by decide +kernel
theorem dX4_hide_1 : decode cX4_hide 1 = .ok (.getfield 12, 3) := by decide +kernel
theorem dX4_hide_4 : decode cX4_hide 4 = .ok (.iload_n 1, 1) := by decide +kernel
theorem dX4_hide_5 : decode cX4_hide 5 = .ok (.invokevirtual 90, 3) := by decide +kernel
theorem dX4_hide_8 : decode cX4_hide 8 = .ok (.ifCond .ne 13, 3) := by decide +kernel
theorem dX4_hide_11 : decode cX4_hide 11 = .ok (.new 93, 3) := by decide +kernel
theorem dX4_hide_14 : decode cX4_hide 14 = .ok (.dup, 1) := by decide +kernel
theorem dX4_hide_15 : decode cX4_hide 15 = .ok (.ldc 95, 2) := by decide +kernel
theorem dX4_hide_17 : decode cX4_hide 17 = .ok (.invokespecial 97, 3) := by decide +kernel
theorem dX4_hide_20 : decode cX4_hide 20 = .ok (.athrow, 1) := by decide +kernel
theorem dX4_hide_21 : decode cX4_hide 21 = .ok (.iload_n 2, 1) := by decide +kernel
theorem dX4_hide_22 : decode cX4_hide 22 = .ok (.ifCond .lt 9, 3) := by decide +kernel
theorem dX4_hide_25 : decode cX4_hide 25 = .ok (.iload_n 2, 1) := by decide +kernel
theorem dX4_hide_26 : decode cX4_hide 26 = .ok (.ldc 98, 2) := by decide +kernel
theorem dX4_hide_28 : decode cX4_hide 28 = .ok (.if_icmp .le 13, 3) := by decide +kernel
theorem dX4_hide_31 : decode cX4_hide 31 = .ok (.new 30, 3) := by decide +kernel
theorem dX4_hide_34 : decode cX4_hide 34 = .ok (.dup, 1) := by decide +kernel
theorem dX4_hide_35 : decode cX4_hide 35 = .ok (.ldc 55, 2) := by decide +kernel
theorem dX4_hide_37 : decode cX4_hide 37 = .ok (.invokespecial 34, 3) := by decide +kernel
theorem dX4_hide_40 : decode cX4_hide 40 = .ok (.athrow, 1) := by decide +kernel
theorem dX4_hide_41 : decode cX4_hide 41 = .ok (.aload_n 0, 1) := by decide +kernel
theorem dX4_hide_42 : decode cX4_hide 42 = .ok (.getfield 19, 3) := by decide +kernel
theorem dX4_hide_45 : decode cX4_hide 45 = .ok (.aload_n 0, 1) := by decide +kernel
theorem dX4_hide_46 : decode cX4_hide 46 = .ok (.getfield 12, 3) := by decide +kernel
theorem dX4_hide_49 : decode cX4_hide 49 = .ok (.invokevirtual 37, 3) := by decide +kernel
theorem dX4_hide_52 : decode cX4_hide 52 = .ok (.aload_n 0, 1) := by decide +kernel
theorem dX4_hide_53 : decode cX4_hide 53 = .ok (.getfield 12, 3) := by decide +kernel
theorem dX4_hide_56 : decode cX4_hide 56 = .ok (.getfield 99, 3) := by decide +kernel
theorem dX4_hide_59 : decode cX4_hide 59 = .ok (.istore_n 3, 1) := by decide +kernel
theorem dX4_hide_60 : decode cX4_hide 60 = .ok (.aload_n 0, 1) := by decide +kernel
theorem dX4_hide_61 : decode cX4_hide 61 = .ok (.getfield 12, 3) := by decide +kernel
theorem dX4_hide_64 : decode cX4_hide 64 = .ok (.iload_n 1, 1) := by decide +kernel
theorem dX4_hide_65 : decode cX4_hide 65 = .ok (.iload_n 2, 1) := by decide +kernel
theorem dX4_hide_66 : decode cX4_hide 66 = .ok (.invokevirtual 102, 3) := by decide +kernel
theorem dX4_hide_69 : decode cX4_hide 69 = .ok (.iload_n 3, 1) := by decide +kernel
theorem dX4_hide_70 : decode cX4_hide 70 = .ok (.ireturn, 1) := by decide +kernel
set_option maxRecDepth 20000 in
theorem ggX4_ask_X2_isWeighing : GoodIn wsX4_ask wsX2_isWeighing := goodIn_r _ [11, 12, 13, 14, 15, 16, 17, 18, 19, 106, 107, 108, 109, 110, 111, 112, 113, 114] (by decide +kernel) (by decide +kernel)
set_option maxRecDepth 20000 in
theorem gX4_ask_X2_isWeighing : GoodIn wsX4_ask (wsV RX4 64 RX2 yX2_isWeighing wsX2_isWeighing) := goodIn_app (goodIn_of _ (by decide +kernel)) ggX4_ask_X2_isWeighing
set_option maxRecDepth 20000 in
theorem ggX4_ask_X2_canReply : GoodIn wsX4_ask wsX2_canReply := goodIn_r _ [23, 24, 25, 26, 27, 28, 10, 29, 30, 106, 107, 108, 109, 110, 111, 112, 113, 114, 115, 116, 117, 118] (by decide +kernel) (by decide +kernel)
set_option maxRecDepth 20000 in
theorem gX4_ask_X2_canReply : GoodIn wsX4_ask (wsV RX4 108 RX2 yX2_canReply wsX2_canReply) := goodIn_app (goodIn_of _ (by decide +kernel)) ggX4_ask_X2_canReply
set_option maxRecDepth 20000 in
theorem ggX4_ask_X0_save : GoodIn wsX4_ask wsX0_save := goodIn_r _ [35, 36, 37, 38, 39, 40, 34, 41, 42, 43, 44, 45, 46, 47, 48, 10, 49, 30, 50, 51, 12, 52, 24, 53, 25, 54, 55, 56, 57, 58, 59, 60, 61, 62, 63, 64, 65, 66, 67, 68, 69, 70, 71, 72, 73, 119, 120, 106, 107, 108, 109, 110, 111, 112, 113, 114, 115, 116, 117, 118] (by decide +kernel) (by decide +kernel)
set_option maxRecDepth 20000 in
theorem gX4_ask_X0_save : GoodIn wsX4_ask (wsV RX4 37 RX0 yX0_save wsX0_save) := goodIn_app (goodIn_of _ (by decide +kernel)) ggX4_ask_X0_save
set_option maxRecDepth 20000 in
theorem ggX4_ask_X2_reply : GoodIn wsX4_ask wsX2_reply := goodIn_r _ [77, 24, 53, 25, 78, 64, 79, 80, 81, 82, 83, 84, 85, 10, 86, 30, 51, 87, 88, 89, 57, 90, 62, 59, 60, 61, 91, 92, 93, 94, 95, 96, 12, 97, 98, 99, 100, 101, 102, 106, 107, 108, 109, 110, 111, 112, 113, 114, 115, 116, 117, 118] (by decide +kernel) (by decide +kernel)
set_option maxRecDepth 20000 in
theorem gX4_ask_X2_reply : GoodIn wsX4_ask (wsV RX4 113 RX2 yX2_reply wsX2_reply) := goodIn_app (goodIn_of _ (by decide +kernel)) ggX4_ask_X2_reply
theorem dX4_ask_0 : decode cX4_ask 0 = .ok (.aload_n 0, 1) := by decide +kernel
theorem dX4_ask_1 : decode cX4_ask 1 = .ok (.getfield 12, 3) := by decide +kernel
theorem dX4_ask_4 : decode cX4_ask 4 = .ok (.iload_n 1, 1) := by decide +kernel
theorem dX4_ask_5 : decode cX4_ask 5 = .ok (.iload_n 2, 1) := by decide +kernel
theorem dX4_ask_6 : decode cX4_ask 6 = .ok (.invokevirtual 64, 3) := by decide +kernel
theorem dX4_ask_9 : decode cX4_ask 9 = .ok (.ifCond .ne 13, 3) := by decide +kernel
theorem dX4_ask_12 : decode cX4_ask 12 = .ok (.new 30, 3) := by decide +kernel
theorem dX4_ask_15 : decode cX4_ask 15 = .ok (.dup, 1) := by decide +kernel
theorem dX4_ask_16 : decode cX4_ask 16 = .ok (.ldc 106, 2) := by decide +kernel
theorem dX4_ask_18 : decode cX4_ask 18 = .ok (.invokespecial 34, 3) := by decide +kernel
theorem dX4_ask_21 : decode cX4_ask 21 = .ok (.athrow, 1) := by decide +kernel
theorem dX4_ask_22 : decode cX4_ask 22 = .ok (.aload_n 0, 1) := by decide +kernel
theorem dX4_ask_23 : decode cX4_ask 23 = .ok (.getfield 12, 3) := by decide +kernel
theorem dX4_ask_26 : decode cX4_ask 26 = .ok (.invokevirtual 108, 3) := by decide +kernel
theorem dX4_ask_29 : decode cX4_ask 29 = .ok (.ifCond .ne 13, 3) := by decide +kernel
theorem dX4_ask_32 : decode cX4_ask 32 = .ok (.new 78, 3) := by decide +kernel
theorem dX4_ask_35 : decode cX4_ask 35 = .ok (.dup, 1) := by decide +kernel
theorem dX4_ask_36 : decode cX4_ask 36 = .ok (.ldc 111, 2) := by decide +kernel
theorem dX4_ask_38 : decode cX4_ask 38 = .ok (.invokespecial 82, 3) := by decide +kernel
theorem dX4_ask_41 : decode cX4_ask 41 = .ok (.athrow, 1) := by decide +kernel
theorem dX4_ask_42 : decode cX4_ask 42 = .ok (.aload_n 0, 1) := by decide +kernel
theorem dX4_ask_43 : decode cX4_ask 43 = .ok (.getfield 19, 3) := by decide +kernel
theorem dX4_ask_46 : decode cX4_ask 46 = .ok (.aload_n 0, 1) := by decide +kernel
theorem dX4_ask_47 : decode cX4_ask 47 = .ok (.getfield 12, 3) := by decide +kernel
theorem dX4_ask_50 : decode cX4_ask 50 = .ok (.invokevirtual 37, 3) := by decide +kernel
theorem dX4_ask_53 : decode cX4_ask 53 = .ok (.aload_n 0, 1) := by decide +kernel
theorem dX4_ask_54 : decode cX4_ask 54 = .ok (.getfield 12, 3) := by decide +kernel
theorem dX4_ask_57 : decode cX4_ask 57 = .ok (.iload_n 1, 1) := by decide +kernel
theorem dX4_ask_58 : decode cX4_ask 58 = .ok (.iload_n 2, 1) := by decide +kernel
theorem dX4_ask_59 : decode cX4_ask 59 = .ok (.invokevirtual 113, 3) := by decide +kernel
theorem dX4_ask_62 : decode cX4_ask 62 = .ok (.ireturn, 1) := by decide +kernel
set_option maxRecDepth 20000 in
theorem ggX4_lies_X2_isCase : GoodIn wsX4_lies wsX2_isCase := goodIn_r _ [8, 9, 10, 11, 7, 12, 13, 21, 22, 23, 24, 25, 26, 27, 28, 29] (by decide +kernel) (by decide +kernel)
set_option maxRecDepth 20000 in
theorem gX4_lies_X2_isCase : GoodIn wsX4_lies (wsV RX4 90 RX2 yX2_isCase wsX2_isCase) := goodIn_app (goodIn_of _ (by decide +kernel)) ggX4_lies_X2_isCase
set_option maxRecDepth 20000 in
theorem ggX4_lies_X4_at : GoodIn wsX4_lies wsX4_at := goodIn_r _ [17] (by decide +kernel) (by decide +kernel)
set_option maxRecDepth 20000 in
theorem gX4_lies_X4_at : GoodIn wsX4_lies (va_wsS RX4 137 yX4_at wsX4_at) := goodIn_app (goodIn_of _ (by decide +kernel)) ggX4_lies_X4_at
theorem dX4_lies_0 : decode cX4_lies 0 = .ok (.aload_n 0, 1) := by decide +kernel
theorem dX4_lies_1 : decode cX4_lies 1 = .ok (.getfield 12, 3) := by decide +kernel
theorem dX4_lies_4 : decode cX4_lies 4 = .ok (.iload_n 1, 1) := by decide +kernel
theorem dX4_lies_5 : decode cX4_lies 5 = .ok (.invokevirtual 90, 3) := by decide +kernel
theorem dX4_lies_8 : decode cX4_lies 8 = .ok (.ifCond .ne 13, 3) := by decide +kernel
theorem dX4_lies_11 : decode cX4_lies 11 = .ok (.new 93, 3) := by decide +kernel
theorem dX4_lies_14 : decode cX4_lies 14 = .ok (.dup, 1) := by decide +kernel
theorem dX4_lies_15 : decode cX4_lies 15 = .ok (.ldc 95, 2) := by decide +kernel
theorem dX4_lies_17 : decode cX4_lies 17 = .ok (.invokespecial 97, 3) := by decide +kernel
theorem dX4_lies_20 : decode cX4_lies 20 = .ok (.athrow, 1) := by decide +kernel
theorem dX4_lies_21 : decode cX4_lies 21 = .ok (.aload_n 0, 1) := by decide +kernel
theorem dX4_lies_22 : decode cX4_lies 22 = .ok (.getfield 12, 3) := by decide +kernel
theorem dX4_lies_25 : decode cX4_lies 25 = .ok (.getfield 133, 3) := by decide +kernel
theorem dX4_lies_28 : decode cX4_lies 28 = .ok (.iload_n 1, 1) := by decide +kernel
theorem dX4_lies_29 : decode cX4_lies 29 = .ok (.invokestatic 137, 3) := by decide +kernel
theorem dX4_lies_32 : decode cX4_lies 32 = .ok (.ireturn, 1) := by decide +kernel
set_option maxRecDepth 20000 in
theorem ggX4_value_X2_number : GoodIn wsX4_value wsX2_number := goodIn_r _ [8, 9, 10, 11, 12, 13, 14, 15, 16, 17, 7, 18, 19, 20, 21, 22, 23, 24, 25, 26, 27, 28, 29, 30, 31, 32, 33, 34, 35, 36, 40, 41, 42, 43, 44, 45, 46, 47, 48, 49, 50, 51, 52] (by decide +kernel) (by decide +kernel)
set_option maxRecDepth 20000 in
theorem gX4_value_X2_number : GoodIn wsX4_value (wsV RX4 158 RX2 yX2_number wsX2_number) := goodIn_app (goodIn_of _ (by decide +kernel)) ggX4_value_X2_number
theorem dX4_value_0 : decode cX4_value 0 = .ok (.iload_n 1, 1) := by decide +kernel
theorem dX4_value_1 : decode cX4_value 1 = .ok (.ifCond .lt 9, 3) := by decide +kernel
theorem dX4_value_4 : decode cX4_value 4 = .ok (.iload_n 1, 1) := by decide +kernel
theorem dX4_value_5 : decode cX4_value 5 = .ok (.bipush 9, 2) := by decide +kernel
theorem dX4_value_7 : decode cX4_value 7 = .ok (.if_icmp .lt 13, 3) := by decide +kernel
theorem dX4_value_10 : decode cX4_value 10 = .ok (.new 30, 3) := by decide +kernel
theorem dX4_value_13 : decode cX4_value 13 = .ok (.dup, 1) := by decide +kernel
theorem dX4_value_14 : decode cX4_value 14 = .ok (.ldc 153, 2) := by decide +kernel
theorem dX4_value_16 : decode cX4_value 16 = .ok (.invokespecial 34, 3) := by decide +kernel
theorem dX4_value_19 : decode cX4_value 19 = .ok (.athrow, 1) := by decide +kernel
theorem dX4_value_20 : decode cX4_value 20 = .ok (.aload_n 0, 1) := by decide +kernel
theorem dX4_value_21 : decode cX4_value 21 = .ok (.getfield 12, 3) := by decide +kernel
theorem dX4_value_24 : decode cX4_value 24 = .ok (.iload_n 1, 1) := by decide +kernel
theorem dX4_value_25 : decode cX4_value 25 = .ok (.invokevirtual 158, 3) := by decide +kernel
theorem dX4_value_28 : decode cX4_value 28 = .ok (.ireturn, 1) := by decide +kernel
set_option maxRecDepth 20000 in
theorem ggX4_weight_X4_isAhead : GoodIn wsX4_weight wsX4_isAhead := goodIn_r _ [7] (by decide +kernel) (by decide +kernel)
set_option maxRecDepth 20000 in
theorem gX4_weight_X4_isAhead : GoodIn wsX4_weight (va_wsS RX4 161 yX4_isAhead wsX4_isAhead) := goodIn_app (goodIn_of _ (by decide +kernel)) ggX4_weight_X4_isAhead
set_option maxRecDepth 20000 in
theorem ggX4_weight_X2_weightAhead : GoodIn wsX4_weight wsX2_weightAhead := goodIn_r _ [12, 13, 14, 15, 16, 11, 17, 18, 19, 6, 20, 21, 22, 23, 24, 25, 26, 27, 28, 29, 30, 31, 35, 36, 37, 38, 39, 40, 41, 42, 43] (by decide +kernel) (by decide +kernel)
set_option maxRecDepth 20000 in
theorem gX4_weight_X2_weightAhead : GoodIn wsX4_weight (wsV RX4 166 RX2 yX2_weightAhead wsX2_weightAhead) := goodIn_app (goodIn_of _ (by decide +kernel)) ggX4_weight_X2_weightAhead
theorem dX4_weight_0 : decode cX4_weight 0 = .ok (.iload_n 1, 1) := by decide +kernel
theorem dX4_weight_1 : decode cX4_weight 1 = .ok (.invokestatic 161, 3) := by decide +kernel
theorem dX4_weight_4 : decode cX4_weight 4 = .ok (.ifCond .ne 13, 3) := by decide +kernel
theorem dX4_weight_7 : decode cX4_weight 7 = .ok (.new 30, 3) := by decide +kernel
theorem dX4_weight_10 : decode cX4_weight 10 = .ok (.dup, 1) := by decide +kernel
theorem dX4_weight_11 : decode cX4_weight 11 = .ok (.ldc 164, 2) := by decide +kernel
theorem dX4_weight_13 : decode cX4_weight 13 = .ok (.invokespecial 34, 3) := by decide +kernel
theorem dX4_weight_16 : decode cX4_weight 16 = .ok (.athrow, 1) := by decide +kernel
theorem dX4_weight_17 : decode cX4_weight 17 = .ok (.aload_n 0, 1) := by decide +kernel
theorem dX4_weight_18 : decode cX4_weight 18 = .ok (.getfield 12, 3) := by decide +kernel
theorem dX4_weight_21 : decode cX4_weight 21 = .ok (.iload_n 1, 1) := by decide +kernel
theorem dX4_weight_22 : decode cX4_weight 22 = .ok (.invokevirtual 166, 3) := by decide +kernel
theorem dX4_weight_25 : decode cX4_weight 25 = .ok (.lreturn, 1) := by decide +kernel
set_option maxRecDepth 20000 in
theorem ggX4_bound_X2_weightAhead : GoodIn wsX4_bound wsX2_weightAhead := goodIn_r _ [7, 8, 9, 10, 11, 6, 12, 13, 14, 15, 16, 17, 18, 19, 20, 21, 22, 23, 24, 25, 26, 27, 31, 32, 33, 34, 35, 36, 37, 38, 39] (by decide +kernel) (by decide +kernel)
set_option maxRecDepth 20000 in
theorem gX4_bound_X2_weightAhead : GoodIn wsX4_bound (wsV RX4 166 RX2 yX2_weightAhead wsX2_weightAhead) := goodIn_app (goodIn_of _ (by decide +kernel)) ggX4_bound_X2_weightAhead
theorem dX4_bound_0 : decode cX4_bound 0 = .ok (.lconst 1, 1) := by decide +kernel
theorem dX4_bound_1 : decode cX4_bound 1 = .ok (.lstore_n 1, 1) := by decide +kernel
theorem dX4_bound_2 : decode cX4_bound 2 = .ok (.iconst 0, 1) := by decide +kernel
theorem dX4_bound_3 : decode cX4_bound 3 = .ok (.istore_n 3, 1) := by decide +kernel
theorem dX4_bound_4 : decode cX4_bound 4 = .ok (.iload_n 3, 1) := by decide +kernel
theorem dX4_bound_5 : decode cX4_bound 5 = .ok (.bipush 20, 2) := by decide +kernel
theorem dX4_bound_7 : decode cX4_bound 7 = .ok (.if_icmp .gt 30, 3) := by decide +kernel
theorem dX4_bound_10 : decode cX4_bound 10 = .ok (.aload_n 0, 1) := by decide +kernel
theorem dX4_bound_11 : decode cX4_bound 11 = .ok (.getfield 12, 3) := by decide +kernel
theorem dX4_bound_14 : decode cX4_bound 14 = .ok (.iload_n 3, 1) := by decide +kernel
theorem dX4_bound_15 : decode cX4_bound 15 = .ok (.invokevirtual 166, 3) := by decide +kernel
theorem dX4_bound_18 : decode cX4_bound 18 = .ok (.lload_n 1, 1) := by decide +kernel
theorem dX4_bound_19 : decode cX4_bound 19 = .ok (.lcmp, 1) := by decide +kernel
theorem dX4_bound_20 : decode cX4_bound 20 = .ok (.ifCond .gt 5, 3) := by decide +kernel
theorem dX4_bound_23 : decode cX4_bound 23 = .ok (.iload_n 3, 1) := by decide +kernel
theorem dX4_bound_24 : decode cX4_bound 24 = .ok (.ireturn, 1) := by decide +kernel
theorem dX4_bound_25 : decode cX4_bound 25 = .ok (.lload_n 1, 1) := by decide +kernel
theorem dX4_bound_26 : decode cX4_bound 26 = .ok (.ldc2_w 170, 3) := by decide +kernel
theorem dX4_bound_29 : decode cX4_bound 29 = .ok (.lmul, 1) := by decide +kernel
theorem dX4_bound_30 : decode cX4_bound 30 = .ok (.lstore_n 1, 1) := by decide +kernel
theorem dX4_bound_31 : decode cX4_bound 31 = .ok (.iinc 3 1, 3) := by decide +kernel
theorem dX4_bound_34 : decode cX4_bound 34 = .ok (.goto (-30), 3) := by decide +kernel
theorem dX4_bound_37 : decode cX4_bound 37 = .ok (.iconst (-1), 1) := by decide +kernel
theorem dX4_bound_38 : decode cX4_bound 38 = .ok (.ireturn, 1) := by decide +kernel
set_option maxRecDepth 20000 in
theorem ggX4_weightBehind_X2_isWeighing : GoodIn wsX4_weightBehind wsX2_isWeighing := goodIn_r _ [8, 9, 10, 11, 12, 13, 14, 15, 16, 58, 59, 60, 61, 62, 63, 64, 65, 66] (by decide +kernel) (by decide +kernel)
set_option maxRecDepth 20000 in
theorem gX4_weightBehind_X2_isWeighing : GoodIn wsX4_weightBehind (wsV RX4 64 RX2 yX2_isWeighing wsX2_isWeighing) := goodIn_app (goodIn_of _ (by decide +kernel)) ggX4_weightBehind_X2_isWeighing
set_option maxRecDepth 20000 in
theorem ggX4_weightBehind_X4_isAnswer : GoodIn wsX4_weightBehind wsX4_isAnswer := goodIn_r _ [20] (by decide +kernel) (by decide +kernel)
set_option maxRecDepth 20000 in
theorem gX4_weightBehind_X4_isAnswer : GoodIn wsX4_weightBehind (va_wsS RX4 68 yX4_isAnswer wsX4_isAnswer) := goodIn_app (goodIn_of _ (by decide +kernel)) ggX4_weightBehind_X4_isAnswer
set_option maxRecDepth 20000 in
theorem ggX4_weightBehind_X4_isAhead : GoodIn wsX4_weightBehind wsX4_isAhead := goodIn_r _ [23] (by decide +kernel) (by decide +kernel)
set_option maxRecDepth 20000 in
theorem gX4_weightBehind_X4_isAhead : GoodIn wsX4_weightBehind (va_wsS RX4 161 yX4_isAhead wsX4_isAhead) := goodIn_app (goodIn_of _ (by decide +kernel)) ggX4_weightBehind_X4_isAhead
set_option maxRecDepth 20000 in
theorem ggX4_weightBehind_X2_weightIfTold : GoodIn wsX4_weightBehind wsX2_weightIfTold := goodIn_r _ [27, 28, 29, 30, 7, 31, 9, 32, 33, 34, 35, 36, 37, 19, 38, 39, 40, 41, 42, 43, 44, 45, 46, 47, 48, 49, 50, 51, 52, 53, 54, 58, 59, 60, 61, 62, 63, 64, 65, 66] (by decide +kernel) (by decide +kernel)
set_option maxRecDepth 20000 in
theorem gX4_weightBehind_X2_weightIfTold : GoodIn wsX4_weightBehind (wsV RX4 174 RX2 yX2_weightIfTold wsX2_weightIfTold) := goodIn_app (goodIn_of _ (by decide +kernel)) ggX4_weightBehind_X2_weightIfTold
theorem dX4_weightBehind_0 : decode cX4_weightBehind 0 = .ok (.aload_n 0, 1) := by decide +kernel
theorem dX4_weightBehind_1 : decode cX4_weightBehind 1 = .ok (.getfield 12, 3) := by decide +kernel
theorem dX4_weightBehind_4 : decode cX4_weightBehind 4 = .ok (.iload_n 1, 1) := by decide +kernel
theorem dX4_weightBehind_5 : decode cX4_weightBehind 5 = .ok (.iload_n 2, 1) := by decide +kernel
theorem dX4_weightBehind_6 : decode cX4_weightBehind 6 = .ok (.invokevirtual 64, 3) := by decide +kernel
theorem dX4_weightBehind_9 : decode cX4_weightBehind 9 = .ok (.ifCond .eq 18, 3) := by decide +kernel
theorem dX4_weightBehind_12 : decode cX4_weightBehind 12 = .ok (.iload_n 3, 1) := by decide +kernel
theorem dX4_weightBehind_13 : decode cX4_weightBehind 13 = .ok (.invokestatic 68, 3) := by decide +kernel
theorem dX4_weightBehind_16 : decode cX4_weightBehind 16 = .ok (.ifCond .eq 11, 3) := by decide +kernel
theorem dX4_weightBehind_19 : decode cX4_weightBehind 19 = .ok (.iload 4, 2) := by decide +kernel
theorem dX4_weightBehind_21 : decode cX4_weightBehind 21 = .ok (.invokestatic 161, 3) := by decide +kernel
theorem dX4_weightBehind_24 : decode cX4_weightBehind 24 = .ok (.ifCond .ne 13, 3) := by decide +kernel
theorem dX4_weightBehind_27 : decode cX4_weightBehind 27 = .ok (.new 30, 3) := by decide +kernel
theorem dX4_weightBehind_30 : decode cX4_weightBehind 30 = .ok (.dup, 1) := by decide +kernel
theorem dX4_weightBehind_31 : decode cX4_weightBehind 31 = .ok (.ldc 172, 2) := by decide +kernel
theorem dX4_weightBehind_33 : decode cX4_weightBehind 33 = .ok (.invokespecial 34, 3) := by decide +kernel
theorem dX4_weightBehind_36 : decode cX4_weightBehind 36 = .ok (.athrow, 1) := by decide +kernel
theorem dX4_weightBehind_37 : decode cX4_weightBehind 37 = .ok (.aload_n 0, 1) := by decide +kernel
theorem dX4_weightBehind_38 : decode cX4_weightBehind 38 = .ok (.getfield 12, 3) := by decide +kernel
theorem dX4_weightBehind_41 : decode cX4_weightBehind 41 = .ok (.iload_n 1, 1) := by decide +kernel
theorem dX4_weightBehind_42 : decode cX4_weightBehind 42 = .ok (.iload_n 2, 1) := by decide +kernel
theorem dX4_weightBehind_43 : decode cX4_weightBehind 43 = .ok (.iload_n 3, 1) := by decide +kernel
theorem dX4_weightBehind_44 : decode cX4_weightBehind 44 = .ok (.iload 4, 2) := by decide +kernel
theorem dX4_weightBehind_46 : decode cX4_weightBehind 46 = .ok (.invokevirtual 174, 3) := by decide +kernel
theorem dX4_weightBehind_49 : decode cX4_weightBehind 49 = .ok (.lreturn, 1) := by decide +kernel
set_option maxRecDepth 20000 in
theorem ggX4_undo_X0_restore : GoodIn wsX4_undo wsX0_restore := goodIn_r _ [9, 10, 11, 12, 13, 8, 14, 15, 16, 17, 18, 19, 20, 21, 22, 23, 24, 25, 26, 27, 28, 29, 30, 31, 32, 33, 34, 35, 36, 37, 38, 39, 40, 41, 42, 43, 44, 45, 46, 47, 48, 52, 53, 54, 55, 56, 57, 58, 59, 60, 61, 62, 63, 64, 65, 66] (by decide +kernel) (by decide +kernel)
set_option maxRecDepth 20000 in
theorem gX4_undo_X0_restore : GoodIn wsX4_undo (wsV RX4 237 RX0 yX0_restore wsX0_restore) := goodIn_app (goodIn_of _ (by decide +kernel)) ggX4_undo_X0_restore
theorem dX4_undo_0 : decode cX4_undo 0 = .ok (.aload_n 0, 1) := by decide +kernel
theorem dX4_undo_1 : decode cX4_undo 1 = .ok (.getfield 19, 3) := by decide +kernel
theorem dX4_undo_4 : decode cX4_undo 4 = .ok (.getfield 234, 3) := by decide +kernel
theorem dX4_undo_7 : decode cX4_undo 7 = .ok (.ifCond .ne 13, 3) := by decide +kernel
theorem dX4_undo_10 : decode cX4_undo 10 = .ok (.new 78, 3) := by decide +kernel
theorem dX4_undo_13 : decode cX4_undo 13 = .ok (.dup, 1) := by decide +kernel
theorem dX4_undo_14 : decode cX4_undo 14 = .ok (.ldc 235, 2) := by decide +kernel
theorem dX4_undo_16 : decode cX4_undo 16 = .ok (.invokespecial 82, 3) := by decide +kernel
theorem dX4_undo_19 : decode cX4_undo 19 = .ok (.athrow, 1) := by decide +kernel
theorem dX4_undo_20 : decode cX4_undo 20 = .ok (.aload_n 0, 1) := by decide +kernel
theorem dX4_undo_21 : decode cX4_undo 21 = .ok (.getfield 19, 3) := by decide +kernel
theorem dX4_undo_24 : decode cX4_undo 24 = .ok (.aload_n 0, 1) := by decide +kernel
theorem dX4_undo_25 : decode cX4_undo 25 = .ok (.getfield 12, 3) := by decide +kernel
theorem dX4_undo_28 : decode cX4_undo 28 = .ok (.invokevirtual 237, 3) := by decide +kernel
theorem dX4_undo_31 : decode cX4_undo 31 = .ok (.aload_n 0, 1) := by decide +kernel
theorem dX4_undo_32 : decode cX4_undo 32 = .ok (.getfield 19, 3) := by decide +kernel
theorem dX4_undo_35 : decode cX4_undo 35 = .ok (.getfield 234, 3) := by decide +kernel
theorem dX4_undo_38 : decode cX4_undo 38 = .ok (.ireturn, 1) := by decide +kernel
theorem dX4_isAnswer_0 : decode cX4_isAnswer 0 = .ok (.iload_n 0, 1) := by decide +kernel
theorem dX4_isAnswer_1 : decode cX4_isAnswer 1 = .ok (.ifCond .lt 12, 3) := by decide +kernel
theorem dX4_isAnswer_4 : decode cX4_isAnswer 4 = .ok (.iload_n 0, 1) := by decide +kernel
theorem dX4_isAnswer_5 : decode cX4_isAnswer 5 = .ok (.iconst 3, 1) := by decide +kernel
theorem dX4_isAnswer_6 : decode cX4_isAnswer 6 = .ok (.if_icmp .ge 7, 3) := by decide +kernel
theorem dX4_isAnswer_9 : decode cX4_isAnswer 9 = .ok (.iconst 1, 1) := by decide +kernel
theorem dX4_isAnswer_10 : decode cX4_isAnswer 10 = .ok (.goto 4, 3) := by decide +kernel
theorem dX4_isAnswer_13 : decode cX4_isAnswer 13 = .ok (.iconst 0, 1) := by decide +kernel
theorem dX4_isAnswer_14 : decode cX4_isAnswer 14 = .ok (.ireturn, 1) := by decide +kernel
theorem dX4_isAhead_0 : decode cX4_isAhead 0 = .ok (.iload_n 0, 1) := by decide +kernel
theorem dX4_isAhead_1 : decode cX4_isAhead 1 = .ok (.ifCond .lt 13, 3) := by decide +kernel
theorem dX4_isAhead_4 : decode cX4_isAhead 4 = .ok (.iload_n 0, 1) := by decide +kernel
theorem dX4_isAhead_5 : decode cX4_isAhead 5 = .ok (.bipush 20, 2) := by decide +kernel
theorem dX4_isAhead_7 : decode cX4_isAhead 7 = .ok (.if_icmp .gt 7, 3) := by decide +kernel
theorem dX4_isAhead_10 : decode cX4_isAhead 10 = .ok (.iconst 1, 1) := by decide +kernel
theorem dX4_isAhead_11 : decode cX4_isAhead 11 = .ok (.goto 4, 3) := by decide +kernel
theorem dX4_isAhead_14 : decode cX4_isAhead 14 = .ok (.iconst 0, 1) := by decide +kernel
theorem dX4_isAhead_15 : decode cX4_isAhead 15 = .ok (.ireturn, 1) := by decide +kernel
theorem dX4_at_0 : decode cX4_at 0 = .ok (.iload_n 1, 1) := by decide +kernel
theorem dX4_at_1 : decode cX4_at 1 = .ok (.ifCond .lt 15, 3) := by decide +kernel
theorem dX4_at_4 : decode cX4_at 4 = .ok (.iload_n 1, 1) := by decide +kernel
theorem dX4_at_5 : decode cX4_at 5 = .ok (.aload_n 0, 1) := by decide +kernel
theorem dX4_at_6 : decode cX4_at 6 = .ok (.arraylength, 1) := by decide +kernel
theorem dX4_at_7 : decode cX4_at 7 = .ok (.if_icmp .ge 9, 3) := by decide +kernel
theorem dX4_at_10 : decode cX4_at 10 = .ok (.aload_n 0, 1) := by decide +kernel
theorem dX4_at_11 : decode cX4_at 11 = .ok (.iload_n 1, 1) := by decide +kernel
theorem dX4_at_12 : decode cX4_at 12 = .ok (.iaload, 1) := by decide +kernel
theorem dX4_at_13 : decode cX4_at 13 = .ok (.goto 4, 3) := by decide +kernel
theorem dX4_at_16 : decode cX4_at 16 = .ok (.iconst 0, 1) := by decide +kernel
theorem dX4_at_17 : decode cX4_at 17 = .ok (.ireturn, 1) := by decide +kernel
theorem dX4_put_0 : decode cX4_put 0 = .ok (.iload_n 1, 1) := by decide +kernel
theorem dX4_put_1 : decode cX4_put 1 = .ok (.ifCond .lt 13, 3) := by decide +kernel
theorem dX4_put_4 : decode cX4_put 4 = .ok (.iload_n 1, 1) := by decide +kernel
theorem dX4_put_5 : decode cX4_put 5 = .ok (.aload_n 0, 1) := by decide +kernel
theorem dX4_put_6 : decode cX4_put 6 = .ok (.arraylength, 1) := by decide +kernel
theorem dX4_put_7 : decode cX4_put 7 = .ok (.if_icmp .ge 7, 3) := by decide +kernel
theorem dX4_put_10 : decode cX4_put 10 = .ok (.aload_n 0, 1) := by decide +kernel
theorem dX4_put_11 : decode cX4_put 11 = .ok (.iload_n 1, 1) := by decide +kernel
theorem dX4_put_12 : decode cX4_put 12 = .ok (.iload_n 2, 1) := by decide +kernel
theorem dX4_put_13 : decode cX4_put 13 = .ok (.iastore, 1) := by decide +kernel
theorem dX4_put_14 : decode cX4_put 14 = .ok (.return_, 1) := by decide +kernel
theorem dX4_copyRow_0 : decode cX4_copyRow 0 = .ok (.aload_n 0, 1) := by decide +kernel
theorem dX4_copyRow_1 : decode cX4_copyRow 1 = .ok (.iconst 0, 1) := by decide +kernel
theorem dX4_copyRow_2 : decode cX4_copyRow 2 = .ok (.aload_n 1, 1) := by decide +kernel
theorem dX4_copyRow_3 : decode cX4_copyRow 3 = .ok (.iconst 0, 1) := by decide +kernel
theorem dX4_copyRow_4 : decode cX4_copyRow 4 = .ok (.aload_n 0, 1) := by decide +kernel
theorem dX4_copyRow_5 : decode cX4_copyRow 5 = .ok (.arraylength, 1) := by decide +kernel
theorem dX4_copyRow_6 : decode cX4_copyRow 6 = .ok (.aload_n 1, 1) := by decide +kernel
theorem dX4_copyRow_7 : decode cX4_copyRow 7 = .ok (.arraylength, 1) := by decide +kernel
theorem dX4_copyRow_8 : decode cX4_copyRow 8 = .ok (.invokestatic 253, 3) := by decide +kernel
theorem dX4_copyRow_11 : decode cX4_copyRow 11 = .ok (.invokestatic 258, 3) := by decide +kernel
theorem dX4_copyRow_14 : decode cX4_copyRow 14 = .ok (.return_, 1) := by decide +kernel
theorem dX4_coinBit_0 : decode cX4_coinBit 0 = .ok (.iload_n 0, 1) := by decide +kernel
theorem dX4_coinBit_1 : decode cX4_coinBit 1 = .ok (.ifCond .gt 7, 3) := by decide +kernel
theorem dX4_coinBit_4 : decode cX4_coinBit 4 = .ok (.iconst 0, 1) := by decide +kernel
theorem dX4_coinBit_5 : decode cX4_coinBit 5 = .ok (.goto 10, 3) := by decide +kernel
theorem dX4_coinBit_8 : decode cX4_coinBit 8 = .ok (.iconst 1, 1) := by decide +kernel
theorem dX4_coinBit_9 : decode cX4_coinBit 9 = .ok (.iload_n 0, 1) := by decide +kernel
theorem dX4_coinBit_10 : decode cX4_coinBit 10 = .ok (.iconst 1, 1) := by decide +kernel
theorem dX4_coinBit_11 : decode cX4_coinBit 11 = .ok (.isub, 1) := by decide +kernel
theorem dX4_coinBit_12 : decode cX4_coinBit 12 = .ok (.iconst 2, 1) := by decide +kernel
theorem dX4_coinBit_13 : decode cX4_coinBit 13 = .ok (.idiv, 1) := by decide +kernel
theorem dX4_coinBit_14 : decode cX4_coinBit 14 = .ok (.ishl, 1) := by decide +kernel
theorem dX4_coinBit_15 : decode cX4_coinBit 15 = .ok (.ireturn, 1) := by decide +kernel
set_option maxRecDepth 20000 in
theorem ggX4_trueAnswer_X4_coinBit : GoodIn wsX4_trueAnswer wsX4_coinBit := goodIn_r _ [4] (by decide +kernel) (by decide +kernel)
set_option maxRecDepth 20000 in
theorem gX4_trueAnswer_X4_coinBit : GoodIn wsX4_trueAnswer (va_wsS RX4 264 yX4_coinBit wsX4_coinBit) := goodIn_app (goodIn_of _ (by decide +kernel)) ggX4_trueAnswer_X4_coinBit
theorem dX4_trueAnswer_0 : decode cX4_trueAnswer 0 = .ok (.iload_n 0, 1) := by decide +kernel
theorem dX4_trueAnswer_1 : decode cX4_trueAnswer 1 = .ok (.invokestatic 264, 3) := by decide +kernel
theorem dX4_trueAnswer_4 : decode cX4_trueAnswer 4 = .ok (.istore_n 3, 1) := by decide +kernel
theorem dX4_trueAnswer_5 : decode cX4_trueAnswer 5 = .ok (.iload_n 0, 1) := by decide +kernel
theorem dX4_trueAnswer_6 : decode cX4_trueAnswer 6 = .ok (.iconst 1, 1) := by decide +kernel
theorem dX4_trueAnswer_7 : decode cX4_trueAnswer 7 = .ok (.iand, 1) := by decide +kernel
theorem dX4_trueAnswer_8 : decode cX4_trueAnswer 8 = .ok (.iconst 1, 1) := by decide +kernel
theorem dX4_trueAnswer_9 : decode cX4_trueAnswer 9 = .ok (.if_icmp .ne 7, 3) := by decide +kernel
theorem dX4_trueAnswer_12 : decode cX4_trueAnswer 12 = .ok (.iconst 1, 1) := by decide +kernel
theorem dX4_trueAnswer_13 : decode cX4_trueAnswer 13 = .ok (.goto 4, 3) := by decide +kernel
theorem dX4_trueAnswer_16 : decode cX4_trueAnswer 16 = .ok (.iconst 0, 1) := by decide +kernel
theorem dX4_trueAnswer_17 : decode cX4_trueAnswer 17 = .ok (.istore 4, 2) := by decide +kernel
theorem dX4_trueAnswer_19 : decode cX4_trueAnswer 19 = .ok (.iload_n 1, 1) := by decide +kernel
theorem dX4_trueAnswer_20 : decode cX4_trueAnswer 20 = .ok (.iload_n 3, 1) := by decide +kernel
theorem dX4_trueAnswer_21 : decode cX4_trueAnswer 21 = .ok (.iand, 1) := by decide +kernel
theorem dX4_trueAnswer_22 : decode cX4_trueAnswer 22 = .ok (.ifCond .eq 14, 3) := by decide +kernel
theorem dX4_trueAnswer_25 : decode cX4_trueAnswer 25 = .ok (.iload 4, 2) := by decide +kernel
theorem dX4_trueAnswer_27 : decode cX4_trueAnswer 27 = .ok (.ifCond .eq 7, 3) := by decide +kernel
theorem dX4_trueAnswer_30 : decode cX4_trueAnswer 30 = .ok (.iconst 0, 1) := by decide +kernel
theorem dX4_trueAnswer_31 : decode cX4_trueAnswer 31 = .ok (.goto 4, 3) := by decide +kernel
theorem dX4_trueAnswer_34 : decode cX4_trueAnswer 34 = .ok (.iconst 1, 1) := by decide +kernel
theorem dX4_trueAnswer_35 : decode cX4_trueAnswer 35 = .ok (.ireturn, 1) := by decide +kernel
theorem dX4_trueAnswer_36 : decode cX4_trueAnswer 36 = .ok (.iload_n 2, 1) := by decide +kernel
theorem dX4_trueAnswer_37 : decode cX4_trueAnswer 37 = .ok (.iload_n 3, 1) := by decide +kernel
theorem dX4_trueAnswer_38 : decode cX4_trueAnswer 38 = .ok (.iand, 1) := by decide +kernel
theorem dX4_trueAnswer_39 : decode cX4_trueAnswer 39 = .ok (.ifCond .eq 14, 3) := by decide +kernel
theorem dX4_trueAnswer_42 : decode cX4_trueAnswer 42 = .ok (.iload 4, 2) := by decide +kernel
theorem dX4_trueAnswer_44 : decode cX4_trueAnswer 44 = .ok (.ifCond .eq 7, 3) := by decide +kernel
theorem dX4_trueAnswer_47 : decode cX4_trueAnswer 47 = .ok (.iconst 1, 1) := by decide +kernel
theorem dX4_trueAnswer_48 : decode cX4_trueAnswer 48 = .ok (.goto 4, 3) := by decide +kernel
theorem dX4_trueAnswer_51 : decode cX4_trueAnswer 51 = .ok (.iconst 0, 1) := by decide +kernel
theorem dX4_trueAnswer_52 : decode cX4_trueAnswer 52 = .ok (.ireturn, 1) := by decide +kernel
theorem dX4_trueAnswer_53 : decode cX4_trueAnswer 53 = .ok (.iconst 2, 1) := by decide +kernel
theorem dX4_trueAnswer_54 : decode cX4_trueAnswer 54 = .ok (.ireturn, 1) := by decide +kernel
theorem dX4_volume_0 : decode cX4_volume 0 = .ok (.lconst 1, 1) := by decide +kernel
theorem dX4_volume_1 : decode cX4_volume 1 = .ok (.lstore_n 2, 1) := by decide +kernel
theorem dX4_volume_2 : decode cX4_volume 2 = .ok (.lconst 1, 1) := by decide +kernel
theorem dX4_volume_3 : decode cX4_volume 3 = .ok (.lstore 4, 2) := by decide +kernel
theorem dX4_volume_5 : decode cX4_volume 5 = .ok (.iload_n 0, 1) := by decide +kernel
theorem dX4_volume_6 : decode cX4_volume 6 = .ok (.iload_n 1, 1) := by decide +kernel
theorem dX4_volume_7 : decode cX4_volume 7 = .ok (.invokestatic 253, 3) := by decide +kernel
theorem dX4_volume_10 : decode cX4_volume 10 = .ok (.istore 6, 2) := by decide +kernel
theorem dX4_volume_12 : decode cX4_volume 12 = .ok (.iconst 1, 1) := by decide +kernel
theorem dX4_volume_13 : decode cX4_volume 13 = .ok (.istore 7, 2) := by decide +kernel
theorem dX4_volume_15 : decode cX4_volume 15 = .ok (.iload 7, 2) := by decide +kernel
theorem dX4_volume_17 : decode cX4_volume 17 = .ok (.iload 6, 2) := by decide +kernel
theorem dX4_volume_19 : decode cX4_volume 19 = .ok (.if_icmp .gt 32, 3) := by decide +kernel
theorem dX4_volume_22 : decode cX4_volume 22 = .ok (.lload_n 2, 1) := by decide +kernel
theorem dX4_volume_23 : decode cX4_volume 23 = .ok (.iload_n 0, 1) := by decide +kernel
theorem dX4_volume_24 : decode cX4_volume 24 = .ok (.iload 7, 2) := by decide +kernel
theorem dX4_volume_26 : decode cX4_volume 26 = .ok (.isub, 1) := by decide +kernel
theorem dX4_volume_27 : decode cX4_volume 27 = .ok (.iconst 1, 1) := by decide +kernel
theorem dX4_volume_28 : decode cX4_volume 28 = .ok (.iadd, 1) := by decide +kernel
theorem dX4_volume_29 : decode cX4_volume 29 = .ok (.i2l, 1) := by decide +kernel
theorem dX4_volume_30 : decode cX4_volume 30 = .ok (.lmul, 1) := by decide +kernel
theorem dX4_volume_31 : decode cX4_volume 31 = .ok (.iload 7, 2) := by decide +kernel
theorem dX4_volume_33 : decode cX4_volume 33 = .ok (.i2l, 1) := by decide +kernel
theorem dX4_volume_34 : decode cX4_volume 34 = .ok (.ldiv, 1) := by decide +kernel
theorem dX4_volume_35 : decode cX4_volume 35 = .ok (.lstore_n 2, 1) := by decide +kernel
theorem dX4_volume_36 : decode cX4_volume 36 = .ok (.lload 4, 2) := by decide +kernel
theorem dX4_volume_38 : decode cX4_volume 38 = .ok (.lload_n 2, 1) := by decide +kernel
theorem dX4_volume_39 : decode cX4_volume 39 = .ok (.iload 7, 2) := by decide +kernel
theorem dX4_volume_41 : decode cX4_volume 41 = .ok (.lshl, 1) := by decide +kernel
theorem dX4_volume_42 : decode cX4_volume 42 = .ok (.ladd, 1) := by decide +kernel
theorem dX4_volume_43 : decode cX4_volume 43 = .ok (.lstore 4, 2) := by decide +kernel
theorem dX4_volume_45 : decode cX4_volume 45 = .ok (.iinc 7 1, 3) := by decide +kernel
theorem dX4_volume_48 : decode cX4_volume 48 = .ok (.goto (-33), 3) := by decide +kernel
theorem dX4_volume_51 : decode cX4_volume 51 = .ok (.lload 4, 2) := by decide +kernel
theorem dX4_volume_53 : decode cX4_volume 53 = .ok (.lreturn, 1) := by decide +kernel
theorem dJ6_bitCount_0f7a4_0 : decode cJ6_bitCount_0f7a4 0 = .ok (.iload_n 0, 1) := by decide +kernel
theorem dJ6_bitCount_0f7a4_1 : decode cJ6_bitCount_0f7a4 1 = .ok (.iload_n 0, 1) := by decide +kernel
theorem dJ6_bitCount_0f7a4_2 : decode cJ6_bitCount_0f7a4 2 = .ok (.iconst 1, 1) := by decide +kernel
theorem dJ6_bitCount_0f7a4_3 : decode cJ6_bitCount_0f7a4 3 = .ok (.iushr, 1) := by decide +kernel
theorem dJ6_bitCount_0f7a4_4 : decode cJ6_bitCount_0f7a4 4 = .ok (.ldc_w 265, 3) := by decide +kernel
theorem dJ6_bitCount_0f7a4_7 : decode cJ6_bitCount_0f7a4 7 = .ok (.iand, 1) := by decide +kernel
theorem dJ6_bitCount_0f7a4_8 : decode cJ6_bitCount_0f7a4 8 = .ok (.isub, 1) := by decide +kernel
theorem dJ6_bitCount_0f7a4_9 : decode cJ6_bitCount_0f7a4 9 = .ok (.istore_n 0, 1) := by decide +kernel
theorem dJ6_bitCount_0f7a4_10 : decode cJ6_bitCount_0f7a4 10 = .ok (.iload_n 0, 1) := by decide +kernel
theorem dJ6_bitCount_0f7a4_11 : decode cJ6_bitCount_0f7a4 11 = .ok (.ldc_w 266, 3) := by decide +kernel
theorem dJ6_bitCount_0f7a4_14 : decode cJ6_bitCount_0f7a4 14 = .ok (.iand, 1) := by decide +kernel
theorem dJ6_bitCount_0f7a4_15 : decode cJ6_bitCount_0f7a4 15 = .ok (.iload_n 0, 1) := by decide +kernel
theorem dJ6_bitCount_0f7a4_16 : decode cJ6_bitCount_0f7a4 16 = .ok (.iconst 2, 1) := by decide +kernel
theorem dJ6_bitCount_0f7a4_17 : decode cJ6_bitCount_0f7a4 17 = .ok (.iushr, 1) := by decide +kernel
theorem dJ6_bitCount_0f7a4_18 : decode cJ6_bitCount_0f7a4 18 = .ok (.ldc_w 266, 3) := by decide +kernel
theorem dJ6_bitCount_0f7a4_21 : decode cJ6_bitCount_0f7a4 21 = .ok (.iand, 1) := by decide +kernel
theorem dJ6_bitCount_0f7a4_22 : decode cJ6_bitCount_0f7a4 22 = .ok (.iadd, 1) := by decide +kernel
theorem dJ6_bitCount_0f7a4_23 : decode cJ6_bitCount_0f7a4 23 = .ok (.istore_n 0, 1) := by decide +kernel
theorem dJ6_bitCount_0f7a4_24 : decode cJ6_bitCount_0f7a4 24 = .ok (.iload_n 0, 1) := by decide +kernel
theorem dJ6_bitCount_0f7a4_25 : decode cJ6_bitCount_0f7a4 25 = .ok (.iload_n 0, 1) := by decide +kernel
theorem dJ6_bitCount_0f7a4_26 : decode cJ6_bitCount_0f7a4 26 = .ok (.iconst 4, 1) := by decide +kernel
theorem dJ6_bitCount_0f7a4_27 : decode cJ6_bitCount_0f7a4 27 = .ok (.iushr, 1) := by decide +kernel
theorem dJ6_bitCount_0f7a4_28 : decode cJ6_bitCount_0f7a4 28 = .ok (.iadd, 1) := by decide +kernel
theorem dJ6_bitCount_0f7a4_29 : decode cJ6_bitCount_0f7a4 29 = .ok (.ldc_w 267, 3) := by decide +kernel
theorem dJ6_bitCount_0f7a4_32 : decode cJ6_bitCount_0f7a4 32 = .ok (.iand, 1) := by decide +kernel
theorem dJ6_bitCount_0f7a4_33 : decode cJ6_bitCount_0f7a4 33 = .ok (.istore_n 0, 1) := by decide +kernel
theorem dJ6_bitCount_0f7a4_34 : decode cJ6_bitCount_0f7a4 34 = .ok (.iload_n 0, 1) := by decide +kernel
theorem dJ6_bitCount_0f7a4_35 : decode cJ6_bitCount_0f7a4 35 = .ok (.iload_n 0, 1) := by decide +kernel
theorem dJ6_bitCount_0f7a4_36 : decode cJ6_bitCount_0f7a4 36 = .ok (.bipush 8, 2) := by decide +kernel
theorem dJ6_bitCount_0f7a4_38 : decode cJ6_bitCount_0f7a4 38 = .ok (.iushr, 1) := by decide +kernel
theorem dJ6_bitCount_0f7a4_39 : decode cJ6_bitCount_0f7a4 39 = .ok (.iadd, 1) := by decide +kernel
theorem dJ6_bitCount_0f7a4_40 : decode cJ6_bitCount_0f7a4 40 = .ok (.istore_n 0, 1) := by decide +kernel
theorem dJ6_bitCount_0f7a4_41 : decode cJ6_bitCount_0f7a4 41 = .ok (.iload_n 0, 1) := by decide +kernel
theorem dJ6_bitCount_0f7a4_42 : decode cJ6_bitCount_0f7a4 42 = .ok (.iload_n 0, 1) := by decide +kernel
theorem dJ6_bitCount_0f7a4_43 : decode cJ6_bitCount_0f7a4 43 = .ok (.bipush 16, 2) := by decide +kernel
theorem dJ6_bitCount_0f7a4_45 : decode cJ6_bitCount_0f7a4 45 = .ok (.iushr, 1) := by decide +kernel
theorem dJ6_bitCount_0f7a4_46 : decode cJ6_bitCount_0f7a4 46 = .ok (.iadd, 1) := by decide +kernel
theorem dJ6_bitCount_0f7a4_47 : decode cJ6_bitCount_0f7a4 47 = .ok (.istore_n 0, 1) := by decide +kernel
theorem dJ6_bitCount_0f7a4_48 : decode cJ6_bitCount_0f7a4 48 = .ok (.iload_n 0, 1) := by decide +kernel
theorem dJ6_bitCount_0f7a4_49 : decode cJ6_bitCount_0f7a4 49 = .ok (.bipush 63, 2) := by decide +kernel
theorem dJ6_bitCount_0f7a4_51 : decode cJ6_bitCount_0f7a4 51 = .ok (.iand, 1) := by decide +kernel
theorem dJ6_bitCount_0f7a4_52 : decode cJ6_bitCount_0f7a4 52 = .ok (.ireturn, 1) := by decide +kernel
theorem dJ9_max_7cf53_0 : decode cJ9_max_7cf53 0 = .ok (.iload_n 0, 1) := by decide +kernel
theorem dJ9_max_7cf53_1 : decode cJ9_max_7cf53 1 = .ok (.iload_n 1, 1) := by decide +kernel
theorem dJ9_max_7cf53_2 : decode cJ9_max_7cf53 2 = .ok (.if_icmp .lt 7, 3) := by decide +kernel
theorem dJ9_max_7cf53_5 : decode cJ9_max_7cf53 5 = .ok (.iload_n 0, 1) := by decide +kernel
theorem dJ9_max_7cf53_6 : decode cJ9_max_7cf53 6 = .ok (.goto 4, 3) := by decide +kernel
theorem dJ9_max_7cf53_9 : decode cJ9_max_7cf53 9 = .ok (.iload_n 1, 1) := by decide +kernel
theorem dJ9_max_7cf53_10 : decode cJ9_max_7cf53 10 = .ok (.ireturn, 1) := by decide +kernel
theorem dJ9_min_7cf53_0 : decode cJ9_min_7cf53 0 = .ok (.iload_n 0, 1) := by decide +kernel
theorem dJ9_min_7cf53_1 : decode cJ9_min_7cf53 1 = .ok (.iload_n 1, 1) := by decide +kernel
theorem dJ9_min_7cf53_2 : decode cJ9_min_7cf53 2 = .ok (.if_icmp .gt 7, 3) := by decide +kernel
theorem dJ9_min_7cf53_5 : decode cJ9_min_7cf53 5 = .ok (.iload_n 0, 1) := by decide +kernel
theorem dJ9_min_7cf53_6 : decode cJ9_min_7cf53 6 = .ok (.goto 4, 3) := by decide +kernel
theorem dJ9_min_7cf53_9 : decode cJ9_min_7cf53 9 = .ok (.iload_n 1, 1) := by decide +kernel
theorem dJ9_min_7cf53_10 : decode cJ9_min_7cf53 10 = .ok (.ireturn, 1) := by decide +kernel
end
section
theorem wli_wsL_law0_r1 : ∀ w ∈ wsL_law0_r1, w ∈ lw_tbl := by decide +kernel
theorem wli_wsL_law0_r2 : ∀ w ∈ wsL_law0_r2, w ∈ lw_tbl := by decide +kernel
theorem wli_wsL_law0_r3 : ∀ w ∈ wsL_law0_r3, w ∈ lw_tbl := by decide +kernel
theorem wli_wsL_law0_r4 : ∀ w ∈ wsL_law0_r4, w ∈ lw_tbl := by decide +kernel
theorem wli_wsL_law0_r5 : ∀ w ∈ wsL_law0_r5, w ∈ lw_tbl := by decide +kernel
theorem wli_wsL_law0_r6 : ∀ w ∈ wsL_law0_r6, w ∈ lw_tbl := by decide +kernel
theorem wli_wsL_law0_r7 : ∀ w ∈ wsL_law0_r7, w ∈ lw_tbl := by decide +kernel
theorem wli_wsL_law0_r8 : ∀ w ∈ wsL_law0_r8, w ∈ lw_tbl := by decide +kernel
theorem wli_wsL_law0_r9 : ∀ w ∈ wsL_law0_r9, w ∈ lw_tbl := by decide +kernel
theorem wli_wsL_law0_r10 : ∀ w ∈ wsL_law0_r10, w ∈ lw_tbl := by decide +kernel
theorem wli_wsL_law0_r11 : ∀ w ∈ wsL_law0_r11, w ∈ lw_tbl := by decide +kernel
theorem wli_wsL_law0_r12 : ∀ w ∈ wsL_law0_r12, w ∈ lw_tbl := by decide +kernel
theorem wli_wsL_law0_r13 : ∀ w ∈ wsL_law0_r13, w ∈ lw_tbl := by decide +kernel
theorem wli_wsX40 : ∀ w ∈ wsX40, w ∈ lw_tbl := by decide +kernel
theorem wli_wsX20 : ∀ w ∈ wsX20, w ∈ lw_tbl := by decide +kernel
theorem wli_wsX00 : ∀ w ∈ wsX00, w ∈ lw_tbl := by decide +kernel
theorem wli_wsX10 : ∀ w ∈ wsX10, w ∈ lw_tbl := by decide +kernel
theorem wli_wsX30 : ∀ w ∈ wsX30, w ∈ lw_tbl := by decide +kernel
theorem wsL_law_in0 : ∀ w ∈ wsL_law0, w ∈ lw_tbl := List.forall_mem_append.mpr ⟨List.forall_mem_append.mpr ⟨List.forall_mem_append.mpr ⟨List.forall_mem_append.mpr ⟨List.forall_mem_append.mpr ⟨List.forall_mem_append.mpr ⟨List.forall_mem_append.mpr ⟨wli_wsL_law0_r1, List.forall_mem_append.mpr ⟨wli_wsL_law0_r2, List.forall_mem_append.mpr ⟨wli_wsL_law0_r3, List.forall_mem_append.mpr ⟨wli_wsL_law0_r4, List.forall_mem_append.mpr ⟨wli_wsL_law0_r5, List.forall_mem_append.mpr ⟨wli_wsL_law0_r6, List.forall_mem_append.mpr ⟨wli_wsL_law0_r7, List.forall_mem_append.mpr ⟨wli_wsL_law0_r8, List.forall_mem_append.mpr ⟨wli_wsL_law0_r9, List.forall_mem_append.mpr ⟨wli_wsL_law0_r10, List.forall_mem_append.mpr ⟨wli_wsL_law0_r11, List.forall_mem_append.mpr ⟨wli_wsL_law0_r12, wli_wsL_law0_r13⟩⟩⟩⟩⟩⟩⟩⟩⟩⟩⟩⟩, wli_wsX40⟩, wli_wsX20⟩, wli_wsX00⟩, wli_wsX10⟩, wli_wsX30⟩, fun _ h => absurd h List.not_mem_nil⟩
theorem wsL_law_x0 : ∀ w ∈ (vx_atS RX4 34 "java/lang/IllegalArgumentException" ["java/lang/RuntimeException", "java/lang/Exception"]).filter goodWord, w ∈ lw_tbl := by decide +kernel
theorem wsL_law_x1 : ∀ w ∈ (vx_atS RX4 82 "java/lang/IllegalStateException" ["java/lang/RuntimeException", "java/lang/Exception"]).filter goodWord, w ∈ lw_tbl := by decide +kernel
theorem wsL_law_x2 : ∀ w ∈ (vx_atS RX4 97 "java/lang/IndexOutOfBoundsException" ["java/lang/RuntimeException", "java/lang/Exception"]).filter goodWord, w ∈ lw_tbl := by decide +kernel
theorem wsL_law_in : ∀ w ∈ wsL_law, w ∈ lw_tbl := fun w h => (List.mem_append.mp h).elim (fun h => (List.mem_append.mp h).elim (fun h => (List.mem_append.mp h).elim (fun h => wsL_law_in0 w h) (fun h => wsL_law_x0 w h)) (fun h => wsL_law_x1 w h)) (fun h => wsL_law_x2 w h)
theorem inlX0 : ∀ w ∈ wsX00, w ∈ wsL_law := fun _ h => List.mem_append_left _ (List.mem_append_left _ (List.mem_append_left _ (List.mem_append_left _ (List.mem_append_left _ (List.mem_append_left _ (List.mem_append_right _ h))))))
theorem inX0 : ∀ w ∈ wsX00, w ∈ lw_tbl := fun w h => wsL_law_in w (inlX0 w h)
theorem inlX1 : ∀ w ∈ wsX10, w ∈ wsL_law := fun _ h => List.mem_append_left _ (List.mem_append_left _ (List.mem_append_left _ (List.mem_append_left _ (List.mem_append_left _ (List.mem_append_right _ h)))))
theorem inX1 : ∀ w ∈ wsX10, w ∈ lw_tbl := fun w h => wsL_law_in w (inlX1 w h)
theorem inlX2 : ∀ w ∈ wsX20, w ∈ wsL_law := fun _ h => List.mem_append_left _ (List.mem_append_left _ (List.mem_append_left _ (List.mem_append_left _ (List.mem_append_left _ (List.mem_append_left _ (List.mem_append_left _ (List.mem_append_right _ h)))))))
theorem inX2 : ∀ w ∈ wsX20, w ∈ lw_tbl := fun w h => wsL_law_in w (inlX2 w h)
theorem inlX3 : ∀ w ∈ wsX30, w ∈ wsL_law := fun _ h => List.mem_append_left _ (List.mem_append_left _ (List.mem_append_left _ (List.mem_append_left _ (List.mem_append_right _ h))))
theorem inX3 : ∀ w ∈ wsX30, w ∈ lw_tbl := fun w h => wsL_law_in w (inlX3 w h)
theorem inlX4 : ∀ w ∈ wsX40, w ∈ wsL_law := fun _ h => List.mem_append_left _ (List.mem_append_left _ (List.mem_append_left _ (List.mem_append_left _ (List.mem_append_left _ (List.mem_append_left _ (List.mem_append_left _ (List.mem_append_left _ (List.mem_append_right _ h))))))))
theorem inX4 : ∀ w ∈ wsX40, w ∈ lw_tbl := fun w h => wsL_law_in w (inlX4 w h)
theorem inX5 : ∀ w ∈ wsX50, w ∈ lw_tbl := by decide +kernel
theorem inJ6 : ∀ w ∈ wsJ60, w ∈ lw_tbl := by decide +kernel
theorem inJ9 : ∀ w ∈ wsJ90, w ∈ lw_tbl := by decide +kernel
theorem inJ0 : ∀ w ∈ wsJ00, w ∈ lw_tbl := by decide +kernel
theorem inJ10 : ∀ w ∈ wsJ100, w ∈ lw_tbl := by decide +kernel
theorem dL_cell_0 : decode cL_cell 0 = .ok (.iload_n 1, 1) := by decide +kernel
theorem dL_cell_1 : decode cL_cell 1 = .ok (.aload_n 0, 1) := by decide +kernel
theorem dL_cell_2 : decode cL_cell 2 = .ok (.arraylength, 1) := by decide +kernel
theorem dL_cell_3 : decode cL_cell 3 = .ok (.if_icmp .ge 9, 3) := by decide +kernel
theorem dL_cell_6 : decode cL_cell 6 = .ok (.aload_n 0, 1) := by decide +kernel
theorem dL_cell_7 : decode cL_cell 7 = .ok (.iload_n 1, 1) := by decide +kernel
theorem dL_cell_8 : decode cL_cell 8 = .ok (.iaload, 1) := by decide +kernel
theorem dL_cell_9 : decode cL_cell 9 = .ok (.goto 10, 3) := by decide +kernel
theorem dL_cell_12 : decode cL_cell 12 = .ok (.ldc 7, 2) := by decide +kernel
theorem dL_cell_14 : decode cL_cell 14 = .ok (.iload_n 1, 1) := by decide +kernel
theorem dL_cell_15 : decode cL_cell 15 = .ok (.bipush 43, 2) := by decide +kernel
theorem dL_cell_17 : decode cL_cell 17 = .ok (.iadd, 1) := by decide +kernel
theorem dL_cell_18 : decode cL_cell 18 = .ok (.imul, 1) := by decide +kernel
theorem dL_cell_19 : decode cL_cell 19 = .ok (.ldc 8, 2) := by decide +kernel
theorem dL_cell_21 : decode cL_cell 21 = .ok (.iand, 1) := by decide +kernel
theorem dL_cell_22 : decode cL_cell 22 = .ok (.ireturn, 1) := by decide +kernel
set_option maxRecDepth 20000 in
theorem ggL_asks_X4_ask : GoodIn wsL_asks wsX4_ask := goodIn_ca (goodIn_ca (goodIn_r _ [9, 10, 11, 12, 13, 14, 15, 16, 17, 18, 19, 20, 21, 22, 23, 24, 25, 26, 27, 28, 29, 30, 31, 32, 33, 34, 35, 36, 37, 38, 39, 40, 41, 42, 43, 44, 45, 46, 47, 48, 49, 50, 51, 52, 53, 54, 55, 56, 57, 58, 59, 60, 61, 62, 63, 64, 65, 66, 67, 68, 69, 70, 71, 72, 8, 73, 74, 75, 76, 77, 78, 79, 80, 81, 82, 83, 84, 85, 86, 87, 88, 89, 90, 91, 92, 93, 94, 95, 96, 97, 98, 99, 100, 101, 102, 103, 104, 105, 106, 107, 108, 109, 110, 111, 112, 113, 114, 115, 116, 117, 118, 119, 120, 121, 122, 123, 124, 125, 126, 127, 128] (by decide +kernel) (by decide +kernel)) (goodIn_sub (fun _ h => List.mem_cons_of_mem _ (List.mem_append_left _ (List.mem_append_right _ h))) (by decide +kernel))) (goodIn_sub (fun _ h => List.mem_cons_of_mem _ (List.mem_append_right _ h)) (by decide +kernel))
set_option maxRecDepth 20000 in
theorem gL_asks_X4_ask : GoodIn wsL_asks (wsV RL 9 RX4 yX4_ask wsX4_ask) := goodIn_app (goodIn_of _ (by decide +kernel)) ggL_asks_X4_ask
theorem dL_asks_0 : decode cL_asks 0 = .ok (.aload_n 0, 1) := by decide +kernel
theorem dL_asks_1 : decode cL_asks 1 = .ok (.iload_n 1, 1) := by decide +kernel
theorem dL_asks_2 : decode cL_asks 2 = .ok (.iload_n 2, 1) := by decide +kernel
theorem dL_asks_3 : decode cL_asks 3 = .ok (.invokevirtual 9, 3) := by decide +kernel
theorem dL_asks_6 : decode cL_asks 6 = .ok (.ireturn, 1) := by decide +kernel
theorem dL_asks_7 : decode cL_asks 7 = .ok (.astore_n 3, 1) := by decide +kernel
theorem dL_asks_8 : decode cL_asks 8 = .ok (.ldc 17, 2) := by decide +kernel
theorem dL_asks_10 : decode cL_asks 10 = .ok (.ireturn, 1) := by decide +kernel
theorem dL_asks_11 : decode cL_asks 11 = .ok (.astore_n 3, 1) := by decide +kernel
theorem dL_asks_12 : decode cL_asks 12 = .ok (.ldc 20, 2) := by decide +kernel
theorem dL_asks_14 : decode cL_asks 14 = .ok (.ireturn, 1) := by decide +kernel
set_option maxRecDepth 20000 in
theorem ggL_hides_X4_hide : GoodIn wsL_hides wsX4_hide := goodIn_ca (goodIn_ca (goodIn_r _ [9, 10, 11, 12, 13, 14, 15, 16, 17, 18, 19, 20, 21, 22, 23, 24, 25, 26, 27, 28, 29, 30, 31, 32, 33, 34, 35, 36, 37, 38, 39, 40, 41, 42, 43, 44, 45, 46, 47, 48, 49, 50, 51, 52, 53, 54, 55, 56, 57, 58, 59, 60, 61, 62, 8, 63, 64, 65, 66, 67, 68, 69, 70, 71, 72, 73, 74, 75, 76, 77, 78, 79, 80, 81, 82, 83, 84, 85, 86, 87, 88, 89, 90, 91, 92, 93] (by decide +kernel) (by decide +kernel)) (goodIn_sub (fun _ h => List.mem_cons_of_mem _ (List.mem_append_left _ (List.mem_append_right _ h))) (by decide +kernel))) (goodIn_sub (fun _ h => List.mem_cons_of_mem _ (List.mem_append_right _ h)) (by decide +kernel))
set_option maxRecDepth 20000 in
theorem gL_hides_X4_hide : GoodIn wsL_hides (wsV RL 21 RX4 yX4_hide wsX4_hide) := goodIn_app (goodIn_of _ (by decide +kernel)) ggL_hides_X4_hide
theorem dL_hides_0 : decode cL_hides 0 = .ok (.aload_n 0, 1) := by decide +kernel
theorem dL_hides_1 : decode cL_hides 1 = .ok (.iload_n 1, 1) := by decide +kernel
theorem dL_hides_2 : decode cL_hides 2 = .ok (.iload_n 2, 1) := by decide +kernel
theorem dL_hides_3 : decode cL_hides 3 = .ok (.invokevirtual 21, 3) := by decide +kernel
theorem dL_hides_6 : decode cL_hides 6 = .ok (.ireturn, 1) := by decide +kernel
theorem dL_hides_7 : decode cL_hides 7 = .ok (.astore_n 3, 1) := by decide +kernel
theorem dL_hides_8 : decode cL_hides 8 = .ok (.ldc 17, 2) := by decide +kernel
theorem dL_hides_10 : decode cL_hides 10 = .ok (.ireturn, 1) := by decide +kernel
theorem dL_hides_11 : decode cL_hides 11 = .ok (.astore_n 3, 1) := by decide +kernel
theorem dL_hides_12 : decode cL_hides 12 = .ok (.ldc 20, 2) := by decide +kernel
theorem dL_hides_14 : decode cL_hides 14 = .ok (.ireturn, 1) := by decide +kernel
set_option maxRecDepth 20000 in
theorem ggL_begins_X4_begin : GoodIn wsL_begins wsX4_begin := goodIn_ca (goodIn_r _ [7, 8, 9, 10, 11, 12, 13, 14, 15, 16, 17, 18, 19, 20, 21, 22, 23, 24, 25, 26, 27, 28, 29, 30, 31, 32, 33, 34, 35, 36, 37, 38, 39, 40, 41, 42, 43, 44, 45, 46, 47, 48, 49, 6, 50, 51, 52, 53, 54, 55, 56, 57, 58, 59, 60, 61, 62, 63, 64, 65, 66, 67, 68, 69, 70, 71, 72, 73, 74, 75, 76, 77, 78, 79, 80, 81, 82, 83, 84, 85, 86, 87, 88, 89, 90] (by decide +kernel) (by decide +kernel)) (goodIn_sub (fun _ h => List.mem_cons_of_mem _ (List.mem_append_right _ h)) (by decide +kernel))
set_option maxRecDepth 20000 in
theorem gL_begins_X4_begin : GoodIn wsL_begins (wsV RL 26 RX4 yX4_begin wsX4_begin) := goodIn_app (goodIn_of _ (by decide +kernel)) ggL_begins_X4_begin
theorem dL_begins_0 : decode cL_begins 0 = .ok (.aload_n 0, 1) := by decide +kernel
theorem dL_begins_1 : decode cL_begins 1 = .ok (.iload_n 1, 1) := by decide +kernel
theorem dL_begins_2 : decode cL_begins 2 = .ok (.invokevirtual 26, 3) := by decide +kernel
theorem dL_begins_5 : decode cL_begins 5 = .ok (.ireturn, 1) := by decide +kernel
theorem dL_begins_6 : decode cL_begins 6 = .ok (.astore_n 2, 1) := by decide +kernel
theorem dL_begins_7 : decode cL_begins 7 = .ok (.ldc 17, 2) := by decide +kernel
theorem dL_begins_9 : decode cL_begins 9 = .ok (.ireturn, 1) := by decide +kernel
set_option maxRecDepth 20000 in
theorem ggL_limits_X4_setLimit : GoodIn wsL_limits wsX4_setLimit := goodIn_ca (goodIn_r _ [7, 8, 9, 10, 11, 12, 13, 14, 15, 16, 17, 18, 19, 20, 21, 22, 23, 24, 25, 26, 27, 28, 29, 30, 31, 32, 33, 34, 35, 36, 37, 38, 39, 40, 41, 42, 43, 44, 45, 46, 47, 48, 49, 6, 50, 51, 52, 53, 54, 55, 56, 57, 58, 59, 60, 61, 62, 63, 64, 65, 66, 67, 68, 69, 70, 71, 72, 73, 74, 75, 76, 77, 78, 79, 80, 81, 82, 83, 84, 85, 86, 87, 88, 89, 90] (by decide +kernel) (by decide +kernel)) (goodIn_sub (fun _ h => List.mem_cons_of_mem _ (List.mem_append_right _ h)) (by decide +kernel))
set_option maxRecDepth 20000 in
theorem gL_limits_X4_setLimit : GoodIn wsL_limits (wsV RL 30 RX4 yX4_setLimit wsX4_setLimit) := goodIn_app (goodIn_of _ (by decide +kernel)) ggL_limits_X4_setLimit
theorem dL_limits_0 : decode cL_limits 0 = .ok (.aload_n 0, 1) := by decide +kernel
theorem dL_limits_1 : decode cL_limits 1 = .ok (.iload_n 1, 1) := by decide +kernel
theorem dL_limits_2 : decode cL_limits 2 = .ok (.invokevirtual 30, 3) := by decide +kernel
theorem dL_limits_5 : decode cL_limits 5 = .ok (.ireturn, 1) := by decide +kernel
theorem dL_limits_6 : decode cL_limits 6 = .ok (.astore_n 2, 1) := by decide +kernel
theorem dL_limits_7 : decode cL_limits 7 = .ok (.ldc 17, 2) := by decide +kernel
theorem dL_limits_9 : decode cL_limits 9 = .ok (.ireturn, 1) := by decide +kernel
set_option maxRecDepth 20000 in
theorem ggL_undoes_X4_undo : GoodIn wsL_undoes wsX4_undo := goodIn_ca (goodIn_r _ [7, 8, 9, 10, 11, 12, 13, 14, 15, 16, 17, 18, 19, 20, 21, 22, 23, 24, 25, 26, 27, 28, 29, 30, 31, 32, 33, 34, 35, 36, 37, 38, 39, 40, 41, 42, 43, 44, 45, 6, 46, 47, 48, 49, 50, 51, 52, 53, 54, 55, 56, 57, 58, 59, 60, 61, 62, 63, 64, 65, 66, 67, 68, 69, 70, 71, 72] (by decide +kernel) (by decide +kernel)) (goodIn_sub (fun _ h => List.mem_cons_of_mem _ (List.mem_append_right _ h)) (by decide +kernel))
set_option maxRecDepth 20000 in
theorem gL_undoes_X4_undo : GoodIn wsL_undoes (wsV RL 33 RX4 yX4_undo wsX4_undo) := goodIn_app (goodIn_of _ (by decide +kernel)) ggL_undoes_X4_undo
theorem dL_undoes_0 : decode cL_undoes 0 = .ok (.aload_n 0, 1) := by decide +kernel
theorem dL_undoes_1 : decode cL_undoes 1 = .ok (.invokevirtual 33, 3) := by decide +kernel
theorem dL_undoes_4 : decode cL_undoes 4 = .ok (.ireturn, 1) := by decide +kernel
theorem dL_undoes_5 : decode cL_undoes 5 = .ok (.astore_n 1, 1) := by decide +kernel
theorem dL_undoes_6 : decode cL_undoes 6 = .ok (.ldc 17, 2) := by decide +kernel
theorem dL_undoes_8 : decode cL_undoes 8 = .ok (.ireturn, 1) := by decide +kernel
set_option maxRecDepth 20000 in
theorem ggL_liesOf_X4_lies : GoodIn wsL_liesOf wsX4_lies := goodIn_ca (goodIn_r _ [7, 8, 9, 10, 11, 12, 13, 14, 15, 16, 17, 18, 19, 20, 21, 22, 6, 23, 24, 25, 26, 27, 28, 29, 30, 31, 32, 33, 34, 35] (by decide +kernel) (by decide +kernel)) (goodIn_sub (fun _ h => List.mem_cons_of_mem _ (List.mem_append_right _ h)) (by decide +kernel))
set_option maxRecDepth 20000 in
theorem gL_liesOf_X4_lies : GoodIn wsL_liesOf (wsV RL 37 RX4 yX4_lies wsX4_lies) := goodIn_app (goodIn_of _ (by decide +kernel)) ggL_liesOf_X4_lies
theorem dL_liesOf_0 : decode cL_liesOf 0 = .ok (.aload_n 0, 1) := by decide +kernel
theorem dL_liesOf_1 : decode cL_liesOf 1 = .ok (.iload_n 1, 1) := by decide +kernel
theorem dL_liesOf_2 : decode cL_liesOf 2 = .ok (.invokevirtual 37, 3) := by decide +kernel
theorem dL_liesOf_5 : decode cL_liesOf 5 = .ok (.ireturn, 1) := by decide +kernel
theorem dL_liesOf_6 : decode cL_liesOf 6 = .ok (.astore_n 2, 1) := by decide +kernel
theorem dL_liesOf_7 : decode cL_liesOf 7 = .ok (.ldc 17, 2) := by decide +kernel
theorem dL_liesOf_9 : decode cL_liesOf 9 = .ok (.ireturn, 1) := by decide +kernel
set_option maxRecDepth 20000 in
theorem ggL_value_X4_value : GoodIn wsL_value wsX4_value := goodIn_ca (goodIn_r _ [7, 8, 9, 10, 11, 12, 13, 14, 15, 16, 17, 18, 19, 20, 21, 22, 23, 24, 25, 26, 27, 28, 29, 30, 31, 32, 33, 34, 35, 6, 36, 37, 38, 39, 40, 41, 42, 43, 44, 45, 46, 47, 48, 49, 50, 51, 52, 53, 54, 55, 56, 57, 58] (by decide +kernel) (by decide +kernel)) (goodIn_sub (fun _ h => List.mem_cons_of_mem _ (List.mem_append_right _ h)) (by decide +kernel))
set_option maxRecDepth 20000 in
theorem gL_value_X4_value : GoodIn wsL_value (wsV RL 40 RX4 yX4_value wsX4_value) := goodIn_app (goodIn_of _ (by decide +kernel)) ggL_value_X4_value
theorem dL_value_0 : decode cL_value 0 = .ok (.aload_n 0, 1) := by decide +kernel
theorem dL_value_1 : decode cL_value 1 = .ok (.iload_n 1, 1) := by decide +kernel
theorem dL_value_2 : decode cL_value 2 = .ok (.invokevirtual 40, 3) := by decide +kernel
theorem dL_value_5 : decode cL_value 5 = .ok (.ireturn, 1) := by decide +kernel
theorem dL_value_6 : decode cL_value 6 = .ok (.astore_n 2, 1) := by decide +kernel
theorem dL_value_7 : decode cL_value 7 = .ok (.ldc 17, 2) := by decide +kernel
theorem dL_value_9 : decode cL_value 9 = .ok (.ireturn, 1) := by decide +kernel
set_option maxRecDepth 20000 in
theorem ggL_weighs_X4_weight : GoodIn wsL_weighs wsX4_weight := goodIn_ca (goodIn_r _ [7, 8, 9, 10, 11, 12, 6, 13, 14, 15, 16, 17, 18, 19, 20, 21, 22, 23, 24, 25, 26, 27, 28, 29, 30, 31, 32, 33, 34, 35, 36, 37, 38, 39, 40, 41, 42, 43, 44, 45, 46, 47, 48, 49] (by decide +kernel) (by decide +kernel)) (goodIn_sub (fun _ h => List.mem_cons_of_mem _ (List.mem_append_right _ h)) (by decide +kernel))
set_option maxRecDepth 20000 in
theorem gL_weighs_X4_weight : GoodIn wsL_weighs (wsV RL 43 RX4 yX4_weight wsX4_weight) := goodIn_app (goodIn_of _ (by decide +kernel)) ggL_weighs_X4_weight
theorem dL_weighs_0 : decode cL_weighs 0 = .ok (.aload_n 0, 1) := by decide +kernel
theorem dL_weighs_1 : decode cL_weighs 1 = .ok (.iload_n 1, 1) := by decide +kernel
theorem dL_weighs_2 : decode cL_weighs 2 = .ok (.invokevirtual 43, 3) := by decide +kernel
theorem dL_weighs_5 : decode cL_weighs 5 = .ok (.lreturn, 1) := by decide +kernel
theorem dL_weighs_6 : decode cL_weighs 6 = .ok (.astore_n 2, 1) := by decide +kernel
theorem dL_weighs_7 : decode cL_weighs 7 = .ok (.ldc2_w 47, 3) := by decide +kernel
theorem dL_weighs_10 : decode cL_weighs 10 = .ok (.lreturn, 1) := by decide +kernel
set_option maxRecDepth 20000 in
theorem ggL_behind_X4_weightBehind : GoodIn wsL_behind wsX4_weightBehind := goodIn_ca (goodIn_r _ [7, 8, 9, 10, 11, 12, 13, 14, 15, 16, 17, 18, 19, 20, 21, 22, 23, 24, 25, 6, 26, 27, 28, 29, 30, 31, 32, 33, 34, 35, 36, 37, 38, 39, 40, 41, 42, 43, 44, 45, 46, 47, 48, 49, 50, 51, 52, 53, 54, 55, 56, 57, 58, 59, 60, 61, 62, 63, 64, 65, 66, 67, 68, 69, 70, 71, 72] (by decide +kernel) (by decide +kernel)) (goodIn_sub (fun _ h => List.mem_cons_of_mem _ (List.mem_append_right _ h)) (by decide +kernel))
set_option maxRecDepth 20000 in
theorem gL_behind_X4_weightBehind : GoodIn wsL_behind (wsV RL 49 RX4 yX4_weightBehind wsX4_weightBehind) := goodIn_app (goodIn_of _ (by decide +kernel)) ggL_behind_X4_weightBehind
theorem dL_behind_0 : decode cL_behind 0 = .ok (.aload_n 0, 1) := by decide +kernel
theorem dL_behind_1 : decode cL_behind 1 = .ok (.iload_n 1, 1) := by decide +kernel
theorem dL_behind_2 : decode cL_behind 2 = .ok (.iload_n 2, 1) := by decide +kernel
theorem dL_behind_3 : decode cL_behind 3 = .ok (.iload_n 3, 1) := by decide +kernel
theorem dL_behind_4 : decode cL_behind 4 = .ok (.iload 4, 2) := by decide +kernel
theorem dL_behind_6 : decode cL_behind 6 = .ok (.invokevirtual 49, 3) := by decide +kernel
theorem dL_behind_9 : decode cL_behind 9 = .ok (.lreturn, 1) := by decide +kernel
theorem dL_behind_10 : decode cL_behind 10 = .ok (.astore 5, 2) := by decide +kernel
theorem dL_behind_12 : decode cL_behind 12 = .ok (.ldc2_w 47, 3) := by decide +kernel
theorem dL_behind_15 : decode cL_behind 15 = .ok (.lreturn, 1) := by decide +kernel
set_option maxRecDepth 20000 in
theorem ggL_holds_L_value : GoodIn wsL_holds wsL_value := goodIn_ca (goodIn_r _ [4, 5, 6, 7, 8, 9, 10, 11, 12, 13, 14, 15, 16, 17, 18, 19, 20, 21, 22, 23, 24, 25, 26, 27, 28, 29, 30, 31, 32, 33, 34, 35, 36, 37, 38, 39, 40, 41, 42, 43, 44, 45, 46, 92, 93, 94, 95, 96, 97, 98, 99, 100, 101, 102, 103, 104, 105, 106, 107] (by decide +kernel) (by decide +kernel)) (goodIn_sub (fun _ h => List.mem_cons_of_mem _ (List.mem_append_left _ (List.mem_append_right _ h))) (by decide +kernel))
set_option maxRecDepth 20000 in
theorem gL_holds_L_value : GoodIn wsL_holds (va_wsS RL 53 yL_value wsL_value) := goodIn_app (goodIn_of _ (by decide +kernel)) ggL_holds_L_value
set_option maxRecDepth 20000 in
theorem ggL_holds_L_liesOf : GoodIn wsL_holds wsL_liesOf := goodIn_ca (goodIn_r _ [49, 50, 6, 51, 52, 53, 10, 54, 55, 56, 14, 57, 58, 59, 18, 60, 30, 31, 32, 33, 20, 61, 39, 40, 92, 93, 94, 95, 96, 97, 98, 99, 100, 101, 102, 103] (by decide +kernel) (by decide +kernel)) (goodIn_sub (fun _ h => List.mem_cons_of_mem _ (List.mem_append_right _ h)) (by decide +kernel))
set_option maxRecDepth 20000 in
theorem gL_holds_L_liesOf : GoodIn wsL_holds (va_wsS RL 58 yL_liesOf wsL_liesOf) := goodIn_app (goodIn_of _ (by decide +kernel)) ggL_holds_L_liesOf
set_option maxRecDepth 20000 in
theorem ggL_holds_L_weighs : GoodIn wsL_holds wsL_weighs := goodIn_ca (goodIn_r _ [64, 5, 65, 66, 67, 68, 10, 69, 12, 13, 14, 70, 71, 72, 73, 74, 75, 18, 76, 38, 30, 31, 32, 33, 20, 39, 40, 77, 78, 79, 80, 21, 81, 82, 83, 84, 85, 86, 92, 93, 94, 95, 96, 97, 98, 99, 100, 101, 102, 103] (by decide +kernel) (by decide +kernel)) (goodIn_sub (fun _ h => List.mem_cons_of_mem _ (List.mem_append_left _ (List.mem_append_right _ h))) (by decide +kernel))
set_option maxRecDepth 20000 in
theorem gL_holds_L_weighs : GoodIn wsL_holds (va_wsS RL 61 yL_weighs wsL_weighs) := goodIn_app (goodIn_of _ (by decide +kernel)) ggL_holds_L_weighs
set_option maxRecDepth 20000 in
theorem ggL_holds_X4_bound : GoodIn wsL_holds wsX4_bound := goodIn_r _ [90, 14, 91, 73, 74, 75, 18, 76, 38, 30, 31, 32, 33, 20, 39, 10, 40, 77, 78, 79, 80, 21, 81, 82, 83, 84, 85, 86, 92, 93, 94, 95, 96, 97, 98, 99, 100, 101, 102, 103] (by decide +kernel) (by decide +kernel)
set_option maxRecDepth 20000 in
theorem gL_holds_X4_bound : GoodIn wsL_holds (wsV RL 65 RX4 yX4_bound wsX4_bound) := goodIn_app (goodIn_of _ (by decide +kernel)) ggL_holds_X4_bound
theorem dL_holds_0 : decode cL_holds 0 = .ok (.aload_n 0, 1) := by decide +kernel
theorem dL_holds_1 : decode cL_holds 1 = .ok (.iconst 5, 1) := by decide +kernel
theorem dL_holds_2 : decode cL_holds 2 = .ok (.invokestatic 53, 3) := by decide +kernel
theorem dL_holds_5 : decode cL_holds 5 = .ok (.istore_n 2, 1) := by decide +kernel
theorem dL_holds_6 : decode cL_holds 6 = .ok (.aload_n 0, 1) := by decide +kernel
theorem dL_holds_7 : decode cL_holds 7 = .ok (.iconst 3, 1) := by decide +kernel
theorem dL_holds_8 : decode cL_holds 8 = .ok (.invokestatic 53, 3) := by decide +kernel
theorem dL_holds_11 : decode cL_holds 11 = .ok (.istore_n 3, 1) := by decide +kernel
theorem dL_holds_12 : decode cL_holds 12 = .ok (.iconst 2, 1) := by decide +kernel
theorem dL_holds_13 : decode cL_holds 13 = .ok (.aload_n 0, 1) := by decide +kernel
theorem dL_holds_14 : decode cL_holds 14 = .ok (.iconst 0, 1) := by decide +kernel
theorem dL_holds_15 : decode cL_holds 15 = .ok (.invokestatic 53, 3) := by decide +kernel
theorem dL_holds_18 : decode cL_holds 18 = .ok (.imul, 1) := by decide +kernel
theorem dL_holds_19 : decode cL_holds 19 = .ok (.iconst 1, 1) := by decide +kernel
theorem dL_holds_20 : decode cL_holds 20 = .ok (.iadd, 1) := by decide +kernel
theorem dL_holds_21 : decode cL_holds 21 = .ok (.istore 4, 2) := by decide +kernel
theorem dL_holds_23 : decode cL_holds 23 = .ok (.iconst 0, 1) := by decide +kernel
theorem dL_holds_24 : decode cL_holds 24 = .ok (.istore 5, 2) := by decide +kernel
theorem dL_holds_26 : decode cL_holds 26 = .ok (.iload_n 2, 1) := by decide +kernel
theorem dL_holds_27 : decode cL_holds 27 = .ok (.ifCond .lt 12, 3) := by decide +kernel
theorem dL_holds_30 : decode cL_holds 30 = .ok (.aload_n 0, 1) := by decide +kernel
theorem dL_holds_31 : decode cL_holds 31 = .ok (.iload_n 2, 1) := by decide +kernel
theorem dL_holds_32 : decode cL_holds 32 = .ok (.invokestatic 58, 3) := by decide +kernel
theorem dL_holds_35 : decode cL_holds 35 = .ok (.iload_n 1, 1) := by decide +kernel
theorem dL_holds_36 : decode cL_holds 36 = .ok (.if_icmp .ne 7, 3) := by decide +kernel
theorem dL_holds_39 : decode cL_holds 39 = .ok (.iconst 1, 1) := by decide +kernel
theorem dL_holds_40 : decode cL_holds 40 = .ok (.goto 4, 3) := by decide +kernel
theorem dL_holds_43 : decode cL_holds 43 = .ok (.iconst 0, 1) := by decide +kernel
theorem dL_holds_44 : decode cL_holds 44 = .ok (.istore 6, 2) := by decide +kernel
theorem dL_holds_46 : decode cL_holds 46 = .ok (.iconst 0, 1) := by decide +kernel
theorem dL_holds_47 : decode cL_holds 47 = .ok (.istore 7, 2) := by decide +kernel
theorem dL_holds_49 : decode cL_holds 49 = .ok (.iload 7, 2) := by decide +kernel
theorem dL_holds_51 : decode cL_holds 51 = .ok (.iload 4, 2) := by decide +kernel
theorem dL_holds_53 : decode cL_holds 53 = .ok (.if_icmp .ge 64, 3) := by decide +kernel
theorem dL_holds_56 : decode cL_holds 56 = .ok (.iload 6, 2) := by decide +kernel
theorem dL_holds_58 : decode cL_holds 58 = .ok (.ifCond .eq 59, 3) := by decide +kernel
theorem dL_holds_61 : decode cL_holds 61 = .ok (.aload_n 0, 1) := by decide +kernel
theorem dL_holds_62 : decode cL_holds 62 = .ok (.iload 7, 2) := by decide +kernel
theorem dL_holds_64 : decode cL_holds 64 = .ok (.invokestatic 58, 3) := by decide +kernel
theorem dL_holds_67 : decode cL_holds 67 = .ok (.istore 8, 2) := by decide +kernel
theorem dL_holds_69 : decode cL_holds 69 = .ok (.iload 5, 2) := by decide +kernel
theorem dL_holds_71 : decode cL_holds 71 = .ok (.iload 8, 2) := by decide +kernel
theorem dL_holds_73 : decode cL_holds 73 = .ok (.aload_n 0, 1) := by decide +kernel
theorem dL_holds_74 : decode cL_holds 74 = .ok (.iconst 1, 1) := by decide +kernel
theorem dL_holds_75 : decode cL_holds 75 = .ok (.invokestatic 53, 3) := by decide +kernel
theorem dL_holds_78 : decode cL_holds 78 = .ok (.if_icmp .gt 7, 3) := by decide +kernel
theorem dL_holds_81 : decode cL_holds 81 = .ok (.iconst 1, 1) := by decide +kernel
theorem dL_holds_82 : decode cL_holds 82 = .ok (.goto 4, 3) := by decide +kernel
theorem dL_holds_85 : decode cL_holds 85 = .ok (.iconst 0, 1) := by decide +kernel
theorem dL_holds_86 : decode cL_holds 86 = .ok (.iadd, 1) := by decide +kernel
theorem dL_holds_87 : decode cL_holds 87 = .ok (.istore 5, 2) := by decide +kernel
theorem dL_holds_89 : decode cL_holds 89 = .ok (.iload 8, 2) := by decide +kernel
theorem dL_holds_91 : decode cL_holds 91 = .ok (.ifCond .lt 17, 3) := by decide +kernel
theorem dL_holds_94 : decode cL_holds 94 = .ok (.iload 8, 2) := by decide +kernel
theorem dL_holds_96 : decode cL_holds 96 = .ok (.aload_n 0, 1) := by decide +kernel
theorem dL_holds_97 : decode cL_holds 97 = .ok (.iconst 2, 1) := by decide +kernel
theorem dL_holds_98 : decode cL_holds 98 = .ok (.invokestatic 53, 3) := by decide +kernel
theorem dL_holds_101 : decode cL_holds 101 = .ok (.if_icmp .gt 7, 3) := by decide +kernel
theorem dL_holds_104 : decode cL_holds 104 = .ok (.iconst 1, 1) := by decide +kernel
theorem dL_holds_105 : decode cL_holds 105 = .ok (.goto 4, 3) := by decide +kernel
theorem dL_holds_108 : decode cL_holds 108 = .ok (.iconst 0, 1) := by decide +kernel
theorem dL_holds_109 : decode cL_holds 109 = .ok (.istore 6, 2) := by decide +kernel
theorem dL_holds_111 : decode cL_holds 111 = .ok (.iinc 7 1, 3) := by decide +kernel
theorem dL_holds_114 : decode cL_holds 114 = .ok (.goto (-65), 3) := by decide +kernel
theorem dL_holds_117 : decode cL_holds 117 = .ok (.iload 6, 2) := by decide +kernel
theorem dL_holds_119 : decode cL_holds 119 = .ok (.ifCond .eq 56, 3) := by decide +kernel
theorem dL_holds_122 : decode cL_holds 122 = .ok (.iload 5, 2) := by decide +kernel
theorem dL_holds_124 : decode cL_holds 124 = .ok (.iload_n 3, 1) := by decide +kernel
theorem dL_holds_125 : decode cL_holds 125 = .ok (.if_icmp .ne 50, 3) := by decide +kernel
theorem dL_holds_128 : decode cL_holds 128 = .ok (.iload_n 1, 1) := by decide +kernel
theorem dL_holds_129 : decode cL_holds 129 = .ok (.aload_n 0, 1) := by decide +kernel
theorem dL_holds_130 : decode cL_holds 130 = .ok (.iconst 1, 1) := by decide +kernel
theorem dL_holds_131 : decode cL_holds 131 = .ok (.invokestatic 53, 3) := by decide +kernel
theorem dL_holds_134 : decode cL_holds 134 = .ok (.if_icmp .gt 11, 3) := by decide +kernel
theorem dL_holds_137 : decode cL_holds 137 = .ok (.iload_n 2, 1) := by decide +kernel
theorem dL_holds_138 : decode cL_holds 138 = .ok (.ifCond .lt 7, 3) := by decide +kernel
theorem dL_holds_141 : decode cL_holds 141 = .ok (.iload_n 3, 1) := by decide +kernel
theorem dL_holds_142 : decode cL_holds 142 = .ok (.ifCond .le 33, 3) := by decide +kernel
theorem dL_holds_145 : decode cL_holds 145 = .ok (.aload_n 0, 1) := by decide +kernel
theorem dL_holds_146 : decode cL_holds 146 = .ok (.iconst 0, 1) := by decide +kernel
theorem dL_holds_147 : decode cL_holds 147 = .ok (.invokestatic 61, 3) := by decide +kernel
theorem dL_holds_150 : decode cL_holds 150 = .ok (.iload_n 3, 1) := by decide +kernel
theorem dL_holds_151 : decode cL_holds 151 = .ok (.i2l, 1) := by decide +kernel
theorem dL_holds_152 : decode cL_holds 152 = .ok (.lcmp, 1) := by decide +kernel
theorem dL_holds_153 : decode cL_holds 153 = .ok (.ifCond .ne 22, 3) := by decide +kernel
theorem dL_holds_156 : decode cL_holds 156 = .ok (.aload_n 0, 1) := by decide +kernel
theorem dL_holds_157 : decode cL_holds 157 = .ok (.iconst 3, 1) := by decide +kernel
theorem dL_holds_158 : decode cL_holds 158 = .ok (.invokestatic 53, 3) := by decide +kernel
theorem dL_holds_161 : decode cL_holds 161 = .ok (.ifCond .gt 10, 3) := by decide +kernel
theorem dL_holds_164 : decode cL_holds 164 = .ok (.aload_n 0, 1) := by decide +kernel
theorem dL_holds_165 : decode cL_holds 165 = .ok (.invokevirtual 65, 3) := by decide +kernel
theorem dL_holds_168 : decode cL_holds 168 = .ok (.ifCond .ne 7, 3) := by decide +kernel
theorem dL_holds_171 : decode cL_holds 171 = .ok (.iconst 1, 1) := by decide +kernel
theorem dL_holds_172 : decode cL_holds 172 = .ok (.goto 4, 3) := by decide +kernel
theorem dL_holds_175 : decode cL_holds 175 = .ok (.iconst 0, 1) := by decide +kernel
theorem dL_holds_176 : decode cL_holds 176 = .ok (.ireturn, 1) := by decide +kernel
set_option maxRecDepth 20000 in
theorem ggL_splits_L_behind : GoodIn wsL_splits wsL_behind := goodIn_ca (goodIn_r _ [4, 5, 6, 7, 8, 9, 10, 11, 12, 13, 14, 15, 16, 17, 18, 19, 20, 21, 22, 23, 24, 25, 26, 27, 28, 29, 30, 31, 32, 33, 34, 35, 36, 37, 38, 39, 40, 41, 42, 43, 44, 45, 46, 47, 48, 49, 50, 51, 52, 53, 54, 55, 56, 57, 58, 59, 60, 61, 62, 63, 64, 76, 77, 78, 79, 80, 81, 82, 83, 84, 85, 86, 87] (by decide +kernel) (by decide +kernel)) (goodIn_sub (fun _ h => List.mem_cons_of_mem _ (List.mem_append_right _ h)) (by decide +kernel))
set_option maxRecDepth 20000 in
theorem gL_splits_L_behind : GoodIn wsL_splits (va_wsS RL 68 yL_behind wsL_behind) := goodIn_app (goodIn_of _ (by decide +kernel)) ggL_splits_L_behind
set_option maxRecDepth 20000 in
theorem ggL_splits_L_weighs : GoodIn wsL_splits wsL_weighs := goodIn_ca (goodIn_r _ [67, 5, 6, 68, 69, 70, 10, 71, 12, 13, 14, 31, 32, 33, 72, 73, 74, 18, 75, 46, 38, 39, 40, 41, 20, 47, 48, 54, 55, 56, 57, 58, 59, 60, 61, 62, 63, 64, 76, 77, 78, 79, 80, 81, 82, 83, 84, 85, 86, 87] (by decide +kernel) (by decide +kernel)) (goodIn_sub (fun _ h => List.mem_cons_of_mem _ (List.mem_append_right _ h)) (by decide +kernel))
set_option maxRecDepth 20000 in
theorem gL_splits_L_weighs : GoodIn wsL_splits (va_wsS RL 61 yL_weighs wsL_weighs) := goodIn_app (goodIn_of _ (by decide +kernel)) ggL_splits_L_weighs
theorem dL_splits_0 : decode cL_splits 0 = .ok (.aload_n 0, 1) := by decide +kernel
theorem dL_splits_1 : decode cL_splits 1 = .ok (.iload_n 1, 1) := by decide +kernel
theorem dL_splits_2 : decode cL_splits 2 = .ok (.iload_n 2, 1) := by decide +kernel
theorem dL_splits_3 : decode cL_splits 3 = .ok (.iconst 0, 1) := by decide +kernel
theorem dL_splits_4 : decode cL_splits 4 = .ok (.iload_n 3, 1) := by decide +kernel
theorem dL_splits_5 : decode cL_splits 5 = .ok (.invokestatic 68, 3) := by decide +kernel
theorem dL_splits_8 : decode cL_splits 8 = .ok (.aload_n 0, 1) := by decide +kernel
theorem dL_splits_9 : decode cL_splits 9 = .ok (.iload_n 1, 1) := by decide +kernel
theorem dL_splits_10 : decode cL_splits 10 = .ok (.iload_n 2, 1) := by decide +kernel
theorem dL_splits_11 : decode cL_splits 11 = .ok (.iconst 1, 1) := by decide +kernel
theorem dL_splits_12 : decode cL_splits 12 = .ok (.iload_n 3, 1) := by decide +kernel
theorem dL_splits_13 : decode cL_splits 13 = .ok (.invokestatic 68, 3) := by decide +kernel
theorem dL_splits_16 : decode cL_splits 16 = .ok (.ladd, 1) := by decide +kernel
theorem dL_splits_17 : decode cL_splits 17 = .ok (.aload_n 0, 1) := by decide +kernel
theorem dL_splits_18 : decode cL_splits 18 = .ok (.iload_n 1, 1) := by decide +kernel
theorem dL_splits_19 : decode cL_splits 19 = .ok (.iload_n 2, 1) := by decide +kernel
theorem dL_splits_20 : decode cL_splits 20 = .ok (.iconst 2, 1) := by decide +kernel
theorem dL_splits_21 : decode cL_splits 21 = .ok (.iload_n 3, 1) := by decide +kernel
theorem dL_splits_22 : decode cL_splits 22 = .ok (.invokestatic 68, 3) := by decide +kernel
theorem dL_splits_25 : decode cL_splits 25 = .ok (.ladd, 1) := by decide +kernel
theorem dL_splits_26 : decode cL_splits 26 = .ok (.lstore 4, 2) := by decide +kernel
theorem dL_splits_28 : decode cL_splits 28 = .ok (.lload 4, 2) := by decide +kernel
theorem dL_splits_30 : decode cL_splits 30 = .ok (.aload_n 0, 1) := by decide +kernel
theorem dL_splits_31 : decode cL_splits 31 = .ok (.iload_n 3, 1) := by decide +kernel
theorem dL_splits_32 : decode cL_splits 32 = .ok (.iconst 1, 1) := by decide +kernel
theorem dL_splits_33 : decode cL_splits 33 = .ok (.iadd, 1) := by decide +kernel
theorem dL_splits_34 : decode cL_splits 34 = .ok (.invokestatic 61, 3) := by decide +kernel
theorem dL_splits_37 : decode cL_splits 37 = .ok (.lcmp, 1) := by decide +kernel
theorem dL_splits_38 : decode cL_splits 38 = .ok (.ifCond .ne 7, 3) := by decide +kernel
theorem dL_splits_41 : decode cL_splits 41 = .ok (.iconst 1, 1) := by decide +kernel
theorem dL_splits_42 : decode cL_splits 42 = .ok (.goto 4, 3) := by decide +kernel
theorem dL_splits_45 : decode cL_splits 45 = .ok (.iconst 0, 1) := by decide +kernel
theorem dL_splits_46 : decode cL_splits 46 = .ok (.ireturn, 1) := by decide +kernel
set_option maxRecDepth 20000 in
theorem ggL_law_X4_init : GoodIn wsL_law wsX4_init := goodIn_r _ [8, 9, 10, 11, 12, 13, 14, 15, 16, 17, 18, 19, 20, 21, 22, 23, 24, 25, 26, 27, 28, 29, 30, 31, 32, 33, 34, 35, 36, 37, 38, 39, 40, 41, 42, 43, 44, 45, 46, 47, 48, 49, 50, 51, 52, 53, 54, 55, 56, 57, 58, 59, 60, 61, 62, 63, 64, 2, 65, 66, 67, 68, 69, 70, 71, 72, 73, 74, 75, 76, 77, 78, 79, 80, 305, 306, 307, 308, 309, 310, 311, 312, 313, 302, 303, 304, 314, 315, 316, 317, 318, 319, 320, 321, 322, 323, 324, 325, 326, 327, 328] (by decide +kernel) (by decide +kernel)
set_option maxRecDepth 20000 in
theorem gL_law_X4_init : GoodIn wsL_law (wsX4_init) := ggL_law_X4_init
set_option maxRecDepth 20000 in
theorem ggL_law_L_cell : GoodIn wsL_law wsL_cell := goodIn_r _ [84, 85, 86] (by decide +kernel) (by decide +kernel)
set_option maxRecDepth 20000 in
theorem gL_law_L_cell : GoodIn wsL_law (va_wsS RL 73 yL_cell wsL_cell) := goodIn_app (goodIn_of _ (by decide +kernel)) ggL_law_L_cell
set_option maxRecDepth 20000 in
theorem ggL_law_L_begins : GoodIn wsL_law wsL_begins := goodIn_ca (goodIn_r _ [89, 90, 5, 91, 92, 93, 2, 94, 95, 96, 19, 15, 97, 98, 99, 18, 100, 101, 71, 102, 103, 104, 105, 106, 107, 108, 109, 110, 111, 112, 14, 113, 31, 32, 34, 51, 52, 57, 58, 59, 114, 115, 116, 30, 117, 44, 45, 46, 118, 119, 120, 121, 122, 42, 123, 124, 125, 126, 127, 128, 48, 49, 50, 53, 54, 55, 56, 60, 61, 62, 63, 64, 65, 302, 303, 304, 305, 306, 307, 308, 309, 310, 311, 312, 313, 325, 326, 327, 328, 314, 315] (by decide +kernel) (by decide +kernel)) (goodIn_sub (fun _ h => List.mem_append_left _ (List.mem_append_left _ (List.mem_append_right _ h))) (by decide +kernel))
set_option maxRecDepth 20000 in
theorem gL_law_L_begins : GoodIn wsL_law (va_wsS RL 78 yL_begins wsL_begins) := goodIn_app (goodIn_of _ (by decide +kernel)) ggL_law_L_begins
set_option maxRecDepth 20000 in
theorem ggL_law_L_asks : GoodIn wsL_law wsL_asks := goodIn_ca (goodIn_ca (goodIn_r _ [131, 90, 132, 5, 4, 133, 134, 135, 2, 136, 95, 96, 137, 138, 15, 19, 139, 140, 141, 14, 142, 51, 143, 144, 145, 146, 147, 148, 149, 150, 151, 152, 153, 57, 59, 154, 155, 156, 157, 31, 97, 98, 99, 18, 100, 101, 71, 102, 103, 104, 105, 106, 107, 108, 109, 110, 111, 112, 113, 32, 34, 52, 58, 114, 115, 116, 30, 117, 44, 45, 46, 118, 119, 120, 121, 122, 42, 123, 124, 125, 126, 127, 158, 159, 160, 161, 162, 163, 164, 165, 166, 167, 168, 169, 170, 171, 172, 173, 174, 64, 65, 175, 176, 177, 178, 179, 180, 181, 182, 183, 184, 302, 303, 304, 305, 306, 307, 308, 309, 310, 311, 312, 313, 325, 326, 327, 328, 314, 315] (by decide +kernel) (by decide +kernel)) (goodIn_sub (fun _ h => List.mem_append_left _ (List.mem_append_left _ (List.mem_append_right _ h))) (by decide +kernel))) (goodIn_sub (fun _ h => List.mem_append_left _ (List.mem_append_right _ h)) (by decide +kernel))
set_option maxRecDepth 20000 in
theorem gL_law_L_asks : GoodIn wsL_law (va_wsS RL 81 yL_asks wsL_asks) := goodIn_app (goodIn_of _ (by decide +kernel)) ggL_law_L_asks
set_option maxRecDepth 20000 in
theorem ggL_law_L_limits : GoodIn wsL_law wsL_limits := goodIn_ca (goodIn_r _ [187, 90, 5, 188, 189, 190, 2, 191, 95, 96, 19, 15, 97, 98, 99, 18, 100, 101, 71, 102, 103, 104, 105, 106, 107, 108, 109, 110, 111, 112, 14, 113, 31, 32, 34, 51, 52, 57, 58, 59, 114, 115, 116, 30, 117, 44, 45, 46, 118, 119, 120, 121, 122, 42, 123, 124, 125, 126, 127, 192, 193, 194, 195, 175, 176, 177, 178, 196, 197, 198, 199, 183, 184, 302, 303, 304, 305, 306, 307, 308, 309, 310, 311, 312, 313, 314, 315, 325, 326, 327, 328] (by decide +kernel) (by decide +kernel)) (goodIn_sub (fun _ h => List.mem_append_left _ (List.mem_append_left _ (List.mem_append_right _ h))) (by decide +kernel))
set_option maxRecDepth 20000 in
theorem gL_law_L_limits : GoodIn wsL_law (va_wsS RL 85 yL_limits wsL_limits) := goodIn_app (goodIn_of _ (by decide +kernel)) ggL_law_L_limits
set_option maxRecDepth 20000 in
theorem ggL_law_L_hides : GoodIn wsL_law wsL_hides := goodIn_ca (goodIn_ca (goodIn_r _ [202, 203, 90, 5, 4, 204, 205, 206, 2, 207, 208, 209, 95, 96, 15, 210, 19, 211, 212, 213, 14, 214, 175, 176, 177, 178, 51, 97, 98, 99, 18, 100, 101, 71, 102, 103, 104, 105, 106, 107, 108, 109, 110, 111, 112, 113, 31, 32, 34, 52, 57, 58, 59, 114, 115, 116, 30, 117, 44, 45, 46, 118, 119, 120, 121, 122, 42, 123, 124, 125, 126, 127, 215, 54, 55, 56, 302, 303, 304, 305, 306, 307, 308, 309, 310, 311, 312, 313, 314, 315, 325, 326, 327, 328] (by decide +kernel) (by decide +kernel)) (goodIn_sub (fun _ h => List.mem_append_right _ h) (by decide +kernel))) (goodIn_sub (fun _ h => List.mem_append_left _ (List.mem_append_left _ (List.mem_append_right _ h))) (by decide +kernel))
set_option maxRecDepth 20000 in
theorem gL_law_L_hides : GoodIn wsL_law (va_wsS RL 88 yL_hides wsL_hides) := goodIn_app (goodIn_of _ (by decide +kernel)) ggL_law_L_hides
set_option maxRecDepth 20000 in
theorem ggL_law_L_holds : GoodIn wsL_law wsL_holds := goodIn_ca (goodIn_ca (goodIn_r _ [218, 219, 220, 83, 221, 90, 5, 222, 223, 224, 2, 225, 95, 96, 15, 226, 227, 228, 14, 229, 51, 52, 31, 32, 57, 59, 230, 193, 194, 195, 175, 176, 177, 178, 196, 197, 198, 199, 34, 183, 184, 231, 232, 233, 234, 165, 166, 235, 236, 237, 203, 238, 239, 240, 241, 208, 209, 211, 212, 213, 214, 242, 243, 244, 245, 246, 247, 248, 249, 250, 251, 252, 253, 254, 255, 256, 257, 258, 259, 260, 261, 262, 263, 121, 122, 42, 123, 264, 265, 266, 267, 268, 302, 303, 304, 305, 306, 307, 308, 309, 310, 311, 312, 313, 325, 326, 327, 328] (by decide +kernel) (by decide +kernel)) (goodIn_sub (fun _ h => List.mem_append_left _ (List.mem_append_left _ (List.mem_append_right _ h))) (by decide +kernel))) (goodIn_sub (fun _ h => List.mem_append_right _ h) (by decide +kernel))
set_option maxRecDepth 20000 in
theorem gL_law_L_holds : GoodIn wsL_law (va_wsS RL 91 yL_holds wsL_holds) := goodIn_app (goodIn_of _ (by decide +kernel)) ggL_law_L_holds
set_option maxRecDepth 20000 in
theorem ggL_law_L_value : GoodIn wsL_law wsL_value := goodIn_ca (goodIn_r _ [221, 90, 5, 222, 223, 224, 2, 225, 95, 96, 15, 226, 227, 228, 14, 229, 51, 52, 31, 32, 57, 59, 230, 193, 194, 195, 175, 176, 177, 178, 196, 197, 198, 199, 34, 183, 184, 231, 232, 233, 234, 165, 166, 302, 303, 304, 305, 306, 307, 308, 309, 310, 311, 312, 313, 325, 326, 327, 328] (by decide +kernel) (by decide +kernel)) (goodIn_sub (fun _ h => List.mem_append_left _ (List.mem_append_left _ (List.mem_append_right _ h))) (by decide +kernel))
set_option maxRecDepth 20000 in
theorem gL_law_L_value : GoodIn wsL_law (va_wsS RL 53 yL_value wsL_value) := goodIn_app (goodIn_of _ (by decide +kernel)) ggL_law_L_value
set_option maxRecDepth 20000 in
theorem ggL_law_L_splits : GoodIn wsL_law wsL_splits := goodIn_ca (goodIn_r _ [271, 272, 273, 83, 274, 90, 246, 275, 276, 277, 2, 278, 95, 96, 15, 139, 140, 141, 14, 142, 51, 143, 144, 145, 146, 147, 148, 149, 279, 280, 281, 251, 252, 253, 282, 283, 284, 285, 175, 176, 177, 178, 179, 180, 181, 182, 34, 183, 184, 162, 163, 164, 165, 166, 258, 259, 260, 261, 52, 262, 263, 121, 122, 42, 123, 243, 244, 245, 247, 248, 249, 250, 254, 255, 256, 257, 302, 303, 304, 305, 306, 307, 308, 309, 310, 311, 312, 313] (by decide +kernel) (by decide +kernel)) (goodIn_sub (fun _ h => List.mem_append_left _ (List.mem_append_left _ (List.mem_append_right _ h))) (by decide +kernel))
set_option maxRecDepth 20000 in
theorem gL_law_L_splits : GoodIn wsL_law (va_wsS RL 95 yL_splits wsL_splits) := goodIn_app (goodIn_of _ (by decide +kernel)) ggL_law_L_splits
set_option maxRecDepth 20000 in
theorem ggL_law_X4_forget : GoodIn wsL_law wsX4_forget := goodIn_r _ [289, 19, 15, 97, 98, 99, 18, 100, 101, 71, 102, 103, 104, 105, 106, 107, 108, 109, 110, 111, 112, 14, 113, 31, 32, 34, 51, 52, 57, 58, 59, 114, 115, 116, 30, 117, 44, 45, 46, 118, 119, 2, 120, 121, 122, 42, 123, 124, 125, 126, 127, 290, 61, 62, 63, 64, 65, 302, 303, 304, 305, 306, 307, 308, 309, 310, 311, 312, 313, 325, 326, 327, 328, 314, 315] (by decide +kernel) (by decide +kernel)
set_option maxRecDepth 20000 in
theorem gL_law_X4_forget : GoodIn wsL_law (wsV RL 99 RX4 yX4_forget wsX4_forget) := goodIn_app (goodIn_of _ (by decide +kernel)) ggL_law_X4_forget
set_option maxRecDepth 20000 in
theorem ggL_law_L_undoes : GoodIn wsL_law wsL_undoes := goodIn_ca (goodIn_r _ [293, 132, 5, 294, 295, 296, 2, 297, 137, 138, 19, 15, 298, 299, 300, 18, 301, 101, 106, 107, 108, 109, 71, 110, 111, 112, 14, 113, 31, 32, 34, 51, 52, 57, 58, 59, 114, 115, 116, 30, 117, 44, 45, 46, 118, 119, 120, 121, 122, 42, 123, 124, 125, 126, 127, 302, 303, 304, 314, 315, 305, 306, 307, 308, 309, 310, 311, 312, 313, 325, 326, 327, 328] (by decide +kernel) (by decide +kernel)) (goodIn_sub (fun _ h => List.mem_append_left _ (List.mem_append_right _ h)) (by decide +kernel))
set_option maxRecDepth 20000 in
theorem gL_law_L_undoes : GoodIn wsL_law (va_wsS RL 102 yL_undoes wsL_undoes) := goodIn_app (goodIn_of _ (by decide +kernel)) ggL_law_L_undoes
set_option maxRecDepth 100000 in
theorem bt_law_1 : ([(0, (.new 10, 3)), (3, (.dup, 1)), (4, (.invokespecial 72, 3)), (7, (.astore_n 1, 1)), (8, (.iconst 2, 1)), (9, (.aload_n 0, 1)), (10, (.iconst 0, 1)), (11, (.invokestatic 73, 3)), (14, (.bipush 15, 2)), (16, (.irem, 1)), (17, (.iadd, 1)), (18, (.istore_n 2, 1)), (19, (.aload_n 0, 1)), (20, (.iconst 1, 1)), (21, (.invokestatic 73, 3)), (24, (.iconst 2, 1)), (25, (.iload_n 2, 1)), (26, (.imul, 1)), (27, (.iconst 1, 1)), (28, (.iadd, 1)), (29, (.irem, 1)), (30, (.istore_n 3, 1)), (31, (.aload_n 0, 1)), (32, (.iconst 2, 1)), (33, (.invokestatic 73, 3)), (36, (.aload_n 0, 1)), (37, (.iconst 3, 1)), (38, (.invokestatic 73, 3)), (41, (.iand, 1)), (42, (.aload_n 0, 1)), (43, (.iconst 4, 1)), (44, (.invokestatic 73, 3)), (47, (.iand, 1)), (48, (.ldc 77, 2)), (50, (.iand, 1)), (51, (.istore 4, 2)), (53, (.aload_n 1, 1)), (54, (.iload_n 2, 1)), (55, (.invokestatic 78, 3)), (58, (.ifCond .ne 56, 3)), (61, (.aload_n 1, 1)), (62, (.iconst 1, 1)), (63, (.iconst 2, 1)), (64, (.invokestatic 81, 3)), (67, (.ldc 20, 2)), (69, (.if_icmp .ne 45, 3)), (72, (.aload_n 1, 1)), (73, (.aload_n 0, 1)), (74, (.iconst 5, 1)), (75, (.invokestatic 73, 3)), (78, (.iconst 3, 1)), (79, (.irem, 1)), (80, (.invokestatic 85, 3)), (83, (.iconst 2, 1)), (84, (.iload_n 2, 1)), (85, (.imul, 1)), (86, (.iconst 1, 1)), (87, (.iadd, 1)), (88, (.if_icmp .ne 26, 3)), (91, (.aload_n 1, 1))] : List (Nat × (Instr × Nat))).all (fun q => decide (decode cL_law q.1 = .ok q.2)) = true := by decide +kernel
theorem dL_law_0 : decode cL_law 0 = .ok (.new 10, 3) := of_decide_eq_true (List.all_eq_true.mp bt_law_1 (0, (.new 10, 3)) (List.mem_of_getElem? (i := 0) rfl))
theorem dL_law_3 : decode cL_law 3 = .ok (.dup, 1) := of_decide_eq_true (List.all_eq_true.mp bt_law_1 (3, (.dup, 1)) (List.mem_of_getElem? (i := 1) rfl))
theorem dL_law_4 : decode cL_law 4 = .ok (.invokespecial 72, 3) := of_decide_eq_true (List.all_eq_true.mp bt_law_1 (4, (.invokespecial 72, 3)) (List.mem_of_getElem? (i := 2) rfl))
theorem dL_law_7 : decode cL_law 7 = .ok (.astore_n 1, 1) := of_decide_eq_true (List.all_eq_true.mp bt_law_1 (7, (.astore_n 1, 1)) (List.mem_of_getElem? (i := 3) rfl))
theorem dL_law_8 : decode cL_law 8 = .ok (.iconst 2, 1) := of_decide_eq_true (List.all_eq_true.mp bt_law_1 (8, (.iconst 2, 1)) (List.mem_of_getElem? (i := 4) rfl))
theorem dL_law_9 : decode cL_law 9 = .ok (.aload_n 0, 1) := of_decide_eq_true (List.all_eq_true.mp bt_law_1 (9, (.aload_n 0, 1)) (List.mem_of_getElem? (i := 5) rfl))
theorem dL_law_10 : decode cL_law 10 = .ok (.iconst 0, 1) := of_decide_eq_true (List.all_eq_true.mp bt_law_1 (10, (.iconst 0, 1)) (List.mem_of_getElem? (i := 6) rfl))
theorem dL_law_11 : decode cL_law 11 = .ok (.invokestatic 73, 3) := of_decide_eq_true (List.all_eq_true.mp bt_law_1 (11, (.invokestatic 73, 3)) (List.mem_of_getElem? (i := 7) rfl))
theorem dL_law_14 : decode cL_law 14 = .ok (.bipush 15, 2) := of_decide_eq_true (List.all_eq_true.mp bt_law_1 (14, (.bipush 15, 2)) (List.mem_of_getElem? (i := 8) rfl))
theorem dL_law_16 : decode cL_law 16 = .ok (.irem, 1) := of_decide_eq_true (List.all_eq_true.mp bt_law_1 (16, (.irem, 1)) (List.mem_of_getElem? (i := 9) rfl))
theorem dL_law_17 : decode cL_law 17 = .ok (.iadd, 1) := of_decide_eq_true (List.all_eq_true.mp bt_law_1 (17, (.iadd, 1)) (List.mem_of_getElem? (i := 10) rfl))
theorem dL_law_18 : decode cL_law 18 = .ok (.istore_n 2, 1) := of_decide_eq_true (List.all_eq_true.mp bt_law_1 (18, (.istore_n 2, 1)) (List.mem_of_getElem? (i := 11) rfl))
theorem dL_law_19 : decode cL_law 19 = .ok (.aload_n 0, 1) := of_decide_eq_true (List.all_eq_true.mp bt_law_1 (19, (.aload_n 0, 1)) (List.mem_of_getElem? (i := 12) rfl))
theorem dL_law_20 : decode cL_law 20 = .ok (.iconst 1, 1) := of_decide_eq_true (List.all_eq_true.mp bt_law_1 (20, (.iconst 1, 1)) (List.mem_of_getElem? (i := 13) rfl))
theorem dL_law_21 : decode cL_law 21 = .ok (.invokestatic 73, 3) := of_decide_eq_true (List.all_eq_true.mp bt_law_1 (21, (.invokestatic 73, 3)) (List.mem_of_getElem? (i := 14) rfl))
theorem dL_law_24 : decode cL_law 24 = .ok (.iconst 2, 1) := of_decide_eq_true (List.all_eq_true.mp bt_law_1 (24, (.iconst 2, 1)) (List.mem_of_getElem? (i := 15) rfl))
theorem dL_law_25 : decode cL_law 25 = .ok (.iload_n 2, 1) := of_decide_eq_true (List.all_eq_true.mp bt_law_1 (25, (.iload_n 2, 1)) (List.mem_of_getElem? (i := 16) rfl))
theorem dL_law_26 : decode cL_law 26 = .ok (.imul, 1) := of_decide_eq_true (List.all_eq_true.mp bt_law_1 (26, (.imul, 1)) (List.mem_of_getElem? (i := 17) rfl))
theorem dL_law_27 : decode cL_law 27 = .ok (.iconst 1, 1) := of_decide_eq_true (List.all_eq_true.mp bt_law_1 (27, (.iconst 1, 1)) (List.mem_of_getElem? (i := 18) rfl))
theorem dL_law_28 : decode cL_law 28 = .ok (.iadd, 1) := of_decide_eq_true (List.all_eq_true.mp bt_law_1 (28, (.iadd, 1)) (List.mem_of_getElem? (i := 19) rfl))
theorem dL_law_29 : decode cL_law 29 = .ok (.irem, 1) := of_decide_eq_true (List.all_eq_true.mp bt_law_1 (29, (.irem, 1)) (List.mem_of_getElem? (i := 20) rfl))
theorem dL_law_30 : decode cL_law 30 = .ok (.istore_n 3, 1) := of_decide_eq_true (List.all_eq_true.mp bt_law_1 (30, (.istore_n 3, 1)) (List.mem_of_getElem? (i := 21) rfl))
theorem dL_law_31 : decode cL_law 31 = .ok (.aload_n 0, 1) := of_decide_eq_true (List.all_eq_true.mp bt_law_1 (31, (.aload_n 0, 1)) (List.mem_of_getElem? (i := 22) rfl))
theorem dL_law_32 : decode cL_law 32 = .ok (.iconst 2, 1) := of_decide_eq_true (List.all_eq_true.mp bt_law_1 (32, (.iconst 2, 1)) (List.mem_of_getElem? (i := 23) rfl))
theorem dL_law_33 : decode cL_law 33 = .ok (.invokestatic 73, 3) := of_decide_eq_true (List.all_eq_true.mp bt_law_1 (33, (.invokestatic 73, 3)) (List.mem_of_getElem? (i := 24) rfl))
theorem dL_law_36 : decode cL_law 36 = .ok (.aload_n 0, 1) := of_decide_eq_true (List.all_eq_true.mp bt_law_1 (36, (.aload_n 0, 1)) (List.mem_of_getElem? (i := 25) rfl))
theorem dL_law_37 : decode cL_law 37 = .ok (.iconst 3, 1) := of_decide_eq_true (List.all_eq_true.mp bt_law_1 (37, (.iconst 3, 1)) (List.mem_of_getElem? (i := 26) rfl))
theorem dL_law_38 : decode cL_law 38 = .ok (.invokestatic 73, 3) := of_decide_eq_true (List.all_eq_true.mp bt_law_1 (38, (.invokestatic 73, 3)) (List.mem_of_getElem? (i := 27) rfl))
theorem dL_law_41 : decode cL_law 41 = .ok (.iand, 1) := of_decide_eq_true (List.all_eq_true.mp bt_law_1 (41, (.iand, 1)) (List.mem_of_getElem? (i := 28) rfl))
theorem dL_law_42 : decode cL_law 42 = .ok (.aload_n 0, 1) := of_decide_eq_true (List.all_eq_true.mp bt_law_1 (42, (.aload_n 0, 1)) (List.mem_of_getElem? (i := 29) rfl))
theorem dL_law_43 : decode cL_law 43 = .ok (.iconst 4, 1) := of_decide_eq_true (List.all_eq_true.mp bt_law_1 (43, (.iconst 4, 1)) (List.mem_of_getElem? (i := 30) rfl))
theorem dL_law_44 : decode cL_law 44 = .ok (.invokestatic 73, 3) := of_decide_eq_true (List.all_eq_true.mp bt_law_1 (44, (.invokestatic 73, 3)) (List.mem_of_getElem? (i := 31) rfl))
theorem dL_law_47 : decode cL_law 47 = .ok (.iand, 1) := of_decide_eq_true (List.all_eq_true.mp bt_law_1 (47, (.iand, 1)) (List.mem_of_getElem? (i := 32) rfl))
theorem dL_law_48 : decode cL_law 48 = .ok (.ldc 77, 2) := of_decide_eq_true (List.all_eq_true.mp bt_law_1 (48, (.ldc 77, 2)) (List.mem_of_getElem? (i := 33) rfl))
theorem dL_law_50 : decode cL_law 50 = .ok (.iand, 1) := of_decide_eq_true (List.all_eq_true.mp bt_law_1 (50, (.iand, 1)) (List.mem_of_getElem? (i := 34) rfl))
theorem dL_law_51 : decode cL_law 51 = .ok (.istore 4, 2) := of_decide_eq_true (List.all_eq_true.mp bt_law_1 (51, (.istore 4, 2)) (List.mem_of_getElem? (i := 35) rfl))
theorem dL_law_53 : decode cL_law 53 = .ok (.aload_n 1, 1) := of_decide_eq_true (List.all_eq_true.mp bt_law_1 (53, (.aload_n 1, 1)) (List.mem_of_getElem? (i := 36) rfl))
theorem dL_law_54 : decode cL_law 54 = .ok (.iload_n 2, 1) := of_decide_eq_true (List.all_eq_true.mp bt_law_1 (54, (.iload_n 2, 1)) (List.mem_of_getElem? (i := 37) rfl))
theorem dL_law_55 : decode cL_law 55 = .ok (.invokestatic 78, 3) := of_decide_eq_true (List.all_eq_true.mp bt_law_1 (55, (.invokestatic 78, 3)) (List.mem_of_getElem? (i := 38) rfl))
theorem dL_law_58 : decode cL_law 58 = .ok (.ifCond .ne 56, 3) := of_decide_eq_true (List.all_eq_true.mp bt_law_1 (58, (.ifCond .ne 56, 3)) (List.mem_of_getElem? (i := 39) rfl))
theorem dL_law_61 : decode cL_law 61 = .ok (.aload_n 1, 1) := of_decide_eq_true (List.all_eq_true.mp bt_law_1 (61, (.aload_n 1, 1)) (List.mem_of_getElem? (i := 40) rfl))
theorem dL_law_62 : decode cL_law 62 = .ok (.iconst 1, 1) := of_decide_eq_true (List.all_eq_true.mp bt_law_1 (62, (.iconst 1, 1)) (List.mem_of_getElem? (i := 41) rfl))
theorem dL_law_63 : decode cL_law 63 = .ok (.iconst 2, 1) := of_decide_eq_true (List.all_eq_true.mp bt_law_1 (63, (.iconst 2, 1)) (List.mem_of_getElem? (i := 42) rfl))
theorem dL_law_64 : decode cL_law 64 = .ok (.invokestatic 81, 3) := of_decide_eq_true (List.all_eq_true.mp bt_law_1 (64, (.invokestatic 81, 3)) (List.mem_of_getElem? (i := 43) rfl))
theorem dL_law_67 : decode cL_law 67 = .ok (.ldc 20, 2) := of_decide_eq_true (List.all_eq_true.mp bt_law_1 (67, (.ldc 20, 2)) (List.mem_of_getElem? (i := 44) rfl))
theorem dL_law_69 : decode cL_law 69 = .ok (.if_icmp .ne 45, 3) := of_decide_eq_true (List.all_eq_true.mp bt_law_1 (69, (.if_icmp .ne 45, 3)) (List.mem_of_getElem? (i := 45) rfl))
theorem dL_law_72 : decode cL_law 72 = .ok (.aload_n 1, 1) := of_decide_eq_true (List.all_eq_true.mp bt_law_1 (72, (.aload_n 1, 1)) (List.mem_of_getElem? (i := 46) rfl))
theorem dL_law_73 : decode cL_law 73 = .ok (.aload_n 0, 1) := of_decide_eq_true (List.all_eq_true.mp bt_law_1 (73, (.aload_n 0, 1)) (List.mem_of_getElem? (i := 47) rfl))
theorem dL_law_74 : decode cL_law 74 = .ok (.iconst 5, 1) := of_decide_eq_true (List.all_eq_true.mp bt_law_1 (74, (.iconst 5, 1)) (List.mem_of_getElem? (i := 48) rfl))
theorem dL_law_75 : decode cL_law 75 = .ok (.invokestatic 73, 3) := of_decide_eq_true (List.all_eq_true.mp bt_law_1 (75, (.invokestatic 73, 3)) (List.mem_of_getElem? (i := 49) rfl))
theorem dL_law_78 : decode cL_law 78 = .ok (.iconst 3, 1) := of_decide_eq_true (List.all_eq_true.mp bt_law_1 (78, (.iconst 3, 1)) (List.mem_of_getElem? (i := 50) rfl))
theorem dL_law_79 : decode cL_law 79 = .ok (.irem, 1) := of_decide_eq_true (List.all_eq_true.mp bt_law_1 (79, (.irem, 1)) (List.mem_of_getElem? (i := 51) rfl))
theorem dL_law_80 : decode cL_law 80 = .ok (.invokestatic 85, 3) := of_decide_eq_true (List.all_eq_true.mp bt_law_1 (80, (.invokestatic 85, 3)) (List.mem_of_getElem? (i := 52) rfl))
theorem dL_law_83 : decode cL_law 83 = .ok (.iconst 2, 1) := of_decide_eq_true (List.all_eq_true.mp bt_law_1 (83, (.iconst 2, 1)) (List.mem_of_getElem? (i := 53) rfl))
theorem dL_law_84 : decode cL_law 84 = .ok (.iload_n 2, 1) := of_decide_eq_true (List.all_eq_true.mp bt_law_1 (84, (.iload_n 2, 1)) (List.mem_of_getElem? (i := 54) rfl))
theorem dL_law_85 : decode cL_law 85 = .ok (.imul, 1) := of_decide_eq_true (List.all_eq_true.mp bt_law_1 (85, (.imul, 1)) (List.mem_of_getElem? (i := 55) rfl))
theorem dL_law_86 : decode cL_law 86 = .ok (.iconst 1, 1) := of_decide_eq_true (List.all_eq_true.mp bt_law_1 (86, (.iconst 1, 1)) (List.mem_of_getElem? (i := 56) rfl))
theorem dL_law_87 : decode cL_law 87 = .ok (.iadd, 1) := of_decide_eq_true (List.all_eq_true.mp bt_law_1 (87, (.iadd, 1)) (List.mem_of_getElem? (i := 57) rfl))
theorem dL_law_88 : decode cL_law 88 = .ok (.if_icmp .ne 26, 3) := of_decide_eq_true (List.all_eq_true.mp bt_law_1 (88, (.if_icmp .ne 26, 3)) (List.mem_of_getElem? (i := 58) rfl))
theorem dL_law_91 : decode cL_law 91 = .ok (.aload_n 1, 1) := of_decide_eq_true (List.all_eq_true.mp bt_law_1 (91, (.aload_n 1, 1)) (List.mem_of_getElem? (i := 59) rfl))
set_option maxRecDepth 100000 in
theorem bt_law_2 : ([(92, (.iload_n 3, 1)), (93, (.iload 4, 2)), (95, (.invokestatic 88, 3)), (98, (.iconst (-1), 1)), (99, (.if_icmp .ne 15, 3)), (102, (.aload_n 1, 1)), (103, (.iconst 0, 1)), (104, (.invokestatic 91, 3)), (107, (.ifCond .eq 7, 3)), (110, (.iconst 1, 1)), (111, (.goto 4, 3)), (114, (.iconst 0, 1)), (115, (.istore 5, 2)), (117, (.iconst 0, 1)), (118, (.istore 6, 2)), (120, (.iconst 0, 1)), (121, (.istore 7, 2)), (123, (.iload 7, 2)), (125, (.bipush 24, 2)), (127, (.if_icmp .ge 184, 3)), (130, (.iload 5, 2)), (132, (.ifCond .eq 179, 3)), (135, (.aload_n 0, 1)), (136, (.bipush 6, 2)), (138, (.iload 7, 2)), (140, (.iadd, 1)), (141, (.invokestatic 73, 3)), (144, (.istore 8, 2)), (146, (.iconst 1, 1)), (147, (.iload 8, 2)), (149, (.iload_n 2, 1)), (150, (.iconst 2, 1)), (151, (.idiv, 1)), (152, (.irem, 1)), (153, (.iadd, 1)), (154, (.istore 9, 2)), (156, (.iload 8, 2)), (158, (.bipush 32, 2)), (160, (.idiv, 1)), (161, (.iload_n 2, 1)), (162, (.iconst 2, 1)), (163, (.iload 9, 2)), (165, (.imul, 1)), (166, (.isub, 1)), (167, (.iconst 1, 1)), (168, (.iadd, 1)), (169, (.irem, 1)), (170, (.istore 10, 2)), (172, (.iconst 1, 1)), (173, (.iload 9, 2)), (175, (.ishl, 1)), (176, (.iconst 1, 1)), (177, (.isub, 1)), (178, (.iload 10, 2)), (180, (.ishl, 1)), (181, (.istore 11, 2)), (183, (.iload 11, 2)), (185, (.iload 9, 2)), (187, (.ishl, 1)), (188, (.istore 12, 2))] : List (Nat × (Instr × Nat))).all (fun q => decide (decode cL_law q.1 = .ok q.2)) = true := by decide +kernel
theorem dL_law_92 : decode cL_law 92 = .ok (.iload_n 3, 1) := of_decide_eq_true (List.all_eq_true.mp bt_law_2 (92, (.iload_n 3, 1)) (List.mem_of_getElem? (i := 0) rfl))
theorem dL_law_93 : decode cL_law 93 = .ok (.iload 4, 2) := of_decide_eq_true (List.all_eq_true.mp bt_law_2 (93, (.iload 4, 2)) (List.mem_of_getElem? (i := 1) rfl))
theorem dL_law_95 : decode cL_law 95 = .ok (.invokestatic 88, 3) := of_decide_eq_true (List.all_eq_true.mp bt_law_2 (95, (.invokestatic 88, 3)) (List.mem_of_getElem? (i := 2) rfl))
theorem dL_law_98 : decode cL_law 98 = .ok (.iconst (-1), 1) := of_decide_eq_true (List.all_eq_true.mp bt_law_2 (98, (.iconst (-1), 1)) (List.mem_of_getElem? (i := 3) rfl))
theorem dL_law_99 : decode cL_law 99 = .ok (.if_icmp .ne 15, 3) := of_decide_eq_true (List.all_eq_true.mp bt_law_2 (99, (.if_icmp .ne 15, 3)) (List.mem_of_getElem? (i := 4) rfl))
theorem dL_law_102 : decode cL_law 102 = .ok (.aload_n 1, 1) := of_decide_eq_true (List.all_eq_true.mp bt_law_2 (102, (.aload_n 1, 1)) (List.mem_of_getElem? (i := 5) rfl))
theorem dL_law_103 : decode cL_law 103 = .ok (.iconst 0, 1) := of_decide_eq_true (List.all_eq_true.mp bt_law_2 (103, (.iconst 0, 1)) (List.mem_of_getElem? (i := 6) rfl))
theorem dL_law_104 : decode cL_law 104 = .ok (.invokestatic 91, 3) := of_decide_eq_true (List.all_eq_true.mp bt_law_2 (104, (.invokestatic 91, 3)) (List.mem_of_getElem? (i := 7) rfl))
theorem dL_law_107 : decode cL_law 107 = .ok (.ifCond .eq 7, 3) := of_decide_eq_true (List.all_eq_true.mp bt_law_2 (107, (.ifCond .eq 7, 3)) (List.mem_of_getElem? (i := 8) rfl))
theorem dL_law_110 : decode cL_law 110 = .ok (.iconst 1, 1) := of_decide_eq_true (List.all_eq_true.mp bt_law_2 (110, (.iconst 1, 1)) (List.mem_of_getElem? (i := 9) rfl))
theorem dL_law_111 : decode cL_law 111 = .ok (.goto 4, 3) := of_decide_eq_true (List.all_eq_true.mp bt_law_2 (111, (.goto 4, 3)) (List.mem_of_getElem? (i := 10) rfl))
theorem dL_law_114 : decode cL_law 114 = .ok (.iconst 0, 1) := of_decide_eq_true (List.all_eq_true.mp bt_law_2 (114, (.iconst 0, 1)) (List.mem_of_getElem? (i := 11) rfl))
theorem dL_law_115 : decode cL_law 115 = .ok (.istore 5, 2) := of_decide_eq_true (List.all_eq_true.mp bt_law_2 (115, (.istore 5, 2)) (List.mem_of_getElem? (i := 12) rfl))
theorem dL_law_117 : decode cL_law 117 = .ok (.iconst 0, 1) := of_decide_eq_true (List.all_eq_true.mp bt_law_2 (117, (.iconst 0, 1)) (List.mem_of_getElem? (i := 13) rfl))
theorem dL_law_118 : decode cL_law 118 = .ok (.istore 6, 2) := of_decide_eq_true (List.all_eq_true.mp bt_law_2 (118, (.istore 6, 2)) (List.mem_of_getElem? (i := 14) rfl))
theorem dL_law_120 : decode cL_law 120 = .ok (.iconst 0, 1) := of_decide_eq_true (List.all_eq_true.mp bt_law_2 (120, (.iconst 0, 1)) (List.mem_of_getElem? (i := 15) rfl))
theorem dL_law_121 : decode cL_law 121 = .ok (.istore 7, 2) := of_decide_eq_true (List.all_eq_true.mp bt_law_2 (121, (.istore 7, 2)) (List.mem_of_getElem? (i := 16) rfl))
theorem dL_law_123 : decode cL_law 123 = .ok (.iload 7, 2) := of_decide_eq_true (List.all_eq_true.mp bt_law_2 (123, (.iload 7, 2)) (List.mem_of_getElem? (i := 17) rfl))
theorem dL_law_125 : decode cL_law 125 = .ok (.bipush 24, 2) := of_decide_eq_true (List.all_eq_true.mp bt_law_2 (125, (.bipush 24, 2)) (List.mem_of_getElem? (i := 18) rfl))
theorem dL_law_127 : decode cL_law 127 = .ok (.if_icmp .ge 184, 3) := of_decide_eq_true (List.all_eq_true.mp bt_law_2 (127, (.if_icmp .ge 184, 3)) (List.mem_of_getElem? (i := 19) rfl))
theorem dL_law_130 : decode cL_law 130 = .ok (.iload 5, 2) := of_decide_eq_true (List.all_eq_true.mp bt_law_2 (130, (.iload 5, 2)) (List.mem_of_getElem? (i := 20) rfl))
theorem dL_law_132 : decode cL_law 132 = .ok (.ifCond .eq 179, 3) := of_decide_eq_true (List.all_eq_true.mp bt_law_2 (132, (.ifCond .eq 179, 3)) (List.mem_of_getElem? (i := 21) rfl))
theorem dL_law_135 : decode cL_law 135 = .ok (.aload_n 0, 1) := of_decide_eq_true (List.all_eq_true.mp bt_law_2 (135, (.aload_n 0, 1)) (List.mem_of_getElem? (i := 22) rfl))
theorem dL_law_136 : decode cL_law 136 = .ok (.bipush 6, 2) := of_decide_eq_true (List.all_eq_true.mp bt_law_2 (136, (.bipush 6, 2)) (List.mem_of_getElem? (i := 23) rfl))
theorem dL_law_138 : decode cL_law 138 = .ok (.iload 7, 2) := of_decide_eq_true (List.all_eq_true.mp bt_law_2 (138, (.iload 7, 2)) (List.mem_of_getElem? (i := 24) rfl))
theorem dL_law_140 : decode cL_law 140 = .ok (.iadd, 1) := of_decide_eq_true (List.all_eq_true.mp bt_law_2 (140, (.iadd, 1)) (List.mem_of_getElem? (i := 25) rfl))
theorem dL_law_141 : decode cL_law 141 = .ok (.invokestatic 73, 3) := of_decide_eq_true (List.all_eq_true.mp bt_law_2 (141, (.invokestatic 73, 3)) (List.mem_of_getElem? (i := 26) rfl))
theorem dL_law_144 : decode cL_law 144 = .ok (.istore 8, 2) := of_decide_eq_true (List.all_eq_true.mp bt_law_2 (144, (.istore 8, 2)) (List.mem_of_getElem? (i := 27) rfl))
theorem dL_law_146 : decode cL_law 146 = .ok (.iconst 1, 1) := of_decide_eq_true (List.all_eq_true.mp bt_law_2 (146, (.iconst 1, 1)) (List.mem_of_getElem? (i := 28) rfl))
theorem dL_law_147 : decode cL_law 147 = .ok (.iload 8, 2) := of_decide_eq_true (List.all_eq_true.mp bt_law_2 (147, (.iload 8, 2)) (List.mem_of_getElem? (i := 29) rfl))
theorem dL_law_149 : decode cL_law 149 = .ok (.iload_n 2, 1) := of_decide_eq_true (List.all_eq_true.mp bt_law_2 (149, (.iload_n 2, 1)) (List.mem_of_getElem? (i := 30) rfl))
theorem dL_law_150 : decode cL_law 150 = .ok (.iconst 2, 1) := of_decide_eq_true (List.all_eq_true.mp bt_law_2 (150, (.iconst 2, 1)) (List.mem_of_getElem? (i := 31) rfl))
theorem dL_law_151 : decode cL_law 151 = .ok (.idiv, 1) := of_decide_eq_true (List.all_eq_true.mp bt_law_2 (151, (.idiv, 1)) (List.mem_of_getElem? (i := 32) rfl))
theorem dL_law_152 : decode cL_law 152 = .ok (.irem, 1) := of_decide_eq_true (List.all_eq_true.mp bt_law_2 (152, (.irem, 1)) (List.mem_of_getElem? (i := 33) rfl))
theorem dL_law_153 : decode cL_law 153 = .ok (.iadd, 1) := of_decide_eq_true (List.all_eq_true.mp bt_law_2 (153, (.iadd, 1)) (List.mem_of_getElem? (i := 34) rfl))
theorem dL_law_154 : decode cL_law 154 = .ok (.istore 9, 2) := of_decide_eq_true (List.all_eq_true.mp bt_law_2 (154, (.istore 9, 2)) (List.mem_of_getElem? (i := 35) rfl))
theorem dL_law_156 : decode cL_law 156 = .ok (.iload 8, 2) := of_decide_eq_true (List.all_eq_true.mp bt_law_2 (156, (.iload 8, 2)) (List.mem_of_getElem? (i := 36) rfl))
theorem dL_law_158 : decode cL_law 158 = .ok (.bipush 32, 2) := of_decide_eq_true (List.all_eq_true.mp bt_law_2 (158, (.bipush 32, 2)) (List.mem_of_getElem? (i := 37) rfl))
theorem dL_law_160 : decode cL_law 160 = .ok (.idiv, 1) := of_decide_eq_true (List.all_eq_true.mp bt_law_2 (160, (.idiv, 1)) (List.mem_of_getElem? (i := 38) rfl))
theorem dL_law_161 : decode cL_law 161 = .ok (.iload_n 2, 1) := of_decide_eq_true (List.all_eq_true.mp bt_law_2 (161, (.iload_n 2, 1)) (List.mem_of_getElem? (i := 39) rfl))
theorem dL_law_162 : decode cL_law 162 = .ok (.iconst 2, 1) := of_decide_eq_true (List.all_eq_true.mp bt_law_2 (162, (.iconst 2, 1)) (List.mem_of_getElem? (i := 40) rfl))
theorem dL_law_163 : decode cL_law 163 = .ok (.iload 9, 2) := of_decide_eq_true (List.all_eq_true.mp bt_law_2 (163, (.iload 9, 2)) (List.mem_of_getElem? (i := 41) rfl))
theorem dL_law_165 : decode cL_law 165 = .ok (.imul, 1) := of_decide_eq_true (List.all_eq_true.mp bt_law_2 (165, (.imul, 1)) (List.mem_of_getElem? (i := 42) rfl))
theorem dL_law_166 : decode cL_law 166 = .ok (.isub, 1) := of_decide_eq_true (List.all_eq_true.mp bt_law_2 (166, (.isub, 1)) (List.mem_of_getElem? (i := 43) rfl))
theorem dL_law_167 : decode cL_law 167 = .ok (.iconst 1, 1) := of_decide_eq_true (List.all_eq_true.mp bt_law_2 (167, (.iconst 1, 1)) (List.mem_of_getElem? (i := 44) rfl))
theorem dL_law_168 : decode cL_law 168 = .ok (.iadd, 1) := of_decide_eq_true (List.all_eq_true.mp bt_law_2 (168, (.iadd, 1)) (List.mem_of_getElem? (i := 45) rfl))
theorem dL_law_169 : decode cL_law 169 = .ok (.irem, 1) := of_decide_eq_true (List.all_eq_true.mp bt_law_2 (169, (.irem, 1)) (List.mem_of_getElem? (i := 46) rfl))
theorem dL_law_170 : decode cL_law 170 = .ok (.istore 10, 2) := of_decide_eq_true (List.all_eq_true.mp bt_law_2 (170, (.istore 10, 2)) (List.mem_of_getElem? (i := 47) rfl))
theorem dL_law_172 : decode cL_law 172 = .ok (.iconst 1, 1) := of_decide_eq_true (List.all_eq_true.mp bt_law_2 (172, (.iconst 1, 1)) (List.mem_of_getElem? (i := 48) rfl))
theorem dL_law_173 : decode cL_law 173 = .ok (.iload 9, 2) := of_decide_eq_true (List.all_eq_true.mp bt_law_2 (173, (.iload 9, 2)) (List.mem_of_getElem? (i := 49) rfl))
theorem dL_law_175 : decode cL_law 175 = .ok (.ishl, 1) := of_decide_eq_true (List.all_eq_true.mp bt_law_2 (175, (.ishl, 1)) (List.mem_of_getElem? (i := 50) rfl))
theorem dL_law_176 : decode cL_law 176 = .ok (.iconst 1, 1) := of_decide_eq_true (List.all_eq_true.mp bt_law_2 (176, (.iconst 1, 1)) (List.mem_of_getElem? (i := 51) rfl))
theorem dL_law_177 : decode cL_law 177 = .ok (.isub, 1) := of_decide_eq_true (List.all_eq_true.mp bt_law_2 (177, (.isub, 1)) (List.mem_of_getElem? (i := 52) rfl))
theorem dL_law_178 : decode cL_law 178 = .ok (.iload 10, 2) := of_decide_eq_true (List.all_eq_true.mp bt_law_2 (178, (.iload 10, 2)) (List.mem_of_getElem? (i := 53) rfl))
theorem dL_law_180 : decode cL_law 180 = .ok (.ishl, 1) := of_decide_eq_true (List.all_eq_true.mp bt_law_2 (180, (.ishl, 1)) (List.mem_of_getElem? (i := 54) rfl))
theorem dL_law_181 : decode cL_law 181 = .ok (.istore 11, 2) := of_decide_eq_true (List.all_eq_true.mp bt_law_2 (181, (.istore 11, 2)) (List.mem_of_getElem? (i := 55) rfl))
theorem dL_law_183 : decode cL_law 183 = .ok (.iload 11, 2) := of_decide_eq_true (List.all_eq_true.mp bt_law_2 (183, (.iload 11, 2)) (List.mem_of_getElem? (i := 56) rfl))
theorem dL_law_185 : decode cL_law 185 = .ok (.iload 9, 2) := of_decide_eq_true (List.all_eq_true.mp bt_law_2 (185, (.iload 9, 2)) (List.mem_of_getElem? (i := 57) rfl))
theorem dL_law_187 : decode cL_law 187 = .ok (.ishl, 1) := of_decide_eq_true (List.all_eq_true.mp bt_law_2 (187, (.ishl, 1)) (List.mem_of_getElem? (i := 58) rfl))
theorem dL_law_188 : decode cL_law 188 = .ok (.istore 12, 2) := of_decide_eq_true (List.all_eq_true.mp bt_law_2 (188, (.istore 12, 2)) (List.mem_of_getElem? (i := 59) rfl))
set_option maxRecDepth 100000 in
theorem bt_law_3 : ([(190, (.aload_n 1, 1)), (191, (.iconst 3, 1)), (192, (.invokestatic 53, 3)), (195, (.istore 13, 2)), (197, (.aload_n 1, 1)), (198, (.iload 11, 2)), (200, (.iload 12, 2)), (202, (.iload 8, 2)), (204, (.sipush 1024, 3)), (207, (.idiv, 1)), (208, (.bipush 20, 2)), (210, (.irem, 1)), (211, (.invokestatic 95, 3)), (214, (.istore 5, 2)), (216, (.iload 6, 2)), (218, (.iload 4, 2)), (220, (.iload 7, 2)), (222, (.ishr, 1)), (223, (.iconst 1, 1)), (224, (.iand, 1)), (225, (.iadd, 1)), (226, (.istore 6, 2)), (228, (.aload_n 1, 1)), (229, (.iload 11, 2)), (231, (.iload 12, 2)), (233, (.invokestatic 81, 3)), (236, (.istore 14, 2)), (238, (.iload 5, 2)), (240, (.ifCond .eq 62, 3)), (243, (.iload 14, 2)), (245, (.ifCond .lt 57, 3)), (248, (.iload 14, 2)), (250, (.iconst 2, 1)), (251, (.if_icmp .gt 51, 3)), (254, (.aload_n 1, 1)), (255, (.iconst 2, 1)), (256, (.invokestatic 53, 3)), (259, (.iload 7, 2)), (261, (.iconst 1, 1)), (262, (.iadd, 1)), (263, (.if_icmp .ne 39, 3)), (266, (.aload_n 1, 1)), (267, (.bipush 6, 2)), (269, (.invokestatic 53, 3)), (272, (.iload 7, 2)), (274, (.iconst 1, 1)), (275, (.iadd, 1)), (276, (.if_icmp .ne 26, 3)), (279, (.aload_n 1, 1)), (280, (.iconst 3, 1)), (281, (.invokestatic 53, 3)), (284, (.iload 13, 2)), (286, (.if_icmp .gt 16, 3)), (289, (.aload_n 1, 1)), (290, (.iload 6, 2)), (292, (.invokestatic 91, 3)), (295, (.ifCond .eq 7, 3)), (298, (.iconst 1, 1)), (299, (.goto 4, 3)), (302, (.iconst 0, 1))] : List (Nat × (Instr × Nat))).all (fun q => decide (decode cL_law q.1 = .ok q.2)) = true := by decide +kernel
theorem dL_law_190 : decode cL_law 190 = .ok (.aload_n 1, 1) := of_decide_eq_true (List.all_eq_true.mp bt_law_3 (190, (.aload_n 1, 1)) (List.mem_of_getElem? (i := 0) rfl))
theorem dL_law_191 : decode cL_law 191 = .ok (.iconst 3, 1) := of_decide_eq_true (List.all_eq_true.mp bt_law_3 (191, (.iconst 3, 1)) (List.mem_of_getElem? (i := 1) rfl))
theorem dL_law_192 : decode cL_law 192 = .ok (.invokestatic 53, 3) := of_decide_eq_true (List.all_eq_true.mp bt_law_3 (192, (.invokestatic 53, 3)) (List.mem_of_getElem? (i := 2) rfl))
theorem dL_law_195 : decode cL_law 195 = .ok (.istore 13, 2) := of_decide_eq_true (List.all_eq_true.mp bt_law_3 (195, (.istore 13, 2)) (List.mem_of_getElem? (i := 3) rfl))
theorem dL_law_197 : decode cL_law 197 = .ok (.aload_n 1, 1) := of_decide_eq_true (List.all_eq_true.mp bt_law_3 (197, (.aload_n 1, 1)) (List.mem_of_getElem? (i := 4) rfl))
theorem dL_law_198 : decode cL_law 198 = .ok (.iload 11, 2) := of_decide_eq_true (List.all_eq_true.mp bt_law_3 (198, (.iload 11, 2)) (List.mem_of_getElem? (i := 5) rfl))
theorem dL_law_200 : decode cL_law 200 = .ok (.iload 12, 2) := of_decide_eq_true (List.all_eq_true.mp bt_law_3 (200, (.iload 12, 2)) (List.mem_of_getElem? (i := 6) rfl))
theorem dL_law_202 : decode cL_law 202 = .ok (.iload 8, 2) := of_decide_eq_true (List.all_eq_true.mp bt_law_3 (202, (.iload 8, 2)) (List.mem_of_getElem? (i := 7) rfl))
theorem dL_law_204 : decode cL_law 204 = .ok (.sipush 1024, 3) := of_decide_eq_true (List.all_eq_true.mp bt_law_3 (204, (.sipush 1024, 3)) (List.mem_of_getElem? (i := 8) rfl))
theorem dL_law_207 : decode cL_law 207 = .ok (.idiv, 1) := of_decide_eq_true (List.all_eq_true.mp bt_law_3 (207, (.idiv, 1)) (List.mem_of_getElem? (i := 9) rfl))
theorem dL_law_208 : decode cL_law 208 = .ok (.bipush 20, 2) := of_decide_eq_true (List.all_eq_true.mp bt_law_3 (208, (.bipush 20, 2)) (List.mem_of_getElem? (i := 10) rfl))
theorem dL_law_210 : decode cL_law 210 = .ok (.irem, 1) := of_decide_eq_true (List.all_eq_true.mp bt_law_3 (210, (.irem, 1)) (List.mem_of_getElem? (i := 11) rfl))
theorem dL_law_211 : decode cL_law 211 = .ok (.invokestatic 95, 3) := of_decide_eq_true (List.all_eq_true.mp bt_law_3 (211, (.invokestatic 95, 3)) (List.mem_of_getElem? (i := 12) rfl))
theorem dL_law_214 : decode cL_law 214 = .ok (.istore 5, 2) := of_decide_eq_true (List.all_eq_true.mp bt_law_3 (214, (.istore 5, 2)) (List.mem_of_getElem? (i := 13) rfl))
theorem dL_law_216 : decode cL_law 216 = .ok (.iload 6, 2) := of_decide_eq_true (List.all_eq_true.mp bt_law_3 (216, (.iload 6, 2)) (List.mem_of_getElem? (i := 14) rfl))
theorem dL_law_218 : decode cL_law 218 = .ok (.iload 4, 2) := of_decide_eq_true (List.all_eq_true.mp bt_law_3 (218, (.iload 4, 2)) (List.mem_of_getElem? (i := 15) rfl))
theorem dL_law_220 : decode cL_law 220 = .ok (.iload 7, 2) := of_decide_eq_true (List.all_eq_true.mp bt_law_3 (220, (.iload 7, 2)) (List.mem_of_getElem? (i := 16) rfl))
theorem dL_law_222 : decode cL_law 222 = .ok (.ishr, 1) := of_decide_eq_true (List.all_eq_true.mp bt_law_3 (222, (.ishr, 1)) (List.mem_of_getElem? (i := 17) rfl))
theorem dL_law_223 : decode cL_law 223 = .ok (.iconst 1, 1) := of_decide_eq_true (List.all_eq_true.mp bt_law_3 (223, (.iconst 1, 1)) (List.mem_of_getElem? (i := 18) rfl))
theorem dL_law_224 : decode cL_law 224 = .ok (.iand, 1) := of_decide_eq_true (List.all_eq_true.mp bt_law_3 (224, (.iand, 1)) (List.mem_of_getElem? (i := 19) rfl))
theorem dL_law_225 : decode cL_law 225 = .ok (.iadd, 1) := of_decide_eq_true (List.all_eq_true.mp bt_law_3 (225, (.iadd, 1)) (List.mem_of_getElem? (i := 20) rfl))
theorem dL_law_226 : decode cL_law 226 = .ok (.istore 6, 2) := of_decide_eq_true (List.all_eq_true.mp bt_law_3 (226, (.istore 6, 2)) (List.mem_of_getElem? (i := 21) rfl))
theorem dL_law_228 : decode cL_law 228 = .ok (.aload_n 1, 1) := of_decide_eq_true (List.all_eq_true.mp bt_law_3 (228, (.aload_n 1, 1)) (List.mem_of_getElem? (i := 22) rfl))
theorem dL_law_229 : decode cL_law 229 = .ok (.iload 11, 2) := of_decide_eq_true (List.all_eq_true.mp bt_law_3 (229, (.iload 11, 2)) (List.mem_of_getElem? (i := 23) rfl))
theorem dL_law_231 : decode cL_law 231 = .ok (.iload 12, 2) := of_decide_eq_true (List.all_eq_true.mp bt_law_3 (231, (.iload 12, 2)) (List.mem_of_getElem? (i := 24) rfl))
theorem dL_law_233 : decode cL_law 233 = .ok (.invokestatic 81, 3) := of_decide_eq_true (List.all_eq_true.mp bt_law_3 (233, (.invokestatic 81, 3)) (List.mem_of_getElem? (i := 25) rfl))
theorem dL_law_236 : decode cL_law 236 = .ok (.istore 14, 2) := of_decide_eq_true (List.all_eq_true.mp bt_law_3 (236, (.istore 14, 2)) (List.mem_of_getElem? (i := 26) rfl))
theorem dL_law_238 : decode cL_law 238 = .ok (.iload 5, 2) := of_decide_eq_true (List.all_eq_true.mp bt_law_3 (238, (.iload 5, 2)) (List.mem_of_getElem? (i := 27) rfl))
theorem dL_law_240 : decode cL_law 240 = .ok (.ifCond .eq 62, 3) := of_decide_eq_true (List.all_eq_true.mp bt_law_3 (240, (.ifCond .eq 62, 3)) (List.mem_of_getElem? (i := 28) rfl))
theorem dL_law_243 : decode cL_law 243 = .ok (.iload 14, 2) := of_decide_eq_true (List.all_eq_true.mp bt_law_3 (243, (.iload 14, 2)) (List.mem_of_getElem? (i := 29) rfl))
theorem dL_law_245 : decode cL_law 245 = .ok (.ifCond .lt 57, 3) := of_decide_eq_true (List.all_eq_true.mp bt_law_3 (245, (.ifCond .lt 57, 3)) (List.mem_of_getElem? (i := 30) rfl))
theorem dL_law_248 : decode cL_law 248 = .ok (.iload 14, 2) := of_decide_eq_true (List.all_eq_true.mp bt_law_3 (248, (.iload 14, 2)) (List.mem_of_getElem? (i := 31) rfl))
theorem dL_law_250 : decode cL_law 250 = .ok (.iconst 2, 1) := of_decide_eq_true (List.all_eq_true.mp bt_law_3 (250, (.iconst 2, 1)) (List.mem_of_getElem? (i := 32) rfl))
theorem dL_law_251 : decode cL_law 251 = .ok (.if_icmp .gt 51, 3) := of_decide_eq_true (List.all_eq_true.mp bt_law_3 (251, (.if_icmp .gt 51, 3)) (List.mem_of_getElem? (i := 33) rfl))
theorem dL_law_254 : decode cL_law 254 = .ok (.aload_n 1, 1) := of_decide_eq_true (List.all_eq_true.mp bt_law_3 (254, (.aload_n 1, 1)) (List.mem_of_getElem? (i := 34) rfl))
theorem dL_law_255 : decode cL_law 255 = .ok (.iconst 2, 1) := of_decide_eq_true (List.all_eq_true.mp bt_law_3 (255, (.iconst 2, 1)) (List.mem_of_getElem? (i := 35) rfl))
theorem dL_law_256 : decode cL_law 256 = .ok (.invokestatic 53, 3) := of_decide_eq_true (List.all_eq_true.mp bt_law_3 (256, (.invokestatic 53, 3)) (List.mem_of_getElem? (i := 36) rfl))
theorem dL_law_259 : decode cL_law 259 = .ok (.iload 7, 2) := of_decide_eq_true (List.all_eq_true.mp bt_law_3 (259, (.iload 7, 2)) (List.mem_of_getElem? (i := 37) rfl))
theorem dL_law_261 : decode cL_law 261 = .ok (.iconst 1, 1) := of_decide_eq_true (List.all_eq_true.mp bt_law_3 (261, (.iconst 1, 1)) (List.mem_of_getElem? (i := 38) rfl))
theorem dL_law_262 : decode cL_law 262 = .ok (.iadd, 1) := of_decide_eq_true (List.all_eq_true.mp bt_law_3 (262, (.iadd, 1)) (List.mem_of_getElem? (i := 39) rfl))
theorem dL_law_263 : decode cL_law 263 = .ok (.if_icmp .ne 39, 3) := of_decide_eq_true (List.all_eq_true.mp bt_law_3 (263, (.if_icmp .ne 39, 3)) (List.mem_of_getElem? (i := 40) rfl))
theorem dL_law_266 : decode cL_law 266 = .ok (.aload_n 1, 1) := of_decide_eq_true (List.all_eq_true.mp bt_law_3 (266, (.aload_n 1, 1)) (List.mem_of_getElem? (i := 41) rfl))
theorem dL_law_267 : decode cL_law 267 = .ok (.bipush 6, 2) := of_decide_eq_true (List.all_eq_true.mp bt_law_3 (267, (.bipush 6, 2)) (List.mem_of_getElem? (i := 42) rfl))
theorem dL_law_269 : decode cL_law 269 = .ok (.invokestatic 53, 3) := of_decide_eq_true (List.all_eq_true.mp bt_law_3 (269, (.invokestatic 53, 3)) (List.mem_of_getElem? (i := 43) rfl))
theorem dL_law_272 : decode cL_law 272 = .ok (.iload 7, 2) := of_decide_eq_true (List.all_eq_true.mp bt_law_3 (272, (.iload 7, 2)) (List.mem_of_getElem? (i := 44) rfl))
theorem dL_law_274 : decode cL_law 274 = .ok (.iconst 1, 1) := of_decide_eq_true (List.all_eq_true.mp bt_law_3 (274, (.iconst 1, 1)) (List.mem_of_getElem? (i := 45) rfl))
theorem dL_law_275 : decode cL_law 275 = .ok (.iadd, 1) := of_decide_eq_true (List.all_eq_true.mp bt_law_3 (275, (.iadd, 1)) (List.mem_of_getElem? (i := 46) rfl))
theorem dL_law_276 : decode cL_law 276 = .ok (.if_icmp .ne 26, 3) := of_decide_eq_true (List.all_eq_true.mp bt_law_3 (276, (.if_icmp .ne 26, 3)) (List.mem_of_getElem? (i := 47) rfl))
theorem dL_law_279 : decode cL_law 279 = .ok (.aload_n 1, 1) := of_decide_eq_true (List.all_eq_true.mp bt_law_3 (279, (.aload_n 1, 1)) (List.mem_of_getElem? (i := 48) rfl))
theorem dL_law_280 : decode cL_law 280 = .ok (.iconst 3, 1) := of_decide_eq_true (List.all_eq_true.mp bt_law_3 (280, (.iconst 3, 1)) (List.mem_of_getElem? (i := 49) rfl))
theorem dL_law_281 : decode cL_law 281 = .ok (.invokestatic 53, 3) := of_decide_eq_true (List.all_eq_true.mp bt_law_3 (281, (.invokestatic 53, 3)) (List.mem_of_getElem? (i := 50) rfl))
theorem dL_law_284 : decode cL_law 284 = .ok (.iload 13, 2) := of_decide_eq_true (List.all_eq_true.mp bt_law_3 (284, (.iload 13, 2)) (List.mem_of_getElem? (i := 51) rfl))
theorem dL_law_286 : decode cL_law 286 = .ok (.if_icmp .gt 16, 3) := of_decide_eq_true (List.all_eq_true.mp bt_law_3 (286, (.if_icmp .gt 16, 3)) (List.mem_of_getElem? (i := 52) rfl))
theorem dL_law_289 : decode cL_law 289 = .ok (.aload_n 1, 1) := of_decide_eq_true (List.all_eq_true.mp bt_law_3 (289, (.aload_n 1, 1)) (List.mem_of_getElem? (i := 53) rfl))
theorem dL_law_290 : decode cL_law 290 = .ok (.iload 6, 2) := of_decide_eq_true (List.all_eq_true.mp bt_law_3 (290, (.iload 6, 2)) (List.mem_of_getElem? (i := 54) rfl))
theorem dL_law_292 : decode cL_law 292 = .ok (.invokestatic 91, 3) := of_decide_eq_true (List.all_eq_true.mp bt_law_3 (292, (.invokestatic 91, 3)) (List.mem_of_getElem? (i := 55) rfl))
theorem dL_law_295 : decode cL_law 295 = .ok (.ifCond .eq 7, 3) := of_decide_eq_true (List.all_eq_true.mp bt_law_3 (295, (.ifCond .eq 7, 3)) (List.mem_of_getElem? (i := 56) rfl))
theorem dL_law_298 : decode cL_law 298 = .ok (.iconst 1, 1) := of_decide_eq_true (List.all_eq_true.mp bt_law_3 (298, (.iconst 1, 1)) (List.mem_of_getElem? (i := 57) rfl))
theorem dL_law_299 : decode cL_law 299 = .ok (.goto 4, 3) := of_decide_eq_true (List.all_eq_true.mp bt_law_3 (299, (.goto 4, 3)) (List.mem_of_getElem? (i := 58) rfl))
theorem dL_law_302 : decode cL_law 302 = .ok (.iconst 0, 1) := of_decide_eq_true (List.all_eq_true.mp bt_law_3 (302, (.iconst 0, 1)) (List.mem_of_getElem? (i := 59) rfl))
set_option maxRecDepth 100000 in
theorem bt_law_4 : ([(303, (.istore 5, 2)), (305, (.iinc 7 1, 3)), (308, (.goto (-185), 3)), (311, (.aload_n 1, 1)), (312, (.iconst 3, 1)), (313, (.invokestatic 53, 3)), (316, (.istore 7, 2)), (318, (.iload 5, 2)), (320, (.ifCond .eq 64, 3)), (323, (.aload_n 1, 1)), (324, (.invokevirtual 99, 3)), (327, (.bipush 24, 2)), (329, (.if_icmp .ne 55, 3)), (332, (.aload_n 1, 1)), (333, (.iconst 3, 1)), (334, (.invokestatic 53, 3)), (337, (.iconst 2, 1)), (338, (.iload_n 2, 1)), (339, (.imul, 1)), (340, (.iconst 1, 1)), (341, (.iadd, 1)), (342, (.if_icmp .ne 42, 3)), (345, (.aload_n 1, 1)), (346, (.iconst 2, 1)), (347, (.invokestatic 53, 3)), (350, (.ifCond .ne 34, 3)), (353, (.aload_n 1, 1)), (354, (.invokestatic 102, 3)), (357, (.ifCond .lt 27, 3)), (360, (.aload_n 1, 1)), (361, (.iconst 3, 1)), (362, (.invokestatic 53, 3)), (365, (.iload 7, 2)), (367, (.if_icmp .ne 17, 3)), (370, (.aload_n 1, 1)), (371, (.iconst 2, 1)), (372, (.invokestatic 53, 3)), (375, (.bipush 24, 2)), (377, (.if_icmp .ne 7, 3)), (380, (.iconst 1, 1)), (381, (.goto 4, 3)), (384, (.iconst 0, 1)), (385, (.istore 5, 2)), (387, (.iload 5, 2)), (389, (.ifCond .eq 38, 3)), (392, (.aload_n 1, 1)), (393, (.iconst 0, 1)), (394, (.iconst 1, 1)), (395, (.invokestatic 81, 3)), (398, (.ldc 17, 2)), (400, (.if_icmp .ne 27, 3)), (403, (.aload_n 1, 1)), (404, (.iconst 1, 1)), (405, (.iconst 1, 1)), (406, (.invokestatic 81, 3)), (409, (.ldc 17, 2)), (411, (.if_icmp .ne 16, 3)), (414, (.aload_n 1, 1)), (415, (.iload 6, 2)), (417, (.invokestatic 91, 3))] : List (Nat × (Instr × Nat))).all (fun q => decide (decode cL_law q.1 = .ok q.2)) = true := by decide +kernel
theorem dL_law_303 : decode cL_law 303 = .ok (.istore 5, 2) := of_decide_eq_true (List.all_eq_true.mp bt_law_4 (303, (.istore 5, 2)) (List.mem_of_getElem? (i := 0) rfl))
theorem dL_law_305 : decode cL_law 305 = .ok (.iinc 7 1, 3) := of_decide_eq_true (List.all_eq_true.mp bt_law_4 (305, (.iinc 7 1, 3)) (List.mem_of_getElem? (i := 1) rfl))
theorem dL_law_308 : decode cL_law 308 = .ok (.goto (-185), 3) := of_decide_eq_true (List.all_eq_true.mp bt_law_4 (308, (.goto (-185), 3)) (List.mem_of_getElem? (i := 2) rfl))
theorem dL_law_311 : decode cL_law 311 = .ok (.aload_n 1, 1) := of_decide_eq_true (List.all_eq_true.mp bt_law_4 (311, (.aload_n 1, 1)) (List.mem_of_getElem? (i := 3) rfl))
theorem dL_law_312 : decode cL_law 312 = .ok (.iconst 3, 1) := of_decide_eq_true (List.all_eq_true.mp bt_law_4 (312, (.iconst 3, 1)) (List.mem_of_getElem? (i := 4) rfl))
theorem dL_law_313 : decode cL_law 313 = .ok (.invokestatic 53, 3) := of_decide_eq_true (List.all_eq_true.mp bt_law_4 (313, (.invokestatic 53, 3)) (List.mem_of_getElem? (i := 5) rfl))
theorem dL_law_316 : decode cL_law 316 = .ok (.istore 7, 2) := of_decide_eq_true (List.all_eq_true.mp bt_law_4 (316, (.istore 7, 2)) (List.mem_of_getElem? (i := 6) rfl))
theorem dL_law_318 : decode cL_law 318 = .ok (.iload 5, 2) := of_decide_eq_true (List.all_eq_true.mp bt_law_4 (318, (.iload 5, 2)) (List.mem_of_getElem? (i := 7) rfl))
theorem dL_law_320 : decode cL_law 320 = .ok (.ifCond .eq 64, 3) := of_decide_eq_true (List.all_eq_true.mp bt_law_4 (320, (.ifCond .eq 64, 3)) (List.mem_of_getElem? (i := 8) rfl))
theorem dL_law_323 : decode cL_law 323 = .ok (.aload_n 1, 1) := of_decide_eq_true (List.all_eq_true.mp bt_law_4 (323, (.aload_n 1, 1)) (List.mem_of_getElem? (i := 9) rfl))
theorem dL_law_324 : decode cL_law 324 = .ok (.invokevirtual 99, 3) := of_decide_eq_true (List.all_eq_true.mp bt_law_4 (324, (.invokevirtual 99, 3)) (List.mem_of_getElem? (i := 10) rfl))
theorem dL_law_327 : decode cL_law 327 = .ok (.bipush 24, 2) := of_decide_eq_true (List.all_eq_true.mp bt_law_4 (327, (.bipush 24, 2)) (List.mem_of_getElem? (i := 11) rfl))
theorem dL_law_329 : decode cL_law 329 = .ok (.if_icmp .ne 55, 3) := of_decide_eq_true (List.all_eq_true.mp bt_law_4 (329, (.if_icmp .ne 55, 3)) (List.mem_of_getElem? (i := 12) rfl))
theorem dL_law_332 : decode cL_law 332 = .ok (.aload_n 1, 1) := of_decide_eq_true (List.all_eq_true.mp bt_law_4 (332, (.aload_n 1, 1)) (List.mem_of_getElem? (i := 13) rfl))
theorem dL_law_333 : decode cL_law 333 = .ok (.iconst 3, 1) := of_decide_eq_true (List.all_eq_true.mp bt_law_4 (333, (.iconst 3, 1)) (List.mem_of_getElem? (i := 14) rfl))
theorem dL_law_334 : decode cL_law 334 = .ok (.invokestatic 53, 3) := of_decide_eq_true (List.all_eq_true.mp bt_law_4 (334, (.invokestatic 53, 3)) (List.mem_of_getElem? (i := 15) rfl))
theorem dL_law_337 : decode cL_law 337 = .ok (.iconst 2, 1) := of_decide_eq_true (List.all_eq_true.mp bt_law_4 (337, (.iconst 2, 1)) (List.mem_of_getElem? (i := 16) rfl))
theorem dL_law_338 : decode cL_law 338 = .ok (.iload_n 2, 1) := of_decide_eq_true (List.all_eq_true.mp bt_law_4 (338, (.iload_n 2, 1)) (List.mem_of_getElem? (i := 17) rfl))
theorem dL_law_339 : decode cL_law 339 = .ok (.imul, 1) := of_decide_eq_true (List.all_eq_true.mp bt_law_4 (339, (.imul, 1)) (List.mem_of_getElem? (i := 18) rfl))
theorem dL_law_340 : decode cL_law 340 = .ok (.iconst 1, 1) := of_decide_eq_true (List.all_eq_true.mp bt_law_4 (340, (.iconst 1, 1)) (List.mem_of_getElem? (i := 19) rfl))
theorem dL_law_341 : decode cL_law 341 = .ok (.iadd, 1) := of_decide_eq_true (List.all_eq_true.mp bt_law_4 (341, (.iadd, 1)) (List.mem_of_getElem? (i := 20) rfl))
theorem dL_law_342 : decode cL_law 342 = .ok (.if_icmp .ne 42, 3) := of_decide_eq_true (List.all_eq_true.mp bt_law_4 (342, (.if_icmp .ne 42, 3)) (List.mem_of_getElem? (i := 21) rfl))
theorem dL_law_345 : decode cL_law 345 = .ok (.aload_n 1, 1) := of_decide_eq_true (List.all_eq_true.mp bt_law_4 (345, (.aload_n 1, 1)) (List.mem_of_getElem? (i := 22) rfl))
theorem dL_law_346 : decode cL_law 346 = .ok (.iconst 2, 1) := of_decide_eq_true (List.all_eq_true.mp bt_law_4 (346, (.iconst 2, 1)) (List.mem_of_getElem? (i := 23) rfl))
theorem dL_law_347 : decode cL_law 347 = .ok (.invokestatic 53, 3) := of_decide_eq_true (List.all_eq_true.mp bt_law_4 (347, (.invokestatic 53, 3)) (List.mem_of_getElem? (i := 24) rfl))
theorem dL_law_350 : decode cL_law 350 = .ok (.ifCond .ne 34, 3) := of_decide_eq_true (List.all_eq_true.mp bt_law_4 (350, (.ifCond .ne 34, 3)) (List.mem_of_getElem? (i := 25) rfl))
theorem dL_law_353 : decode cL_law 353 = .ok (.aload_n 1, 1) := of_decide_eq_true (List.all_eq_true.mp bt_law_4 (353, (.aload_n 1, 1)) (List.mem_of_getElem? (i := 26) rfl))
theorem dL_law_354 : decode cL_law 354 = .ok (.invokestatic 102, 3) := of_decide_eq_true (List.all_eq_true.mp bt_law_4 (354, (.invokestatic 102, 3)) (List.mem_of_getElem? (i := 27) rfl))
theorem dL_law_357 : decode cL_law 357 = .ok (.ifCond .lt 27, 3) := of_decide_eq_true (List.all_eq_true.mp bt_law_4 (357, (.ifCond .lt 27, 3)) (List.mem_of_getElem? (i := 28) rfl))
theorem dL_law_360 : decode cL_law 360 = .ok (.aload_n 1, 1) := of_decide_eq_true (List.all_eq_true.mp bt_law_4 (360, (.aload_n 1, 1)) (List.mem_of_getElem? (i := 29) rfl))
theorem dL_law_361 : decode cL_law 361 = .ok (.iconst 3, 1) := of_decide_eq_true (List.all_eq_true.mp bt_law_4 (361, (.iconst 3, 1)) (List.mem_of_getElem? (i := 30) rfl))
theorem dL_law_362 : decode cL_law 362 = .ok (.invokestatic 53, 3) := of_decide_eq_true (List.all_eq_true.mp bt_law_4 (362, (.invokestatic 53, 3)) (List.mem_of_getElem? (i := 31) rfl))
theorem dL_law_365 : decode cL_law 365 = .ok (.iload 7, 2) := of_decide_eq_true (List.all_eq_true.mp bt_law_4 (365, (.iload 7, 2)) (List.mem_of_getElem? (i := 32) rfl))
theorem dL_law_367 : decode cL_law 367 = .ok (.if_icmp .ne 17, 3) := of_decide_eq_true (List.all_eq_true.mp bt_law_4 (367, (.if_icmp .ne 17, 3)) (List.mem_of_getElem? (i := 33) rfl))
theorem dL_law_370 : decode cL_law 370 = .ok (.aload_n 1, 1) := of_decide_eq_true (List.all_eq_true.mp bt_law_4 (370, (.aload_n 1, 1)) (List.mem_of_getElem? (i := 34) rfl))
theorem dL_law_371 : decode cL_law 371 = .ok (.iconst 2, 1) := of_decide_eq_true (List.all_eq_true.mp bt_law_4 (371, (.iconst 2, 1)) (List.mem_of_getElem? (i := 35) rfl))
theorem dL_law_372 : decode cL_law 372 = .ok (.invokestatic 53, 3) := of_decide_eq_true (List.all_eq_true.mp bt_law_4 (372, (.invokestatic 53, 3)) (List.mem_of_getElem? (i := 36) rfl))
theorem dL_law_375 : decode cL_law 375 = .ok (.bipush 24, 2) := of_decide_eq_true (List.all_eq_true.mp bt_law_4 (375, (.bipush 24, 2)) (List.mem_of_getElem? (i := 37) rfl))
theorem dL_law_377 : decode cL_law 377 = .ok (.if_icmp .ne 7, 3) := of_decide_eq_true (List.all_eq_true.mp bt_law_4 (377, (.if_icmp .ne 7, 3)) (List.mem_of_getElem? (i := 38) rfl))
theorem dL_law_380 : decode cL_law 380 = .ok (.iconst 1, 1) := of_decide_eq_true (List.all_eq_true.mp bt_law_4 (380, (.iconst 1, 1)) (List.mem_of_getElem? (i := 39) rfl))
theorem dL_law_381 : decode cL_law 381 = .ok (.goto 4, 3) := of_decide_eq_true (List.all_eq_true.mp bt_law_4 (381, (.goto 4, 3)) (List.mem_of_getElem? (i := 40) rfl))
theorem dL_law_384 : decode cL_law 384 = .ok (.iconst 0, 1) := of_decide_eq_true (List.all_eq_true.mp bt_law_4 (384, (.iconst 0, 1)) (List.mem_of_getElem? (i := 41) rfl))
theorem dL_law_385 : decode cL_law 385 = .ok (.istore 5, 2) := of_decide_eq_true (List.all_eq_true.mp bt_law_4 (385, (.istore 5, 2)) (List.mem_of_getElem? (i := 42) rfl))
theorem dL_law_387 : decode cL_law 387 = .ok (.iload 5, 2) := of_decide_eq_true (List.all_eq_true.mp bt_law_4 (387, (.iload 5, 2)) (List.mem_of_getElem? (i := 43) rfl))
theorem dL_law_389 : decode cL_law 389 = .ok (.ifCond .eq 38, 3) := of_decide_eq_true (List.all_eq_true.mp bt_law_4 (389, (.ifCond .eq 38, 3)) (List.mem_of_getElem? (i := 44) rfl))
theorem dL_law_392 : decode cL_law 392 = .ok (.aload_n 1, 1) := of_decide_eq_true (List.all_eq_true.mp bt_law_4 (392, (.aload_n 1, 1)) (List.mem_of_getElem? (i := 45) rfl))
theorem dL_law_393 : decode cL_law 393 = .ok (.iconst 0, 1) := of_decide_eq_true (List.all_eq_true.mp bt_law_4 (393, (.iconst 0, 1)) (List.mem_of_getElem? (i := 46) rfl))
theorem dL_law_394 : decode cL_law 394 = .ok (.iconst 1, 1) := of_decide_eq_true (List.all_eq_true.mp bt_law_4 (394, (.iconst 1, 1)) (List.mem_of_getElem? (i := 47) rfl))
theorem dL_law_395 : decode cL_law 395 = .ok (.invokestatic 81, 3) := of_decide_eq_true (List.all_eq_true.mp bt_law_4 (395, (.invokestatic 81, 3)) (List.mem_of_getElem? (i := 48) rfl))
theorem dL_law_398 : decode cL_law 398 = .ok (.ldc 17, 2) := of_decide_eq_true (List.all_eq_true.mp bt_law_4 (398, (.ldc 17, 2)) (List.mem_of_getElem? (i := 49) rfl))
theorem dL_law_400 : decode cL_law 400 = .ok (.if_icmp .ne 27, 3) := of_decide_eq_true (List.all_eq_true.mp bt_law_4 (400, (.if_icmp .ne 27, 3)) (List.mem_of_getElem? (i := 50) rfl))
theorem dL_law_403 : decode cL_law 403 = .ok (.aload_n 1, 1) := of_decide_eq_true (List.all_eq_true.mp bt_law_4 (403, (.aload_n 1, 1)) (List.mem_of_getElem? (i := 51) rfl))
theorem dL_law_404 : decode cL_law 404 = .ok (.iconst 1, 1) := of_decide_eq_true (List.all_eq_true.mp bt_law_4 (404, (.iconst 1, 1)) (List.mem_of_getElem? (i := 52) rfl))
theorem dL_law_405 : decode cL_law 405 = .ok (.iconst 1, 1) := of_decide_eq_true (List.all_eq_true.mp bt_law_4 (405, (.iconst 1, 1)) (List.mem_of_getElem? (i := 53) rfl))
theorem dL_law_406 : decode cL_law 406 = .ok (.invokestatic 81, 3) := of_decide_eq_true (List.all_eq_true.mp bt_law_4 (406, (.invokestatic 81, 3)) (List.mem_of_getElem? (i := 54) rfl))
theorem dL_law_409 : decode cL_law 409 = .ok (.ldc 17, 2) := of_decide_eq_true (List.all_eq_true.mp bt_law_4 (409, (.ldc 17, 2)) (List.mem_of_getElem? (i := 55) rfl))
theorem dL_law_411 : decode cL_law 411 = .ok (.if_icmp .ne 16, 3) := of_decide_eq_true (List.all_eq_true.mp bt_law_4 (411, (.if_icmp .ne 16, 3)) (List.mem_of_getElem? (i := 56) rfl))
theorem dL_law_414 : decode cL_law 414 = .ok (.aload_n 1, 1) := of_decide_eq_true (List.all_eq_true.mp bt_law_4 (414, (.aload_n 1, 1)) (List.mem_of_getElem? (i := 57) rfl))
theorem dL_law_415 : decode cL_law 415 = .ok (.iload 6, 2) := of_decide_eq_true (List.all_eq_true.mp bt_law_4 (415, (.iload 6, 2)) (List.mem_of_getElem? (i := 58) rfl))
theorem dL_law_417 : decode cL_law 417 = .ok (.invokestatic 91, 3) := of_decide_eq_true (List.all_eq_true.mp bt_law_4 (417, (.invokestatic 91, 3)) (List.mem_of_getElem? (i := 59) rfl))
set_option maxRecDepth 100000 in
theorem bt_law_5 : ([(420, (.ifCond .eq 7, 3)), (423, (.iconst 1, 1)), (424, (.goto 4, 3)), (427, (.iconst 0, 1)), (428, (.ireturn, 1))] : List (Nat × (Instr × Nat))).all (fun q => decide (decode cL_law q.1 = .ok q.2)) = true := by decide +kernel
theorem dL_law_420 : decode cL_law 420 = .ok (.ifCond .eq 7, 3) := of_decide_eq_true (List.all_eq_true.mp bt_law_5 (420, (.ifCond .eq 7, 3)) (List.mem_of_getElem? (i := 0) rfl))
theorem dL_law_423 : decode cL_law 423 = .ok (.iconst 1, 1) := of_decide_eq_true (List.all_eq_true.mp bt_law_5 (423, (.iconst 1, 1)) (List.mem_of_getElem? (i := 1) rfl))
theorem dL_law_424 : decode cL_law 424 = .ok (.goto 4, 3) := of_decide_eq_true (List.all_eq_true.mp bt_law_5 (424, (.goto 4, 3)) (List.mem_of_getElem? (i := 2) rfl))
theorem dL_law_427 : decode cL_law 427 = .ok (.iconst 0, 1) := of_decide_eq_true (List.all_eq_true.mp bt_law_5 (427, (.iconst 0, 1)) (List.mem_of_getElem? (i := 3) rfl))
theorem dL_law_428 : decode cL_law 428 = .ok (.ireturn, 1) := of_decide_eq_true (List.all_eq_true.mp bt_law_5 (428, (.ireturn, 1)) (List.mem_of_getElem? (i := 4) rfl))
end
section
/-! base: my own words for worlds, contracts and calls -/
abbrev vwCl : List vw_C := [(RX0, TX0, 2), (RX1, TX1, 9), (RX2, TX2, 9), (RX3, TX3, 4), (RX4, TX4, 3)]
abbrev St : Type := (Nat → Int32) × (Nat → Nat → Int32)
def sI (x : St) (k : Nat) (v : Int32) : St := (fun j => if j = k then v else x.1 j, x.2)
def sA (x : St) (k : Nat) (f : Nat → Int32) : St := (x.1, fun j => if j = k then f else x.2 j)
abbrev TY (T : Nat → ClassId) : List (ClassId × FieldType) := [(T 0, .int), (T 1, .byte), (T 0, .int), (T 3, .object RX2)]
def nestW : List Cond := [
  .fieldLinkNest RX4 133 "LyingScale$State" "liesOf" "[I" "LyingScale",
  .fieldLinkNest RX4 234 "LyingScale$History" "count" "I" "LyingScale",
  .fieldLinkNest RX4 41 "LyingScale$State" "told" "LLyingScale$Weighings;" "LyingScale",
  .fieldLinkNest RX4 45 "LyingScale$Weighings" "count" "I" "LyingScale",
  .fieldLinkNest RX4 57 "LyingScale$State" "limit" "I" "LyingScale",
  .fieldLinkNest RX4 99 "LyingScale$State" "hidden" "I" "LyingScale",
  .fieldLinkNest RX2 40 "LyingScale$Weighings" "count" "I" "LyingScale",
  .methodLinkNest RX2 128 yX4_coinBit "LyingScale",
  .methodLinkNest RX2 141 yX4_volume "LyingScale",
  .methodLinkNest RX2 54 yX4_copyRow "LyingScale",
  .methodLinkNest RX2 85 yX4_put "LyingScale",
  .methodLinkNest RX2 89 yX4_at "LyingScale",
  .methodLinkNest RX2 93 yX4_trueAnswer "LyingScale",
  .methodLinkNest RX3 27 yX4_copyRow "LyingScale",
  .methodLinkNest RX3 35 yX4_put "LyingScale"]
def NN (U : State) : Prop := ∀ w ∈ nestW, va_Nw w U
theorem NN_tabs : ∀ w ∈ nestW, w.onTables = true := by decide +kernel
theorem NN.same {u U : State} (h : u.vm = U.vm) (hN : NN u) : NN U := fun w hw => va_Nw.same (NN_tabs w hw) h (hN w hw)
def nestOk : Cond → Bool
  | .fieldLinkNest _ _ _ _ _ _ => true
  | .methodLinkNest _ _ _ _ => true
  | _ => false
theorem nest_all : nestW.all nestOk = true := by decide +kernel
theorem NN.warm {s U : State} (hW : s.WarmedH U.vm) (hN : NN s) : NN U := by
  intro w hw
  have h1 := hN w hw
  have h2 := List.all_eq_true.mp nest_all w hw
  cases w <;> first | exact va_Nw.warmF hW h1 | exact va_Nw.warmM hW h1 | (exfalso; revert h2; simp [nestOk]; done)
def KK (D : va_G) (T : Nat → ClassId) (U : State) : Prop := va_K D vwCl (TY T) U ∧ NN U
theorem KK.warm {D : va_G} {T : Nat → ClassId} {s U : State} (hW : s.WarmedH U.vm) (h : KK D T s) : KK D T U := ⟨va_K.moved hW.alike h.1, h.2.warm hW⟩
theorem KK.calling {D : va_G} {T : Nat → ClassId} {U : State} {g : JFrame} {mk : MethodId} {a : Array Value} (h : KK D T U) : KK D T (U.calling g mk a) := ⟨va_K.moved (u := U) (U := U.calling g mk a) (Vm.Alike.refl U.vm) h.1, NN.same (u := U) (U := U.calling g mk a) rfl h.2⟩
/-- the method's frame at its start -/
def CX (p : Program) (s : State) (m : MethodId) (args : Array Value) (meth : Method) (c : Code) (cc : ByteArray) (maxL : Nat) (ret : Option FieldType) (ws : List Cond) (y : MethodName) : Prop :=
  p.tables.exec = Jvm.exec ∧ c.code = cc ∧ meth.sig.returnType = ret ∧ c.maxLocals = maxL ∧ s.vm.findClass y.cls = some m.cls ∧ (∀ w ∈ ws, w.before args s = true) ∧ meth.locks = false ∧ meth.name = y.name
theorem met_of {l : Launch} {y : MethodName} {ws ws' : List Cond} {rm : Room} {av : List Value} {B : State → Prop} {Qc : Array Value → State → Outcome → State → Prop} {mc ms : Nat} {free : Addr → Prop} {cc : ByteArray} {maxL : Nat} {ret : Option FieldType} {lv : List (Nat × Value)}
    (hy : plainName y.cls = true) (hw : ws = Cond.code y cc maxL ret :: ws') (hn : (lg_sl av).length ≤ maxL) (hlv : lv_args 0 av = lv)
    (body : ∀ (p : Program) (e : Env) (s : State) (m : MethodId) (args : Array Value) (below : List Frame) (meth : Method) (c : Code) (ls : Array Slot), CX p s m args meth c cc maxL ret ws y → lv_has ls maxL lv → B s →
      W p l e rm s m args below meth c s.heap [] 0 0 (MQ below Qc args s mc ms free) (F0 m 0 ls [])) : Met l y ws rm (va_Pc av B) Qc mc ms free := by
  refine Met.ofW (cc := cc) (maxL := maxL) (ret := ret) hy hw ?_
  intro p e s m args below meth c s₁ C0 hml hv
  obtain ⟨rfl, hB⟩ := hv
  have hl := lv_entry av (n := maxL) hn
  rw [lg_entry_eq]
  rw [hlv] at hl
  exact body p e s m _ below meth c _ ⟨C0.exec, C0.bytes, C0.returns, hml, findClass_of_methodNamed C0.named, atoms_spec (ws := ws) C0.pre, C0.notSynchronized, (name_of_methodNamed C0.named C0.method).1⟩ hl hB
/-- a start that reads a world -/
def PB (D : va_G) (T : Nat → ClassId) (wc : va_W) (U : State) : Prop := va_P D vwCl wc U.heap ∧ KK D T U
/-- a start that may write a world -/
def PM (D : va_G) (T : Nat → ClassId) (wc : va_W) (sz : Nat) (U : State) : Prop := U.heap.size = sz ∧ va_P D vwCl wc U.heap ∧ KK D T U ∧ va_D (fun _ => True) wc
theorem PB_blind {D : va_G} {T : Nat → ClassId} {wc : va_W} {av : List Value} : FrameBlind (va_Pc av (PB D T wc)) := fun _ _ _ _ q => ⟨q.1, q.2.1, q.2.2.calling⟩
theorem PM_blind {D : va_G} {T : Nat → ClassId} {wc : va_W} {sz : Nat} {av : List Value} : FrameBlind (va_Pc av (PM D T wc sz)) := fun _ _ _ _ q => ⟨q.1, q.2.1, q.2.2.1, q.2.2.2.1.calling, q.2.2.2.2⟩
theorem PB_at {D : va_G} {T : Nat → ClassId} {wc : va_W} {av : List Value} {s : State} {H : Heap} (hP : va_P D vwCl wc H) (hK : KK D T s) : ∀ U : State, U.heap = H → s.WarmedH U.vm → va_Pc av (PB D T wc) av.toArray U := fun U hU hW => ⟨rfl, by rw [hU]; exact hP, hK.warm hW⟩
theorem PM_at {D : va_G} {T : Nat → ClassId} {wc : va_W} {av : List Value} {s : State} {H : Heap} {A : Nat → Prop} (hP : va_P D vwCl wc H) (hD : va_D A wc) (hK : KK D T s) : ∀ U : State, U.heap = H → s.WarmedH U.vm → va_Pc av (PM D T wc H.size) av.toArray U := fun U hU hW => ⟨rfl, by rw [hU], by rw [hU]; exact hP, hK.warm hW, hD.weaken (fun _ _ _ _ => trivial)⟩
/-- ends of a method that writes: the answer v, the world w1 -/
def QMi (D : va_G) (w1 : va_W) (v : Int32) (A : Nat → Prop) : Array Value → State → Outcome → State → Prop := va_Qi (fun (r : Int32) (_ : Unit) => r = v) (fun _ t => va_P D vwCl w1 t.heap ∧ va_D A w1) A
def QMl (D : va_G) (w1 : va_W) (v : Int64) (A : Nat → Prop) : Array Value → State → Outcome → State → Prop := va_Ql (fun (r : Int64) (_ : Unit) => r = v) (fun _ t => va_P D vwCl w1 t.heap ∧ va_D A w1) A
def QMv (D : va_G) (w1 : va_W) (A : Nat → Prop) : Array Value → State → Outcome → State → Prop := va_Qv (fun (_ : Unit) => True) (fun _ t => va_P D vwCl w1 t.heap ∧ va_D A w1) A
theorem reord {D : va_G} {A0 : Nat → Prop} {ws wc wr w1 ws' : va_W} {H H1 : Heap} (hP : va_P D vwCl ws H) (hD : va_D A0 ws) (isC isR : List Nat) (hC : isC.map (fun i => ws[i]?) = wc.map some) (hR : isR.map (fun i => ws[i]?) = wr.map some) (hn : va_nd isR = true) (hdis : ∀ i ∈ isR, i ∉ isC)
    (hk : ∀ q : Nat, q < H.size → ¬ va_A wc H.size q → H1[q]? = H[q]?) (hF : ∀ q, va_A wc H.size q → A0 q) (hP1 : va_P D vwCl w1 H1) (hD1 : va_D (va_A wc H.size) w1) (pi : List Nat) (hp : va_nd pi = true) (hpi : pi.map (fun i => (wr ++ w1)[i]?) = ws'.map some) : va_P D vwCl ws' H1 ∧ va_D A0 ws' := by
  obtain ⟨h1, h2⟩ := va_join hP hD isC isR hC hR hn hdis hk hF hP1 hD1
  refine ⟨fun k q hq => ?_, h2.sub pi hp hpi⟩
  have h3 : (pi.map (fun i => (wr ++ w1)[i]?))[k]? = some (some q) := by rw [hpi, List.getElem?_map, hq]; rfl
  rw [List.getElem?_map] at h3
  cases hi : pi[k]? with
  | none => rw [hi] at h3; cases h3
  | some i => rw [hi] at h3; exact h1 i q (Option.some.inj h3)
section BC
variable {p : Program} {l : Launch} {e : Env} {R : Room} {s : State} {m : MethodId} {args : Array Value} {below : List Frame} {meth : Method} {c : Code} {H : Heap} {locs : List Loc} {cells slots : Nat} {Q : State → Prop}
variable {pc : Nat} {ls : Array Slot} {rest st0 : List Value} {a : Array Value} {A0 : Nat → Prop} {H0 : Heap} {mc ms : Nat} {D : va_G} {wc wr w1 ws ws' : va_W}
theorem callMi {v : Int32} (hr : va_Run p l e R s m args below meth c H locs cells slots mc ms (F0 m pc ls st0) rest (QMi D w1 v (va_A wc H.size) a) (va_A wc H.size)) (hS : va_S A0 H0 H locs) (hA : ∀ q, H0.size ≤ q → A0 q) (hP : va_P D vwCl ws H) (hD : va_D A0 ws)
    (isC isR : List Nat) (hC : isC.map (fun i => ws[i]?) = wc.map some) (hR : isR.map (fun i => ws[i]?) = wr.map some) (hn : va_nd isR = true) (hdis : ∀ i ∈ isR, i ∉ isC) (pi : List Nat) (hp : va_nd pi = true) (hpi : pi.map (fun i => (wr ++ w1)[i]?) = ws'.map some)
    (kk : ∀ (H1 : Heap) (locs1 : List Loc), va_P D vwCl ws' H1 → va_D A0 ws' → va_S A0 H0 H1 locs1 → W p l e R s m args below meth c H1 locs1 (cells + mc) (slots + ms) Q (F0 m (pc + 3) ls (.int v :: rest))) : W p l e R s m args below meth c H locs cells slots Q (F0 m pc ls st0) := by
  have hF := va_free hD hS hA isC hC
  refine va_calli hr hS (fun q _ h => hF q h) hF (fun r u t H1 locs ht hvm hw hB hz1 hk1 hS => ?_)
  subst hw
  obtain ⟨hP1, hD1⟩ := hB
  rw [ht] at hP1
  obtain ⟨g1, g2⟩ := reord hP hD isC isR hC hR hn hdis hk1 hF hP1 hD1 pi hp hpi
  exact kk H1 locs g1 g2 hS
theorem callMl {v : Int64} (hr : va_Run p l e R s m args below meth c H locs cells slots mc ms (F0 m pc ls st0) rest (QMl D w1 v (va_A wc H.size) a) (va_A wc H.size)) (hS : va_S A0 H0 H locs) (hA : ∀ q, H0.size ≤ q → A0 q) (hP : va_P D vwCl ws H) (hD : va_D A0 ws)
    (isC isR : List Nat) (hC : isC.map (fun i => ws[i]?) = wc.map some) (hR : isR.map (fun i => ws[i]?) = wr.map some) (hn : va_nd isR = true) (hdis : ∀ i ∈ isR, i ∉ isC) (pi : List Nat) (hp : va_nd pi = true) (hpi : pi.map (fun i => (wr ++ w1)[i]?) = ws'.map some)
    (kk : ∀ (H1 : Heap) (locs1 : List Loc), va_P D vwCl ws' H1 → va_D A0 ws' → va_S A0 H0 H1 locs1 → W p l e R s m args below meth c H1 locs1 (cells + mc) (slots + ms) Q (F0 m (pc + 3) ls (.long v :: rest))) : W p l e R s m args below meth c H locs cells slots Q (F0 m pc ls st0) := by
  have hF := va_free hD hS hA isC hC
  refine va_calll hr hS (fun q _ h => hF q h) hF (fun r u t H1 locs ht hvm hw hB hz1 hk1 hS => ?_)
  subst hw
  obtain ⟨hP1, hD1⟩ := hB
  rw [ht] at hP1
  obtain ⟨g1, g2⟩ := reord hP hD isC isR hC hR hn hdis hk1 hF hP1 hD1 pi hp hpi
  exact kk H1 locs g1 g2 hS
theorem callMv (hr : va_Run p l e R s m args below meth c H locs cells slots mc ms (F0 m pc ls st0) rest (QMv D w1 (va_A wc H.size) a) (va_A wc H.size)) (hS : va_S A0 H0 H locs) (hA : ∀ q, H0.size ≤ q → A0 q) (hP : va_P D vwCl ws H) (hD : va_D A0 ws)
    (isC isR : List Nat) (hC : isC.map (fun i => ws[i]?) = wc.map some) (hR : isR.map (fun i => ws[i]?) = wr.map some) (hn : va_nd isR = true) (hdis : ∀ i ∈ isR, i ∉ isC) (pi : List Nat) (hp : va_nd pi = true) (hpi : pi.map (fun i => (wr ++ w1)[i]?) = ws'.map some)
    (kk : ∀ (H1 : Heap) (locs1 : List Loc), va_P D vwCl ws' H1 → va_D A0 ws' → va_S A0 H0 H1 locs1 → W p l e R s m args below meth c H1 locs1 (cells + mc) (slots + ms) Q (F0 m (pc + 3) ls rest)) : W p l e R s m args below meth c H locs cells slots Q (F0 m pc ls st0) := by
  have hF := va_free hD hS hA isC hC
  refine va_callv hr hS (fun q _ h => hF q h) hF (fun u t H1 locs ht hvm hw hB hz1 hk1 hS => ?_)
  obtain ⟨hP1, hD1⟩ := hB
  rw [ht] at hP1
  obtain ⟨g1, g2⟩ := reord hP hD isC isR hC hR hn hdis hk1 hF hP1 hD1 pi hp hpi
  exact kk H1 locs g1 g2 hS
/-- calls that write nothing, by any way of calling -/
theorem callRi0 {post : Int32 → Prop} (hr : va_Run p l e R s m args below meth c H locs cells slots 0 0 (F0 m pc ls st0) rest (vp_Si post a) (fun _ => False))
    (kk : ∀ r : Int32, post r → W p l e R s m args below meth c H locs cells slots Q (F0 m (pc + 3) ls (.int r :: rest))) : W p l e R s m args below meth c H locs cells slots Q (F0 m pc ls st0) := by
  intro T hT X
  obtain ⟨v, st₀, t, T', L, h0, X', hL, e1, -, ⟨r, hv, hp, hh⟩, st⟩ := hr T hT X
  cases hv
  obtain ⟨t2, a1, b1⟩ := kk r hp T' (by rw [e1, hh, h0]) (Stand.forget X' (fun q h => (hL q h).elim))
  exact ⟨t2, st t2 a1, b1⟩
theorem callRl0 {post : Int64 → Prop} (hr : va_Run p l e R s m args below meth c H locs cells slots 0 0 (F0 m pc ls st0) rest (vp_Sl post a) (fun _ => False))
    (kk : ∀ r : Int64, post r → W p l e R s m args below meth c H locs cells slots Q (F0 m (pc + 3) ls (.long r :: rest))) : W p l e R s m args below meth c H locs cells slots Q (F0 m pc ls st0) := by
  intro T hT X
  obtain ⟨v, st₀, t, T', L, h0, X', hL, e1, -, ⟨r, hv, hp, hh⟩, st⟩ := hr T hT X
  cases hv
  obtain ⟨t2, a1, b1⟩ := kk r hp T' (by rw [e1, hh, h0]) (Stand.forget X' (fun q h => (hL q h).elim))
  exact ⟨t2, st t2 a1, b1⟩
def QRi (v : Int32) : Array Value → State → Outcome → State → Prop := vp_Si (fun r => r = v)
def QRl (v : Int64) : Array Value → State → Outcome → State → Prop := vp_Sl (fun r => r = v)
theorem callRi {v : Int32} (hr : va_Run p l e R s m args below meth c H locs cells slots 0 0 (F0 m pc ls st0) rest (QRi v a) (fun _ => False))
    (kk : W p l e R s m args below meth c H locs cells slots Q (F0 m (pc + 3) ls (.int v :: rest))) : W p l e R s m args below meth c H locs cells slots Q (F0 m pc ls st0) := callRi0 hr (fun r h => by subst h; exact kk)
theorem callRl {v : Int64} (hr : va_Run p l e R s m args below meth c H locs cells slots 0 0 (F0 m pc ls st0) rest (QRl v a) (fun _ => False))
    (kk : W p l e R s m args below meth c H locs cells slots Q (F0 m (pc + 3) ls (.long v :: rest))) : W p l e R s m args below meth c H locs cells slots Q (F0 m pc ls st0) := callRl0 hr (fun r h => by subst h; exact kk)
/-- a named answer in the place of what it is -/
theorem eqi {x y : Int32} (h : x = y) (kk : W p l e R s m args below meth c H locs cells slots Q (F0 m pc ls (.int y :: rest))) : W p l e R s m args below meth c H locs cells slots Q (F0 m pc ls (.int x :: rest)) := h ▸ kk
theorem eql {x y : Int64} (h : x = y) (kk : W p l e R s m args below meth c H locs cells slots Q (F0 m pc ls (.long y :: rest))) : W p l e R s m args below meth c H locs cells slots Q (F0 m pc ls (.long x :: rest)) := h ▸ kk
end BC
/-- pure steps along a picture -/
theorem bd {α β : Type} {o : Option α} {f : α → Option β} {r : β} (h : o.bind f = some r) : ∃ t, o = some t ∧ f t = some r := by
  cases o with
  | none => cases h
  | some t => exact ⟨t, rfl, h⟩
theorem ip {c : Prop} [Decidable c] {α : Type} {a b r : α} (hc : c) (h : (if c then a else b) = r) : a = r := by rw [if_pos hc] at h; exact h
theorem im {c : Prop} [Decidable c] {α : Type} {a b r : α} (hc : ¬ c) (h : (if c then a else b) = r) : b = r := by rw [if_neg hc] at h; exact h
theorem gd {c : Prop} [Decidable c] {α : Type} {a : Option α} {r : α} (h : (if c then none else a) = some r) : ¬ c ∧ a = some r := by
  by_cases hc : c
  · rw [if_pos hc] at h; cases h
  · rw [if_neg hc] at h; exact ⟨hc, h⟩
theorem vin {i : Int32} {n : Nat} (hn : n < 2147483648) (h1 : ¬ i < 0) (h2 : ¬ nI n ≤ i) : vp_in i n := by
  obtain ⟨j, hj, rfl⟩ := nI_of h1
  exact vp_in_nI (Nat.lt_of_not_le fun q => h2 (nI_le q (by omega))) (by omega)
theorem swOut {x : Int32} {lo hi : Int} (h : ¬ (lo ≤ x.toInt ∧ x.toInt ≤ hi)) : x.toInt < lo ∨ hi < x.toInt := by omega
theorem int_ne {x k : Int32} (h : ¬ x = k) : ¬ x.toInt = k.toInt := fun q => h (Int32.toInt_inj.mp q)
def fx0 {ρ : Type} (b : Option ρ → Option ρ) : Nat → Option ρ
  | 0 => none
  | n + 1 => b (fx0 b n)
def fx1 {α ρ : Type} (b : (α → Option ρ) → α → Option ρ) : Nat → α → Option ρ
  | 0 => fun _ => none
  | n + 1 => b (fx1 b n)
def fx2 {α β ρ : Type} (b : (α → β → Option ρ) → α → β → Option ρ) : Nat → α → β → Option ρ
  | 0 => fun _ _ => none
  | n + 1 => b (fx2 b n)
def fx3 {α β γ ρ : Type} (b : (α → β → γ → Option ρ) → α → β → γ → Option ρ) : Nat → α → β → γ → Option ρ
  | 0 => fun _ _ _ => none
  | n + 1 => b (fx3 b n)
def fx4 {α β γ δ ρ : Type} (b : (α → β → γ → δ → Option ρ) → α → β → γ → δ → Option ρ) : Nat → α → β → γ → δ → Option ρ
  | 0 => fun _ _ _ _ => none
  | n + 1 => b (fx4 b n)
def fx5 {α β γ δ ε ρ : Type} (b : (α → β → γ → δ → ε → Option ρ) → α → β → γ → δ → ε → Option ρ) : Nat → α → β → γ → δ → ε → Option ρ
  | 0 => fun _ _ _ _ _ => none
  | n + 1 => b (fx5 b n)
theorem nrZ {v : Int32} (h : ¬ ¬ v &&& 1 = v) : narrow .boolean (.int v) = .int v := by
  have h1 := Decidable.not_not.mp h
  show Value.int (v &&& 1) = .int v
  rw [h1]
/-- the worlds -/
def hsQ (A : Nat → Nat → Nat) : Nat → Option Nat := fun i => if i < 4 then some (A (1 + i) 0) else none
def zU (z : Nat → St) (i : Nat) (y : St) : Nat → St := fun j => if j = i then y else z j
def stW (T : Nat → ClassId) (a : Nat → Nat) (x : St) : va_W := [(a 0, .inr (2, [.ref (a 1), .ref (a 2), .ref (a 3), .ref (a 4), .int (x.1 0), .int (x.1 1), .int (x.1 2), .int (x.1 3), .int (x.1 4)])), (a 1, .inr (3, [.ref (a 5), .ref (a 6), .ref (a 7), .int (x.1 5)])), (a 2, .inr (3, [.ref (a 8), .ref (a 9), .ref (a 10), .int (x.1 6)])), (a 3, .inl (T 0, 33, .inl (x.2 6))), (a 4, .inl (T 0, 33, .inl (x.2 7))), (a 5, .inl (T 0, 40, .inl (x.2 0))), (a 6, .inl (T 0, 40, .inl (x.2 1))), (a 7, .inl (T 0, 40, .inl (x.2 2))), (a 8, .inl (T 0, 8, .inl (x.2 3))), (a 9, .inl (T 0, 8, .inl (x.2 4))), (a 10, .inl (T 0, 8, .inl (x.2 5)))]
def wgW (T : Nat → ClassId) (n : Nat) (a : Nat → Nat) (x : St) : va_W := [(a 0, .inr (3, [.ref (a 1), .ref (a 2), .ref (a 3), .int (x.1 0)])), (a 1, .inl (T 0, n, .inl (x.2 0))), (a 2, .inl (T 0, n, .inl (x.2 1))), (a 3, .inl (T 0, n, .inl (x.2 2)))]
def orW (T : Nat → ClassId) (a : Nat → Nat) (x : St) : va_W := [(a 0, .inr (1, [.ref (a 1), .ref (a 2), .ref (a 3), .ref (a 4), .int (x.1 0), .int (x.1 1), .int (x.1 2), .int (x.1 3), .int (x.1 4)])), (a 1, .inl (T 0, 100, .inl (x.2 0))), (a 2, .inl (T 0, 20, .inl (x.2 1))), (a 3, .inl (T 0, 20, .inl (x.2 2))), (a 4, .inl (T 0, 20, .inl (x.2 3)))]
def scWq (T : Nat → ClassId) (h : Nat) (q : Nat → Option Nat) (A : Nat → Nat → Nat) (Z : Nat → St) : va_W := [(h, .inr (4, [.ref (A 0 0), .ref (A 6 1), .ref (A 5 0)])), (A 6 1, .inr (0, [.ref (A 6 2), .int ((Z 6).1 0)])), (A 6 2, .inl (T 3, 4, .inr (.inr (.inr (.inr (q))))))] ++ (stW T (A 0) (Z 0) ++ (stW T (A 1) (Z 1) ++ (stW T (A 2) (Z 2) ++ (stW T (A 3) (Z 3) ++ (stW T (A 4) (Z 4) ++ orW T (A 5) (Z 5))))))
abbrev scW (T : Nat → ClassId) (h : Nat) (A : Nat → Nat → Nat) (Z : Nat → St) : va_W := scWq T h (hsQ A) A Z
def tdA (a : Nat → Nat) : Nat → Nat := fun k => match k with | 0 => a 1 | 1 => a 5 | 2 => a 6 | _ => a 7
def tdS (x : St) : St := (fun _ => x.1 5, fun k => match k with | 0 => x.2 0 | 1 => x.2 1 | _ => x.2 2)
def tdU (x y : St) : St := (fun j => if j = 5 then y.1 0 else x.1 j, fun j => if j = 0 then y.2 0 else if j = 1 then y.2 1 else if j = 2 then y.2 2 else x.2 j)
def plA (a : Nat → Nat) : Nat → Nat := fun k => match k with | 0 => a 2 | 1 => a 8 | 2 => a 9 | _ => a 10
def plS (x : St) : St := (fun _ => x.1 6, fun k => match k with | 0 => x.2 3 | 1 => x.2 4 | _ => x.2 5)
def plU (x y : St) : St := (fun j => if j = 6 then y.1 0 else x.1 j, fun j => if j = 3 then y.2 0 else if j = 4 then y.2 1 else if j = 5 then y.2 2 else x.2 j)
end
section
def F_J6_bitCount_0f7a4 (v0 : Int32) : Option (Int32) :=
  (some (v0 - (((v0.toUInt32 >>> ((1 : Int32).toUInt32 &&& Int32.toUInt32 31)).toInt32) &&& 1431655765))).bind fun t1 => (some ((t1 &&& 858993459) + (((t1.toUInt32 >>> ((2 : Int32).toUInt32 &&& Int32.toUInt32 31)).toInt32) &&& 858993459))).bind fun t2 => (some ((t2 + ((t2.toUInt32 >>> ((4 : Int32).toUInt32 &&& Int32.toUInt32 31)).toInt32)) &&& 252645135)).bind fun t3 => (some (t3 + ((t3.toUInt32 >>> ((8 : Int32).toUInt32 &&& Int32.toUInt32 31)).toInt32))).bind fun t4 => (some (t4 + ((t4.toUInt32 >>> ((16 : Int32).toUInt32 &&& Int32.toUInt32 31)).toInt32))).bind fun t5 => some (t5 &&& 63)
def F_X4_isAnswer (v0 : Int32) : Option (Int32) :=
  if v0 < 0 then (some 0) else (if 3 ≤ v0 then (some 0) else (some 1))
def F_X4_isAhead (v0 : Int32) : Option (Int32) :=
  if v0 < 0 then (some 0) else (if 20 < v0 then (some 0) else (some 1))
def F_X4_at (n0 : Nat) (f0 : Nat → Int32) (v1 : Int32) : Option (Int32) :=
  if v1 < 0 then (some 0) else (if (nI n0) ≤ v1 then (some 0) else (some (f0 v1.toNatClampNeg)))
def F_X4_put (n0 : Nat) (f0 : Nat → Int32) (v1 : Int32) (v2 : Int32) : Option ((Nat → Int32)) :=
  if v1 < 0 then (some f0) else (if (nI n0) ≤ v1 then (some f0) else (some (upd f0 v1.toNatClampNeg v2)))
def F_X4_coinBit (v0 : Int32) : Option (Int32) :=
  if 0 < v0 then (some (1 <<< (((v0 - 1) / 2) &&& 31))) else (some 0)
def F_X4_trueAnswer (v0 : Int32) (v1 : Int32) (v2 : Int32) : Option (Int32) :=
  (F_X4_coinBit v0).bind fun t1 => if (v0 &&& 1) = 1 then (if (v1 &&& t1) = 0 then (if (v2 &&& t1) = 0 then (some 2) else (some 1)) else (some 0)) else (if (v1 &&& t1) = 0 then (if (v2 &&& t1) = 0 then (some 2) else (some 0)) else (some 1))
def B_X4_volume_15 (v0 : Int32) (v1 : Int32) (k15 : Int64 → Int64 → Int32 → Option (Int64)) (i2_15 : Int64) (i4_15 : Int64) (i7_15 : Int32) : Option (Int64) :=
  if (if v1 < v0 then v1 else v0) < i7_15 then (some i4_15) else (if i7_15.toInt64 = 0 then none else (some ((i2_15 * (((v0 - i7_15) + 1).toInt64)) / i7_15.toInt64)).bind fun t3 => k15 t3 (i4_15 + (t3 <<< (i7_15.toInt64 &&& 63))) (i7_15 + 1))
def F_X4_volume (v0 : Int32) (v1 : Int32) : Option (Int64) :=
  fx3 (B_X4_volume_15 v0 v1) 1000 1 1 1
def F_X4_copyRow (n0 : Nat) (f0 : Nat → Int32) (n1 : Nat) (f1 : Nat → Int32) : Option ((Nat → Int32)) :=
  if ¬ n0 = n1 then none else some (va_cpy f0 f1 0 0 n0)
def F_X3_write (n0 : Nat) (x0 : St) (v1 : Int32) (v2 : Int32) (v3 : Int32) : Option (St) :=
  if (nI n0) ≤ (x0.1 0) then (some x0) else ((F_X4_put n0 (x0.2 0) (x0.1 0) v1).bind fun t2 => (F_X4_put n0 ((sA x0 0 t2).2 1) ((sA x0 0 t2).1 0) v2).bind fun t3 => (F_X4_put n0 ((sA (sA x0 0 t2) 1 t3).2 2) ((sA (sA x0 0 t2) 1 t3).1 0) v3).bind fun t4 => (some (sI (sA (sA (sA x0 0 t2) 1 t3) 2 t4) 0 (((sA (sA (sA x0 0 t2) 1 t3) 2 t4).1 0) + 1))).bind fun y5 => some y5)
def F_X3_copyFrom (n0 : Nat) (x0 : St) (n1 : Nat) (x1 : St) : Option (St) :=
  (F_X4_copyRow n1 (x1.2 0) n0 (x0.2 0)).bind fun t1 => (F_X4_copyRow n1 (x1.2 1) n0 ((sA x0 0 t1).2 1)).bind fun t2 => (F_X4_copyRow n1 (x1.2 2) n0 ((sA (sA x0 0 t1) 1 t2).2 2)).bind fun t3 => (some (sI (sA (sA (sA x0 0 t1) 1 t2) 2 t3) 0 (x1.1 0))).bind fun y4 => some y4
theorem hdS_J6_bitCount_0f7a4 : yJ6_bitCount_0f7a4.cls ≠ "java/lang/invoke/MethodHandle" ∧ yJ6_bitCount_0f7a4.cls ≠ "java/lang/invoke/VarHandle" ∧ (parseMethodDescriptor yJ6_bitCount_0f7a4.desc).map (fun d => d.parameters.length) = some 1 := by decide +kernel
theorem hdV_J6_bitCount_0f7a4 : yJ6_bitCount_0f7a4.cls = RJ6 ∧ yJ6_bitCount_0f7a4.cls ≠ "java/lang/invoke/MethodHandle" ∧ yJ6_bitCount_0f7a4.cls ≠ "java/lang/invoke/VarHandle" ∧ (parseMethodDescriptor yJ6_bitCount_0f7a4.desc).map (fun d => d.parameters.length) = some 1 := by decide +kernel
theorem hdS_X4_isAnswer : yX4_isAnswer.cls ≠ "java/lang/invoke/MethodHandle" ∧ yX4_isAnswer.cls ≠ "java/lang/invoke/VarHandle" ∧ (parseMethodDescriptor yX4_isAnswer.desc).map (fun d => d.parameters.length) = some 1 := by decide +kernel
theorem hdV_X4_isAnswer : yX4_isAnswer.cls = RX4 ∧ yX4_isAnswer.cls ≠ "java/lang/invoke/MethodHandle" ∧ yX4_isAnswer.cls ≠ "java/lang/invoke/VarHandle" ∧ (parseMethodDescriptor yX4_isAnswer.desc).map (fun d => d.parameters.length) = some 1 := by decide +kernel
theorem hdS_X4_isAhead : yX4_isAhead.cls ≠ "java/lang/invoke/MethodHandle" ∧ yX4_isAhead.cls ≠ "java/lang/invoke/VarHandle" ∧ (parseMethodDescriptor yX4_isAhead.desc).map (fun d => d.parameters.length) = some 1 := by decide +kernel
theorem hdV_X4_isAhead : yX4_isAhead.cls = RX4 ∧ yX4_isAhead.cls ≠ "java/lang/invoke/MethodHandle" ∧ yX4_isAhead.cls ≠ "java/lang/invoke/VarHandle" ∧ (parseMethodDescriptor yX4_isAhead.desc).map (fun d => d.parameters.length) = some 1 := by decide +kernel
theorem hdS_X4_at : yX4_at.cls ≠ "java/lang/invoke/MethodHandle" ∧ yX4_at.cls ≠ "java/lang/invoke/VarHandle" ∧ (parseMethodDescriptor yX4_at.desc).map (fun d => d.parameters.length) = some 2 := by decide +kernel
theorem hdV_X4_at : yX4_at.cls = RX4 ∧ yX4_at.cls ≠ "java/lang/invoke/MethodHandle" ∧ yX4_at.cls ≠ "java/lang/invoke/VarHandle" ∧ (parseMethodDescriptor yX4_at.desc).map (fun d => d.parameters.length) = some 2 := by decide +kernel
theorem hdS_X4_put : yX4_put.cls ≠ "java/lang/invoke/MethodHandle" ∧ yX4_put.cls ≠ "java/lang/invoke/VarHandle" ∧ (parseMethodDescriptor yX4_put.desc).map (fun d => d.parameters.length) = some 3 := by decide +kernel
theorem hdV_X4_put : yX4_put.cls = RX4 ∧ yX4_put.cls ≠ "java/lang/invoke/MethodHandle" ∧ yX4_put.cls ≠ "java/lang/invoke/VarHandle" ∧ (parseMethodDescriptor yX4_put.desc).map (fun d => d.parameters.length) = some 3 := by decide +kernel
theorem hdS_X4_coinBit : yX4_coinBit.cls ≠ "java/lang/invoke/MethodHandle" ∧ yX4_coinBit.cls ≠ "java/lang/invoke/VarHandle" ∧ (parseMethodDescriptor yX4_coinBit.desc).map (fun d => d.parameters.length) = some 1 := by decide +kernel
theorem hdV_X4_coinBit : yX4_coinBit.cls = RX4 ∧ yX4_coinBit.cls ≠ "java/lang/invoke/MethodHandle" ∧ yX4_coinBit.cls ≠ "java/lang/invoke/VarHandle" ∧ (parseMethodDescriptor yX4_coinBit.desc).map (fun d => d.parameters.length) = some 1 := by decide +kernel
theorem hdS_X4_trueAnswer : yX4_trueAnswer.cls ≠ "java/lang/invoke/MethodHandle" ∧ yX4_trueAnswer.cls ≠ "java/lang/invoke/VarHandle" ∧ (parseMethodDescriptor yX4_trueAnswer.desc).map (fun d => d.parameters.length) = some 3 := by decide +kernel
theorem hdV_X4_trueAnswer : yX4_trueAnswer.cls = RX4 ∧ yX4_trueAnswer.cls ≠ "java/lang/invoke/MethodHandle" ∧ yX4_trueAnswer.cls ≠ "java/lang/invoke/VarHandle" ∧ (parseMethodDescriptor yX4_trueAnswer.desc).map (fun d => d.parameters.length) = some 3 := by decide +kernel
theorem hdS_X4_volume : yX4_volume.cls ≠ "java/lang/invoke/MethodHandle" ∧ yX4_volume.cls ≠ "java/lang/invoke/VarHandle" ∧ (parseMethodDescriptor yX4_volume.desc).map (fun d => d.parameters.length) = some 2 := by decide +kernel
theorem hdV_X4_volume : yX4_volume.cls = RX4 ∧ yX4_volume.cls ≠ "java/lang/invoke/MethodHandle" ∧ yX4_volume.cls ≠ "java/lang/invoke/VarHandle" ∧ (parseMethodDescriptor yX4_volume.desc).map (fun d => d.parameters.length) = some 2 := by decide +kernel
theorem hdS_X4_copyRow : yX4_copyRow.cls ≠ "java/lang/invoke/MethodHandle" ∧ yX4_copyRow.cls ≠ "java/lang/invoke/VarHandle" ∧ (parseMethodDescriptor yX4_copyRow.desc).map (fun d => d.parameters.length) = some 2 := by decide +kernel
theorem hdV_X4_copyRow : yX4_copyRow.cls = RX4 ∧ yX4_copyRow.cls ≠ "java/lang/invoke/MethodHandle" ∧ yX4_copyRow.cls ≠ "java/lang/invoke/VarHandle" ∧ (parseMethodDescriptor yX4_copyRow.desc).map (fun d => d.parameters.length) = some 2 := by decide +kernel
theorem inX3_write_3 : ∀ w ∈ u_ws RX3 TX3 4, w ∈ wsX3_write := by decide +kernel
theorem hdS_X3_write : yX3_write.cls ≠ "java/lang/invoke/MethodHandle" ∧ yX3_write.cls ≠ "java/lang/invoke/VarHandle" ∧ (parseMethodDescriptor yX3_write.desc).map (fun d => d.parameters.length) = some 3 := by decide +kernel
theorem hdV_X3_write : yX3_write.cls = RX3 ∧ yX3_write.cls ≠ "java/lang/invoke/MethodHandle" ∧ yX3_write.cls ≠ "java/lang/invoke/VarHandle" ∧ (parseMethodDescriptor yX3_write.desc).map (fun d => d.parameters.length) = some 3 := by decide +kernel
theorem inX3_copyFrom_3 : ∀ w ∈ u_ws RX3 TX3 4, w ∈ wsX3_copyFrom := by decide +kernel
theorem hdS_X3_copyFrom : yX3_copyFrom.cls ≠ "java/lang/invoke/MethodHandle" ∧ yX3_copyFrom.cls ≠ "java/lang/invoke/VarHandle" ∧ (parseMethodDescriptor yX3_copyFrom.desc).map (fun d => d.parameters.length) = some 1 := by decide +kernel
theorem hdV_X3_copyFrom : yX3_copyFrom.cls = RX3 ∧ yX3_copyFrom.cls ≠ "java/lang/invoke/MethodHandle" ∧ yX3_copyFrom.cls ≠ "java/lang/invoke/VarHandle" ∧ (parseMethodDescriptor yX3_copyFrom.desc).map (fun d => d.parameters.length) = some 1 := by decide +kernel
set_option maxHeartbeats 4000000 in
set_option maxRecDepth 100000 in
theorem c_J6_bitCount_0f7a4 (l : Launch) (D : va_G) (T : Nat → ClassId) (v0 : Int32) (r : Int32) (h : F_J6_bitCount_0f7a4 v0 = some r) : Met l yJ6_bitCount_0f7a4 wsJ6_bitCount_0f7a4 ({ frames := 0, cells := 0, slots := 0, locals := 0 } : Room) (va_Pc [.int v0] (PB D T (([] : va_W)))) (QRi r) 0 0 (fun _ => False) := by
  refine met_of (cc := cJ6_bitCount_0f7a4) (maxL := 1) (ret := (some .int)) (lv := [(0, .int v0)]) (by decide) rfl (Nat.le_of_ble_eq_true rfl) rfl ?_
  intro p e s m args below meth c ls C0 hl hB
  obtain ⟨hx, hb, hr, hml, hown, hts, hlocks, hname⟩ := C0
  obtain ⟨hP, hK⟩ := hB
  unfold F_J6_bitCount_0f7a4 at h
  refine lv_iload_n hx hb dJ6_bitCount_0f7a4_0 rfl (lv_at hl 0 rfl) ?_
  refine lv_iload_n hx hb dJ6_bitCount_0f7a4_1 rfl (lv_at hl 0 rfl) ?_
  refine lv_iconst (v := 1) hx hb dJ6_bitCount_0f7a4_2 (by decide) ?_
  refine lv_iushr (v := (v0.toUInt32 >>> ((1 : Int32).toUInt32 &&& Int32.toUInt32 31)).toInt32) hx hb dJ6_bitCount_0f7a4_3 rfl ?_
  refine lv_ldcw hx hb hown (hts (.constant RJ6 265 (1431655765)) (List.mem_of_getElem? (i := 1) rfl)) dJ6_bitCount_0f7a4_4 ?_
  refine lv_iand hx hb dJ6_bitCount_0f7a4_7 ?_
  refine lv_isub hx hb dJ6_bitCount_0f7a4_8 ?_
  replace h := bd h
  obtain ⟨t1, et1, h⟩ := h
  refine eqi (Option.some.inj et1) ?_
  refine lv_istore_n (lv' := [(0, .int t1)]) hx hb dJ6_bitCount_0f7a4_9 rfl hl (by decide) rfl (fun ls hl => ?_)
  refine lv_iload_n hx hb dJ6_bitCount_0f7a4_10 rfl (lv_at hl 0 rfl) ?_
  refine lv_ldcw hx hb hown (hts (.constant RJ6 266 (858993459)) (List.mem_of_getElem? (i := 2) rfl)) dJ6_bitCount_0f7a4_11 ?_
  refine lv_iand hx hb dJ6_bitCount_0f7a4_14 ?_
  refine lv_iload_n hx hb dJ6_bitCount_0f7a4_15 rfl (lv_at hl 0 rfl) ?_
  refine lv_iconst (v := 2) hx hb dJ6_bitCount_0f7a4_16 (by decide) ?_
  refine lv_iushr (v := (t1.toUInt32 >>> ((2 : Int32).toUInt32 &&& Int32.toUInt32 31)).toInt32) hx hb dJ6_bitCount_0f7a4_17 rfl ?_
  refine lv_ldcw hx hb hown (hts (.constant RJ6 266 (858993459)) (List.mem_of_getElem? (i := 2) rfl)) dJ6_bitCount_0f7a4_18 ?_
  refine lv_iand hx hb dJ6_bitCount_0f7a4_21 ?_
  refine lv_iadd hx hb dJ6_bitCount_0f7a4_22 ?_
  replace h := bd h
  obtain ⟨t2, et2, h⟩ := h
  refine eqi (Option.some.inj et2) ?_
  refine lv_istore_n (lv' := [(0, .int t2)]) hx hb dJ6_bitCount_0f7a4_23 rfl hl (by decide) rfl (fun ls hl => ?_)
  refine lv_iload_n hx hb dJ6_bitCount_0f7a4_24 rfl (lv_at hl 0 rfl) ?_
  refine lv_iload_n hx hb dJ6_bitCount_0f7a4_25 rfl (lv_at hl 0 rfl) ?_
  refine lv_iconst (v := 4) hx hb dJ6_bitCount_0f7a4_26 (by decide) ?_
  refine lv_iushr (v := (t2.toUInt32 >>> ((4 : Int32).toUInt32 &&& Int32.toUInt32 31)).toInt32) hx hb dJ6_bitCount_0f7a4_27 rfl ?_
  refine lv_iadd hx hb dJ6_bitCount_0f7a4_28 ?_
  refine lv_ldcw hx hb hown (hts (.constant RJ6 267 (252645135)) (List.mem_of_getElem? (i := 3) rfl)) dJ6_bitCount_0f7a4_29 ?_
  refine lv_iand hx hb dJ6_bitCount_0f7a4_32 ?_
  replace h := bd h
  obtain ⟨t3, et3, h⟩ := h
  refine eqi (Option.some.inj et3) ?_
  refine lv_istore_n (lv' := [(0, .int t3)]) hx hb dJ6_bitCount_0f7a4_33 rfl hl (by decide) rfl (fun ls hl => ?_)
  refine lv_iload_n hx hb dJ6_bitCount_0f7a4_34 rfl (lv_at hl 0 rfl) ?_
  refine lv_iload_n hx hb dJ6_bitCount_0f7a4_35 rfl (lv_at hl 0 rfl) ?_
  refine lv_bipush (v := 8) hx hb dJ6_bitCount_0f7a4_36 (by decide) ?_
  refine lv_iushr (v := (t3.toUInt32 >>> ((8 : Int32).toUInt32 &&& Int32.toUInt32 31)).toInt32) hx hb dJ6_bitCount_0f7a4_38 rfl ?_
  refine lv_iadd hx hb dJ6_bitCount_0f7a4_39 ?_
  replace h := bd h
  obtain ⟨t4, et4, h⟩ := h
  refine eqi (Option.some.inj et4) ?_
  refine lv_istore_n (lv' := [(0, .int t4)]) hx hb dJ6_bitCount_0f7a4_40 rfl hl (by decide) rfl (fun ls hl => ?_)
  refine lv_iload_n hx hb dJ6_bitCount_0f7a4_41 rfl (lv_at hl 0 rfl) ?_
  refine lv_iload_n hx hb dJ6_bitCount_0f7a4_42 rfl (lv_at hl 0 rfl) ?_
  refine lv_bipush (v := 16) hx hb dJ6_bitCount_0f7a4_43 (by decide) ?_
  refine lv_iushr (v := (t4.toUInt32 >>> ((16 : Int32).toUInt32 &&& Int32.toUInt32 31)).toInt32) hx hb dJ6_bitCount_0f7a4_45 rfl ?_
  refine lv_iadd hx hb dJ6_bitCount_0f7a4_46 ?_
  replace h := bd h
  obtain ⟨t5, et5, h⟩ := h
  refine eqi (Option.some.inj et5) ?_
  refine lv_istore_n (lv' := [(0, .int t5)]) hx hb dJ6_bitCount_0f7a4_47 rfl hl (by decide) rfl (fun ls hl => ?_)
  refine lv_iload_n hx hb dJ6_bitCount_0f7a4_48 rfl (lv_at hl 0 rfl) ?_
  refine lv_bipush (v := 63) hx hb dJ6_bitCount_0f7a4_49 (by decide) ?_
  refine lv_iand hx hb dJ6_bitCount_0f7a4_51 ?_
  exact W.iret hx hb hr (fun t ht hW => ⟨_, rfl, Option.some.inj h, ht⟩) (fun q hq => absurd hq List.not_mem_nil) dJ6_bitCount_0f7a4_52 hlocks
set_option maxHeartbeats 4000000 in
set_option maxRecDepth 100000 in
theorem c_X4_isAnswer (l : Launch) (D : va_G) (T : Nat → ClassId) (v0 : Int32) (r : Int32) (h : F_X4_isAnswer v0 = some r) : Met l yX4_isAnswer wsX4_isAnswer ({ frames := 0, cells := 0, slots := 0, locals := 0 } : Room) (va_Pc [.int v0] (PB D T (([] : va_W)))) (QRi r) 0 0 (fun _ => False) := by
  refine met_of (cc := cX4_isAnswer) (maxL := 1) (ret := (some .boolean)) (lv := [(0, .int v0)]) (by decide) rfl (Nat.le_of_ble_eq_true rfl) rfl ?_
  intro p e s m args below meth c ls C0 hl hB
  obtain ⟨hx, hb, hr, hml, hown, hts, hlocks, hname⟩ := C0
  obtain ⟨hP, hK⟩ := hB
  unfold F_X4_isAnswer at h
  refine lv_iload_n hx hb dX4_isAnswer_0 rfl (lv_at hl 0 rfl) ?_
  refine lv_if_lt (tgt := 13) hx hb dX4_isAnswer_1 (by decide) (fun c1 => ?_) (fun c1 => ?_)
  · replace h := ip c1 h
    refine lv_iconst (v := 0) hx hb dX4_isAnswer_13 (by decide) ?_
    exact W.zret hx hb hr rfl (fun t ht hW => ⟨_, rfl, Option.some.inj h, ht⟩) (fun q hq => absurd hq List.not_mem_nil) dX4_isAnswer_14 hlocks
  replace h := im c1 h
  refine lv_iload_n hx hb dX4_isAnswer_4 rfl (lv_at hl 0 rfl) ?_
  refine lv_iconst (v := 3) hx hb dX4_isAnswer_5 (by decide) ?_
  refine lv_icmp_ge (tgt := 13) hx hb dX4_isAnswer_6 (by decide) (fun c2 => ?_) (fun c2 => ?_)
  · replace h := ip c2 h
    refine lv_iconst (v := 0) hx hb dX4_isAnswer_13 (by decide) ?_
    exact W.zret hx hb hr rfl (fun t ht hW => ⟨_, rfl, Option.some.inj h, ht⟩) (fun q hq => absurd hq List.not_mem_nil) dX4_isAnswer_14 hlocks
  replace h := im c2 h
  refine lv_iconst (v := 1) hx hb dX4_isAnswer_9 (by decide) ?_
  refine lv_goto (tgt := 14) hx hb dX4_isAnswer_10 (by decide) ?_
  exact W.zret hx hb hr rfl (fun t ht hW => ⟨_, rfl, Option.some.inj h, ht⟩) (fun q hq => absurd hq List.not_mem_nil) dX4_isAnswer_14 hlocks
set_option maxHeartbeats 4000000 in
set_option maxRecDepth 100000 in
theorem c_X4_isAhead (l : Launch) (D : va_G) (T : Nat → ClassId) (v0 : Int32) (r : Int32) (h : F_X4_isAhead v0 = some r) : Met l yX4_isAhead wsX4_isAhead ({ frames := 0, cells := 0, slots := 0, locals := 0 } : Room) (va_Pc [.int v0] (PB D T (([] : va_W)))) (QRi r) 0 0 (fun _ => False) := by
  refine met_of (cc := cX4_isAhead) (maxL := 1) (ret := (some .boolean)) (lv := [(0, .int v0)]) (by decide) rfl (Nat.le_of_ble_eq_true rfl) rfl ?_
  intro p e s m args below meth c ls C0 hl hB
  obtain ⟨hx, hb, hr, hml, hown, hts, hlocks, hname⟩ := C0
  obtain ⟨hP, hK⟩ := hB
  unfold F_X4_isAhead at h
  refine lv_iload_n hx hb dX4_isAhead_0 rfl (lv_at hl 0 rfl) ?_
  refine lv_if_lt (tgt := 14) hx hb dX4_isAhead_1 (by decide) (fun c1 => ?_) (fun c1 => ?_)
  · replace h := ip c1 h
    refine lv_iconst (v := 0) hx hb dX4_isAhead_14 (by decide) ?_
    exact W.zret hx hb hr rfl (fun t ht hW => ⟨_, rfl, Option.some.inj h, ht⟩) (fun q hq => absurd hq List.not_mem_nil) dX4_isAhead_15 hlocks
  replace h := im c1 h
  refine lv_iload_n hx hb dX4_isAhead_4 rfl (lv_at hl 0 rfl) ?_
  refine lv_bipush (v := 20) hx hb dX4_isAhead_5 (by decide) ?_
  refine lv_icmp_gt (tgt := 14) hx hb dX4_isAhead_7 (by decide) (fun c2 => ?_) (fun c2 => ?_)
  · replace h := ip c2 h
    refine lv_iconst (v := 0) hx hb dX4_isAhead_14 (by decide) ?_
    exact W.zret hx hb hr rfl (fun t ht hW => ⟨_, rfl, Option.some.inj h, ht⟩) (fun q hq => absurd hq List.not_mem_nil) dX4_isAhead_15 hlocks
  replace h := im c2 h
  refine lv_iconst (v := 1) hx hb dX4_isAhead_10 (by decide) ?_
  refine lv_goto (tgt := 15) hx hb dX4_isAhead_11 (by decide) ?_
  exact W.zret hx hb hr rfl (fun t ht hW => ⟨_, rfl, Option.some.inj h, ht⟩) (fun q hq => absurd hq List.not_mem_nil) dX4_isAhead_15 hlocks
set_option maxHeartbeats 4000000 in
set_option maxRecDepth 100000 in
theorem c_X4_at (l : Launch) (D : va_G) (T : Nat → ClassId) (h0 : Nat) (n0 : Nat) (f0 : Nat → Int32) (v1 : Int32) (hn0 : n0 < 2147483648) (r : Int32) (h : F_X4_at n0 f0 v1 = some r) : Met l yX4_at wsX4_at ({ frames := 0, cells := 0, slots := 0, locals := 0 } : Room) (va_Pc [.ref h0, .int v1] (PB D T (([(h0, .inl (T 0, n0, .inl (f0)))] : va_W)))) (QRi r) 0 0 (fun _ => False) := by
  refine met_of (cc := cX4_at) (maxL := 2) (ret := (some .int)) (lv := [(0, .ref h0), (1, .int v1)]) (by decide) rfl (Nat.le_of_ble_eq_true rfl) rfl ?_
  intro p e s m args below meth c ls C0 hl hB
  obtain ⟨hx, hb, hr, hml, hown, hts, hlocks, hname⟩ := C0
  obtain ⟨hP, hK⟩ := hB
  unfold F_X4_at at h
  refine lv_iload_n hx hb dX4_at_0 rfl (lv_at hl 1 rfl) ?_
  refine lv_if_lt (tgt := 16) hx hb dX4_at_1 (by decide) (fun c1 => ?_) (fun c1 => ?_)
  · replace h := ip c1 h
    refine lv_iconst (v := 0) hx hb dX4_at_16 (by decide) ?_
    exact W.iret hx hb hr (fun t ht hW => ⟨_, rfl, Option.some.inj h, ht⟩) (fun q hq => absurd hq List.not_mem_nil) dX4_at_17 hlocks
  replace h := im c1 h
  refine lv_iload_n hx hb dX4_at_4 rfl (lv_at hl 1 rfl) ?_
  refine lv_aload_n hx hb dX4_at_5 rfl (lv_at hl 0 rfl) ?_
  refine va_alen hx hb hK.1 hP 0 0 rfl rfl (v := nI n0) rfl dX4_at_6 ?_
  refine lv_icmp_ge (tgt := 16) hx hb dX4_at_7 (by decide) (fun c2 => ?_) (fun c2 => ?_)
  · replace h := ip c2 h
    refine lv_iconst (v := 0) hx hb dX4_at_16 (by decide) ?_
    exact W.iret hx hb hr (fun t ht hW => ⟨_, rfl, Option.some.inj h, ht⟩) (fun q hq => absurd hq List.not_mem_nil) dX4_at_17 hlocks
  replace h := im c2 h
  refine lv_aload_n hx hb dX4_at_10 rfl (lv_at hl 0 rfl) ?_
  refine lv_iload_n hx hb dX4_at_11 rfl (lv_at hl 1 rfl) ?_
  refine va_iald hx hb hK.1 hP 0 0 rfl rfl (vin hn0 c1 c2) dX4_at_12 ?_
  refine lv_goto (tgt := 17) hx hb dX4_at_13 (by decide) ?_
  exact W.iret hx hb hr (fun t ht hW => ⟨_, rfl, Option.some.inj h, ht⟩) (fun q hq => absurd hq List.not_mem_nil) dX4_at_17 hlocks
set_option maxHeartbeats 4000000 in
set_option maxRecDepth 100000 in
theorem c_X4_put (l : Launch) (D : va_G) (T : Nat → ClassId) (h0 : Nat) (n0 : Nat) (f0 : Nat → Int32) (v1 : Int32) (v2 : Int32) (sz : Nat) (hn0 : n0 < 2147483648) (r : (Nat → Int32)) (h : F_X4_put n0 f0 v1 v2 = some r) : Met l yX4_put wsX4_put ({ frames := 0, cells := 0, slots := 0, locals := 0 } : Room) (va_Pc [.ref h0, .int v1, .int v2] (PM D T (([(h0, .inl (T 0, n0, .inl (f0)))] : va_W)) sz)) (QMv D (([(h0, .inl (T 0, n0, .inl (r)))] : va_W)) (va_A (([(h0, .inl (T 0, n0, .inl (f0)))] : va_W)) sz)) 0 0 (va_A (([(h0, .inl (T 0, n0, .inl (f0)))] : va_W)) sz) := by
  refine met_of (cc := cX4_put) (maxL := 3) (ret := none) (lv := [(0, .ref h0), (1, .int v1), (2, .int v2)]) (by decide) rfl (Nat.le_of_ble_eq_true rfl) rfl ?_
  intro p e s m args below meth c ls C0 hl hB
  obtain ⟨hx, hb, hr, hml, hown, hts, hlocks, hname⟩ := C0
  obtain ⟨hsz, hP, hK, hD0⟩ := hB
  subst hsz
  have hD := hD0.self (sz := s.heap.size)
  generalize hAe : va_A (([(h0, .inl (T 0, n0, .inl (f0)))] : va_W)) s.heap.size = A at hD ⊢
  have hA : ∀ q : Nat, s.heap.size ≤ q → A q := fun q h => by rw [← hAe]; exact Or.inr h
  obtain ⟨H, hH⟩ : ∃ H, H = s.heap := ⟨_, rfl⟩
  obtain ⟨locs, hlo⟩ : ∃ L : List Loc, L = [] := ⟨_, rfl⟩
  have hS : va_S A s.heap s.heap [] := va_S.rf
  rw [← hH] at hP ⊢
  rw [← hlo]
  replace hS : va_S A s.heap H locs := by rw [hH, hlo]; exact hS
  clear hH hlo
  unfold F_X4_put at h
  refine lv_iload_n hx hb dX4_put_0 rfl (lv_at hl 1 rfl) ?_
  refine lv_if_lt (tgt := 14) hx hb dX4_put_1 (by decide) (fun c1 => ?_) (fun c1 => ?_)
  · replace h := ip c1 h
    obtain rfl := Option.some.inj h
    exact W.vret hx hb hr (fun t ht hW => ⟨⟨(), rfl, trivial, by rw [ht]; exact hP, hD⟩, hS.F ht⟩) hS.2.2 dX4_put_14 hlocks
  replace h := im c1 h
  refine lv_iload_n hx hb dX4_put_4 rfl (lv_at hl 1 rfl) ?_
  refine lv_aload_n hx hb dX4_put_5 rfl (lv_at hl 0 rfl) ?_
  refine va_alen hx hb hK.1 hP 0 0 rfl rfl (v := nI n0) rfl dX4_put_6 ?_
  refine lv_icmp_ge (tgt := 14) hx hb dX4_put_7 (by decide) (fun c2 => ?_) (fun c2 => ?_)
  · replace h := ip c2 h
    obtain rfl := Option.some.inj h
    exact W.vret hx hb hr (fun t ht hW => ⟨⟨(), rfl, trivial, by rw [ht]; exact hP, hD⟩, hS.F ht⟩) hS.2.2 dX4_put_14 hlocks
  replace h := im c2 h
  refine lv_aload_n hx hb dX4_put_10 rfl (lv_at hl 0 rfl) ?_
  refine lv_iload_n hx hb dX4_put_11 rfl (lv_at hl 1 rfl) ?_
  refine lv_iload_n hx hb dX4_put_12 rfl (lv_at hl 2 rfl) ?_
  refine va_iast hx hb hK.1 hP hD hS 0 0 rfl rfl (vin hn0 c1 c2) dX4_put_13 (fun H locs hP hD hS => ?_)
  replace hP : va_P D vwCl (([(h0, .inl (T 0, n0, .inl (upd f0 v1.toNatClampNeg v2)))] : va_W)) H := hP
  replace hD : va_D A (([(h0, .inl (T 0, n0, .inl (upd f0 v1.toNatClampNeg v2)))] : va_W)) := hD
  obtain rfl := Option.some.inj h
  exact W.vret hx hb hr (fun t ht hW => ⟨⟨(), rfl, trivial, by rw [ht]; exact hP, hD⟩, hS.F ht⟩) hS.2.2 dX4_put_14 hlocks
set_option maxHeartbeats 4000000 in
set_option maxRecDepth 100000 in
theorem c_X4_coinBit (l : Launch) (D : va_G) (T : Nat → ClassId) (v0 : Int32) (r : Int32) (h : F_X4_coinBit v0 = some r) : Met l yX4_coinBit wsX4_coinBit ({ frames := 0, cells := 0, slots := 0, locals := 0 } : Room) (va_Pc [.int v0] (PB D T (([] : va_W)))) (QRi r) 0 0 (fun _ => False) := by
  refine met_of (cc := cX4_coinBit) (maxL := 1) (ret := (some .int)) (lv := [(0, .int v0)]) (by decide) rfl (Nat.le_of_ble_eq_true rfl) rfl ?_
  intro p e s m args below meth c ls C0 hl hB
  obtain ⟨hx, hb, hr, hml, hown, hts, hlocks, hname⟩ := C0
  obtain ⟨hP, hK⟩ := hB
  unfold F_X4_coinBit at h
  refine lv_iload_n hx hb dX4_coinBit_0 rfl (lv_at hl 0 rfl) ?_
  refine lv_if_gt (tgt := 8) hx hb dX4_coinBit_1 (by decide) (fun c1 => ?_) (fun c1 => ?_)
  · replace h := ip c1 h
    refine lv_iconst (v := 1) hx hb dX4_coinBit_8 (by decide) ?_
    refine lv_iload_n hx hb dX4_coinBit_9 rfl (lv_at hl 0 rfl) ?_
    refine lv_iconst (v := 1) hx hb dX4_coinBit_10 (by decide) ?_
    refine lv_isub hx hb dX4_coinBit_11 ?_
    refine lv_iconst (v := 2) hx hb dX4_coinBit_12 (by decide) ?_
    refine lv_idiv hx hb dX4_coinBit_13 (by decide) ?_
    refine lv_ishl hx hb dX4_coinBit_14 ?_
    exact W.iret hx hb hr (fun t ht hW => ⟨_, rfl, Option.some.inj h, ht⟩) (fun q hq => absurd hq List.not_mem_nil) dX4_coinBit_15 hlocks
  replace h := im c1 h
  refine lv_iconst (v := 0) hx hb dX4_coinBit_4 (by decide) ?_
  refine lv_goto (tgt := 15) hx hb dX4_coinBit_5 (by decide) ?_
  exact W.iret hx hb hr (fun t ht hW => ⟨_, rfl, Option.some.inj h, ht⟩) (fun q hq => absurd hq List.not_mem_nil) dX4_coinBit_15 hlocks
set_option maxHeartbeats 4000000 in
set_option maxRecDepth 100000 in
theorem c_X4_trueAnswer (l : Launch) (D : va_G) (T : Nat → ClassId) (v0 : Int32) (v1 : Int32) (v2 : Int32) (r : Int32) (h : F_X4_trueAnswer v0 v1 v2 = some r) : Met l yX4_trueAnswer wsX4_trueAnswer ({ frames := 1, cells := 0, slots := 0, locals := 20 } : Room) (va_Pc [.int v0, .int v1, .int v2] (PB D T (([] : va_W)))) (QRi r) 0 0 (fun _ => False) := by
  refine met_of (cc := cX4_trueAnswer) (maxL := 5) (ret := (some .int)) (lv := [(0, .int v0), (1, .int v1), (2, .int v2)]) (by decide) rfl (Nat.le_of_ble_eq_true rfl) rfl ?_
  intro p e s m args below meth c ls C0 hl hB
  obtain ⟨hx, hb, hr, hml, hown, hts, hlocks, hname⟩ := C0
  obtain ⟨hP, hK⟩ := hB
  unfold F_X4_trueAnswer at h
  refine lv_iload_n hx hb dX4_trueAnswer_0 rfl (lv_at hl 0 rfl) ?_
  replace h := bd h
  obtain ⟨t1, et1, h⟩ := h
  refine callRi (v := t1) (va_runS (As := [.int v0]) (rest := []) ⟨hx, hb, hml, hown, hts⟩ (c_X4_coinBit l D T v0 t1 et1) (va_cwS 1 hts gX4_trueAnswer_X4_coinBit rfl rfl rfl hdS_X4_coinBit ⟨Nat.le_of_ble_eq_true rfl, Nat.le_of_ble_eq_true rfl⟩) ⟨PB_blind, PB_at hP hK⟩ rfl rfl hl.1 rfl (lv_room (Nat.le_of_ble_eq_true rfl)) dX4_trueAnswer_1 ⟨Nat.zero_le _, Nat.zero_le _⟩) ?_
  refine lv_istore_n (lv' := [(3, .int t1), (0, .int v0), (1, .int v1), (2, .int v2)]) hx hb dX4_trueAnswer_4 rfl hl (by decide) rfl (fun ls hl => ?_)
  refine lv_iload_n hx hb dX4_trueAnswer_5 rfl (lv_at hl 1 rfl) ?_
  refine lv_iconst (v := 1) hx hb dX4_trueAnswer_6 (by decide) ?_
  refine lv_iand hx hb dX4_trueAnswer_7 ?_
  refine lv_iconst (v := 1) hx hb dX4_trueAnswer_8 (by decide) ?_
  refine lv_icmp_ne (tgt := 16) hx hb dX4_trueAnswer_9 (by decide) (fun c2 => ?_) (fun c2 => ?_)
  · replace h := im c2 h
    refine lv_iconst (v := 0) hx hb dX4_trueAnswer_16 (by decide) ?_
    refine lv_istore (lv' := [(4, .int 0), (3, .int t1), (0, .int v0), (1, .int v1), (2, .int v2)]) hx hb dX4_trueAnswer_17 hl (by decide) rfl (fun ls hl => ?_)
    refine lv_iload_n hx hb dX4_trueAnswer_19 rfl (lv_at hl 3 rfl) ?_
    refine lv_iload_n hx hb dX4_trueAnswer_20 rfl (lv_at hl 1 rfl) ?_
    refine lv_iand hx hb dX4_trueAnswer_21 ?_
    refine lv_if_eq (tgt := 36) hx hb dX4_trueAnswer_22 (by decide) (fun c3 => ?_) (fun c3 => ?_)
    · replace h := ip c3 h
      refine lv_iload_n hx hb dX4_trueAnswer_36 rfl (lv_at hl 4 rfl) ?_
      refine lv_iload_n hx hb dX4_trueAnswer_37 rfl (lv_at hl 1 rfl) ?_
      refine lv_iand hx hb dX4_trueAnswer_38 ?_
      refine lv_if_eq (tgt := 53) hx hb dX4_trueAnswer_39 (by decide) (fun c4 => ?_) (fun c4 => ?_)
      · replace h := ip c4 h
        refine lv_iconst (v := 2) hx hb dX4_trueAnswer_53 (by decide) ?_
        exact W.iret hx hb hr (fun t ht hW => ⟨_, rfl, Option.some.inj h, ht⟩) (fun q hq => absurd hq List.not_mem_nil) dX4_trueAnswer_54 hlocks
      replace h := im c4 h
      refine lv_iload hx hb dX4_trueAnswer_42 (lv_at hl 0 rfl) ?_
      refine lv_if_eq (tgt := 51) hx hb dX4_trueAnswer_44 (by decide) (fun _ => ?_) (fun c => absurd c (by decide))
      refine lv_iconst (v := 0) hx hb dX4_trueAnswer_51 (by decide) ?_
      exact W.iret hx hb hr (fun t ht hW => ⟨_, rfl, Option.some.inj h, ht⟩) (fun q hq => absurd hq List.not_mem_nil) dX4_trueAnswer_52 hlocks
    replace h := im c3 h
    refine lv_iload hx hb dX4_trueAnswer_25 (lv_at hl 0 rfl) ?_
    refine lv_if_eq (tgt := 34) hx hb dX4_trueAnswer_27 (by decide) (fun _ => ?_) (fun c => absurd c (by decide))
    refine lv_iconst (v := 1) hx hb dX4_trueAnswer_34 (by decide) ?_
    exact W.iret hx hb hr (fun t ht hW => ⟨_, rfl, Option.some.inj h, ht⟩) (fun q hq => absurd hq List.not_mem_nil) dX4_trueAnswer_35 hlocks
  replace h := ip c2 h
  refine lv_iconst (v := 1) hx hb dX4_trueAnswer_12 (by decide) ?_
  refine lv_goto (tgt := 17) hx hb dX4_trueAnswer_13 (by decide) ?_
  refine lv_istore (lv' := [(4, .int 1), (3, .int t1), (0, .int v0), (1, .int v1), (2, .int v2)]) hx hb dX4_trueAnswer_17 hl (by decide) rfl (fun ls hl => ?_)
  refine lv_iload_n hx hb dX4_trueAnswer_19 rfl (lv_at hl 3 rfl) ?_
  refine lv_iload_n hx hb dX4_trueAnswer_20 rfl (lv_at hl 1 rfl) ?_
  refine lv_iand hx hb dX4_trueAnswer_21 ?_
  refine lv_if_eq (tgt := 36) hx hb dX4_trueAnswer_22 (by decide) (fun c5 => ?_) (fun c5 => ?_)
  · replace h := ip c5 h
    refine lv_iload_n hx hb dX4_trueAnswer_36 rfl (lv_at hl 4 rfl) ?_
    refine lv_iload_n hx hb dX4_trueAnswer_37 rfl (lv_at hl 1 rfl) ?_
    refine lv_iand hx hb dX4_trueAnswer_38 ?_
    refine lv_if_eq (tgt := 53) hx hb dX4_trueAnswer_39 (by decide) (fun c6 => ?_) (fun c6 => ?_)
    · replace h := ip c6 h
      refine lv_iconst (v := 2) hx hb dX4_trueAnswer_53 (by decide) ?_
      exact W.iret hx hb hr (fun t ht hW => ⟨_, rfl, Option.some.inj h, ht⟩) (fun q hq => absurd hq List.not_mem_nil) dX4_trueAnswer_54 hlocks
    replace h := im c6 h
    refine lv_iload hx hb dX4_trueAnswer_42 (lv_at hl 0 rfl) ?_
    refine lv_if_eq (tgt := 51) hx hb dX4_trueAnswer_44 (by decide) (fun c => absurd c (by decide)) (fun _ => ?_)
    refine lv_iconst (v := 1) hx hb dX4_trueAnswer_47 (by decide) ?_
    refine lv_goto (tgt := 52) hx hb dX4_trueAnswer_48 (by decide) ?_
    exact W.iret hx hb hr (fun t ht hW => ⟨_, rfl, Option.some.inj h, ht⟩) (fun q hq => absurd hq List.not_mem_nil) dX4_trueAnswer_52 hlocks
  replace h := im c5 h
  refine lv_iload hx hb dX4_trueAnswer_25 (lv_at hl 0 rfl) ?_
  refine lv_if_eq (tgt := 34) hx hb dX4_trueAnswer_27 (by decide) (fun c => absurd c (by decide)) (fun _ => ?_)
  refine lv_iconst (v := 0) hx hb dX4_trueAnswer_30 (by decide) ?_
  refine lv_goto (tgt := 35) hx hb dX4_trueAnswer_31 (by decide) ?_
  exact W.iret hx hb hr (fun t ht hW => ⟨_, rfl, Option.some.inj h, ht⟩) (fun q hq => absurd hq List.not_mem_nil) dX4_trueAnswer_35 hlocks
set_option maxHeartbeats 4000000 in
set_option maxRecDepth 100000 in
theorem c_X4_volume (l : Launch) (D : va_G) (T : Nat → ClassId) (v0 : Int32) (v1 : Int32) (r : Int64) (h : F_X4_volume v0 v1 = some r) : Met l yX4_volume wsX4_volume ({ frames := 1, cells := 0, slots := 0, locals := 23 } : Room) (va_Pc [.int v0, .int v1] (PB D T (([] : va_W)))) (QRl r) 0 0 (fun _ => False) := by
  refine met_of (cc := cX4_volume) (maxL := 8) (ret := (some .long)) (lv := [(0, .int v0), (1, .int v1)]) (by decide) rfl (Nat.le_of_ble_eq_true rfl) rfl ?_
  intro p e s m args below meth c ls C0 hl hB
  obtain ⟨hx, hb, hr, hml, hown, hts, hlocks, hname⟩ := C0
  obtain ⟨hP, hK⟩ := hB
  unfold F_X4_volume at h
  refine lv_lconst (v := 1) hx hb dX4_volume_0 (by decide) ?_
  refine lv_lstore_n (lv' := [(2, .long 1), (0, .int v0), (1, .int v1)]) hx hb dX4_volume_1 rfl hl (by decide) rfl (fun ls hl => ?_)
  refine lv_lconst (v := 1) hx hb dX4_volume_2 (by decide) ?_
  refine lv_lstore (lv' := [(4, .long 1), (2, .long 1), (0, .int v0), (1, .int v1)]) hx hb dX4_volume_3 hl (by decide) rfl (fun ls hl => ?_)
  refine lv_iload_n hx hb dX4_volume_5 rfl (lv_at hl 2 rfl) ?_
  refine lv_iload_n hx hb dX4_volume_6 rfl (lv_at hl 3 rfl) ?_
  refine va_mmin hx hb (hml.trans hl.1.symm) hown (hts (.methodLink RX4 253 Lib.Math.min.name) (List.mem_of_getElem? (i := 1) rfl)) (hts (.static Lib.Math.min.name) (List.mem_of_getElem? (i := 2) rfl)) (hts (.initialized "java/lang/Math") (List.mem_of_getElem? (i := 3) rfl)) (hts (.code Lib.Math.min.name Lib.Math.min.code 2 (some .int)) (List.mem_of_getElem? (i := 4) rfl)) (Nat.le_of_ble_eq_true rfl) (Nat.le_of_ble_eq_true rfl) (Nat.zero_le _) (Nat.zero_le _) dX4_volume_7 ?_
  refine lv_istore (lv' := [(6, .int (if v1 < v0 then v1 else v0)), (4, .long 1), (2, .long 1), (0, .int v0), (1, .int v1)]) hx hb dX4_volume_10 hl (by decide) rfl (fun ls hl => ?_)
  refine lv_iconst (v := 1) hx hb dX4_volume_12 (by decide) ?_
  refine lv_istore (lv' := [(7, .int 1), (6, .int (if v1 < v0 then v1 else v0)), (4, .long 1), (2, .long 1), (0, .int v0), (1, .int v1)]) hx hb dX4_volume_13 hl (by decide) rfl (fun ls hl => ?_)
  have K15 : ∀ (n15 : Nat) (i2_15 : Int64) (i4_15 : Int64) (i7_15 : Int32) (ls : Array Slot), fx3 (B_X4_volume_15 v0 v1) n15 i2_15 i4_15 i7_15 = some r → lv_has ls 8 [(0, .int v0), (1, .int v1), (2, .long i2_15), (4, .long i4_15), (6, .int (if v1 < v0 then v1 else v0)), (7, .int i7_15)] → W p l e ({ frames := 1, cells := 0, slots := 0, locals := 23 } : Room) s m args below meth c s.heap [] 0 0 (MQ below (QRl r) args s 0 0 (fun _ => False)) (F0 m 15 ls []) := by
    intro n15
    induction n15 with
    | zero =>
        intro i2_15 i4_15 i7_15 ls h
        cases h
    | succ n15 ih15 =>
        intro i2_15 i4_15 i7_15 ls h hl
        replace h : B_X4_volume_15 v0 v1 (fx3 (B_X4_volume_15 v0 v1) n15) i2_15 i4_15 i7_15 = some r := h
        unfold B_X4_volume_15 at h
        refine lv_iload hx hb dX4_volume_15 (lv_at hl 5 rfl) ?_
        refine lv_iload hx hb dX4_volume_17 (lv_at hl 4 rfl) ?_
        refine lv_icmp_gt (tgt := 51) hx hb dX4_volume_19 (by decide) (fun c1 => ?_) (fun c1 => ?_)
        · replace h := ip c1 h
          refine lv_lload hx hb dX4_volume_51 (lv_at hl 3 rfl) ?_
          exact W.lret hx hb hr (fun t ht hW => ⟨_, rfl, Option.some.inj h, ht⟩) (fun q hq => absurd hq List.not_mem_nil) dX4_volume_53 hlocks
        replace h := im c1 h
        refine lv_lload_n hx hb dX4_volume_22 rfl (lv_at hl 2 rfl) ?_
        refine lv_iload_n hx hb dX4_volume_23 rfl (lv_at hl 0 rfl) ?_
        refine lv_iload hx hb dX4_volume_24 (lv_at hl 5 rfl) ?_
        refine lv_isub hx hb dX4_volume_26 ?_
        refine lv_iconst (v := 1) hx hb dX4_volume_27 (by decide) ?_
        refine lv_iadd hx hb dX4_volume_28 ?_
        refine lv_i2l (v := ((v0 - i7_15) + 1).toInt64) hx hb dX4_volume_29 rfl ?_
        refine lv_lmul hx hb dX4_volume_30 ?_
        refine lv_iload hx hb dX4_volume_31 (lv_at hl 5 rfl) ?_
        refine lv_i2l (v := i7_15.toInt64) hx hb dX4_volume_33 rfl ?_
        replace h := gd h
        obtain ⟨g2, h⟩ := h
        refine lv_ldiv hx hb dX4_volume_34 g2 ?_
        replace h := bd h
        obtain ⟨t3, et3, h⟩ := h
        refine eql (Option.some.inj et3) ?_
        refine lv_lstore_n (lv' := [(2, .long t3), (0, .int v0), (1, .int v1), (4, .long i4_15), (6, .int (if v1 < v0 then v1 else v0)), (7, .int i7_15)]) hx hb dX4_volume_35 rfl hl (by decide) rfl (fun ls hl => ?_)
        refine lv_lload hx hb dX4_volume_36 (lv_at hl 3 rfl) ?_
        refine lv_lload_n hx hb dX4_volume_38 rfl (lv_at hl 0 rfl) ?_
        refine lv_iload hx hb dX4_volume_39 (lv_at hl 5 rfl) ?_
        refine lv_lshl (v := t3 <<< (i7_15.toInt64 &&& 63)) hx hb dX4_volume_41 rfl ?_
        refine lv_ladd hx hb dX4_volume_42 ?_
        refine lv_lstore (lv' := [(4, .long (i4_15 + (t3 <<< (i7_15.toInt64 &&& 63)))), (2, .long t3), (0, .int v0), (1, .int v1), (6, .int (if v1 < v0 then v1 else v0)), (7, .int i7_15)]) hx hb dX4_volume_43 hl (by decide) rfl (fun ls hl => ?_)
        refine lv_iinc (v := i7_15 + 1) (lv' := [(7, .int (i7_15 + 1)), (4, .long (i4_15 + (t3 <<< (i7_15.toInt64 &&& 63)))), (2, .long t3), (0, .int v0), (1, .int v1), (6, .int (if v1 < v0 then v1 else v0))]) hx hb dX4_volume_45 hl (k := 5) rfl rfl (by decide) rfl (fun ls hl => ?_)
        refine lv_goto (tgt := 15) hx hb dX4_volume_48 (by decide) ?_
        exact ih15 t3 (i4_15 + (t3 <<< (i7_15.toInt64 &&& 63))) (i7_15 + 1) ls h (lv_sub hl [3, 4, 2, 1, 5, 0] rfl)
  exact K15 1000 1 1 1 ls h (lv_sub hl [4, 5, 3, 2, 1, 0] rfl)
set_option maxHeartbeats 4000000 in
set_option maxRecDepth 100000 in
theorem c_X4_copyRow (l : Launch) (D : va_G) (T : Nat → ClassId) (h0 : Nat) (n0 : Nat) (f0 : Nat → Int32) (h1 : Nat) (n1 : Nat) (f1 : Nat → Int32) (sz : Nat) (hn0 : n0 < 2147483648) (hn1 : n1 < 2147483648) (r : (Nat → Int32)) (h : F_X4_copyRow n0 f0 n1 f1 = some r) : Met l yX4_copyRow wsX4_copyRow ({ frames := 1, cells := 0, slots := 0, locals := 23 } : Room) (va_Pc [.ref h0, .ref h1] (PM D T (([(h0, .inl (T 0, n0, .inl (f0)))] : va_W) ++ ([(h1, .inl (T 0, n1, .inl (f1)))] : va_W)) sz)) (QMv D (([(h0, .inl (T 0, n0, .inl (f0)))] : va_W) ++ ([(h1, .inl (T 0, n1, .inl (r)))] : va_W)) (va_A (([(h0, .inl (T 0, n0, .inl (f0)))] : va_W) ++ ([(h1, .inl (T 0, n1, .inl (f1)))] : va_W)) sz)) 0 0 (va_A (([(h0, .inl (T 0, n0, .inl (f0)))] : va_W) ++ ([(h1, .inl (T 0, n1, .inl (f1)))] : va_W)) sz) := by
  refine met_of (cc := cX4_copyRow) (maxL := 2) (ret := none) (lv := [(0, .ref h0), (1, .ref h1)]) (by decide) rfl (Nat.le_of_ble_eq_true rfl) rfl ?_
  intro p e s m args below meth c ls C0 hl hB
  obtain ⟨hx, hb, hr, hml, hown, hts, hlocks, hname⟩ := C0
  obtain ⟨hsz, hP, hK, hD0⟩ := hB
  subst hsz
  have hD := hD0.self (sz := s.heap.size)
  generalize hAe : va_A (([(h0, .inl (T 0, n0, .inl (f0)))] : va_W) ++ ([(h1, .inl (T 0, n1, .inl (f1)))] : va_W)) s.heap.size = A at hD ⊢
  have hA : ∀ q : Nat, s.heap.size ≤ q → A q := fun q h => by rw [← hAe]; exact Or.inr h
  obtain ⟨H, hH⟩ : ∃ H, H = s.heap := ⟨_, rfl⟩
  obtain ⟨locs, hlo⟩ : ∃ L : List Loc, L = [] := ⟨_, rfl⟩
  have hS : va_S A s.heap s.heap [] := va_S.rf
  rw [← hH] at hP ⊢
  rw [← hlo]
  replace hS : va_S A s.heap H locs := by rw [hH, hlo]; exact hS
  clear hH hlo
  unfold F_X4_copyRow at h
  refine lv_aload_n hx hb dX4_copyRow_0 rfl (lv_at hl 0 rfl) ?_
  refine lv_iconst (v := 0) hx hb dX4_copyRow_1 (by decide) ?_
  refine lv_aload_n hx hb dX4_copyRow_2 rfl (lv_at hl 1 rfl) ?_
  refine lv_iconst (v := 0) hx hb dX4_copyRow_3 (by decide) ?_
  refine lv_aload_n hx hb dX4_copyRow_4 rfl (lv_at hl 0 rfl) ?_
  refine va_alen hx hb hK.1 hP 0 0 rfl rfl (v := nI n0) rfl dX4_copyRow_5 ?_
  refine lv_aload_n hx hb dX4_copyRow_6 rfl (lv_at hl 1 rfl) ?_
  refine va_alen hx hb hK.1 hP 1 0 rfl rfl (v := nI n1) rfl dX4_copyRow_7 ?_
  replace h := gd h
  obtain ⟨g1, h⟩ := h
  have e1 := Decidable.not_not.mp g1
  subst e1
  refine va_mmin hx hb (hml.trans hl.1.symm) hown (hts (.methodLink RX4 253 Lib.Math.min.name) (List.mem_of_getElem? (i := 1) rfl)) (hts (.static Lib.Math.min.name) (List.mem_of_getElem? (i := 2) rfl)) (hts (.initialized "java/lang/Math") (List.mem_of_getElem? (i := 3) rfl)) (hts (.code Lib.Math.min.name Lib.Math.min.code 2 (some .int)) (List.mem_of_getElem? (i := 4) rfl)) (Nat.le_of_ble_eq_true rfl) (Nat.le_of_ble_eq_true rfl) (Nat.zero_le _) (Nat.zero_le _) dX4_copyRow_8 ?_
  refine eqi (ite_self _) ?_
  refine va_copyi hx hb (hml.trans hl.1.symm) hown (hts (.methodLink RX4 258 arraycopyName) (List.mem_of_getElem? (i := 5) rfl)) (hts (.native arraycopyName) (List.mem_of_getElem? (i := 6) rfl)) (hts (.static arraycopyName) (List.mem_of_getElem? (i := 7) rfl)) (hts (.initialized "java/lang/System") (List.mem_of_getElem? (i := 8) rfl)) hK.1 hP hD hS 0 1 0 0 rfl rfl rfl rfl rfl (by decide) (by decide) (nI_pos hn0) (by rw [nI_clamp hn0]; exact Nat.le_of_eq (Nat.zero_add _)) (by rw [nI_clamp hn0]; exact Nat.le_of_eq (Nat.zero_add _)) (fun i hi => rfl) (Nat.le_of_ble_eq_true rfl) (Nat.le_of_ble_eq_true rfl) dX4_copyRow_11 (fun H locs hP hD hS => ?_)
  rw [nI_clamp hn0] at hP hD
  replace hP : va_P D vwCl (([(h0, .inl (T 0, n0, .inl (f0)))] : va_W) ++ ([(h1, .inl (T 0, n0, .inl (va_cpy f0 f1 0 0 n0)))] : va_W)) H := hP
  replace hD : va_D A (([(h0, .inl (T 0, n0, .inl (f0)))] : va_W) ++ ([(h1, .inl (T 0, n0, .inl (va_cpy f0 f1 0 0 n0)))] : va_W)) := hD
  obtain rfl := Option.some.inj h
  exact W.vret hx hb hr (fun t ht hW => ⟨⟨(), rfl, trivial, by rw [ht]; exact hP, hD⟩, hS.F ht⟩) hS.2.2 dX4_copyRow_14 hlocks
set_option maxHeartbeats 4000000 in
set_option maxRecDepth 100000 in
theorem c_X3_write (l : Launch) (D : va_G) (T : Nat → ClassId) (a0 : Nat → Nat) (n0 : Nat) (x0 : St) (v1 : Int32) (v2 : Int32) (v3 : Int32) (sz : Nat) (hn0 : n0 < 2147483648) (r : St) (h : F_X3_write n0 x0 v1 v2 v3 = some r) : Met l yX3_write wsX3_write ({ frames := 1, cells := 0, slots := 0, locals := 22 } : Room) (va_Pc [.ref (a0 0), .int v1, .int v2, .int v3] (PM D T (wgW T n0 a0 (x0)) sz)) (QMv D (wgW T n0 a0 (r)) (va_A (wgW T n0 a0 (x0)) sz)) 0 0 (va_A (wgW T n0 a0 (x0)) sz) := by
  refine met_of (cc := cX3_write) (maxL := 4) (ret := none) (lv := [(0, .ref (a0 0)), (1, .int v1), (2, .int v2), (3, .int v3)]) (by decide) rfl (Nat.le_of_ble_eq_true rfl) rfl ?_
  intro p e s m args below meth c ls C0 hl hB
  obtain ⟨hx, hb, hr, hml, hown, hts, hlocks, hname⟩ := C0
  obtain ⟨hsz, hP, hK, hD0⟩ := hB
  subst hsz
  have hD := hD0.self (sz := s.heap.size)
  generalize hAe : va_A (wgW T n0 a0 (x0)) s.heap.size = A at hD ⊢
  have hA : ∀ q : Nat, s.heap.size ≤ q → A q := fun q h => by rw [← hAe]; exact Or.inr h
  obtain ⟨H, hH⟩ : ∃ H, H = s.heap := ⟨_, rfl⟩
  obtain ⟨locs, hlo⟩ : ∃ L : List Loc, L = [] := ⟨_, rfl⟩
  have hS : va_S A s.heap s.heap [] := va_S.rf
  rw [← hH] at hP ⊢
  rw [← hlo]
  replace hS : va_S A s.heap H locs := by rw [hH, hlo]; exact hS
  clear hH hlo
  unfold F_X3_write at h
  refine lv_aload_n hx hb dX3_write_0 rfl (lv_at hl 0 rfl) ?_
  refine va_get (D := D) (ci := 3) (v := .int (x0.1 0)) (C := RX3) (T := TX3) (N := 4) hx hb hts inX3_write_3 hown hK.1 hP 0 rfl rfl 3 (by decide) (hts (.fieldLink RX3 31 "LyingScale$Weighings" "count" "I") (List.mem_of_getElem? (i := 1) rfl)) (fun _ h9 => h9) rfl dX3_write_1 ?_
  refine lv_aload_n hx hb dX3_write_4 rfl (lv_at hl 0 rfl) ?_
  refine va_get (D := D) (ci := 3) (v := .ref (a0 1)) (C := RX3) (T := TX3) (N := 4) hx hb hts inX3_write_3 hown hK.1 hP 0 rfl rfl 0 (by decide) (hts (.fieldLink RX3 15 "LyingScale$Weighings" "lefts" "[I") (List.mem_of_getElem? (i := 2) rfl)) (fun _ h9 => h9) rfl dX3_write_5 ?_
  refine va_alen hx hb hK.1 hP 1 0 rfl rfl (v := nI n0) rfl dX3_write_8 ?_
  refine lv_icmp_ge (tgt := 58) hx hb dX3_write_9 (by decide) (fun c1 => ?_) (fun c1 => ?_)
  · replace h := ip c1 h
    obtain rfl := Option.some.inj h
    exact W.vret hx hb hr (fun t ht hW => ⟨⟨(), rfl, trivial, by rw [ht]; exact hP, hD⟩, hS.F ht⟩) hS.2.2 dX3_write_58 hlocks
  replace h := im c1 h
  refine lv_aload_n hx hb dX3_write_12 rfl (lv_at hl 0 rfl) ?_
  refine va_get (D := D) (ci := 3) (v := .ref (a0 1)) (C := RX3) (T := TX3) (N := 4) hx hb hts inX3_write_3 hown hK.1 hP 0 rfl rfl 0 (by decide) (hts (.fieldLink RX3 15 "LyingScale$Weighings" "lefts" "[I") (List.mem_of_getElem? (i := 2) rfl)) (fun _ h9 => h9) rfl dX3_write_13 ?_
  refine lv_aload_n hx hb dX3_write_16 rfl (lv_at hl 0 rfl) ?_
  refine va_get (D := D) (ci := 3) (v := .int (x0.1 0)) (C := RX3) (T := TX3) (N := 4) hx hb hts inX3_write_3 hown hK.1 hP 0 rfl rfl 3 (by decide) (hts (.fieldLink RX3 31 "LyingScale$Weighings" "count" "I") (List.mem_of_getElem? (i := 1) rfl)) (fun _ h9 => h9) rfl dX3_write_17 ?_
  refine lv_iload_n hx hb dX3_write_20 rfl (lv_at hl 1 rfl) ?_
  replace h := bd h
  obtain ⟨t2, et2, h⟩ := h
  refine callMv (wr := [(a0 0, .inr (3, [.ref (a0 1), .ref (a0 2), .ref (a0 3), .int (x0.1 0)])), (a0 2, .inl (T 0, n0, .inl (x0.2 1))), (a0 3, .inl (T 0, n0, .inl (x0.2 2)))]) (ws' := wgW T n0 a0 (sA x0 0 t2)) (va_runSN (As := [.ref (a0 1), .int (x0.1 0), .int v1]) (rest := []) ⟨hx, hb, hml, hown, hts⟩ (c_X4_put l D T (a0 1) n0 (x0.2 0) (x0.1 0) v1 _ hn0 t2 et2) ⟨va_cnB 3 hts gX3_write_X4_put_n35 rfl rfl rfl (hK.2 (.methodLinkNest RX3 35 yX4_put "LyingScale") (List.mem_of_getElem? (i := 14) rfl)) (hts (.initialized RX4) (List.mem_of_getElem? (i := 6) rfl)) hdS_X4_put ⟨Nat.le_of_ble_eq_true rfl, Nat.le_of_ble_eq_true rfl⟩, (hts (.static yX4_put) (List.mem_of_getElem? (i := 5) rfl)), trivial⟩ ⟨PM_blind, PM_at (hP.sub (ws' := ([(a0 1, .inl (T 0, n0, .inl (x0.2 0)))] : va_W)) [1] rfl) (hD.sub (ws' := ([(a0 1, .inl (T 0, n0, .inl (x0.2 0)))] : va_W)) [1] (by decide) rfl) hK⟩ rfl rfl hl.1 rfl (lv_room (Nat.le_of_ble_eq_true rfl)) dX3_write_21 ⟨Nat.zero_le _, Nat.zero_le _⟩) hS hA hP hD [1] [0, 2, 3] rfl rfl (by decide) (by decide) [0, 3, 1, 2] (by decide) rfl (fun H locs hP hD hS => ?_)
  refine lv_aload_n hx hb dX3_write_24 rfl (lv_at hl 0 rfl) ?_
  refine va_get (D := D) (ci := 3) (v := .ref (a0 2)) (C := RX3) (T := TX3) (N := 4) hx hb hts inX3_write_3 hown hK.1 hP 0 rfl rfl 1 (by decide) (hts (.fieldLink RX3 21 "LyingScale$Weighings" "rights" "[I") (List.mem_of_getElem? (i := 3) rfl)) (fun _ h9 => h9) rfl dX3_write_25 ?_
  refine lv_aload_n hx hb dX3_write_28 rfl (lv_at hl 0 rfl) ?_
  refine va_get (D := D) (ci := 3) (v := .int ((sA x0 0 t2).1 0)) (C := RX3) (T := TX3) (N := 4) hx hb hts inX3_write_3 hown hK.1 hP 0 rfl rfl 3 (by decide) (hts (.fieldLink RX3 31 "LyingScale$Weighings" "count" "I") (List.mem_of_getElem? (i := 1) rfl)) (fun _ h9 => h9) rfl dX3_write_29 ?_
  refine lv_iload_n hx hb dX3_write_32 rfl (lv_at hl 2 rfl) ?_
  replace h := bd h
  obtain ⟨t3, et3, h⟩ := h
  refine callMv (wr := [(a0 0, .inr (3, [.ref (a0 1), .ref (a0 2), .ref (a0 3), .int ((sA x0 0 t2).1 0)])), (a0 1, .inl (T 0, n0, .inl ((sA x0 0 t2).2 0))), (a0 3, .inl (T 0, n0, .inl ((sA x0 0 t2).2 2)))]) (ws' := wgW T n0 a0 (sA (sA x0 0 t2) 1 t3)) (va_runSN (As := [.ref (a0 2), .int ((sA x0 0 t2).1 0), .int v2]) (rest := []) ⟨hx, hb, hml, hown, hts⟩ (c_X4_put l D T (a0 2) n0 ((sA x0 0 t2).2 1) ((sA x0 0 t2).1 0) v2 _ hn0 t3 et3) ⟨va_cnB 3 hts gX3_write_X4_put_n35 rfl rfl rfl (hK.2 (.methodLinkNest RX3 35 yX4_put "LyingScale") (List.mem_of_getElem? (i := 14) rfl)) (hts (.initialized RX4) (List.mem_of_getElem? (i := 6) rfl)) hdS_X4_put ⟨Nat.le_of_ble_eq_true rfl, Nat.le_of_ble_eq_true rfl⟩, (hts (.static yX4_put) (List.mem_of_getElem? (i := 5) rfl)), trivial⟩ ⟨PM_blind, PM_at (hP.sub (ws' := ([(a0 2, .inl (T 0, n0, .inl ((sA x0 0 t2).2 1)))] : va_W)) [2] rfl) (hD.sub (ws' := ([(a0 2, .inl (T 0, n0, .inl ((sA x0 0 t2).2 1)))] : va_W)) [2] (by decide) rfl) hK⟩ rfl rfl hl.1 rfl (lv_room (Nat.le_of_ble_eq_true rfl)) dX3_write_33 ⟨Nat.zero_le _, Nat.zero_le _⟩) hS hA hP hD [2] [0, 1, 3] rfl rfl (by decide) (by decide) [0, 1, 3, 2] (by decide) rfl (fun H locs hP hD hS => ?_)
  refine lv_aload_n hx hb dX3_write_36 rfl (lv_at hl 0 rfl) ?_
  refine va_get (D := D) (ci := 3) (v := .ref (a0 3)) (C := RX3) (T := TX3) (N := 4) hx hb hts inX3_write_3 hown hK.1 hP 0 rfl rfl 2 (by decide) (hts (.fieldLink RX3 24 "LyingScale$Weighings" "answers" "[I") (List.mem_of_getElem? (i := 4) rfl)) (fun _ h9 => h9) rfl dX3_write_37 ?_
  refine lv_aload_n hx hb dX3_write_40 rfl (lv_at hl 0 rfl) ?_
  refine va_get (D := D) (ci := 3) (v := .int ((sA (sA x0 0 t2) 1 t3).1 0)) (C := RX3) (T := TX3) (N := 4) hx hb hts inX3_write_3 hown hK.1 hP 0 rfl rfl 3 (by decide) (hts (.fieldLink RX3 31 "LyingScale$Weighings" "count" "I") (List.mem_of_getElem? (i := 1) rfl)) (fun _ h9 => h9) rfl dX3_write_41 ?_
  refine lv_iload_n hx hb dX3_write_44 rfl (lv_at hl 3 rfl) ?_
  replace h := bd h
  obtain ⟨t4, et4, h⟩ := h
  refine callMv (wr := [(a0 0, .inr (3, [.ref (a0 1), .ref (a0 2), .ref (a0 3), .int ((sA (sA x0 0 t2) 1 t3).1 0)])), (a0 1, .inl (T 0, n0, .inl ((sA (sA x0 0 t2) 1 t3).2 0))), (a0 2, .inl (T 0, n0, .inl ((sA (sA x0 0 t2) 1 t3).2 1)))]) (ws' := wgW T n0 a0 (sA (sA (sA x0 0 t2) 1 t3) 2 t4)) (va_runSN (As := [.ref (a0 3), .int ((sA (sA x0 0 t2) 1 t3).1 0), .int v3]) (rest := []) ⟨hx, hb, hml, hown, hts⟩ (c_X4_put l D T (a0 3) n0 ((sA (sA x0 0 t2) 1 t3).2 2) ((sA (sA x0 0 t2) 1 t3).1 0) v3 _ hn0 t4 et4) ⟨va_cnB 3 hts gX3_write_X4_put_n35 rfl rfl rfl (hK.2 (.methodLinkNest RX3 35 yX4_put "LyingScale") (List.mem_of_getElem? (i := 14) rfl)) (hts (.initialized RX4) (List.mem_of_getElem? (i := 6) rfl)) hdS_X4_put ⟨Nat.le_of_ble_eq_true rfl, Nat.le_of_ble_eq_true rfl⟩, (hts (.static yX4_put) (List.mem_of_getElem? (i := 5) rfl)), trivial⟩ ⟨PM_blind, PM_at (hP.sub (ws' := ([(a0 3, .inl (T 0, n0, .inl ((sA (sA x0 0 t2) 1 t3).2 2)))] : va_W)) [3] rfl) (hD.sub (ws' := ([(a0 3, .inl (T 0, n0, .inl ((sA (sA x0 0 t2) 1 t3).2 2)))] : va_W)) [3] (by decide) rfl) hK⟩ rfl rfl hl.1 rfl (lv_room (Nat.le_of_ble_eq_true rfl)) dX3_write_45 ⟨Nat.zero_le _, Nat.zero_le _⟩) hS hA hP hD [3] [0, 1, 2] rfl rfl (by decide) (by decide) [0, 1, 2, 3] (by decide) rfl (fun H locs hP hD hS => ?_)
  refine lv_aload_n hx hb dX3_write_48 rfl (lv_at hl 0 rfl) ?_
  refine lv_dup hx hb dX3_write_49 rfl ?_
  refine va_get (D := D) (ci := 3) (v := .int ((sA (sA (sA x0 0 t2) 1 t3) 2 t4).1 0)) (C := RX3) (T := TX3) (N := 4) hx hb hts inX3_write_3 hown hK.1 hP 0 rfl rfl 3 (by decide) (hts (.fieldLink RX3 31 "LyingScale$Weighings" "count" "I") (List.mem_of_getElem? (i := 1) rfl)) (fun _ h9 => h9) rfl dX3_write_50 ?_
  refine lv_iconst (v := 1) hx hb dX3_write_53 (by decide) ?_
  refine lv_iadd hx hb dX3_write_54 ?_
  refine va_put (D := D) (ci := 3) (v := .int (((sA (sA (sA x0 0 t2) 1 t3) 2 t4).1 0) + 1)) (ty := .int) (C := RX3) (T := TX3) (N := 4) hx hb hts inX3_write_3 tyX3 tyX3_ok nmX3 hown hK.1 hP hD hS 0 rfl rfl 3 (by decide) (hts (.fieldLink RX3 31 "LyingScale$Weighings" "count" "I") (List.mem_of_getElem? (i := 1) rfl)) (fun _ h9 => h9) rfl (by decide +kernel) rfl rfl (Nat.le_of_ble_eq_true rfl) dX3_write_55 (fun H locs hP hD hS => ?_)
  replace hP : va_P D vwCl (wgW T n0 a0 (sI (sA (sA (sA x0 0 t2) 1 t3) 2 t4) 0 (((sA (sA (sA x0 0 t2) 1 t3) 2 t4).1 0) + 1))) H := hP
  replace hD : va_D A (wgW T n0 a0 (sI (sA (sA (sA x0 0 t2) 1 t3) 2 t4) 0 (((sA (sA (sA x0 0 t2) 1 t3) 2 t4).1 0) + 1))) := hD
  replace h := bd h
  obtain ⟨y5, ey5, h⟩ := h
  rw [Option.some.inj ey5] at hP hD
  obtain rfl := Option.some.inj h
  exact W.vret hx hb hr (fun t ht hW => ⟨⟨(), rfl, trivial, by rw [ht]; exact hP, hD⟩, hS.F ht⟩) hS.2.2 dX3_write_58 hlocks
set_option maxHeartbeats 4000000 in
set_option maxRecDepth 100000 in
theorem c_X3_copyFrom (l : Launch) (D : va_G) (T : Nat → ClassId) (a0 : Nat → Nat) (n0 : Nat) (x0 : St) (a1 : Nat → Nat) (n1 : Nat) (x1 : St) (sz : Nat) (hn0 : n0 < 2147483648) (hn1 : n1 < 2147483648) (r : St) (h : F_X3_copyFrom n0 x0 n1 x1 = some r) : Met l yX3_copyFrom wsX3_copyFrom ({ frames := 2, cells := 0, slots := 0, locals := 44 } : Room) (va_Pc [.ref (a0 0), .ref (a1 0)] (PM D T (wgW T n0 a0 (x0) ++ wgW T n1 a1 (x1)) sz)) (QMv D (wgW T n0 a0 (r) ++ wgW T n1 a1 (x1)) (va_A (wgW T n0 a0 (x0) ++ wgW T n1 a1 (x1)) sz)) 0 0 (va_A (wgW T n0 a0 (x0) ++ wgW T n1 a1 (x1)) sz) := by
  refine met_of (cc := cX3_copyFrom) (maxL := 2) (ret := none) (lv := [(0, .ref (a0 0)), (1, .ref (a1 0))]) (by decide) rfl (Nat.le_of_ble_eq_true rfl) rfl ?_
  intro p e s m args below meth c ls C0 hl hB
  obtain ⟨hx, hb, hr, hml, hown, hts, hlocks, hname⟩ := C0
  obtain ⟨hsz, hP, hK, hD0⟩ := hB
  subst hsz
  have hD := hD0.self (sz := s.heap.size)
  generalize hAe : va_A (wgW T n0 a0 (x0) ++ wgW T n1 a1 (x1)) s.heap.size = A at hD ⊢
  have hA : ∀ q : Nat, s.heap.size ≤ q → A q := fun q h => by rw [← hAe]; exact Or.inr h
  obtain ⟨H, hH⟩ : ∃ H, H = s.heap := ⟨_, rfl⟩
  obtain ⟨locs, hlo⟩ : ∃ L : List Loc, L = [] := ⟨_, rfl⟩
  have hS : va_S A s.heap s.heap [] := va_S.rf
  rw [← hH] at hP ⊢
  rw [← hlo]
  replace hS : va_S A s.heap H locs := by rw [hH, hlo]; exact hS
  clear hH hlo
  unfold F_X3_copyFrom at h
  refine lv_aload_n hx hb dX3_copyFrom_0 rfl (lv_at hl 1 rfl) ?_
  refine va_get (D := D) (ci := 3) (v := .ref (a1 1)) (C := RX3) (T := TX3) (N := 4) hx hb hts inX3_copyFrom_3 hown hK.1 hP 4 rfl rfl 0 (by decide) (hts (.fieldLink RX3 15 "LyingScale$Weighings" "lefts" "[I") (List.mem_of_getElem? (i := 1) rfl)) (fun _ h9 => h9) rfl dX3_copyFrom_1 ?_
  refine lv_aload_n hx hb dX3_copyFrom_4 rfl (lv_at hl 0 rfl) ?_
  refine va_get (D := D) (ci := 3) (v := .ref (a0 1)) (C := RX3) (T := TX3) (N := 4) hx hb hts inX3_copyFrom_3 hown hK.1 hP 0 rfl rfl 0 (by decide) (hts (.fieldLink RX3 15 "LyingScale$Weighings" "lefts" "[I") (List.mem_of_getElem? (i := 1) rfl)) (fun _ h9 => h9) rfl dX3_copyFrom_5 ?_
  replace h := bd h
  obtain ⟨t1, et1, h⟩ := h
  refine callMv (wr := [(a0 0, .inr (3, [.ref (a0 1), .ref (a0 2), .ref (a0 3), .int (x0.1 0)])), (a0 2, .inl (T 0, n0, .inl (x0.2 1))), (a0 3, .inl (T 0, n0, .inl (x0.2 2))), (a1 0, .inr (3, [.ref (a1 1), .ref (a1 2), .ref (a1 3), .int (x1.1 0)])), (a1 2, .inl (T 0, n1, .inl (x1.2 1))), (a1 3, .inl (T 0, n1, .inl (x1.2 2)))]) (ws' := wgW T n0 a0 (sA x0 0 t1) ++ wgW T n1 a1 (x1)) (va_runSN (As := [.ref (a1 1), .ref (a0 1)]) (rest := []) ⟨hx, hb, hml, hown, hts⟩ (c_X4_copyRow l D T (a1 1) n1 (x1.2 0) (a0 1) n0 (x0.2 0) _ hn1 hn0 t1 et1) ⟨va_cnB 2 hts gX3_copyFrom_X4_copyRow_n27 rfl rfl rfl (hK.2 (.methodLinkNest RX3 27 yX4_copyRow "LyingScale") (List.mem_of_getElem? (i := 13) rfl)) (hts (.initialized RX4) (List.mem_of_getElem? (i := 6) rfl)) hdS_X4_copyRow ⟨Nat.le_of_ble_eq_true rfl, Nat.le_of_ble_eq_true rfl⟩, (hts (.static yX4_copyRow) (List.mem_of_getElem? (i := 5) rfl)), trivial⟩ ⟨PM_blind, PM_at (hP.sub (ws' := ([(a1 1, .inl (T 0, n1, .inl (x1.2 0)))] : va_W) ++ ([(a0 1, .inl (T 0, n0, .inl (x0.2 0)))] : va_W)) [5, 1] rfl) (hD.sub (ws' := ([(a1 1, .inl (T 0, n1, .inl (x1.2 0)))] : va_W) ++ ([(a0 1, .inl (T 0, n0, .inl (x0.2 0)))] : va_W)) [5, 1] (by decide) rfl) hK⟩ rfl rfl hl.1 rfl (lv_room (Nat.le_of_ble_eq_true rfl)) dX3_copyFrom_8 ⟨Nat.zero_le _, Nat.zero_le _⟩) hS hA hP hD [5, 1] [0, 2, 3, 4, 6, 7] rfl rfl (by decide) (by decide) [0, 7, 1, 2, 3, 6, 4, 5] (by decide) rfl (fun H locs hP hD hS => ?_)
  refine lv_aload_n hx hb dX3_copyFrom_11 rfl (lv_at hl 1 rfl) ?_
  refine va_get (D := D) (ci := 3) (v := .ref (a1 2)) (C := RX3) (T := TX3) (N := 4) hx hb hts inX3_copyFrom_3 hown hK.1 hP 4 rfl rfl 1 (by decide) (hts (.fieldLink RX3 21 "LyingScale$Weighings" "rights" "[I") (List.mem_of_getElem? (i := 2) rfl)) (fun _ h9 => h9) rfl dX3_copyFrom_12 ?_
  refine lv_aload_n hx hb dX3_copyFrom_15 rfl (lv_at hl 0 rfl) ?_
  refine va_get (D := D) (ci := 3) (v := .ref (a0 2)) (C := RX3) (T := TX3) (N := 4) hx hb hts inX3_copyFrom_3 hown hK.1 hP 0 rfl rfl 1 (by decide) (hts (.fieldLink RX3 21 "LyingScale$Weighings" "rights" "[I") (List.mem_of_getElem? (i := 2) rfl)) (fun _ h9 => h9) rfl dX3_copyFrom_16 ?_
  replace h := bd h
  obtain ⟨t2, et2, h⟩ := h
  refine callMv (wr := [(a0 0, .inr (3, [.ref (a0 1), .ref (a0 2), .ref (a0 3), .int ((sA x0 0 t1).1 0)])), (a0 1, .inl (T 0, n0, .inl ((sA x0 0 t1).2 0))), (a0 3, .inl (T 0, n0, .inl ((sA x0 0 t1).2 2))), (a1 0, .inr (3, [.ref (a1 1), .ref (a1 2), .ref (a1 3), .int (x1.1 0)])), (a1 1, .inl (T 0, n1, .inl (x1.2 0))), (a1 3, .inl (T 0, n1, .inl (x1.2 2)))]) (ws' := wgW T n0 a0 (sA (sA x0 0 t1) 1 t2) ++ wgW T n1 a1 (x1)) (va_runSN (As := [.ref (a1 2), .ref (a0 2)]) (rest := []) ⟨hx, hb, hml, hown, hts⟩ (c_X4_copyRow l D T (a1 2) n1 (x1.2 1) (a0 2) n0 ((sA x0 0 t1).2 1) _ hn1 hn0 t2 et2) ⟨va_cnB 2 hts gX3_copyFrom_X4_copyRow_n27 rfl rfl rfl (hK.2 (.methodLinkNest RX3 27 yX4_copyRow "LyingScale") (List.mem_of_getElem? (i := 13) rfl)) (hts (.initialized RX4) (List.mem_of_getElem? (i := 6) rfl)) hdS_X4_copyRow ⟨Nat.le_of_ble_eq_true rfl, Nat.le_of_ble_eq_true rfl⟩, (hts (.static yX4_copyRow) (List.mem_of_getElem? (i := 5) rfl)), trivial⟩ ⟨PM_blind, PM_at (hP.sub (ws' := ([(a1 2, .inl (T 0, n1, .inl (x1.2 1)))] : va_W) ++ ([(a0 2, .inl (T 0, n0, .inl ((sA x0 0 t1).2 1)))] : va_W)) [6, 2] rfl) (hD.sub (ws' := ([(a1 2, .inl (T 0, n1, .inl (x1.2 1)))] : va_W) ++ ([(a0 2, .inl (T 0, n0, .inl ((sA x0 0 t1).2 1)))] : va_W)) [6, 2] (by decide) rfl) hK⟩ rfl rfl hl.1 rfl (lv_room (Nat.le_of_ble_eq_true rfl)) dX3_copyFrom_19 ⟨Nat.zero_le _, Nat.zero_le _⟩) hS hA hP hD [6, 2] [0, 1, 3, 4, 5, 7] rfl rfl (by decide) (by decide) [0, 1, 7, 2, 3, 4, 6, 5] (by decide) rfl (fun H locs hP hD hS => ?_)
  refine lv_aload_n hx hb dX3_copyFrom_22 rfl (lv_at hl 1 rfl) ?_
  refine va_get (D := D) (ci := 3) (v := .ref (a1 3)) (C := RX3) (T := TX3) (N := 4) hx hb hts inX3_copyFrom_3 hown hK.1 hP 4 rfl rfl 2 (by decide) (hts (.fieldLink RX3 24 "LyingScale$Weighings" "answers" "[I") (List.mem_of_getElem? (i := 3) rfl)) (fun _ h9 => h9) rfl dX3_copyFrom_23 ?_
  refine lv_aload_n hx hb dX3_copyFrom_26 rfl (lv_at hl 0 rfl) ?_
  refine va_get (D := D) (ci := 3) (v := .ref (a0 3)) (C := RX3) (T := TX3) (N := 4) hx hb hts inX3_copyFrom_3 hown hK.1 hP 0 rfl rfl 2 (by decide) (hts (.fieldLink RX3 24 "LyingScale$Weighings" "answers" "[I") (List.mem_of_getElem? (i := 3) rfl)) (fun _ h9 => h9) rfl dX3_copyFrom_27 ?_
  replace h := bd h
  obtain ⟨t3, et3, h⟩ := h
  refine callMv (wr := [(a0 0, .inr (3, [.ref (a0 1), .ref (a0 2), .ref (a0 3), .int ((sA (sA x0 0 t1) 1 t2).1 0)])), (a0 1, .inl (T 0, n0, .inl ((sA (sA x0 0 t1) 1 t2).2 0))), (a0 2, .inl (T 0, n0, .inl ((sA (sA x0 0 t1) 1 t2).2 1))), (a1 0, .inr (3, [.ref (a1 1), .ref (a1 2), .ref (a1 3), .int (x1.1 0)])), (a1 1, .inl (T 0, n1, .inl (x1.2 0))), (a1 2, .inl (T 0, n1, .inl (x1.2 1)))]) (ws' := wgW T n0 a0 (sA (sA (sA x0 0 t1) 1 t2) 2 t3) ++ wgW T n1 a1 (x1)) (va_runSN (As := [.ref (a1 3), .ref (a0 3)]) (rest := []) ⟨hx, hb, hml, hown, hts⟩ (c_X4_copyRow l D T (a1 3) n1 (x1.2 2) (a0 3) n0 ((sA (sA x0 0 t1) 1 t2).2 2) _ hn1 hn0 t3 et3) ⟨va_cnB 2 hts gX3_copyFrom_X4_copyRow_n27 rfl rfl rfl (hK.2 (.methodLinkNest RX3 27 yX4_copyRow "LyingScale") (List.mem_of_getElem? (i := 13) rfl)) (hts (.initialized RX4) (List.mem_of_getElem? (i := 6) rfl)) hdS_X4_copyRow ⟨Nat.le_of_ble_eq_true rfl, Nat.le_of_ble_eq_true rfl⟩, (hts (.static yX4_copyRow) (List.mem_of_getElem? (i := 5) rfl)), trivial⟩ ⟨PM_blind, PM_at (hP.sub (ws' := ([(a1 3, .inl (T 0, n1, .inl (x1.2 2)))] : va_W) ++ ([(a0 3, .inl (T 0, n0, .inl ((sA (sA x0 0 t1) 1 t2).2 2)))] : va_W)) [7, 3] rfl) (hD.sub (ws' := ([(a1 3, .inl (T 0, n1, .inl (x1.2 2)))] : va_W) ++ ([(a0 3, .inl (T 0, n0, .inl ((sA (sA x0 0 t1) 1 t2).2 2)))] : va_W)) [7, 3] (by decide) rfl) hK⟩ rfl rfl hl.1 rfl (lv_room (Nat.le_of_ble_eq_true rfl)) dX3_copyFrom_30 ⟨Nat.zero_le _, Nat.zero_le _⟩) hS hA hP hD [7, 3] [0, 1, 2, 4, 5, 6] rfl rfl (by decide) (by decide) [0, 1, 2, 7, 3, 4, 5, 6] (by decide) rfl (fun H locs hP hD hS => ?_)
  refine lv_aload_n hx hb dX3_copyFrom_33 rfl (lv_at hl 0 rfl) ?_
  refine lv_aload_n hx hb dX3_copyFrom_34 rfl (lv_at hl 1 rfl) ?_
  refine va_get (D := D) (ci := 3) (v := .int (x1.1 0)) (C := RX3) (T := TX3) (N := 4) hx hb hts inX3_copyFrom_3 hown hK.1 hP 4 rfl rfl 3 (by decide) (hts (.fieldLink RX3 31 "LyingScale$Weighings" "count" "I") (List.mem_of_getElem? (i := 4) rfl)) (fun _ h9 => h9) rfl dX3_copyFrom_35 ?_
  refine va_put (D := D) (ci := 3) (v := .int (x1.1 0)) (ty := .int) (C := RX3) (T := TX3) (N := 4) hx hb hts inX3_copyFrom_3 tyX3 tyX3_ok nmX3 hown hK.1 hP hD hS 0 rfl rfl 3 (by decide) (hts (.fieldLink RX3 31 "LyingScale$Weighings" "count" "I") (List.mem_of_getElem? (i := 4) rfl)) (fun _ h9 => h9) rfl (by decide +kernel) rfl rfl (Nat.le_of_ble_eq_true rfl) dX3_copyFrom_38 (fun H locs hP hD hS => ?_)
  replace hP : va_P D vwCl (wgW T n0 a0 (sI (sA (sA (sA x0 0 t1) 1 t2) 2 t3) 0 (x1.1 0)) ++ wgW T n1 a1 (x1)) H := hP
  replace hD : va_D A (wgW T n0 a0 (sI (sA (sA (sA x0 0 t1) 1 t2) 2 t3) 0 (x1.1 0)) ++ wgW T n1 a1 (x1)) := hD
  replace h := bd h
  obtain ⟨y4, ey4, h⟩ := h
  rw [Option.some.inj ey4] at hP hD
  obtain rfl := Option.some.inj h
  exact W.vret hx hb hr (fun t ht hW => ⟨⟨(), rfl, trivial, by rw [ht]; exact hP, hD⟩, hS.F ht⟩) hS.2.2 dX3_copyFrom_41 hlocks
end
section
def F_X2_cases (x0 : St) : Option (Int32) :=
  some ((2 * (x0.1 0)) + 1)
def F_X2_isCase (x0 : St) (v1 : Int32) : Option (Int32) :=
  if v1 < 0 then (some 0) else ((F_X2_cases x0).bind fun t2 => if t2 ≤ v1 then (some 0) else (some 1))
def F_X2_isWeighing (x0 : St) (v1 : Int32) (v2 : Int32) : Option (Int32) :=
  if v1 = 0 then (some 0) else (if (v1 &&& v2) = 0 then (if (((v1 ||| v2).toUInt32 >>> ((x0.1 0).toUInt32 &&& Int32.toUInt32 31)).toInt32) = 0 then ((F_J6_bitCount_0f7a4 v1).bind fun t4 => (F_J6_bitCount_0f7a4 v2).bind fun t5 => if t4 = t5 then (some 1) else (some 0)) else (some 0)) else (some 0))
def F_X2_canLearn (x0 : St) : Option (Int32) :=
  if 40 ≤ (x0.1 5) then (some 0) else (some 1)
def F_X2_liesIfTold (x0 : St) (v1 : Int32) (v2 : Int32) (v3 : Int32) (v4 : Int32) : Option (Int32) :=
  (F_X4_at 33 (x0.2 6) v1).bind fun t1 => (F_X4_trueAnswer v1 v2 v3).bind fun t2 => if t2 = v4 then (some t1) else (some (t1 + 1))
def B_X2_learn_13 (v1 : Int32) (v2 : Int32) (v3 : Int32) (k13 : Int32 → St → Option (St)) (i4_13 : Int32) (x0_13 : St) : Option (St) :=
  (F_X2_cases x0_13).bind fun t2 => if t2 ≤ i4_13 then (some x0_13) else ((F_X2_liesIfTold x0_13 i4_13 v1 v2 v3).bind fun t4 => (F_X4_put 33 (x0_13.2 6) i4_13 t4).bind fun t5 => k13 (i4_13 + 1) (sA x0_13 6 t5))
def F_X2_learn (x0 : St) (v1 : Int32) (v2 : Int32) (v3 : Int32) : Option (St) :=
  (F_X3_write 40 (tdS x0) v1 v2 v3).bind fun t1 => fx2 (B_X2_learn_13 v1 v2 v3) 1000 0 (tdU x0 t1)
def B_X2_forgetTold_10 (k10 : Int32 → St → Option (St)) (i1_10 : Int32) (x0_10 : St) : Option (St) :=
  if 33 ≤ i1_10 then (some x0_10) else ((F_X4_put 33 (x0_10.2 6) i1_10 0).bind fun t2 => k10 (i1_10 + 1) (sA x0_10 6 t2))
def F_X2_forgetTold (x0 : St) : Option (St) :=
  fx2 (B_X2_forgetTold_10) 1000 0 (sI x0 5 0)
def F_X2_hideCase (x0 : St) (v1 : Int32) (v2 : Int32) : Option (St) :=
  some (sI (sI (sI x0 2 v1) 3 v2) 4 0)
def F_X2_start (x0 : St) (v1 : Int32) : Option (St) :=
  (F_X2_hideCase (sI (sI (sI x0 0 v1) 1 1) 6 0) ((-1)) 0).bind fun t1 => (F_X2_forgetTold t1).bind fun t2 => some t2
def F_X2_canReply (x0 : St) : Option (Int32) :=
  if (x0.1 2) = ((-1)) then (some 0) else ((F_X2_canLearn x0).bind fun t2 => if t2 = 0 then (some 0) else (if 30 ≤ (x0.1 4) then (some 0) else (some 1)))
def F_X2_reply (x0 : St) (v1 : Int32) (v2 : Int32) : Option (Int32 × St) :=
  (F_X4_trueAnswer (x0.1 2) v1 v2).bind fun t1 => if ((((x0.1 3).toUInt32 >>> ((x0.1 4).toUInt32 &&& Int32.toUInt32 31)).toInt32) &&& 1) = 1 then (if t1 = 2 then ((F_X2_learn (sI x0 4 ((x0.1 4) + 1)) v1 v2 0).bind fun t6 => some (0, t6)) else ((F_X2_learn (sI x0 4 ((x0.1 4) + 1)) v1 v2 (t1 + 1)).bind fun t5 => some (t1 + 1, t5))) else ((F_X2_learn (sI x0 4 ((x0.1 4) + 1)) v1 v2 t1).bind fun t3 => some (t1, t3))
theorem inX2_cases_2 : ∀ w ∈ u_ws RX2 TX2 9, w ∈ wsX2_cases := by decide +kernel
theorem hdS_X2_cases : yX2_cases.cls ≠ "java/lang/invoke/MethodHandle" ∧ yX2_cases.cls ≠ "java/lang/invoke/VarHandle" ∧ (parseMethodDescriptor yX2_cases.desc).map (fun d => d.parameters.length) = some 0 := by decide +kernel
theorem hdV_X2_cases : yX2_cases.cls = RX2 ∧ yX2_cases.cls ≠ "java/lang/invoke/MethodHandle" ∧ yX2_cases.cls ≠ "java/lang/invoke/VarHandle" ∧ (parseMethodDescriptor yX2_cases.desc).map (fun d => d.parameters.length) = some 0 := by decide +kernel
theorem hdS_X2_isCase : yX2_isCase.cls ≠ "java/lang/invoke/MethodHandle" ∧ yX2_isCase.cls ≠ "java/lang/invoke/VarHandle" ∧ (parseMethodDescriptor yX2_isCase.desc).map (fun d => d.parameters.length) = some 1 := by decide +kernel
theorem hdV_X2_isCase : yX2_isCase.cls = RX2 ∧ yX2_isCase.cls ≠ "java/lang/invoke/MethodHandle" ∧ yX2_isCase.cls ≠ "java/lang/invoke/VarHandle" ∧ (parseMethodDescriptor yX2_isCase.desc).map (fun d => d.parameters.length) = some 1 := by decide +kernel
theorem inX2_isWeighing_2 : ∀ w ∈ u_ws RX2 TX2 9, w ∈ wsX2_isWeighing := by decide +kernel
theorem hdS_X2_isWeighing : yX2_isWeighing.cls ≠ "java/lang/invoke/MethodHandle" ∧ yX2_isWeighing.cls ≠ "java/lang/invoke/VarHandle" ∧ (parseMethodDescriptor yX2_isWeighing.desc).map (fun d => d.parameters.length) = some 2 := by decide +kernel
theorem hdV_X2_isWeighing : yX2_isWeighing.cls = RX2 ∧ yX2_isWeighing.cls ≠ "java/lang/invoke/MethodHandle" ∧ yX2_isWeighing.cls ≠ "java/lang/invoke/VarHandle" ∧ (parseMethodDescriptor yX2_isWeighing.desc).map (fun d => d.parameters.length) = some 2 := by decide +kernel
theorem inX2_canLearn_2 : ∀ w ∈ u_ws RX2 TX2 9, w ∈ wsX2_canLearn := by decide +kernel
theorem inX2_canLearn_3 : ∀ w ∈ u_ws RX3 TX3 4, w ∈ wsX2_canLearn := by decide +kernel
theorem hdS_X2_canLearn : yX2_canLearn.cls ≠ "java/lang/invoke/MethodHandle" ∧ yX2_canLearn.cls ≠ "java/lang/invoke/VarHandle" ∧ (parseMethodDescriptor yX2_canLearn.desc).map (fun d => d.parameters.length) = some 0 := by decide +kernel
theorem hdV_X2_canLearn : yX2_canLearn.cls = RX2 ∧ yX2_canLearn.cls ≠ "java/lang/invoke/MethodHandle" ∧ yX2_canLearn.cls ≠ "java/lang/invoke/VarHandle" ∧ (parseMethodDescriptor yX2_canLearn.desc).map (fun d => d.parameters.length) = some 0 := by decide +kernel
theorem inX2_liesIfTold_2 : ∀ w ∈ u_ws RX2 TX2 9, w ∈ wsX2_liesIfTold := by decide +kernel
theorem hdS_X2_liesIfTold : yX2_liesIfTold.cls ≠ "java/lang/invoke/MethodHandle" ∧ yX2_liesIfTold.cls ≠ "java/lang/invoke/VarHandle" ∧ (parseMethodDescriptor yX2_liesIfTold.desc).map (fun d => d.parameters.length) = some 4 := by decide +kernel
theorem hdV_X2_liesIfTold : yX2_liesIfTold.cls = RX2 ∧ yX2_liesIfTold.cls ≠ "java/lang/invoke/MethodHandle" ∧ yX2_liesIfTold.cls ≠ "java/lang/invoke/VarHandle" ∧ (parseMethodDescriptor yX2_liesIfTold.desc).map (fun d => d.parameters.length) = some 4 := by decide +kernel
theorem inX2_learn_2 : ∀ w ∈ u_ws RX2 TX2 9, w ∈ wsX2_learn := by decide +kernel
theorem hdS_X2_learn : yX2_learn.cls ≠ "java/lang/invoke/MethodHandle" ∧ yX2_learn.cls ≠ "java/lang/invoke/VarHandle" ∧ (parseMethodDescriptor yX2_learn.desc).map (fun d => d.parameters.length) = some 3 := by decide +kernel
theorem hdV_X2_learn : yX2_learn.cls = RX2 ∧ yX2_learn.cls ≠ "java/lang/invoke/MethodHandle" ∧ yX2_learn.cls ≠ "java/lang/invoke/VarHandle" ∧ (parseMethodDescriptor yX2_learn.desc).map (fun d => d.parameters.length) = some 3 := by decide +kernel
theorem inX2_forgetTold_2 : ∀ w ∈ u_ws RX2 TX2 9, w ∈ wsX2_forgetTold := by decide +kernel
theorem inX2_forgetTold_3 : ∀ w ∈ u_ws RX3 TX3 4, w ∈ wsX2_forgetTold := by decide +kernel
theorem hdS_X2_forgetTold : yX2_forgetTold.cls ≠ "java/lang/invoke/MethodHandle" ∧ yX2_forgetTold.cls ≠ "java/lang/invoke/VarHandle" ∧ (parseMethodDescriptor yX2_forgetTold.desc).map (fun d => d.parameters.length) = some 0 := by decide +kernel
theorem hdV_X2_forgetTold : yX2_forgetTold.cls = RX2 ∧ yX2_forgetTold.cls ≠ "java/lang/invoke/MethodHandle" ∧ yX2_forgetTold.cls ≠ "java/lang/invoke/VarHandle" ∧ (parseMethodDescriptor yX2_forgetTold.desc).map (fun d => d.parameters.length) = some 0 := by decide +kernel
theorem inX2_hideCase_2 : ∀ w ∈ u_ws RX2 TX2 9, w ∈ wsX2_hideCase := by decide +kernel
theorem hdS_X2_hideCase : yX2_hideCase.cls ≠ "java/lang/invoke/MethodHandle" ∧ yX2_hideCase.cls ≠ "java/lang/invoke/VarHandle" ∧ (parseMethodDescriptor yX2_hideCase.desc).map (fun d => d.parameters.length) = some 2 := by decide +kernel
theorem hdV_X2_hideCase : yX2_hideCase.cls = RX2 ∧ yX2_hideCase.cls ≠ "java/lang/invoke/MethodHandle" ∧ yX2_hideCase.cls ≠ "java/lang/invoke/VarHandle" ∧ (parseMethodDescriptor yX2_hideCase.desc).map (fun d => d.parameters.length) = some 2 := by decide +kernel
theorem inX2_start_2 : ∀ w ∈ u_ws RX2 TX2 9, w ∈ wsX2_start := by decide +kernel
theorem inX2_start_3 : ∀ w ∈ u_ws RX3 TX3 4, w ∈ wsX2_start := by decide +kernel
theorem hdS_X2_start : yX2_start.cls ≠ "java/lang/invoke/MethodHandle" ∧ yX2_start.cls ≠ "java/lang/invoke/VarHandle" ∧ (parseMethodDescriptor yX2_start.desc).map (fun d => d.parameters.length) = some 1 := by decide +kernel
theorem hdV_X2_start : yX2_start.cls = RX2 ∧ yX2_start.cls ≠ "java/lang/invoke/MethodHandle" ∧ yX2_start.cls ≠ "java/lang/invoke/VarHandle" ∧ (parseMethodDescriptor yX2_start.desc).map (fun d => d.parameters.length) = some 1 := by decide +kernel
theorem inX2_canReply_2 : ∀ w ∈ u_ws RX2 TX2 9, w ∈ wsX2_canReply := by decide +kernel
theorem hdS_X2_canReply : yX2_canReply.cls ≠ "java/lang/invoke/MethodHandle" ∧ yX2_canReply.cls ≠ "java/lang/invoke/VarHandle" ∧ (parseMethodDescriptor yX2_canReply.desc).map (fun d => d.parameters.length) = some 0 := by decide +kernel
theorem hdV_X2_canReply : yX2_canReply.cls = RX2 ∧ yX2_canReply.cls ≠ "java/lang/invoke/MethodHandle" ∧ yX2_canReply.cls ≠ "java/lang/invoke/VarHandle" ∧ (parseMethodDescriptor yX2_canReply.desc).map (fun d => d.parameters.length) = some 0 := by decide +kernel
theorem inX2_reply_2 : ∀ w ∈ u_ws RX2 TX2 9, w ∈ wsX2_reply := by decide +kernel
theorem hdS_X2_reply : yX2_reply.cls ≠ "java/lang/invoke/MethodHandle" ∧ yX2_reply.cls ≠ "java/lang/invoke/VarHandle" ∧ (parseMethodDescriptor yX2_reply.desc).map (fun d => d.parameters.length) = some 2 := by decide +kernel
theorem hdV_X2_reply : yX2_reply.cls = RX2 ∧ yX2_reply.cls ≠ "java/lang/invoke/MethodHandle" ∧ yX2_reply.cls ≠ "java/lang/invoke/VarHandle" ∧ (parseMethodDescriptor yX2_reply.desc).map (fun d => d.parameters.length) = some 2 := by decide +kernel
set_option maxHeartbeats 4000000 in
set_option maxRecDepth 100000 in
theorem c_X2_cases (l : Launch) (D : va_G) (T : Nat → ClassId) (a0 : Nat → Nat) (x0 : St) (r : Int32) (h : F_X2_cases x0 = some r) : Met l yX2_cases wsX2_cases ({ frames := 0, cells := 0, slots := 0, locals := 0 } : Room) (va_Pc [.ref (a0 0)] (PB D T (stW T a0 (x0)))) (QRi r) 0 0 (fun _ => False) := by
  refine met_of (cc := cX2_cases) (maxL := 1) (ret := (some .int)) (lv := [(0, .ref (a0 0))]) (by decide) rfl (Nat.le_of_ble_eq_true rfl) rfl ?_
  intro p e s m args below meth c ls C0 hl hB
  obtain ⟨hx, hb, hr, hml, hown, hts, hlocks, hname⟩ := C0
  obtain ⟨hP, hK⟩ := hB
  unfold F_X2_cases at h
  refine lv_iconst (v := 2) hx hb dX2_cases_0 (by decide) ?_
  refine lv_aload_n hx hb dX2_cases_1 rfl (lv_at hl 0 rfl) ?_
  refine va_get (D := D) (ci := 2) (v := .int (x0.1 0)) (C := RX2) (T := TX2) (N := 9) hx hb hts inX2_cases_2 hown hK.1 hP 0 rfl rfl 4 (by decide) (hts (.fieldLink RX2 33 "LyingScale$State" "coins" "I") (List.mem_of_getElem? (i := 1) rfl)) (fun _ h9 => h9) rfl dX2_cases_2 ?_
  refine lv_imul hx hb dX2_cases_5 ?_
  refine lv_iconst (v := 1) hx hb dX2_cases_6 (by decide) ?_
  refine lv_iadd hx hb dX2_cases_7 ?_
  exact W.iret hx hb hr (fun t ht hW => ⟨_, rfl, Option.some.inj h, ht⟩) (fun q hq => absurd hq List.not_mem_nil) dX2_cases_8 hlocks
set_option maxHeartbeats 4000000 in
set_option maxRecDepth 100000 in
theorem c_X2_isCase (l : Launch) (D : va_G) (T : Nat → ClassId) (a0 : Nat → Nat) (x0 : St) (v1 : Int32) (r : Int32) (h : F_X2_isCase x0 v1 = some r) : Met l yX2_isCase wsX2_isCase ({ frames := 1, cells := 0, slots := 0, locals := 20 } : Room) (va_Pc [.ref (a0 0), .int v1] (PB D T (stW T a0 (x0)))) (QRi r) 0 0 (fun _ => False) := by
  refine met_of (cc := cX2_isCase) (maxL := 2) (ret := (some .boolean)) (lv := [(0, .ref (a0 0)), (1, .int v1)]) (by decide) rfl (Nat.le_of_ble_eq_true rfl) rfl ?_
  intro p e s m args below meth c ls C0 hl hB
  obtain ⟨hx, hb, hr, hml, hown, hts, hlocks, hname⟩ := C0
  obtain ⟨hP, hK⟩ := hB
  unfold F_X2_isCase at h
  refine lv_iload_n hx hb dX2_isCase_0 rfl (lv_at hl 1 rfl) ?_
  refine lv_if_lt (tgt := 16) hx hb dX2_isCase_1 (by decide) (fun c1 => ?_) (fun c1 => ?_)
  · replace h := ip c1 h
    refine lv_iconst (v := 0) hx hb dX2_isCase_16 (by decide) ?_
    exact W.zret hx hb hr rfl (fun t ht hW => ⟨_, rfl, Option.some.inj h, ht⟩) (fun q hq => absurd hq List.not_mem_nil) dX2_isCase_17 hlocks
  replace h := im c1 h
  refine lv_iload_n hx hb dX2_isCase_4 rfl (lv_at hl 1 rfl) ?_
  refine lv_aload_n hx hb dX2_isCase_5 rfl (lv_at hl 0 rfl) ?_
  replace h := bd h
  obtain ⟨t2, et2, h⟩ := h
  refine callRi (v := t2) (va_runV (As := []) (rest := [.int v1]) ⟨hx, hb, hml, hown, hts⟩ (c_X2_cases l D T a0 x0 t2 et2) (cwV 0 hts gX2_isCase_X2_cases rfl rfl rfl hdV_X2_cases ⟨Nat.le_of_ble_eq_true rfl, Nat.le_of_ble_eq_true rfl⟩) ⟨PB_blind, va_recv hK.1 hP (ci := 2) (q0 := 0) rfl rfl, PB_at hP hK⟩ rfl rfl hl.1 rfl (lv_room (Nat.le_of_ble_eq_true rfl)) dX2_isCase_6 ⟨Nat.zero_le _, Nat.zero_le _⟩) ?_
  refine lv_icmp_ge (tgt := 16) hx hb dX2_isCase_9 (by decide) (fun c3 => ?_) (fun c3 => ?_)
  · replace h := ip c3 h
    refine lv_iconst (v := 0) hx hb dX2_isCase_16 (by decide) ?_
    exact W.zret hx hb hr rfl (fun t ht hW => ⟨_, rfl, Option.some.inj h, ht⟩) (fun q hq => absurd hq List.not_mem_nil) dX2_isCase_17 hlocks
  replace h := im c3 h
  refine lv_iconst (v := 1) hx hb dX2_isCase_12 (by decide) ?_
  refine lv_goto (tgt := 17) hx hb dX2_isCase_13 (by decide) ?_
  exact W.zret hx hb hr rfl (fun t ht hW => ⟨_, rfl, Option.some.inj h, ht⟩) (fun q hq => absurd hq List.not_mem_nil) dX2_isCase_17 hlocks
set_option maxHeartbeats 4000000 in
set_option maxRecDepth 100000 in
theorem c_X2_isWeighing (l : Launch) (D : va_G) (T : Nat → ClassId) (a0 : Nat → Nat) (x0 : St) (v1 : Int32) (v2 : Int32) (r : Int32) (h : F_X2_isWeighing x0 v1 v2 = some r) : Met l yX2_isWeighing wsX2_isWeighing ({ frames := 1, cells := 0, slots := 0, locals := 20 } : Room) (va_Pc [.ref (a0 0), .int v1, .int v2] (PB D T (stW T a0 (x0)))) (QRi r) 0 0 (fun _ => False) := by
  refine met_of (cc := cX2_isWeighing) (maxL := 3) (ret := (some .boolean)) (lv := [(0, .ref (a0 0)), (1, .int v1), (2, .int v2)]) (by decide) rfl (Nat.le_of_ble_eq_true rfl) rfl ?_
  intro p e s m args below meth c ls C0 hl hB
  obtain ⟨hx, hb, hr, hml, hown, hts, hlocks, hname⟩ := C0
  obtain ⟨hP, hK⟩ := hB
  unfold F_X2_isWeighing at h
  refine lv_iload_n hx hb dX2_isWeighing_0 rfl (lv_at hl 1 rfl) ?_
  refine lv_if_eq (tgt := 36) hx hb dX2_isWeighing_1 (by decide) (fun c1 => ?_) (fun c1 => ?_)
  · replace h := ip c1 h
    refine lv_iconst (v := 0) hx hb dX2_isWeighing_36 (by decide) ?_
    exact W.zret hx hb hr rfl (fun t ht hW => ⟨_, rfl, Option.some.inj h, ht⟩) (fun q hq => absurd hq List.not_mem_nil) dX2_isWeighing_37 hlocks
  replace h := im c1 h
  refine lv_iload_n hx hb dX2_isWeighing_4 rfl (lv_at hl 1 rfl) ?_
  refine lv_iload_n hx hb dX2_isWeighing_5 rfl (lv_at hl 2 rfl) ?_
  refine lv_iand hx hb dX2_isWeighing_6 ?_
  refine lv_if_ne (tgt := 36) hx hb dX2_isWeighing_7 (by decide) (fun c2 => ?_) (fun c2 => ?_)
  · replace h := im c2 h
    refine lv_iconst (v := 0) hx hb dX2_isWeighing_36 (by decide) ?_
    exact W.zret hx hb hr rfl (fun t ht hW => ⟨_, rfl, Option.some.inj h, ht⟩) (fun q hq => absurd hq List.not_mem_nil) dX2_isWeighing_37 hlocks
  replace h := ip c2 h
  refine lv_iload_n hx hb dX2_isWeighing_10 rfl (lv_at hl 1 rfl) ?_
  refine lv_iload_n hx hb dX2_isWeighing_11 rfl (lv_at hl 2 rfl) ?_
  refine lv_ior hx hb dX2_isWeighing_12 ?_
  refine lv_aload_n hx hb dX2_isWeighing_13 rfl (lv_at hl 0 rfl) ?_
  refine va_get (D := D) (ci := 2) (v := .int (x0.1 0)) (C := RX2) (T := TX2) (N := 9) hx hb hts inX2_isWeighing_2 hown hK.1 hP 0 rfl rfl 4 (by decide) (hts (.fieldLink RX2 33 "LyingScale$State" "coins" "I") (List.mem_of_getElem? (i := 1) rfl)) (fun _ h9 => h9) rfl dX2_isWeighing_14 ?_
  refine lv_iushr (v := ((v1 ||| v2).toUInt32 >>> ((x0.1 0).toUInt32 &&& Int32.toUInt32 31)).toInt32) hx hb dX2_isWeighing_17 rfl ?_
  refine lv_if_ne (tgt := 36) hx hb dX2_isWeighing_18 (by decide) (fun c3 => ?_) (fun c3 => ?_)
  · replace h := im c3 h
    refine lv_iconst (v := 0) hx hb dX2_isWeighing_36 (by decide) ?_
    exact W.zret hx hb hr rfl (fun t ht hW => ⟨_, rfl, Option.some.inj h, ht⟩) (fun q hq => absurd hq List.not_mem_nil) dX2_isWeighing_37 hlocks
  replace h := ip c3 h
  refine lv_iload_n hx hb dX2_isWeighing_21 rfl (lv_at hl 1 rfl) ?_
  replace h := bd h
  obtain ⟨t4, et4, h⟩ := h
  refine callRi (v := t4) (va_runS (As := [.int v1]) (rest := []) ⟨hx, hb, hml, hown, hts⟩ (c_J6_bitCount_0f7a4 l D T v1 t4 et4) (va_cwS 1 hts gX2_isWeighing_J6_bitCount_0f7a4 rfl rfl rfl hdS_J6_bitCount_0f7a4 ⟨Nat.le_of_ble_eq_true rfl, Nat.le_of_ble_eq_true rfl⟩) ⟨PB_blind, PB_at (hP.sub (ws' := ([] : va_W)) [] rfl) hK⟩ rfl rfl hl.1 rfl (lv_room (Nat.le_of_ble_eq_true rfl)) dX2_isWeighing_22 ⟨Nat.zero_le _, Nat.zero_le _⟩) ?_
  refine lv_iload_n hx hb dX2_isWeighing_25 rfl (lv_at hl 2 rfl) ?_
  replace h := bd h
  obtain ⟨t5, et5, h⟩ := h
  refine callRi (v := t5) (va_runS (As := [.int v2]) (rest := [.int t4]) ⟨hx, hb, hml, hown, hts⟩ (c_J6_bitCount_0f7a4 l D T v2 t5 et5) (va_cwS 1 hts gX2_isWeighing_J6_bitCount_0f7a4 rfl rfl rfl hdS_J6_bitCount_0f7a4 ⟨Nat.le_of_ble_eq_true rfl, Nat.le_of_ble_eq_true rfl⟩) ⟨PB_blind, PB_at (hP.sub (ws' := ([] : va_W)) [] rfl) hK⟩ rfl rfl hl.1 rfl (lv_room (Nat.le_of_ble_eq_true rfl)) dX2_isWeighing_26 ⟨Nat.zero_le _, Nat.zero_le _⟩) ?_
  refine lv_icmp_ne (tgt := 36) hx hb dX2_isWeighing_29 (by decide) (fun c6 => ?_) (fun c6 => ?_)
  · replace h := im c6 h
    refine lv_iconst (v := 0) hx hb dX2_isWeighing_36 (by decide) ?_
    exact W.zret hx hb hr rfl (fun t ht hW => ⟨_, rfl, Option.some.inj h, ht⟩) (fun q hq => absurd hq List.not_mem_nil) dX2_isWeighing_37 hlocks
  replace h := ip c6 h
  refine lv_iconst (v := 1) hx hb dX2_isWeighing_32 (by decide) ?_
  refine lv_goto (tgt := 37) hx hb dX2_isWeighing_33 (by decide) ?_
  exact W.zret hx hb hr rfl (fun t ht hW => ⟨_, rfl, Option.some.inj h, ht⟩) (fun q hq => absurd hq List.not_mem_nil) dX2_isWeighing_37 hlocks
set_option maxHeartbeats 4000000 in
set_option maxRecDepth 100000 in
theorem c_X2_canLearn (l : Launch) (D : va_G) (T : Nat → ClassId) (a0 : Nat → Nat) (x0 : St) (r : Int32) (h : F_X2_canLearn x0 = some r) : Met l yX2_canLearn wsX2_canLearn ({ frames := 0, cells := 0, slots := 0, locals := 0 } : Room) (va_Pc [.ref (a0 0)] (PB D T (stW T a0 (x0)))) (QRi r) 0 0 (fun _ => False) := by
  refine met_of (cc := cX2_canLearn) (maxL := 1) (ret := (some .boolean)) (lv := [(0, .ref (a0 0))]) (by decide) rfl (Nat.le_of_ble_eq_true rfl) rfl ?_
  intro p e s m args below meth c ls C0 hl hB
  obtain ⟨hx, hb, hr, hml, hown, hts, hlocks, hname⟩ := C0
  obtain ⟨hP, hK⟩ := hB
  unfold F_X2_canLearn at h
  refine lv_aload_n hx hb dX2_canLearn_0 rfl (lv_at hl 0 rfl) ?_
  refine va_get (D := D) (ci := 2) (v := .ref (a0 1)) (C := RX2) (T := TX2) (N := 9) hx hb hts inX2_canLearn_2 hown hK.1 hP 0 rfl rfl 0 (by decide) (hts (.fieldLink RX2 14 "LyingScale$State" "told" "LLyingScale$Weighings;") (List.mem_of_getElem? (i := 1) rfl)) (fun _ h9 => h9) rfl dX2_canLearn_1 ?_
  refine va_getN (D := D) (ci := 3) (v := .int (x0.1 5)) (C := RX3) (T := TX3) (N := 4) hx hb hts inX2_canLearn_3 hown hK.1 hP 1 rfl rfl 3 (by decide) (va_Nw.use rfl (hK.2 (.fieldLinkNest RX2 40 "LyingScale$Weighings" "count" "I" "LyingScale") (List.mem_of_getElem? (i := 6) rfl))) (fun _ h9 => h9) rfl dX2_canLearn_4 ?_
  refine lv_bipush (v := 40) hx hb dX2_canLearn_7 (by decide) ?_
  refine lv_icmp_ge (tgt := 16) hx hb dX2_canLearn_9 (by decide) (fun c1 => ?_) (fun c1 => ?_)
  · replace h := ip c1 h
    refine lv_iconst (v := 0) hx hb dX2_canLearn_16 (by decide) ?_
    exact W.zret hx hb hr rfl (fun t ht hW => ⟨_, rfl, Option.some.inj h, ht⟩) (fun q hq => absurd hq List.not_mem_nil) dX2_canLearn_17 hlocks
  replace h := im c1 h
  refine lv_iconst (v := 1) hx hb dX2_canLearn_12 (by decide) ?_
  refine lv_goto (tgt := 17) hx hb dX2_canLearn_13 (by decide) ?_
  exact W.zret hx hb hr rfl (fun t ht hW => ⟨_, rfl, Option.some.inj h, ht⟩) (fun q hq => absurd hq List.not_mem_nil) dX2_canLearn_17 hlocks
set_option maxHeartbeats 4000000 in
set_option maxRecDepth 100000 in
theorem c_X2_liesIfTold (l : Launch) (D : va_G) (T : Nat → ClassId) (a0 : Nat → Nat) (x0 : St) (v1 : Int32) (v2 : Int32) (v3 : Int32) (v4 : Int32) (r : Int32) (h : F_X2_liesIfTold x0 v1 v2 v3 v4 = some r) : Met l yX2_liesIfTold wsX2_liesIfTold ({ frames := 2, cells := 0, slots := 0, locals := 44 } : Room) (va_Pc [.ref (a0 0), .int v1, .int v2, .int v3, .int v4] (PB D T (stW T a0 (x0)))) (QRi r) 0 0 (fun _ => False) := by
  refine met_of (cc := cX2_liesIfTold) (maxL := 6) (ret := (some .int)) (lv := [(0, .ref (a0 0)), (1, .int v1), (2, .int v2), (3, .int v3), (4, .int v4)]) (by decide) rfl (Nat.le_of_ble_eq_true rfl) rfl ?_
  intro p e s m args below meth c ls C0 hl hB
  obtain ⟨hx, hb, hr, hml, hown, hts, hlocks, hname⟩ := C0
  obtain ⟨hP, hK⟩ := hB
  unfold F_X2_liesIfTold at h
  refine lv_aload_n hx hb dX2_liesIfTold_0 rfl (lv_at hl 0 rfl) ?_
  refine va_get (D := D) (ci := 2) (v := .ref (a0 3)) (C := RX2) (T := TX2) (N := 9) hx hb hts inX2_liesIfTold_2 hown hK.1 hP 0 rfl rfl 2 (by decide) (hts (.fieldLink RX2 23 "LyingScale$State" "liesOf" "[I") (List.mem_of_getElem? (i := 1) rfl)) (fun _ h9 => h9) rfl dX2_liesIfTold_1 ?_
  refine lv_iload_n hx hb dX2_liesIfTold_4 rfl (lv_at hl 1 rfl) ?_
  replace h := bd h
  obtain ⟨t1, et1, h⟩ := h
  refine callRi (v := t1) (va_runSN (As := [.ref (a0 3), .int v1]) (rest := []) ⟨hx, hb, hml, hown, hts⟩ (c_X4_at l D T (a0 3) 33 (x0.2 6) v1 (Nat.le_of_ble_eq_true rfl) t1 et1) ⟨va_cnB 2 hts gX2_liesIfTold_X4_at_n89 rfl rfl rfl (hK.2 (.methodLinkNest RX2 89 yX4_at "LyingScale") (List.mem_of_getElem? (i := 11) rfl)) (hts (.initialized RX4) (List.mem_of_getElem? (i := 3) rfl)) hdS_X4_at ⟨Nat.le_of_ble_eq_true rfl, Nat.le_of_ble_eq_true rfl⟩, (hts (.static yX4_at) (List.mem_of_getElem? (i := 2) rfl)), trivial⟩ ⟨PB_blind, PB_at (hP.sub (ws' := ([(a0 3, .inl (T 0, 33, .inl (x0.2 6)))] : va_W)) [3] rfl) hK⟩ rfl rfl hl.1 rfl (lv_room (Nat.le_of_ble_eq_true rfl)) dX2_liesIfTold_5 ⟨Nat.zero_le _, Nat.zero_le _⟩) ?_
  refine lv_istore (lv' := [(5, .int t1), (0, .ref (a0 0)), (1, .int v1), (2, .int v2), (3, .int v3), (4, .int v4)]) hx hb dX2_liesIfTold_8 hl (by decide) rfl (fun ls hl => ?_)
  refine lv_iload_n hx hb dX2_liesIfTold_10 rfl (lv_at hl 2 rfl) ?_
  refine lv_iload_n hx hb dX2_liesIfTold_11 rfl (lv_at hl 3 rfl) ?_
  refine lv_iload_n hx hb dX2_liesIfTold_12 rfl (lv_at hl 4 rfl) ?_
  replace h := bd h
  obtain ⟨t2, et2, h⟩ := h
  refine callRi (v := t2) (va_runSN (As := [.int v1, .int v2, .int v3]) (rest := []) ⟨hx, hb, hml, hown, hts⟩ (c_X4_trueAnswer l D T v1 v2 v3 t2 et2) ⟨va_cnB 3 hts gX2_liesIfTold_X4_trueAnswer_n93 rfl rfl rfl (hK.2 (.methodLinkNest RX2 93 yX4_trueAnswer "LyingScale") (List.mem_of_getElem? (i := 12) rfl)) (hts (.initialized RX4) (List.mem_of_getElem? (i := 3) rfl)) hdS_X4_trueAnswer ⟨Nat.le_of_ble_eq_true rfl, Nat.le_of_ble_eq_true rfl⟩, (hts (.static yX4_trueAnswer) (List.mem_of_getElem? (i := 5) rfl)), trivial⟩ ⟨PB_blind, PB_at (hP.sub (ws' := ([] : va_W)) [] rfl) hK⟩ rfl rfl hl.1 rfl (lv_room (Nat.le_of_ble_eq_true rfl)) dX2_liesIfTold_13 ⟨Nat.zero_le _, Nat.zero_le _⟩) ?_
  refine lv_iload hx hb dX2_liesIfTold_16 (lv_at hl 5 rfl) ?_
  refine lv_icmp_ne (tgt := 26) hx hb dX2_liesIfTold_18 (by decide) (fun c3 => ?_) (fun c3 => ?_)
  · replace h := im c3 h
    refine lv_iload hx hb dX2_liesIfTold_26 (lv_at hl 0 rfl) ?_
    refine lv_iconst (v := 1) hx hb dX2_liesIfTold_28 (by decide) ?_
    refine lv_iadd hx hb dX2_liesIfTold_29 ?_
    exact W.iret hx hb hr (fun t ht hW => ⟨_, rfl, Option.some.inj h, ht⟩) (fun q hq => absurd hq List.not_mem_nil) dX2_liesIfTold_30 hlocks
  replace h := ip c3 h
  refine lv_iload hx hb dX2_liesIfTold_21 (lv_at hl 0 rfl) ?_
  refine lv_goto (tgt := 30) hx hb dX2_liesIfTold_23 (by decide) ?_
  exact W.iret hx hb hr (fun t ht hW => ⟨_, rfl, Option.some.inj h, ht⟩) (fun q hq => absurd hq List.not_mem_nil) dX2_liesIfTold_30 hlocks
set_option maxHeartbeats 4000000 in
set_option maxRecDepth 100000 in
theorem c_X2_learn (l : Launch) (D : va_G) (T : Nat → ClassId) (a0 : Nat → Nat) (x0 : St) (v1 : Int32) (v2 : Int32) (v3 : Int32) (sz : Nat) (r : St) (h : F_X2_learn x0 v1 v2 v3 = some r) : Met l yX2_learn wsX2_learn ({ frames := 3, cells := 0, slots := 0, locals := 69 } : Room) (va_Pc [.ref (a0 0), .int v1, .int v2, .int v3] (PM D T (stW T a0 (x0)) sz)) (QMv D (stW T a0 (r)) (va_A (stW T a0 (x0)) sz)) 0 0 (va_A (stW T a0 (x0)) sz) := by
  refine met_of (cc := cX2_learn) (maxL := 5) (ret := none) (lv := [(0, .ref (a0 0)), (1, .int v1), (2, .int v2), (3, .int v3)]) (by decide) rfl (Nat.le_of_ble_eq_true rfl) rfl ?_
  intro p e s m args below meth c ls C0 hl hB
  obtain ⟨hx, hb, hr, hml, hown, hts, hlocks, hname⟩ := C0
  obtain ⟨hsz, hP, hK, hD0⟩ := hB
  subst hsz
  have hD := hD0.self (sz := s.heap.size)
  generalize hAe : va_A (stW T a0 (x0)) s.heap.size = A at hD ⊢
  have hA : ∀ q : Nat, s.heap.size ≤ q → A q := fun q h => by rw [← hAe]; exact Or.inr h
  obtain ⟨H, hH⟩ : ∃ H, H = s.heap := ⟨_, rfl⟩
  obtain ⟨locs, hlo⟩ : ∃ L : List Loc, L = [] := ⟨_, rfl⟩
  have hS : va_S A s.heap s.heap [] := va_S.rf
  rw [← hH] at hP ⊢
  rw [← hlo]
  replace hS : va_S A s.heap H locs := by rw [hH, hlo]; exact hS
  clear hH hlo
  unfold F_X2_learn at h
  refine lv_aload_n hx hb dX2_learn_0 rfl (lv_at hl 0 rfl) ?_
  refine va_get (D := D) (ci := 2) (v := .ref (a0 1)) (C := RX2) (T := TX2) (N := 9) hx hb hts inX2_learn_2 hown hK.1 hP 0 rfl rfl 0 (by decide) (hts (.fieldLink RX2 14 "LyingScale$State" "told" "LLyingScale$Weighings;") (List.mem_of_getElem? (i := 1) rfl)) (fun _ h9 => h9) rfl dX2_learn_1 ?_
  refine lv_iload_n hx hb dX2_learn_4 rfl (lv_at hl 1 rfl) ?_
  refine lv_iload_n hx hb dX2_learn_5 rfl (lv_at hl 2 rfl) ?_
  refine lv_iload_n hx hb dX2_learn_6 rfl (lv_at hl 3 rfl) ?_
  replace h := bd h
  obtain ⟨t1, et1, h⟩ := h
  refine callMv (wr := [(a0 0, .inr (2, [.ref (a0 1), .ref (a0 2), .ref (a0 3), .ref (a0 4), .int (x0.1 0), .int (x0.1 1), .int (x0.1 2), .int (x0.1 3), .int (x0.1 4)])), (a0 2, .inr (3, [.ref (a0 8), .ref (a0 9), .ref (a0 10), .int (x0.1 6)])), (a0 3, .inl (T 0, 33, .inl (x0.2 6))), (a0 4, .inl (T 0, 33, .inl (x0.2 7))), (a0 8, .inl (T 0, 8, .inl (x0.2 3))), (a0 9, .inl (T 0, 8, .inl (x0.2 4))), (a0 10, .inl (T 0, 8, .inl (x0.2 5)))]) (ws' := stW T a0 (tdU x0 t1)) (va_runV (As := [.int v1, .int v2, .int v3]) (rest := []) ⟨hx, hb, hml, hown, hts⟩ (c_X3_write l D T (tdA a0) 40 (tdS x0) v1 v2 v3 _ (Nat.le_of_ble_eq_true rfl) t1 et1) (cwV 3 hts gX2_learn_X3_write rfl rfl rfl hdV_X3_write ⟨Nat.le_of_ble_eq_true rfl, Nat.le_of_ble_eq_true rfl⟩) ⟨PM_blind, va_recv hK.1 hP (ci := 3) (q0 := 1) rfl rfl, PM_at (hP.sub (ws' := wgW T 40 (tdA a0) (tdS x0)) [1, 5, 6, 7] rfl) (hD.sub (ws' := wgW T 40 (tdA a0) (tdS x0)) [1, 5, 6, 7] (by decide) rfl) hK⟩ rfl rfl hl.1 rfl (lv_room (Nat.le_of_ble_eq_true rfl)) dX2_learn_7 ⟨Nat.zero_le _, Nat.zero_le _⟩) hS hA hP hD [1, 5, 6, 7] [0, 2, 3, 4, 8, 9, 10] rfl rfl (by decide) (by decide) [0, 7, 1, 2, 3, 8, 9, 10, 4, 5, 6] (by decide) rfl (fun H locs hP hD hS => ?_)
  refine lv_iconst (v := 0) hx hb dX2_learn_10 (by decide) ?_
  refine lv_istore (lv' := [(4, .int 0), (0, .ref (a0 0)), (1, .int v1), (2, .int v2), (3, .int v3)]) hx hb dX2_learn_11 hl (by decide) rfl (fun ls hl => ?_)
  have K13 : ∀ (n13 : Nat) (i4_13 : Int32) (x0_13 : St) (H : Heap) (locs : List Loc) (ls : Array Slot), fx2 (B_X2_learn_13 v1 v2 v3) n13 i4_13 x0_13 = some r → va_P D vwCl (stW T a0 (x0_13)) H → va_D A (stW T a0 (x0_13)) → va_S A s.heap H locs → lv_has ls 5 [(0, .ref (a0 0)), (1, .int v1), (2, .int v2), (3, .int v3), (4, .int i4_13)] → W p l e ({ frames := 3, cells := 0, slots := 0, locals := 69 } : Room) s m args below meth c H locs 0 0 (MQ below (QMv D (stW T a0 (r)) A) args s 0 0 (A)) (F0 m 13 ls []) := by
    intro n13
    induction n13 with
    | zero =>
        intro i4_13 x0_13 H locs ls h
        cases h
    | succ n13 ih13 =>
        intro i4_13 x0_13 H locs ls h hP hD hS hl
        replace h : B_X2_learn_13 v1 v2 v3 (fx2 (B_X2_learn_13 v1 v2 v3) n13) i4_13 x0_13 = some r := h
        unfold B_X2_learn_13 at h
        refine lv_iload hx hb dX2_learn_13 (lv_at hl 4 rfl) ?_
        refine lv_aload_n hx hb dX2_learn_15 rfl (lv_at hl 0 rfl) ?_
        replace h := bd h
        obtain ⟨t2, et2, h⟩ := h
        refine callRi (v := t2) (va_runV (As := []) (rest := [.int i4_13]) ⟨hx, hb, hml, hown, hts⟩ (c_X2_cases l D T a0 x0_13 t2 et2) (cwV 0 hts gX2_learn_X2_cases rfl rfl rfl hdV_X2_cases ⟨Nat.le_of_ble_eq_true rfl, Nat.le_of_ble_eq_true rfl⟩) ⟨PB_blind, va_recv hK.1 hP (ci := 2) (q0 := 0) rfl rfl, PB_at hP hK⟩ rfl rfl hl.1 rfl (lv_room (Nat.le_of_ble_eq_true rfl)) dX2_learn_16 ⟨Nat.zero_le _, Nat.zero_le _⟩) ?_
        refine lv_icmp_ge (tgt := 46) hx hb dX2_learn_19 (by decide) (fun c3 => ?_) (fun c3 => ?_)
        · replace h := ip c3 h
          obtain rfl := Option.some.inj h
          exact W.vret hx hb hr (fun t ht hW => ⟨⟨(), rfl, trivial, by rw [ht]; exact hP, hD⟩, hS.F ht⟩) hS.2.2 dX2_learn_46 hlocks
        replace h := im c3 h
        refine lv_aload_n hx hb dX2_learn_22 rfl (lv_at hl 0 rfl) ?_
        refine va_get (D := D) (ci := 2) (v := .ref (a0 3)) (C := RX2) (T := TX2) (N := 9) hx hb hts inX2_learn_2 hown hK.1 hP 0 rfl rfl 2 (by decide) (hts (.fieldLink RX2 23 "LyingScale$State" "liesOf" "[I") (List.mem_of_getElem? (i := 2) rfl)) (fun _ h9 => h9) rfl dX2_learn_23 ?_
        refine lv_iload hx hb dX2_learn_26 (lv_at hl 4 rfl) ?_
        refine lv_aload_n hx hb dX2_learn_28 rfl (lv_at hl 0 rfl) ?_
        refine lv_iload hx hb dX2_learn_29 (lv_at hl 4 rfl) ?_
        refine lv_iload_n hx hb dX2_learn_31 rfl (lv_at hl 1 rfl) ?_
        refine lv_iload_n hx hb dX2_learn_32 rfl (lv_at hl 2 rfl) ?_
        refine lv_iload_n hx hb dX2_learn_33 rfl (lv_at hl 3 rfl) ?_
        replace h := bd h
        obtain ⟨t4, et4, h⟩ := h
        refine callRi (v := t4) (va_runV (As := [.int i4_13, .int v1, .int v2, .int v3]) (rest := [.int i4_13, .ref (a0 3)]) ⟨hx, hb, hml, hown, hts⟩ (c_X2_liesIfTold l D T a0 x0_13 i4_13 v1 v2 v3 t4 et4) (cwV 4 hts gX2_learn_X2_liesIfTold rfl rfl rfl hdV_X2_liesIfTold ⟨Nat.le_of_ble_eq_true rfl, Nat.le_of_ble_eq_true rfl⟩) ⟨PB_blind, va_recv hK.1 hP (ci := 2) (q0 := 0) rfl rfl, PB_at hP hK⟩ rfl rfl hl.1 rfl (lv_room (Nat.le_of_ble_eq_true rfl)) dX2_learn_34 ⟨Nat.zero_le _, Nat.zero_le _⟩) ?_
        replace h := bd h
        obtain ⟨t5, et5, h⟩ := h
        refine callMv (wr := [(a0 0, .inr (2, [.ref (a0 1), .ref (a0 2), .ref (a0 3), .ref (a0 4), .int (x0_13.1 0), .int (x0_13.1 1), .int (x0_13.1 2), .int (x0_13.1 3), .int (x0_13.1 4)])), (a0 1, .inr (3, [.ref (a0 5), .ref (a0 6), .ref (a0 7), .int (x0_13.1 5)])), (a0 2, .inr (3, [.ref (a0 8), .ref (a0 9), .ref (a0 10), .int (x0_13.1 6)])), (a0 4, .inl (T 0, 33, .inl (x0_13.2 7))), (a0 5, .inl (T 0, 40, .inl (x0_13.2 0))), (a0 6, .inl (T 0, 40, .inl (x0_13.2 1))), (a0 7, .inl (T 0, 40, .inl (x0_13.2 2))), (a0 8, .inl (T 0, 8, .inl (x0_13.2 3))), (a0 9, .inl (T 0, 8, .inl (x0_13.2 4))), (a0 10, .inl (T 0, 8, .inl (x0_13.2 5)))]) (ws' := stW T a0 (sA x0_13 6 t5)) (va_runSN (As := [.ref (a0 3), .int i4_13, .int t4]) (rest := []) ⟨hx, hb, hml, hown, hts⟩ (c_X4_put l D T (a0 3) 33 (x0_13.2 6) i4_13 t4 _ (Nat.le_of_ble_eq_true rfl) t5 et5) ⟨va_cnB 3 hts gX2_learn_X4_put_n85 rfl rfl rfl (hK.2 (.methodLinkNest RX2 85 yX4_put "LyingScale") (List.mem_of_getElem? (i := 10) rfl)) (hts (.initialized RX4) (List.mem_of_getElem? (i := 13) rfl)) hdS_X4_put ⟨Nat.le_of_ble_eq_true rfl, Nat.le_of_ble_eq_true rfl⟩, (hts (.static yX4_put) (List.mem_of_getElem? (i := 12) rfl)), trivial⟩ ⟨PM_blind, PM_at (hP.sub (ws' := ([(a0 3, .inl (T 0, 33, .inl (x0_13.2 6)))] : va_W)) [3] rfl) (hD.sub (ws' := ([(a0 3, .inl (T 0, 33, .inl (x0_13.2 6)))] : va_W)) [3] (by decide) rfl) hK⟩ rfl rfl hl.1 rfl (lv_room (Nat.le_of_ble_eq_true rfl)) dX2_learn_37 ⟨Nat.zero_le _, Nat.zero_le _⟩) hS hA hP hD [3] [0, 1, 2, 4, 5, 6, 7, 8, 9, 10] rfl rfl (by decide) (by decide) [0, 1, 2, 10, 3, 4, 5, 6, 7, 8, 9] (by decide) rfl (fun H locs hP hD hS => ?_)
        refine lv_iinc (v := i4_13 + 1) (lv' := [(4, .int (i4_13 + 1)), (0, .ref (a0 0)), (1, .int v1), (2, .int v2), (3, .int v3)]) hx hb dX2_learn_40 hl (k := 4) rfl rfl (by decide) rfl (fun ls hl => ?_)
        refine lv_goto (tgt := 13) hx hb dX2_learn_43 (by decide) ?_
        exact ih13 (i4_13 + 1) (sA x0_13 6 t5) _ _ ls h hP hD hS (lv_sub hl [1, 2, 3, 4, 0] rfl)
  exact K13 1000 0 (tdU x0 t1) _ _ ls h hP hD hS (lv_sub hl [1, 2, 3, 4, 0] rfl)
set_option maxHeartbeats 4000000 in
set_option maxRecDepth 100000 in
theorem c_X2_forgetTold (l : Launch) (D : va_G) (T : Nat → ClassId) (a0 : Nat → Nat) (x0 : St) (sz : Nat) (r : St) (h : F_X2_forgetTold x0 = some r) : Met l yX2_forgetTold wsX2_forgetTold ({ frames := 1, cells := 0, slots := 0, locals := 22 } : Room) (va_Pc [.ref (a0 0)] (PM D T (stW T a0 (x0)) sz)) (QMv D (stW T a0 (r)) (va_A (stW T a0 (x0)) sz)) 0 0 (va_A (stW T a0 (x0)) sz) := by
  refine met_of (cc := cX2_forgetTold) (maxL := 2) (ret := none) (lv := [(0, .ref (a0 0))]) (by decide) rfl (Nat.le_of_ble_eq_true rfl) rfl ?_
  intro p e s m args below meth c ls C0 hl hB
  obtain ⟨hx, hb, hr, hml, hown, hts, hlocks, hname⟩ := C0
  obtain ⟨hsz, hP, hK, hD0⟩ := hB
  subst hsz
  have hD := hD0.self (sz := s.heap.size)
  generalize hAe : va_A (stW T a0 (x0)) s.heap.size = A at hD ⊢
  have hA : ∀ q : Nat, s.heap.size ≤ q → A q := fun q h => by rw [← hAe]; exact Or.inr h
  obtain ⟨H, hH⟩ : ∃ H, H = s.heap := ⟨_, rfl⟩
  obtain ⟨locs, hlo⟩ : ∃ L : List Loc, L = [] := ⟨_, rfl⟩
  have hS : va_S A s.heap s.heap [] := va_S.rf
  rw [← hH] at hP ⊢
  rw [← hlo]
  replace hS : va_S A s.heap H locs := by rw [hH, hlo]; exact hS
  clear hH hlo
  unfold F_X2_forgetTold at h
  refine lv_aload_n hx hb dX2_forgetTold_0 rfl (lv_at hl 0 rfl) ?_
  refine va_get (D := D) (ci := 2) (v := .ref (a0 1)) (C := RX2) (T := TX2) (N := 9) hx hb hts inX2_forgetTold_2 hown hK.1 hP 0 rfl rfl 0 (by decide) (hts (.fieldLink RX2 14 "LyingScale$State" "told" "LLyingScale$Weighings;") (List.mem_of_getElem? (i := 1) rfl)) (fun _ h9 => h9) rfl dX2_forgetTold_1 ?_
  refine lv_iconst (v := 0) hx hb dX2_forgetTold_4 (by decide) ?_
  refine va_putN (D := D) (ci := 3) (v := .int 0) (ty := .int) (C := RX3) (T := TX3) (N := 4) hx hb hts inX2_forgetTold_3 tyX3 tyX3_ok nmX3 hown hK.1 hP hD hS 1 rfl rfl 3 (by decide) (va_Nw.use rfl (hK.2 (.fieldLinkNest RX2 40 "LyingScale$Weighings" "count" "I" "LyingScale") (List.mem_of_getElem? (i := 6) rfl))) (fun _ h9 => h9) rfl (by decide +kernel) rfl rfl (Nat.le_of_ble_eq_true rfl) dX2_forgetTold_5 (fun H locs hP hD hS => ?_)
  replace hP : va_P D vwCl (stW T a0 (sI x0 5 0)) H := hP
  replace hD : va_D A (stW T a0 (sI x0 5 0)) := hD
  refine lv_iconst (v := 0) hx hb dX2_forgetTold_8 (by decide) ?_
  refine lv_istore_n (lv' := [(1, .int 0), (0, .ref (a0 0))]) hx hb dX2_forgetTold_9 rfl hl (by decide) rfl (fun ls hl => ?_)
  have K10 : ∀ (n10 : Nat) (i1_10 : Int32) (x0_10 : St) (H : Heap) (locs : List Loc) (ls : Array Slot), fx2 (B_X2_forgetTold_10) n10 i1_10 x0_10 = some r → va_P D vwCl (stW T a0 (x0_10)) H → va_D A (stW T a0 (x0_10)) → va_S A s.heap H locs → lv_has ls 2 [(0, .ref (a0 0)), (1, .int i1_10)] → W p l e ({ frames := 1, cells := 0, slots := 0, locals := 22 } : Room) s m args below meth c H locs 0 0 (MQ below (QMv D (stW T a0 (r)) A) args s 0 0 (A)) (F0 m 10 ls []) := by
    intro n10
    induction n10 with
    | zero =>
        intro i1_10 x0_10 H locs ls h
        cases h
    | succ n10 ih10 =>
        intro i1_10 x0_10 H locs ls h hP hD hS hl
        replace h : B_X2_forgetTold_10 (fx2 (B_X2_forgetTold_10) n10) i1_10 x0_10 = some r := h
        unfold B_X2_forgetTold_10 at h
        refine lv_iload_n hx hb dX2_forgetTold_10 rfl (lv_at hl 1 rfl) ?_
        refine lv_bipush (v := 33) hx hb dX2_forgetTold_11 (by decide) ?_
        refine lv_icmp_ge (tgt := 31) hx hb dX2_forgetTold_13 (by decide) (fun c1 => ?_) (fun c1 => ?_)
        · replace h := ip c1 h
          obtain rfl := Option.some.inj h
          exact W.vret hx hb hr (fun t ht hW => ⟨⟨(), rfl, trivial, by rw [ht]; exact hP, hD⟩, hS.F ht⟩) hS.2.2 dX2_forgetTold_31 hlocks
        replace h := im c1 h
        refine lv_aload_n hx hb dX2_forgetTold_16 rfl (lv_at hl 0 rfl) ?_
        refine va_get (D := D) (ci := 2) (v := .ref (a0 3)) (C := RX2) (T := TX2) (N := 9) hx hb hts inX2_forgetTold_2 hown hK.1 hP 0 rfl rfl 2 (by decide) (hts (.fieldLink RX2 23 "LyingScale$State" "liesOf" "[I") (List.mem_of_getElem? (i := 2) rfl)) (fun _ h9 => h9) rfl dX2_forgetTold_17 ?_
        refine lv_iload_n hx hb dX2_forgetTold_20 rfl (lv_at hl 1 rfl) ?_
        refine lv_iconst (v := 0) hx hb dX2_forgetTold_21 (by decide) ?_
        replace h := bd h
        obtain ⟨t2, et2, h⟩ := h
        refine callMv (wr := [(a0 0, .inr (2, [.ref (a0 1), .ref (a0 2), .ref (a0 3), .ref (a0 4), .int (x0_10.1 0), .int (x0_10.1 1), .int (x0_10.1 2), .int (x0_10.1 3), .int (x0_10.1 4)])), (a0 1, .inr (3, [.ref (a0 5), .ref (a0 6), .ref (a0 7), .int (x0_10.1 5)])), (a0 2, .inr (3, [.ref (a0 8), .ref (a0 9), .ref (a0 10), .int (x0_10.1 6)])), (a0 4, .inl (T 0, 33, .inl (x0_10.2 7))), (a0 5, .inl (T 0, 40, .inl (x0_10.2 0))), (a0 6, .inl (T 0, 40, .inl (x0_10.2 1))), (a0 7, .inl (T 0, 40, .inl (x0_10.2 2))), (a0 8, .inl (T 0, 8, .inl (x0_10.2 3))), (a0 9, .inl (T 0, 8, .inl (x0_10.2 4))), (a0 10, .inl (T 0, 8, .inl (x0_10.2 5)))]) (ws' := stW T a0 (sA x0_10 6 t2)) (va_runSN (As := [.ref (a0 3), .int i1_10, .int 0]) (rest := []) ⟨hx, hb, hml, hown, hts⟩ (c_X4_put l D T (a0 3) 33 (x0_10.2 6) i1_10 0 _ (Nat.le_of_ble_eq_true rfl) t2 et2) ⟨va_cnB 3 hts gX2_forgetTold_X4_put_n85 rfl rfl rfl (hK.2 (.methodLinkNest RX2 85 yX4_put "LyingScale") (List.mem_of_getElem? (i := 10) rfl)) (hts (.initialized RX4) (List.mem_of_getElem? (i := 4) rfl)) hdS_X4_put ⟨Nat.le_of_ble_eq_true rfl, Nat.le_of_ble_eq_true rfl⟩, (hts (.static yX4_put) (List.mem_of_getElem? (i := 3) rfl)), trivial⟩ ⟨PM_blind, PM_at (hP.sub (ws' := ([(a0 3, .inl (T 0, 33, .inl (x0_10.2 6)))] : va_W)) [3] rfl) (hD.sub (ws' := ([(a0 3, .inl (T 0, 33, .inl (x0_10.2 6)))] : va_W)) [3] (by decide) rfl) hK⟩ rfl rfl hl.1 rfl (lv_room (Nat.le_of_ble_eq_true rfl)) dX2_forgetTold_22 ⟨Nat.zero_le _, Nat.zero_le _⟩) hS hA hP hD [3] [0, 1, 2, 4, 5, 6, 7, 8, 9, 10] rfl rfl (by decide) (by decide) [0, 1, 2, 10, 3, 4, 5, 6, 7, 8, 9] (by decide) rfl (fun H locs hP hD hS => ?_)
        refine lv_iinc (v := i1_10 + 1) (lv' := [(1, .int (i1_10 + 1)), (0, .ref (a0 0))]) hx hb dX2_forgetTold_25 hl (k := 1) rfl rfl (by decide) rfl (fun ls hl => ?_)
        refine lv_goto (tgt := 10) hx hb dX2_forgetTold_28 (by decide) ?_
        exact ih10 (i1_10 + 1) (sA x0_10 6 t2) _ _ ls h hP hD hS (lv_sub hl [1, 0] rfl)
  exact K10 1000 0 (sI x0 5 0) _ _ ls h hP hD hS (lv_sub hl [1, 0] rfl)
set_option maxHeartbeats 4000000 in
set_option maxRecDepth 100000 in
theorem c_X2_hideCase (l : Launch) (D : va_G) (T : Nat → ClassId) (a0 : Nat → Nat) (x0 : St) (v1 : Int32) (v2 : Int32) (sz : Nat) (r : St) (h : F_X2_hideCase x0 v1 v2 = some r) : Met l yX2_hideCase wsX2_hideCase ({ frames := 0, cells := 0, slots := 0, locals := 0 } : Room) (va_Pc [.ref (a0 0), .int v1, .int v2] (PM D T (stW T a0 (x0)) sz)) (QMv D (stW T a0 (r)) (va_A (stW T a0 (x0)) sz)) 0 0 (va_A (stW T a0 (x0)) sz) := by
  refine met_of (cc := cX2_hideCase) (maxL := 3) (ret := none) (lv := [(0, .ref (a0 0)), (1, .int v1), (2, .int v2)]) (by decide) rfl (Nat.le_of_ble_eq_true rfl) rfl ?_
  intro p e s m args below meth c ls C0 hl hB
  obtain ⟨hx, hb, hr, hml, hown, hts, hlocks, hname⟩ := C0
  obtain ⟨hsz, hP, hK, hD0⟩ := hB
  subst hsz
  have hD := hD0.self (sz := s.heap.size)
  generalize hAe : va_A (stW T a0 (x0)) s.heap.size = A at hD ⊢
  have hA : ∀ q : Nat, s.heap.size ≤ q → A q := fun q h => by rw [← hAe]; exact Or.inr h
  obtain ⟨H, hH⟩ : ∃ H, H = s.heap := ⟨_, rfl⟩
  obtain ⟨locs, hlo⟩ : ∃ L : List Loc, L = [] := ⟨_, rfl⟩
  have hS : va_S A s.heap s.heap [] := va_S.rf
  rw [← hH] at hP ⊢
  rw [← hlo]
  replace hS : va_S A s.heap H locs := by rw [hH, hlo]; exact hS
  clear hH hlo
  unfold F_X2_hideCase at h
  refine lv_aload_n hx hb dX2_hideCase_0 rfl (lv_at hl 0 rfl) ?_
  refine lv_iload_n hx hb dX2_hideCase_1 rfl (lv_at hl 1 rfl) ?_
  refine va_put (D := D) (ci := 2) (v := .int v1) (ty := .int) (C := RX2) (T := TX2) (N := 9) hx hb hts inX2_hideCase_2 tyX2 tyX2_ok nmX2 hown hK.1 hP hD hS 0 rfl rfl 6 (by decide) (hts (.fieldLink RX2 58 "LyingScale$State" "hidden" "I") (List.mem_of_getElem? (i := 1) rfl)) (fun _ h9 => h9) rfl (by decide +kernel) rfl rfl (Nat.le_of_ble_eq_true rfl) dX2_hideCase_2 (fun H locs hP hD hS => ?_)
  replace hP : va_P D vwCl (stW T a0 (sI x0 2 v1)) H := hP
  replace hD : va_D A (stW T a0 (sI x0 2 v1)) := hD
  refine lv_aload_n hx hb dX2_hideCase_5 rfl (lv_at hl 0 rfl) ?_
  refine lv_iload_n hx hb dX2_hideCase_6 rfl (lv_at hl 2 rfl) ?_
  refine va_put (D := D) (ci := 2) (v := .int v2) (ty := .int) (C := RX2) (T := TX2) (N := 9) hx hb hts inX2_hideCase_2 tyX2 tyX2_ok nmX2 hown hK.1 hP hD hS 0 rfl rfl 7 (by decide) (hts (.fieldLink RX2 61 "LyingScale$State" "lieSet" "I") (List.mem_of_getElem? (i := 2) rfl)) (fun _ h9 => h9) rfl (by decide +kernel) rfl rfl (Nat.le_of_ble_eq_true rfl) dX2_hideCase_7 (fun H locs hP hD hS => ?_)
  replace hP : va_P D vwCl (stW T a0 (sI (sI x0 2 v1) 3 v2)) H := hP
  replace hD : va_D A (stW T a0 (sI (sI x0 2 v1) 3 v2)) := hD
  refine lv_aload_n hx hb dX2_hideCase_10 rfl (lv_at hl 0 rfl) ?_
  refine lv_iconst (v := 0) hx hb dX2_hideCase_11 (by decide) ?_
  refine va_put (D := D) (ci := 2) (v := .int 0) (ty := .int) (C := RX2) (T := TX2) (N := 9) hx hb hts inX2_hideCase_2 tyX2 tyX2_ok nmX2 hown hK.1 hP hD hS 0 rfl rfl 8 (by decide) (hts (.fieldLink RX2 64 "LyingScale$State" "answered" "I") (List.mem_of_getElem? (i := 3) rfl)) (fun _ h9 => h9) rfl (by decide +kernel) rfl rfl (Nat.le_of_ble_eq_true rfl) dX2_hideCase_12 (fun H locs hP hD hS => ?_)
  replace hP : va_P D vwCl (stW T a0 (sI (sI (sI x0 2 v1) 3 v2) 4 0)) H := hP
  replace hD : va_D A (stW T a0 (sI (sI (sI x0 2 v1) 3 v2) 4 0)) := hD
  obtain rfl := Option.some.inj h
  exact W.vret hx hb hr (fun t ht hW => ⟨⟨(), rfl, trivial, by rw [ht]; exact hP, hD⟩, hS.F ht⟩) hS.2.2 dX2_hideCase_15 hlocks
set_option maxHeartbeats 4000000 in
set_option maxRecDepth 100000 in
theorem c_X2_start (l : Launch) (D : va_G) (T : Nat → ClassId) (a0 : Nat → Nat) (x0 : St) (v1 : Int32) (sz : Nat) (r : St) (h : F_X2_start x0 v1 = some r) : Met l yX2_start wsX2_start ({ frames := 2, cells := 0, slots := 0, locals := 43 } : Room) (va_Pc [.ref (a0 0), .int v1] (PM D T (stW T a0 (x0)) sz)) (QMv D (stW T a0 (r)) (va_A (stW T a0 (x0)) sz)) 0 0 (va_A (stW T a0 (x0)) sz) := by
  refine met_of (cc := cX2_start) (maxL := 2) (ret := none) (lv := [(0, .ref (a0 0)), (1, .int v1)]) (by decide) rfl (Nat.le_of_ble_eq_true rfl) rfl ?_
  intro p e s m args below meth c ls C0 hl hB
  obtain ⟨hx, hb, hr, hml, hown, hts, hlocks, hname⟩ := C0
  obtain ⟨hsz, hP, hK, hD0⟩ := hB
  subst hsz
  have hD := hD0.self (sz := s.heap.size)
  generalize hAe : va_A (stW T a0 (x0)) s.heap.size = A at hD ⊢
  have hA : ∀ q : Nat, s.heap.size ≤ q → A q := fun q h => by rw [← hAe]; exact Or.inr h
  obtain ⟨H, hH⟩ : ∃ H, H = s.heap := ⟨_, rfl⟩
  obtain ⟨locs, hlo⟩ : ∃ L : List Loc, L = [] := ⟨_, rfl⟩
  have hS : va_S A s.heap s.heap [] := va_S.rf
  rw [← hH] at hP ⊢
  rw [← hlo]
  replace hS : va_S A s.heap H locs := by rw [hH, hlo]; exact hS
  clear hH hlo
  unfold F_X2_start at h
  refine lv_aload_n hx hb dX2_start_0 rfl (lv_at hl 0 rfl) ?_
  refine lv_iload_n hx hb dX2_start_1 rfl (lv_at hl 1 rfl) ?_
  refine va_put (D := D) (ci := 2) (v := .int v1) (ty := .int) (C := RX2) (T := TX2) (N := 9) hx hb hts inX2_start_2 tyX2 tyX2_ok nmX2 hown hK.1 hP hD hS 0 rfl rfl 4 (by decide) (hts (.fieldLink RX2 33 "LyingScale$State" "coins" "I") (List.mem_of_getElem? (i := 1) rfl)) (fun _ h9 => h9) rfl (by decide +kernel) rfl rfl (Nat.le_of_ble_eq_true rfl) dX2_start_2 (fun H locs hP hD hS => ?_)
  replace hP : va_P D vwCl (stW T a0 (sI x0 0 v1)) H := hP
  replace hD : va_D A (stW T a0 (sI x0 0 v1)) := hD
  refine lv_aload_n hx hb dX2_start_5 rfl (lv_at hl 0 rfl) ?_
  refine lv_iconst (v := 1) hx hb dX2_start_6 (by decide) ?_
  refine va_put (D := D) (ci := 2) (v := .int 1) (ty := .int) (C := RX2) (T := TX2) (N := 9) hx hb hts inX2_start_2 tyX2 tyX2_ok nmX2 hown hK.1 hP hD hS 0 rfl rfl 5 (by decide) (hts (.fieldLink RX2 37 "LyingScale$State" "limit" "I") (List.mem_of_getElem? (i := 2) rfl)) (fun _ h9 => h9) rfl (by decide +kernel) rfl rfl (Nat.le_of_ble_eq_true rfl) dX2_start_7 (fun H locs hP hD hS => ?_)
  replace hP : va_P D vwCl (stW T a0 (sI (sI x0 0 v1) 1 1)) H := hP
  replace hD : va_D A (stW T a0 (sI (sI x0 0 v1) 1 1)) := hD
  refine lv_aload_n hx hb dX2_start_10 rfl (lv_at hl 0 rfl) ?_
  refine va_get (D := D) (ci := 2) (v := .ref (a0 2)) (C := RX2) (T := TX2) (N := 9) hx hb hts inX2_start_2 hown hK.1 hP 0 rfl rfl 1 (by decide) (hts (.fieldLink RX2 20 "LyingScale$State" "plan" "LLyingScale$Weighings;") (List.mem_of_getElem? (i := 3) rfl)) (fun _ h9 => h9) rfl dX2_start_11 ?_
  refine lv_iconst (v := 0) hx hb dX2_start_14 (by decide) ?_
  refine va_putN (D := D) (ci := 3) (v := .int 0) (ty := .int) (C := RX3) (T := TX3) (N := 4) hx hb hts inX2_start_3 tyX3 tyX3_ok nmX3 hown hK.1 hP hD hS 2 rfl rfl 3 (by decide) (va_Nw.use rfl (hK.2 (.fieldLinkNest RX2 40 "LyingScale$Weighings" "count" "I" "LyingScale") (List.mem_of_getElem? (i := 6) rfl))) (fun _ h9 => h9) rfl (by decide +kernel) rfl rfl (Nat.le_of_ble_eq_true rfl) dX2_start_15 (fun H locs hP hD hS => ?_)
  replace hP : va_P D vwCl (stW T a0 (sI (sI (sI x0 0 v1) 1 1) 6 0)) H := hP
  replace hD : va_D A (stW T a0 (sI (sI (sI x0 0 v1) 1 1) 6 0)) := hD
  refine lv_aload_n hx hb dX2_start_18 rfl (lv_at hl 0 rfl) ?_
  refine lv_iconst (v := (-1)) hx hb dX2_start_19 (by decide) ?_
  refine lv_iconst (v := 0) hx hb dX2_start_20 (by decide) ?_
  replace h := bd h
  obtain ⟨t1, et1, h⟩ := h
  refine callMv (wr := []) (ws' := stW T a0 (t1)) (va_runV (As := [.int ((-1)), .int 0]) (rest := []) ⟨hx, hb, hml, hown, hts⟩ (c_X2_hideCase l D T a0 (sI (sI (sI x0 0 v1) 1 1) 6 0) ((-1)) 0 _ t1 et1) (cwV 2 hts gX2_start_X2_hideCase rfl rfl rfl hdV_X2_hideCase ⟨Nat.le_of_ble_eq_true rfl, Nat.le_of_ble_eq_true rfl⟩) ⟨PM_blind, va_recv hK.1 hP (ci := 2) (q0 := 0) rfl rfl, PM_at hP hD hK⟩ rfl rfl hl.1 rfl (lv_room (Nat.le_of_ble_eq_true rfl)) dX2_start_21 ⟨Nat.zero_le _, Nat.zero_le _⟩) hS hA hP hD [0, 1, 2, 3, 4, 5, 6, 7, 8, 9, 10] [] rfl rfl (by decide) (by decide) [0, 1, 2, 3, 4, 5, 6, 7, 8, 9, 10] (by decide) rfl (fun H locs hP hD hS => ?_)
  refine lv_aload_n hx hb dX2_start_24 rfl (lv_at hl 0 rfl) ?_
  replace h := bd h
  obtain ⟨t2, et2, h⟩ := h
  refine callMv (wr := []) (ws' := stW T a0 (t2)) (va_runV (As := []) (rest := []) ⟨hx, hb, hml, hown, hts⟩ (c_X2_forgetTold l D T a0 t1 _ t2 et2) (cwV 0 hts gX2_start_X2_forgetTold rfl rfl rfl hdV_X2_forgetTold ⟨Nat.le_of_ble_eq_true rfl, Nat.le_of_ble_eq_true rfl⟩) ⟨PM_blind, va_recv hK.1 hP (ci := 2) (q0 := 0) rfl rfl, PM_at hP hD hK⟩ rfl rfl hl.1 rfl (lv_room (Nat.le_of_ble_eq_true rfl)) dX2_start_25 ⟨Nat.zero_le _, Nat.zero_le _⟩) hS hA hP hD [0, 1, 2, 3, 4, 5, 6, 7, 8, 9, 10] [] rfl rfl (by decide) (by decide) [0, 1, 2, 3, 4, 5, 6, 7, 8, 9, 10] (by decide) rfl (fun H locs hP hD hS => ?_)
  obtain rfl := Option.some.inj h
  exact W.vret hx hb hr (fun t ht hW => ⟨⟨(), rfl, trivial, by rw [ht]; exact hP, hD⟩, hS.F ht⟩) hS.2.2 dX2_start_28 hlocks
set_option maxHeartbeats 4000000 in
set_option maxRecDepth 100000 in
theorem c_X2_canReply (l : Launch) (D : va_G) (T : Nat → ClassId) (a0 : Nat → Nat) (x0 : St) (r : Int32) (h : F_X2_canReply x0 = some r) : Met l yX2_canReply wsX2_canReply ({ frames := 1, cells := 0, slots := 0, locals := 20 } : Room) (va_Pc [.ref (a0 0)] (PB D T (stW T a0 (x0)))) (QRi r) 0 0 (fun _ => False) := by
  refine met_of (cc := cX2_canReply) (maxL := 1) (ret := (some .boolean)) (lv := [(0, .ref (a0 0))]) (by decide) rfl (Nat.le_of_ble_eq_true rfl) rfl ?_
  intro p e s m args below meth c ls C0 hl hB
  obtain ⟨hx, hb, hr, hml, hown, hts, hlocks, hname⟩ := C0
  obtain ⟨hP, hK⟩ := hB
  unfold F_X2_canReply at h
  refine lv_aload_n hx hb dX2_canReply_0 rfl (lv_at hl 0 rfl) ?_
  refine va_get (D := D) (ci := 2) (v := .int (x0.1 2)) (C := RX2) (T := TX2) (N := 9) hx hb hts inX2_canReply_2 hown hK.1 hP 0 rfl rfl 6 (by decide) (hts (.fieldLink RX2 58 "LyingScale$State" "hidden" "I") (List.mem_of_getElem? (i := 1) rfl)) (fun _ h9 => h9) rfl dX2_canReply_1 ?_
  refine lv_iconst (v := (-1)) hx hb dX2_canReply_4 (by decide) ?_
  refine lv_icmp_eq (tgt := 28) hx hb dX2_canReply_5 (by decide) (fun c1 => ?_) (fun c1 => ?_)
  · replace h := ip c1 h
    refine lv_iconst (v := 0) hx hb dX2_canReply_28 (by decide) ?_
    exact W.zret hx hb hr rfl (fun t ht hW => ⟨_, rfl, Option.some.inj h, ht⟩) (fun q hq => absurd hq List.not_mem_nil) dX2_canReply_29 hlocks
  replace h := im c1 h
  refine lv_aload_n hx hb dX2_canReply_8 rfl (lv_at hl 0 rfl) ?_
  replace h := bd h
  obtain ⟨t2, et2, h⟩ := h
  refine callRi (v := t2) (va_runV (As := []) (rest := []) ⟨hx, hb, hml, hown, hts⟩ (c_X2_canLearn l D T a0 x0 t2 et2) (cwV 0 hts gX2_canReply_X2_canLearn rfl rfl rfl hdV_X2_canLearn ⟨Nat.le_of_ble_eq_true rfl, Nat.le_of_ble_eq_true rfl⟩) ⟨PB_blind, va_recv hK.1 hP (ci := 2) (q0 := 0) rfl rfl, PB_at hP hK⟩ rfl rfl hl.1 rfl (lv_room (Nat.le_of_ble_eq_true rfl)) dX2_canReply_9 ⟨Nat.zero_le _, Nat.zero_le _⟩) ?_
  refine lv_if_eq (tgt := 28) hx hb dX2_canReply_12 (by decide) (fun c3 => ?_) (fun c3 => ?_)
  · replace h := ip c3 h
    refine lv_iconst (v := 0) hx hb dX2_canReply_28 (by decide) ?_
    exact W.zret hx hb hr rfl (fun t ht hW => ⟨_, rfl, Option.some.inj h, ht⟩) (fun q hq => absurd hq List.not_mem_nil) dX2_canReply_29 hlocks
  replace h := im c3 h
  refine lv_aload_n hx hb dX2_canReply_15 rfl (lv_at hl 0 rfl) ?_
  refine va_get (D := D) (ci := 2) (v := .int (x0.1 4)) (C := RX2) (T := TX2) (N := 9) hx hb hts inX2_canReply_2 hown hK.1 hP 0 rfl rfl 8 (by decide) (hts (.fieldLink RX2 64 "LyingScale$State" "answered" "I") (List.mem_of_getElem? (i := 2) rfl)) (fun _ h9 => h9) rfl dX2_canReply_16 ?_
  refine lv_bipush (v := 30) hx hb dX2_canReply_19 (by decide) ?_
  refine lv_icmp_ge (tgt := 28) hx hb dX2_canReply_21 (by decide) (fun c4 => ?_) (fun c4 => ?_)
  · replace h := ip c4 h
    refine lv_iconst (v := 0) hx hb dX2_canReply_28 (by decide) ?_
    exact W.zret hx hb hr rfl (fun t ht hW => ⟨_, rfl, Option.some.inj h, ht⟩) (fun q hq => absurd hq List.not_mem_nil) dX2_canReply_29 hlocks
  replace h := im c4 h
  refine lv_iconst (v := 1) hx hb dX2_canReply_24 (by decide) ?_
  refine lv_goto (tgt := 29) hx hb dX2_canReply_25 (by decide) ?_
  exact W.zret hx hb hr rfl (fun t ht hW => ⟨_, rfl, Option.some.inj h, ht⟩) (fun q hq => absurd hq List.not_mem_nil) dX2_canReply_29 hlocks
set_option maxHeartbeats 4000000 in
set_option maxRecDepth 100000 in
theorem c_X2_reply (l : Launch) (D : va_G) (T : Nat → ClassId) (a0 : Nat → Nat) (x0 : St) (v1 : Int32) (v2 : Int32) (sz : Nat) (r : Int32 × St) (h : F_X2_reply x0 v1 v2 = some r) : Met l yX2_reply wsX2_reply ({ frames := 4, cells := 0, slots := 0, locals := 93 } : Room) (va_Pc [.ref (a0 0), .int v1, .int v2] (PM D T (stW T a0 (x0)) sz)) (QMi D (stW T a0 (r.2)) r.1 (va_A (stW T a0 (x0)) sz)) 0 0 (va_A (stW T a0 (x0)) sz) := by
  refine met_of (cc := cX2_reply) (maxL := 4) (ret := (some .int)) (lv := [(0, .ref (a0 0)), (1, .int v1), (2, .int v2)]) (by decide) rfl (Nat.le_of_ble_eq_true rfl) rfl ?_
  intro p e s m args below meth c ls C0 hl hB
  obtain ⟨hx, hb, hr, hml, hown, hts, hlocks, hname⟩ := C0
  obtain ⟨hsz, hP, hK, hD0⟩ := hB
  subst hsz
  have hD := hD0.self (sz := s.heap.size)
  generalize hAe : va_A (stW T a0 (x0)) s.heap.size = A at hD ⊢
  have hA : ∀ q : Nat, s.heap.size ≤ q → A q := fun q h => by rw [← hAe]; exact Or.inr h
  obtain ⟨H, hH⟩ : ∃ H, H = s.heap := ⟨_, rfl⟩
  obtain ⟨locs, hlo⟩ : ∃ L : List Loc, L = [] := ⟨_, rfl⟩
  have hS : va_S A s.heap s.heap [] := va_S.rf
  rw [← hH] at hP ⊢
  rw [← hlo]
  replace hS : va_S A s.heap H locs := by rw [hH, hlo]; exact hS
  clear hH hlo
  unfold F_X2_reply at h
  refine lv_aload_n hx hb dX2_reply_0 rfl (lv_at hl 0 rfl) ?_
  refine va_get (D := D) (ci := 2) (v := .int (x0.1 2)) (C := RX2) (T := TX2) (N := 9) hx hb hts inX2_reply_2 hown hK.1 hP 0 rfl rfl 6 (by decide) (hts (.fieldLink RX2 58 "LyingScale$State" "hidden" "I") (List.mem_of_getElem? (i := 1) rfl)) (fun _ h9 => h9) rfl dX2_reply_1 ?_
  refine lv_iload_n hx hb dX2_reply_4 rfl (lv_at hl 1 rfl) ?_
  refine lv_iload_n hx hb dX2_reply_5 rfl (lv_at hl 2 rfl) ?_
  replace h := bd h
  obtain ⟨t1, et1, h⟩ := h
  refine callRi (v := t1) (va_runSN (As := [.int (x0.1 2), .int v1, .int v2]) (rest := []) ⟨hx, hb, hml, hown, hts⟩ (c_X4_trueAnswer l D T (x0.1 2) v1 v2 t1 et1) ⟨va_cnB 3 hts gX2_reply_X4_trueAnswer_n93 rfl rfl rfl (hK.2 (.methodLinkNest RX2 93 yX4_trueAnswer "LyingScale") (List.mem_of_getElem? (i := 12) rfl)) (hts (.initialized RX4) (List.mem_of_getElem? (i := 5) rfl)) hdS_X4_trueAnswer ⟨Nat.le_of_ble_eq_true rfl, Nat.le_of_ble_eq_true rfl⟩, (hts (.static yX4_trueAnswer) (List.mem_of_getElem? (i := 4) rfl)), trivial⟩ ⟨PB_blind, PB_at (hP.sub (ws' := ([] : va_W)) [] rfl) hK⟩ rfl rfl hl.1 rfl (lv_room (Nat.le_of_ble_eq_true rfl)) dX2_reply_6 ⟨Nat.zero_le _, Nat.zero_le _⟩) ?_
  refine lv_istore_n (lv' := [(3, .int t1), (0, .ref (a0 0)), (1, .int v1), (2, .int v2)]) hx hb dX2_reply_9 rfl hl (by decide) rfl (fun ls hl => ?_)
  refine lv_aload_n hx hb dX2_reply_10 rfl (lv_at hl 1 rfl) ?_
  refine va_get (D := D) (ci := 2) (v := .int (x0.1 3)) (C := RX2) (T := TX2) (N := 9) hx hb hts inX2_reply_2 hown hK.1 hP 0 rfl rfl 7 (by decide) (hts (.fieldLink RX2 61 "LyingScale$State" "lieSet" "I") (List.mem_of_getElem? (i := 2) rfl)) (fun _ h9 => h9) rfl dX2_reply_11 ?_
  refine lv_aload_n hx hb dX2_reply_14 rfl (lv_at hl 1 rfl) ?_
  refine va_get (D := D) (ci := 2) (v := .int (x0.1 4)) (C := RX2) (T := TX2) (N := 9) hx hb hts inX2_reply_2 hown hK.1 hP 0 rfl rfl 8 (by decide) (hts (.fieldLink RX2 64 "LyingScale$State" "answered" "I") (List.mem_of_getElem? (i := 3) rfl)) (fun _ h9 => h9) rfl dX2_reply_15 ?_
  refine lv_iushr (v := ((x0.1 3).toUInt32 >>> ((x0.1 4).toUInt32 &&& Int32.toUInt32 31)).toInt32) hx hb dX2_reply_18 rfl ?_
  refine lv_iconst (v := 1) hx hb dX2_reply_19 (by decide) ?_
  refine lv_iand hx hb dX2_reply_20 ?_
  refine lv_iconst (v := 1) hx hb dX2_reply_21 (by decide) ?_
  refine lv_icmp_ne (tgt := 38) hx hb dX2_reply_22 (by decide) (fun c2 => ?_) (fun c2 => ?_)
  · replace h := im c2 h
    refine lv_aload_n hx hb dX2_reply_38 rfl (lv_at hl 1 rfl) ?_
    refine lv_dup hx hb dX2_reply_39 rfl ?_
    refine va_get (D := D) (ci := 2) (v := .int (x0.1 4)) (C := RX2) (T := TX2) (N := 9) hx hb hts inX2_reply_2 hown hK.1 hP 0 rfl rfl 8 (by decide) (hts (.fieldLink RX2 64 "LyingScale$State" "answered" "I") (List.mem_of_getElem? (i := 3) rfl)) (fun _ h9 => h9) rfl dX2_reply_40 ?_
    refine lv_iconst (v := 1) hx hb dX2_reply_43 (by decide) ?_
    refine lv_iadd hx hb dX2_reply_44 ?_
    refine va_put (D := D) (ci := 2) (v := .int ((x0.1 4) + 1)) (ty := .int) (C := RX2) (T := TX2) (N := 9) hx hb hts inX2_reply_2 tyX2 tyX2_ok nmX2 hown hK.1 hP hD hS 0 rfl rfl 8 (by decide) (hts (.fieldLink RX2 64 "LyingScale$State" "answered" "I") (List.mem_of_getElem? (i := 3) rfl)) (fun _ h9 => h9) rfl (by decide +kernel) rfl rfl (Nat.le_of_ble_eq_true rfl) dX2_reply_45 (fun H locs hP hD hS => ?_)
    replace hP : va_P D vwCl (stW T a0 (sI x0 4 ((x0.1 4) + 1))) H := hP
    replace hD : va_D A (stW T a0 (sI x0 4 ((x0.1 4) + 1))) := hD
    refine lv_aload_n hx hb dX2_reply_48 rfl (lv_at hl 1 rfl) ?_
    refine lv_iload_n hx hb dX2_reply_49 rfl (lv_at hl 2 rfl) ?_
    refine lv_iload_n hx hb dX2_reply_50 rfl (lv_at hl 3 rfl) ?_
    refine lv_iload_n hx hb dX2_reply_51 rfl (lv_at hl 0 rfl) ?_
    replace h := bd h
    obtain ⟨t3, et3, h⟩ := h
    refine callMv (wr := []) (ws' := stW T a0 (t3)) (va_runV (As := [.int v1, .int v2, .int t1]) (rest := []) ⟨hx, hb, hml, hown, hts⟩ (c_X2_learn l D T a0 (sI x0 4 ((x0.1 4) + 1)) v1 v2 t1 _ t3 et3) (cwV 3 hts gX2_reply_X2_learn rfl rfl rfl hdV_X2_learn ⟨Nat.le_of_ble_eq_true rfl, Nat.le_of_ble_eq_true rfl⟩) ⟨PM_blind, va_recv hK.1 hP (ci := 2) (q0 := 0) rfl rfl, PM_at hP hD hK⟩ rfl rfl hl.1 rfl (lv_room (Nat.le_of_ble_eq_true rfl)) dX2_reply_52 ⟨Nat.zero_le _, Nat.zero_le _⟩) hS hA hP hD [0, 1, 2, 3, 4, 5, 6, 7, 8, 9, 10] [] rfl rfl (by decide) (by decide) [0, 1, 2, 3, 4, 5, 6, 7, 8, 9, 10] (by decide) rfl (fun H locs hP hD hS => ?_)
    refine lv_iload_n hx hb dX2_reply_55 rfl (lv_at hl 0 rfl) ?_
    obtain rfl := Option.some.inj h
    exact W.iret hx hb hr (fun t ht hW => ⟨⟨_, (), rfl, rfl, by rw [ht]; exact hP, hD⟩, hS.F ht⟩) hS.2.2 dX2_reply_56 hlocks
  replace h := ip c2 h
  refine lv_iload_n hx hb dX2_reply_25 rfl (lv_at hl 0 rfl) ?_
  refine lv_iconst (v := 2) hx hb dX2_reply_26 (by decide) ?_
  refine lv_icmp_ne (tgt := 34) hx hb dX2_reply_27 (by decide) (fun c4 => ?_) (fun c4 => ?_)
  · replace h := im c4 h
    refine lv_iload_n hx hb dX2_reply_34 rfl (lv_at hl 0 rfl) ?_
    refine lv_iconst (v := 1) hx hb dX2_reply_35 (by decide) ?_
    refine lv_iadd hx hb dX2_reply_36 ?_
    refine lv_istore_n (lv' := [(3, .int (t1 + 1)), (0, .ref (a0 0)), (1, .int v1), (2, .int v2)]) hx hb dX2_reply_37 rfl hl (by decide) rfl (fun ls hl => ?_)
    refine lv_aload_n hx hb dX2_reply_38 rfl (lv_at hl 1 rfl) ?_
    refine lv_dup hx hb dX2_reply_39 rfl ?_
    refine va_get (D := D) (ci := 2) (v := .int (x0.1 4)) (C := RX2) (T := TX2) (N := 9) hx hb hts inX2_reply_2 hown hK.1 hP 0 rfl rfl 8 (by decide) (hts (.fieldLink RX2 64 "LyingScale$State" "answered" "I") (List.mem_of_getElem? (i := 3) rfl)) (fun _ h9 => h9) rfl dX2_reply_40 ?_
    refine lv_iconst (v := 1) hx hb dX2_reply_43 (by decide) ?_
    refine lv_iadd hx hb dX2_reply_44 ?_
    refine va_put (D := D) (ci := 2) (v := .int ((x0.1 4) + 1)) (ty := .int) (C := RX2) (T := TX2) (N := 9) hx hb hts inX2_reply_2 tyX2 tyX2_ok nmX2 hown hK.1 hP hD hS 0 rfl rfl 8 (by decide) (hts (.fieldLink RX2 64 "LyingScale$State" "answered" "I") (List.mem_of_getElem? (i := 3) rfl)) (fun _ h9 => h9) rfl (by decide +kernel) rfl rfl (Nat.le_of_ble_eq_true rfl) dX2_reply_45 (fun H locs hP hD hS => ?_)
    replace hP : va_P D vwCl (stW T a0 (sI x0 4 ((x0.1 4) + 1))) H := hP
    replace hD : va_D A (stW T a0 (sI x0 4 ((x0.1 4) + 1))) := hD
    refine lv_aload_n hx hb dX2_reply_48 rfl (lv_at hl 1 rfl) ?_
    refine lv_iload_n hx hb dX2_reply_49 rfl (lv_at hl 2 rfl) ?_
    refine lv_iload_n hx hb dX2_reply_50 rfl (lv_at hl 3 rfl) ?_
    refine lv_iload_n hx hb dX2_reply_51 rfl (lv_at hl 0 rfl) ?_
    replace h := bd h
    obtain ⟨t5, et5, h⟩ := h
    refine callMv (wr := []) (ws' := stW T a0 (t5)) (va_runV (As := [.int v1, .int v2, .int (t1 + 1)]) (rest := []) ⟨hx, hb, hml, hown, hts⟩ (c_X2_learn l D T a0 (sI x0 4 ((x0.1 4) + 1)) v1 v2 (t1 + 1) _ t5 et5) (cwV 3 hts gX2_reply_X2_learn rfl rfl rfl hdV_X2_learn ⟨Nat.le_of_ble_eq_true rfl, Nat.le_of_ble_eq_true rfl⟩) ⟨PM_blind, va_recv hK.1 hP (ci := 2) (q0 := 0) rfl rfl, PM_at hP hD hK⟩ rfl rfl hl.1 rfl (lv_room (Nat.le_of_ble_eq_true rfl)) dX2_reply_52 ⟨Nat.zero_le _, Nat.zero_le _⟩) hS hA hP hD [0, 1, 2, 3, 4, 5, 6, 7, 8, 9, 10] [] rfl rfl (by decide) (by decide) [0, 1, 2, 3, 4, 5, 6, 7, 8, 9, 10] (by decide) rfl (fun H locs hP hD hS => ?_)
    refine lv_iload_n hx hb dX2_reply_55 rfl (lv_at hl 0 rfl) ?_
    obtain rfl := Option.some.inj h
    exact W.iret hx hb hr (fun t ht hW => ⟨⟨_, (), rfl, rfl, by rw [ht]; exact hP, hD⟩, hS.F ht⟩) hS.2.2 dX2_reply_56 hlocks
  replace h := ip c4 h
  refine lv_iconst (v := 0) hx hb dX2_reply_30 (by decide) ?_
  refine lv_goto (tgt := 37) hx hb dX2_reply_31 (by decide) ?_
  refine lv_istore_n (lv' := [(3, .int 0), (0, .ref (a0 0)), (1, .int v1), (2, .int v2)]) hx hb dX2_reply_37 rfl hl (by decide) rfl (fun ls hl => ?_)
  refine lv_aload_n hx hb dX2_reply_38 rfl (lv_at hl 1 rfl) ?_
  refine lv_dup hx hb dX2_reply_39 rfl ?_
  refine va_get (D := D) (ci := 2) (v := .int (x0.1 4)) (C := RX2) (T := TX2) (N := 9) hx hb hts inX2_reply_2 hown hK.1 hP 0 rfl rfl 8 (by decide) (hts (.fieldLink RX2 64 "LyingScale$State" "answered" "I") (List.mem_of_getElem? (i := 3) rfl)) (fun _ h9 => h9) rfl dX2_reply_40 ?_
  refine lv_iconst (v := 1) hx hb dX2_reply_43 (by decide) ?_
  refine lv_iadd hx hb dX2_reply_44 ?_
  refine va_put (D := D) (ci := 2) (v := .int ((x0.1 4) + 1)) (ty := .int) (C := RX2) (T := TX2) (N := 9) hx hb hts inX2_reply_2 tyX2 tyX2_ok nmX2 hown hK.1 hP hD hS 0 rfl rfl 8 (by decide) (hts (.fieldLink RX2 64 "LyingScale$State" "answered" "I") (List.mem_of_getElem? (i := 3) rfl)) (fun _ h9 => h9) rfl (by decide +kernel) rfl rfl (Nat.le_of_ble_eq_true rfl) dX2_reply_45 (fun H locs hP hD hS => ?_)
  replace hP : va_P D vwCl (stW T a0 (sI x0 4 ((x0.1 4) + 1))) H := hP
  replace hD : va_D A (stW T a0 (sI x0 4 ((x0.1 4) + 1))) := hD
  refine lv_aload_n hx hb dX2_reply_48 rfl (lv_at hl 1 rfl) ?_
  refine lv_iload_n hx hb dX2_reply_49 rfl (lv_at hl 2 rfl) ?_
  refine lv_iload_n hx hb dX2_reply_50 rfl (lv_at hl 3 rfl) ?_
  refine lv_iload_n hx hb dX2_reply_51 rfl (lv_at hl 0 rfl) ?_
  replace h := bd h
  obtain ⟨t6, et6, h⟩ := h
  refine callMv (wr := []) (ws' := stW T a0 (t6)) (va_runV (As := [.int v1, .int v2, .int 0]) (rest := []) ⟨hx, hb, hml, hown, hts⟩ (c_X2_learn l D T a0 (sI x0 4 ((x0.1 4) + 1)) v1 v2 0 _ t6 et6) (cwV 3 hts gX2_reply_X2_learn rfl rfl rfl hdV_X2_learn ⟨Nat.le_of_ble_eq_true rfl, Nat.le_of_ble_eq_true rfl⟩) ⟨PM_blind, va_recv hK.1 hP (ci := 2) (q0 := 0) rfl rfl, PM_at hP hD hK⟩ rfl rfl hl.1 rfl (lv_room (Nat.le_of_ble_eq_true rfl)) dX2_reply_52 ⟨Nat.zero_le _, Nat.zero_le _⟩) hS hA hP hD [0, 1, 2, 3, 4, 5, 6, 7, 8, 9, 10] [] rfl rfl (by decide) (by decide) [0, 1, 2, 3, 4, 5, 6, 7, 8, 9, 10] (by decide) rfl (fun H locs hP hD hS => ?_)
  refine lv_iload_n hx hb dX2_reply_55 rfl (lv_at hl 0 rfl) ?_
  obtain rfl := Option.some.inj h
  exact W.iret hx hb hr (fun t ht hW => ⟨⟨_, (), rfl, rfl, by rw [ht]; exact hP, hD⟩, hS.F ht⟩) hS.2.2 dX2_reply_56 hlocks
end
section
def F_X2_isLeft (x0 : St) (v1 : Int32) : Option (Int32) :=
  (F_X4_at 33 (x0.2 6) v1).bind fun t1 => if (x0.1 1) < t1 then (some 0) else (some 1)
def B_X2_countLeft_4 (x0 : St) (k4 : Int32 → Int32 → Option (Int32)) (i1_4 : Int32) (i2_4 : Int32) : Option (Int32) :=
  (F_X2_cases x0).bind fun t1 => if t1 ≤ i2_4 then (some i1_4) else ((F_X2_isLeft x0 i2_4).bind fun t3 => if t3 = 0 then (k4 i1_4 (i2_4 + 1)) else (k4 (i1_4 + 1) (i2_4 + 1)))
def F_X2_countLeft (x0 : St) : Option (Int32) :=
  fx2 (B_X2_countLeft_4 x0) 1000 0 0
def B_X2_falseCoins_4 (x0 : St) (k4 : Int32 → Int32 → Option (Int32)) (i1_4 : Int32) (i2_4 : Int32) : Option (Int32) :=
  (F_X2_cases x0).bind fun t1 => if t1 ≤ i2_4 then (some i1_4) else ((F_X2_isLeft x0 i2_4).bind fun t3 => if t3 = 0 then (k4 i1_4 (i2_4 + 1)) else ((F_X4_coinBit i2_4).bind fun t5 => k4 (i1_4 ||| t5) (i2_4 + 1)))
def F_X2_falseCoins (x0 : St) : Option (Int32) :=
  fx2 (B_X2_falseCoins_4 x0) 1000 0 0
def F_X2_number (x0 : St) (v1 : Int32) : Option (Int32) :=
  if v1 = 0 then (some (x0.1 0)) else if v1 = 1 then (some (x0.1 1)) else if v1 = 2 then (some (x0.1 5)) else if v1 = 3 then ((F_X2_countLeft x0).bind fun t5 => some t5) else if v1 = 4 then (some (x0.1 6)) else if v1 = 5 then (some (x0.1 2)) else if v1 = 6 then (some (x0.1 4)) else if v1 = 7 then ((F_X2_falseCoins x0).bind fun t10 => some t10) else ((F_X2_isLeft x0 0).bind fun t11 => if t11 = 0 then (some 0) else (some 1))
def F_X2_volumeLeft (x0 : St) (v1 : Int32) (v2 : Int32) : Option (Int64) :=
  if v1 ≤ (x0.1 1) then ((F_X4_volume v2 ((x0.1 1) - v1)).bind fun t2 => some t2) else (some 0)
def B_X2_weightAhead_5 (x0 : St) (v1 : Int32) (k5 : Int64 → Int32 → Option (Int64)) (i2_5 : Int64) (i4_5 : Int32) : Option (Int64) :=
  (F_X2_cases x0).bind fun t1 => if t1 ≤ i4_5 then (some i2_5) else ((F_X4_at 33 (x0.2 6) i4_5).bind fun t3 => (F_X2_volumeLeft x0 t3 v1).bind fun t4 => k5 (i2_5 + t4) (i4_5 + 1))
def F_X2_weightAhead (x0 : St) (v1 : Int32) : Option (Int64) :=
  fx2 (B_X2_weightAhead_5 x0 v1) 1000 0 0
def B_X2_weightIfTold_6 (x0 : St) (v1 : Int32) (v2 : Int32) (v3 : Int32) (v4 : Int32) (k6 : Int64 → Int32 → Option (Int64)) (i5_6 : Int64) (i7_6 : Int32) : Option (Int64) :=
  (F_X2_cases x0).bind fun t1 => if t1 ≤ i7_6 then (some i5_6) else ((F_X2_liesIfTold x0 i7_6 v1 v2 v3).bind fun t3 => (F_X2_volumeLeft x0 t3 v4).bind fun t4 => k6 (i5_6 + t4) (i7_6 + 1))
def F_X2_weightIfTold (x0 : St) (v1 : Int32) (v2 : Int32) (v3 : Int32) (v4 : Int32) : Option (Int64) :=
  fx2 (B_X2_weightIfTold_6 x0 v1 v2 v3 v4) 1000 0 0
def F_X2_copyFrom (x0 : St) (x1 : St) : Option (St) :=
  (F_X3_copyFrom 40 (tdS x0) 40 (tdS x1)).bind fun t1 => (F_X3_copyFrom 8 (plS (tdU x0 t1)) 8 (plS x1)).bind fun t2 => (F_X4_copyRow 33 (x1.2 6) 33 ((plU (tdU x0 t1) t2).2 6)).bind fun t3 => (some (sI (sA (plU (tdU x0 t1) t2) 6 t3) 0 (x1.1 0))).bind fun y4 => (some (sI (sI (sI y4 1 (x1.1 1)) 2 (x1.1 2)) 3 (x1.1 3))).bind fun y5 => some (sI y5 4 (x1.1 4))
theorem inX2_isLeft_2 : ∀ w ∈ u_ws RX2 TX2 9, w ∈ wsX2_isLeft := by decide +kernel
theorem hdS_X2_isLeft : yX2_isLeft.cls ≠ "java/lang/invoke/MethodHandle" ∧ yX2_isLeft.cls ≠ "java/lang/invoke/VarHandle" ∧ (parseMethodDescriptor yX2_isLeft.desc).map (fun d => d.parameters.length) = some 1 := by decide +kernel
theorem hdV_X2_isLeft : yX2_isLeft.cls = RX2 ∧ yX2_isLeft.cls ≠ "java/lang/invoke/MethodHandle" ∧ yX2_isLeft.cls ≠ "java/lang/invoke/VarHandle" ∧ (parseMethodDescriptor yX2_isLeft.desc).map (fun d => d.parameters.length) = some 1 := by decide +kernel
theorem hdS_X2_countLeft : yX2_countLeft.cls ≠ "java/lang/invoke/MethodHandle" ∧ yX2_countLeft.cls ≠ "java/lang/invoke/VarHandle" ∧ (parseMethodDescriptor yX2_countLeft.desc).map (fun d => d.parameters.length) = some 0 := by decide +kernel
theorem hdV_X2_countLeft : yX2_countLeft.cls = RX2 ∧ yX2_countLeft.cls ≠ "java/lang/invoke/MethodHandle" ∧ yX2_countLeft.cls ≠ "java/lang/invoke/VarHandle" ∧ (parseMethodDescriptor yX2_countLeft.desc).map (fun d => d.parameters.length) = some 0 := by decide +kernel
theorem hdS_X2_falseCoins : yX2_falseCoins.cls ≠ "java/lang/invoke/MethodHandle" ∧ yX2_falseCoins.cls ≠ "java/lang/invoke/VarHandle" ∧ (parseMethodDescriptor yX2_falseCoins.desc).map (fun d => d.parameters.length) = some 0 := by decide +kernel
theorem hdV_X2_falseCoins : yX2_falseCoins.cls = RX2 ∧ yX2_falseCoins.cls ≠ "java/lang/invoke/MethodHandle" ∧ yX2_falseCoins.cls ≠ "java/lang/invoke/VarHandle" ∧ (parseMethodDescriptor yX2_falseCoins.desc).map (fun d => d.parameters.length) = some 0 := by decide +kernel
theorem inX2_number_2 : ∀ w ∈ u_ws RX2 TX2 9, w ∈ wsX2_number := by decide +kernel
theorem inX2_number_3 : ∀ w ∈ u_ws RX3 TX3 4, w ∈ wsX2_number := by decide +kernel
theorem hdS_X2_number : yX2_number.cls ≠ "java/lang/invoke/MethodHandle" ∧ yX2_number.cls ≠ "java/lang/invoke/VarHandle" ∧ (parseMethodDescriptor yX2_number.desc).map (fun d => d.parameters.length) = some 1 := by decide +kernel
theorem hdV_X2_number : yX2_number.cls = RX2 ∧ yX2_number.cls ≠ "java/lang/invoke/MethodHandle" ∧ yX2_number.cls ≠ "java/lang/invoke/VarHandle" ∧ (parseMethodDescriptor yX2_number.desc).map (fun d => d.parameters.length) = some 1 := by decide +kernel
theorem inX2_volumeLeft_2 : ∀ w ∈ u_ws RX2 TX2 9, w ∈ wsX2_volumeLeft := by decide +kernel
theorem hdS_X2_volumeLeft : yX2_volumeLeft.cls ≠ "java/lang/invoke/MethodHandle" ∧ yX2_volumeLeft.cls ≠ "java/lang/invoke/VarHandle" ∧ (parseMethodDescriptor yX2_volumeLeft.desc).map (fun d => d.parameters.length) = some 2 := by decide +kernel
theorem hdV_X2_volumeLeft : yX2_volumeLeft.cls = RX2 ∧ yX2_volumeLeft.cls ≠ "java/lang/invoke/MethodHandle" ∧ yX2_volumeLeft.cls ≠ "java/lang/invoke/VarHandle" ∧ (parseMethodDescriptor yX2_volumeLeft.desc).map (fun d => d.parameters.length) = some 2 := by decide +kernel
theorem inX2_weightAhead_2 : ∀ w ∈ u_ws RX2 TX2 9, w ∈ wsX2_weightAhead := by decide +kernel
theorem hdS_X2_weightAhead : yX2_weightAhead.cls ≠ "java/lang/invoke/MethodHandle" ∧ yX2_weightAhead.cls ≠ "java/lang/invoke/VarHandle" ∧ (parseMethodDescriptor yX2_weightAhead.desc).map (fun d => d.parameters.length) = some 1 := by decide +kernel
theorem hdV_X2_weightAhead : yX2_weightAhead.cls = RX2 ∧ yX2_weightAhead.cls ≠ "java/lang/invoke/MethodHandle" ∧ yX2_weightAhead.cls ≠ "java/lang/invoke/VarHandle" ∧ (parseMethodDescriptor yX2_weightAhead.desc).map (fun d => d.parameters.length) = some 1 := by decide +kernel
theorem hdS_X2_weightIfTold : yX2_weightIfTold.cls ≠ "java/lang/invoke/MethodHandle" ∧ yX2_weightIfTold.cls ≠ "java/lang/invoke/VarHandle" ∧ (parseMethodDescriptor yX2_weightIfTold.desc).map (fun d => d.parameters.length) = some 4 := by decide +kernel
theorem hdV_X2_weightIfTold : yX2_weightIfTold.cls = RX2 ∧ yX2_weightIfTold.cls ≠ "java/lang/invoke/MethodHandle" ∧ yX2_weightIfTold.cls ≠ "java/lang/invoke/VarHandle" ∧ (parseMethodDescriptor yX2_weightIfTold.desc).map (fun d => d.parameters.length) = some 4 := by decide +kernel
theorem inX2_copyFrom_2 : ∀ w ∈ u_ws RX2 TX2 9, w ∈ wsX2_copyFrom := by decide +kernel
theorem hdS_X2_copyFrom : yX2_copyFrom.cls ≠ "java/lang/invoke/MethodHandle" ∧ yX2_copyFrom.cls ≠ "java/lang/invoke/VarHandle" ∧ (parseMethodDescriptor yX2_copyFrom.desc).map (fun d => d.parameters.length) = some 1 := by decide +kernel
theorem hdV_X2_copyFrom : yX2_copyFrom.cls = RX2 ∧ yX2_copyFrom.cls ≠ "java/lang/invoke/MethodHandle" ∧ yX2_copyFrom.cls ≠ "java/lang/invoke/VarHandle" ∧ (parseMethodDescriptor yX2_copyFrom.desc).map (fun d => d.parameters.length) = some 1 := by decide +kernel
set_option maxHeartbeats 4000000 in
set_option maxRecDepth 100000 in
theorem c_X2_isLeft (l : Launch) (D : va_G) (T : Nat → ClassId) (a0 : Nat → Nat) (x0 : St) (v1 : Int32) (r : Int32) (h : F_X2_isLeft x0 v1 = some r) : Met l yX2_isLeft wsX2_isLeft ({ frames := 1, cells := 0, slots := 0, locals := 21 } : Room) (va_Pc [.ref (a0 0), .int v1] (PB D T (stW T a0 (x0)))) (QRi r) 0 0 (fun _ => False) := by
  refine met_of (cc := cX2_isLeft) (maxL := 2) (ret := (some .boolean)) (lv := [(0, .ref (a0 0)), (1, .int v1)]) (by decide) rfl (Nat.le_of_ble_eq_true rfl) rfl ?_
  intro p e s m args below meth c ls C0 hl hB
  obtain ⟨hx, hb, hr, hml, hown, hts, hlocks, hname⟩ := C0
  obtain ⟨hP, hK⟩ := hB
  unfold F_X2_isLeft at h
  refine lv_aload_n hx hb dX2_isLeft_0 rfl (lv_at hl 0 rfl) ?_
  refine va_get (D := D) (ci := 2) (v := .ref (a0 3)) (C := RX2) (T := TX2) (N := 9) hx hb hts inX2_isLeft_2 hown hK.1 hP 0 rfl rfl 2 (by decide) (hts (.fieldLink RX2 23 "LyingScale$State" "liesOf" "[I") (List.mem_of_getElem? (i := 1) rfl)) (fun _ h9 => h9) rfl dX2_isLeft_1 ?_
  refine lv_iload_n hx hb dX2_isLeft_4 rfl (lv_at hl 1 rfl) ?_
  replace h := bd h
  obtain ⟨t1, et1, h⟩ := h
  refine callRi (v := t1) (va_runSN (As := [.ref (a0 3), .int v1]) (rest := []) ⟨hx, hb, hml, hown, hts⟩ (c_X4_at l D T (a0 3) 33 (x0.2 6) v1 (Nat.le_of_ble_eq_true rfl) t1 et1) ⟨va_cnB 2 hts gX2_isLeft_X4_at_n89 rfl rfl rfl (hK.2 (.methodLinkNest RX2 89 yX4_at "LyingScale") (List.mem_of_getElem? (i := 11) rfl)) (hts (.initialized RX4) (List.mem_of_getElem? (i := 4) rfl)) hdS_X4_at ⟨Nat.le_of_ble_eq_true rfl, Nat.le_of_ble_eq_true rfl⟩, (hts (.static yX4_at) (List.mem_of_getElem? (i := 3) rfl)), trivial⟩ ⟨PB_blind, PB_at (hP.sub (ws' := ([(a0 3, .inl (T 0, 33, .inl (x0.2 6)))] : va_W)) [3] rfl) hK⟩ rfl rfl hl.1 rfl (lv_room (Nat.le_of_ble_eq_true rfl)) dX2_isLeft_5 ⟨Nat.zero_le _, Nat.zero_le _⟩) ?_
  refine lv_aload_n hx hb dX2_isLeft_8 rfl (lv_at hl 0 rfl) ?_
  refine va_get (D := D) (ci := 2) (v := .int (x0.1 1)) (C := RX2) (T := TX2) (N := 9) hx hb hts inX2_isLeft_2 hown hK.1 hP 0 rfl rfl 5 (by decide) (hts (.fieldLink RX2 37 "LyingScale$State" "limit" "I") (List.mem_of_getElem? (i := 2) rfl)) (fun _ h9 => h9) rfl dX2_isLeft_9 ?_
  refine lv_icmp_gt (tgt := 19) hx hb dX2_isLeft_12 (by decide) (fun c2 => ?_) (fun c2 => ?_)
  · replace h := ip c2 h
    refine lv_iconst (v := 0) hx hb dX2_isLeft_19 (by decide) ?_
    exact W.zret hx hb hr rfl (fun t ht hW => ⟨_, rfl, Option.some.inj h, ht⟩) (fun q hq => absurd hq List.not_mem_nil) dX2_isLeft_20 hlocks
  replace h := im c2 h
  refine lv_iconst (v := 1) hx hb dX2_isLeft_15 (by decide) ?_
  refine lv_goto (tgt := 20) hx hb dX2_isLeft_16 (by decide) ?_
  exact W.zret hx hb hr rfl (fun t ht hW => ⟨_, rfl, Option.some.inj h, ht⟩) (fun q hq => absurd hq List.not_mem_nil) dX2_isLeft_20 hlocks
set_option maxHeartbeats 4000000 in
set_option maxRecDepth 100000 in
theorem c_X2_countLeft (l : Launch) (D : va_G) (T : Nat → ClassId) (a0 : Nat → Nat) (x0 : St) (r : Int32) (h : F_X2_countLeft x0 = some r) : Met l yX2_countLeft wsX2_countLeft ({ frames := 2, cells := 0, slots := 0, locals := 42 } : Room) (va_Pc [.ref (a0 0)] (PB D T (stW T a0 (x0)))) (QRi r) 0 0 (fun _ => False) := by
  refine met_of (cc := cX2_countLeft) (maxL := 3) (ret := (some .int)) (lv := [(0, .ref (a0 0))]) (by decide) rfl (Nat.le_of_ble_eq_true rfl) rfl ?_
  intro p e s m args below meth c ls C0 hl hB
  obtain ⟨hx, hb, hr, hml, hown, hts, hlocks, hname⟩ := C0
  obtain ⟨hP, hK⟩ := hB
  unfold F_X2_countLeft at h
  refine lv_iconst (v := 0) hx hb dX2_countLeft_0 (by decide) ?_
  refine lv_istore_n (lv' := [(1, .int 0), (0, .ref (a0 0))]) hx hb dX2_countLeft_1 rfl hl (by decide) rfl (fun ls hl => ?_)
  refine lv_iconst (v := 0) hx hb dX2_countLeft_2 (by decide) ?_
  refine lv_istore_n (lv' := [(2, .int 0), (1, .int 0), (0, .ref (a0 0))]) hx hb dX2_countLeft_3 rfl hl (by decide) rfl (fun ls hl => ?_)
  have K4 : ∀ (n4 : Nat) (i1_4 : Int32) (i2_4 : Int32) (ls : Array Slot), fx2 (B_X2_countLeft_4 x0) n4 i1_4 i2_4 = some r → lv_has ls 3 [(0, .ref (a0 0)), (1, .int i1_4), (2, .int i2_4)] → W p l e ({ frames := 2, cells := 0, slots := 0, locals := 42 } : Room) s m args below meth c s.heap [] 0 0 (MQ below (QRi r) args s 0 0 (fun _ => False)) (F0 m 4 ls []) := by
    intro n4
    induction n4 with
    | zero =>
        intro i1_4 i2_4 ls h
        cases h
    | succ n4 ih4 =>
        intro i1_4 i2_4 ls h hl
        replace h : B_X2_countLeft_4 x0 (fx2 (B_X2_countLeft_4 x0) n4) i1_4 i2_4 = some r := h
        unfold B_X2_countLeft_4 at h
        refine lv_iload_n hx hb dX2_countLeft_4 rfl (lv_at hl 2 rfl) ?_
        refine lv_aload_n hx hb dX2_countLeft_5 rfl (lv_at hl 0 rfl) ?_
        replace h := bd h
        obtain ⟨t1, et1, h⟩ := h
        refine callRi (v := t1) (va_runV (As := []) (rest := [.int i2_4]) ⟨hx, hb, hml, hown, hts⟩ (c_X2_cases l D T a0 x0 t1 et1) (cwV 0 hts gX2_countLeft_X2_cases rfl rfl rfl hdV_X2_cases ⟨Nat.le_of_ble_eq_true rfl, Nat.le_of_ble_eq_true rfl⟩) ⟨PB_blind, va_recv hK.1 hP (ci := 2) (q0 := 0) rfl rfl, PB_at hP hK⟩ rfl rfl hl.1 rfl (lv_room (Nat.le_of_ble_eq_true rfl)) dX2_countLeft_6 ⟨Nat.zero_le _, Nat.zero_le _⟩) ?_
        refine lv_icmp_ge (tgt := 29) hx hb dX2_countLeft_9 (by decide) (fun c2 => ?_) (fun c2 => ?_)
        · replace h := ip c2 h
          refine lv_iload_n hx hb dX2_countLeft_29 rfl (lv_at hl 1 rfl) ?_
          exact W.iret hx hb hr (fun t ht hW => ⟨_, rfl, Option.some.inj h, ht⟩) (fun q hq => absurd hq List.not_mem_nil) dX2_countLeft_30 hlocks
        replace h := im c2 h
        refine lv_aload_n hx hb dX2_countLeft_12 rfl (lv_at hl 0 rfl) ?_
        refine lv_iload_n hx hb dX2_countLeft_13 rfl (lv_at hl 2 rfl) ?_
        replace h := bd h
        obtain ⟨t3, et3, h⟩ := h
        refine callRi (v := t3) (va_runV (As := [.int i2_4]) (rest := []) ⟨hx, hb, hml, hown, hts⟩ (c_X2_isLeft l D T a0 x0 i2_4 t3 et3) (cwV 1 hts gX2_countLeft_X2_isLeft rfl rfl rfl hdV_X2_isLeft ⟨Nat.le_of_ble_eq_true rfl, Nat.le_of_ble_eq_true rfl⟩) ⟨PB_blind, va_recv hK.1 hP (ci := 2) (q0 := 0) rfl rfl, PB_at hP hK⟩ rfl rfl hl.1 rfl (lv_room (Nat.le_of_ble_eq_true rfl)) dX2_countLeft_14 ⟨Nat.zero_le _, Nat.zero_le _⟩) ?_
        refine lv_if_eq (tgt := 23) hx hb dX2_countLeft_17 (by decide) (fun c4 => ?_) (fun c4 => ?_)
        · replace h := ip c4 h
          refine lv_iinc (v := i2_4 + 1) (lv' := [(2, .int (i2_4 + 1)), (0, .ref (a0 0)), (1, .int i1_4)]) hx hb dX2_countLeft_23 hl (k := 2) rfl rfl (by decide) rfl (fun ls hl => ?_)
          refine lv_goto (tgt := 4) hx hb dX2_countLeft_26 (by decide) ?_
          exact ih4 i1_4 (i2_4 + 1) ls h (lv_sub hl [1, 2, 0] rfl)
        replace h := im c4 h
        refine lv_iinc (v := i1_4 + 1) (lv' := [(1, .int (i1_4 + 1)), (0, .ref (a0 0)), (2, .int i2_4)]) hx hb dX2_countLeft_20 hl (k := 1) rfl rfl (by decide) rfl (fun ls hl => ?_)
        refine lv_iinc (v := i2_4 + 1) (lv' := [(2, .int (i2_4 + 1)), (1, .int (i1_4 + 1)), (0, .ref (a0 0))]) hx hb dX2_countLeft_23 hl (k := 2) rfl rfl (by decide) rfl (fun ls hl => ?_)
        refine lv_goto (tgt := 4) hx hb dX2_countLeft_26 (by decide) ?_
        exact ih4 (i1_4 + 1) (i2_4 + 1) ls h (lv_sub hl [2, 1, 0] rfl)
  exact K4 1000 0 0 ls h (lv_sub hl [2, 1, 0] rfl)
set_option maxHeartbeats 4000000 in
set_option maxRecDepth 100000 in
theorem c_X2_falseCoins (l : Launch) (D : va_G) (T : Nat → ClassId) (a0 : Nat → Nat) (x0 : St) (r : Int32) (h : F_X2_falseCoins x0 = some r) : Met l yX2_falseCoins wsX2_falseCoins ({ frames := 2, cells := 0, slots := 0, locals := 42 } : Room) (va_Pc [.ref (a0 0)] (PB D T (stW T a0 (x0)))) (QRi r) 0 0 (fun _ => False) := by
  refine met_of (cc := cX2_falseCoins) (maxL := 3) (ret := (some .int)) (lv := [(0, .ref (a0 0))]) (by decide) rfl (Nat.le_of_ble_eq_true rfl) rfl ?_
  intro p e s m args below meth c ls C0 hl hB
  obtain ⟨hx, hb, hr, hml, hown, hts, hlocks, hname⟩ := C0
  obtain ⟨hP, hK⟩ := hB
  unfold F_X2_falseCoins at h
  refine lv_iconst (v := 0) hx hb dX2_falseCoins_0 (by decide) ?_
  refine lv_istore_n (lv' := [(1, .int 0), (0, .ref (a0 0))]) hx hb dX2_falseCoins_1 rfl hl (by decide) rfl (fun ls hl => ?_)
  refine lv_iconst (v := 0) hx hb dX2_falseCoins_2 (by decide) ?_
  refine lv_istore_n (lv' := [(2, .int 0), (1, .int 0), (0, .ref (a0 0))]) hx hb dX2_falseCoins_3 rfl hl (by decide) rfl (fun ls hl => ?_)
  have K4 : ∀ (n4 : Nat) (i1_4 : Int32) (i2_4 : Int32) (ls : Array Slot), fx2 (B_X2_falseCoins_4 x0) n4 i1_4 i2_4 = some r → lv_has ls 3 [(0, .ref (a0 0)), (1, .int i1_4), (2, .int i2_4)] → W p l e ({ frames := 2, cells := 0, slots := 0, locals := 42 } : Room) s m args below meth c s.heap [] 0 0 (MQ below (QRi r) args s 0 0 (fun _ => False)) (F0 m 4 ls []) := by
    intro n4
    induction n4 with
    | zero =>
        intro i1_4 i2_4 ls h
        cases h
    | succ n4 ih4 =>
        intro i1_4 i2_4 ls h hl
        replace h : B_X2_falseCoins_4 x0 (fx2 (B_X2_falseCoins_4 x0) n4) i1_4 i2_4 = some r := h
        unfold B_X2_falseCoins_4 at h
        refine lv_iload_n hx hb dX2_falseCoins_4 rfl (lv_at hl 2 rfl) ?_
        refine lv_aload_n hx hb dX2_falseCoins_5 rfl (lv_at hl 0 rfl) ?_
        replace h := bd h
        obtain ⟨t1, et1, h⟩ := h
        refine callRi (v := t1) (va_runV (As := []) (rest := [.int i2_4]) ⟨hx, hb, hml, hown, hts⟩ (c_X2_cases l D T a0 x0 t1 et1) (cwV 0 hts gX2_falseCoins_X2_cases rfl rfl rfl hdV_X2_cases ⟨Nat.le_of_ble_eq_true rfl, Nat.le_of_ble_eq_true rfl⟩) ⟨PB_blind, va_recv hK.1 hP (ci := 2) (q0 := 0) rfl rfl, PB_at hP hK⟩ rfl rfl hl.1 rfl (lv_room (Nat.le_of_ble_eq_true rfl)) dX2_falseCoins_6 ⟨Nat.zero_le _, Nat.zero_le _⟩) ?_
        refine lv_icmp_ge (tgt := 33) hx hb dX2_falseCoins_9 (by decide) (fun c2 => ?_) (fun c2 => ?_)
        · replace h := ip c2 h
          refine lv_iload_n hx hb dX2_falseCoins_33 rfl (lv_at hl 1 rfl) ?_
          exact W.iret hx hb hr (fun t ht hW => ⟨_, rfl, Option.some.inj h, ht⟩) (fun q hq => absurd hq List.not_mem_nil) dX2_falseCoins_34 hlocks
        replace h := im c2 h
        refine lv_aload_n hx hb dX2_falseCoins_12 rfl (lv_at hl 0 rfl) ?_
        refine lv_iload_n hx hb dX2_falseCoins_13 rfl (lv_at hl 2 rfl) ?_
        replace h := bd h
        obtain ⟨t3, et3, h⟩ := h
        refine callRi (v := t3) (va_runV (As := [.int i2_4]) (rest := []) ⟨hx, hb, hml, hown, hts⟩ (c_X2_isLeft l D T a0 x0 i2_4 t3 et3) (cwV 1 hts gX2_falseCoins_X2_isLeft rfl rfl rfl hdV_X2_isLeft ⟨Nat.le_of_ble_eq_true rfl, Nat.le_of_ble_eq_true rfl⟩) ⟨PB_blind, va_recv hK.1 hP (ci := 2) (q0 := 0) rfl rfl, PB_at hP hK⟩ rfl rfl hl.1 rfl (lv_room (Nat.le_of_ble_eq_true rfl)) dX2_falseCoins_14 ⟨Nat.zero_le _, Nat.zero_le _⟩) ?_
        refine lv_if_eq (tgt := 27) hx hb dX2_falseCoins_17 (by decide) (fun c4 => ?_) (fun c4 => ?_)
        · replace h := ip c4 h
          refine lv_iinc (v := i2_4 + 1) (lv' := [(2, .int (i2_4 + 1)), (0, .ref (a0 0)), (1, .int i1_4)]) hx hb dX2_falseCoins_27 hl (k := 2) rfl rfl (by decide) rfl (fun ls hl => ?_)
          refine lv_goto (tgt := 4) hx hb dX2_falseCoins_30 (by decide) ?_
          exact ih4 i1_4 (i2_4 + 1) ls h (lv_sub hl [1, 2, 0] rfl)
        replace h := im c4 h
        refine lv_iload_n hx hb dX2_falseCoins_20 rfl (lv_at hl 1 rfl) ?_
        refine lv_iload_n hx hb dX2_falseCoins_21 rfl (lv_at hl 2 rfl) ?_
        replace h := bd h
        obtain ⟨t5, et5, h⟩ := h
        refine callRi (v := t5) (va_runSN (As := [.int i2_4]) (rest := [.int i1_4]) ⟨hx, hb, hml, hown, hts⟩ (c_X4_coinBit l D T i2_4 t5 et5) ⟨va_cnB 1 hts gX2_falseCoins_X4_coinBit_n128 rfl rfl rfl (hK.2 (.methodLinkNest RX2 128 yX4_coinBit "LyingScale") (List.mem_of_getElem? (i := 7) rfl)) (hts (.initialized RX4) (List.mem_of_getElem? (i := 14) rfl)) hdS_X4_coinBit ⟨Nat.le_of_ble_eq_true rfl, Nat.le_of_ble_eq_true rfl⟩, (hts (.static yX4_coinBit) (List.mem_of_getElem? (i := 16) rfl)), trivial⟩ ⟨PB_blind, PB_at (hP.sub (ws' := ([] : va_W)) [] rfl) hK⟩ rfl rfl hl.1 rfl (lv_room (Nat.le_of_ble_eq_true rfl)) dX2_falseCoins_22 ⟨Nat.zero_le _, Nat.zero_le _⟩) ?_
        refine lv_ior hx hb dX2_falseCoins_25 ?_
        refine lv_istore_n (lv' := [(1, .int (i1_4 ||| t5)), (0, .ref (a0 0)), (2, .int i2_4)]) hx hb dX2_falseCoins_26 rfl hl (by decide) rfl (fun ls hl => ?_)
        refine lv_iinc (v := i2_4 + 1) (lv' := [(2, .int (i2_4 + 1)), (1, .int (i1_4 ||| t5)), (0, .ref (a0 0))]) hx hb dX2_falseCoins_27 hl (k := 2) rfl rfl (by decide) rfl (fun ls hl => ?_)
        refine lv_goto (tgt := 4) hx hb dX2_falseCoins_30 (by decide) ?_
        exact ih4 (i1_4 ||| t5) (i2_4 + 1) ls h (lv_sub hl [2, 1, 0] rfl)
  exact K4 1000 0 0 ls h (lv_sub hl [2, 1, 0] rfl)
set_option maxHeartbeats 4000000 in
set_option maxRecDepth 100000 in
theorem c_X2_number (l : Launch) (D : va_G) (T : Nat → ClassId) (a0 : Nat → Nat) (x0 : St) (v1 : Int32) (r : Int32) (h : F_X2_number x0 v1 = some r) : Met l yX2_number wsX2_number ({ frames := 3, cells := 0, slots := 0, locals := 64 } : Room) (va_Pc [.ref (a0 0), .int v1] (PB D T (stW T a0 (x0)))) (QRi r) 0 0 (fun _ => False) := by
  refine met_of (cc := cX2_number) (maxL := 2) (ret := (some .int)) (lv := [(0, .ref (a0 0)), (1, .int v1)]) (by decide) rfl (Nat.le_of_ble_eq_true rfl) rfl ?_
  intro p e s m args below meth c ls C0 hl hB
  obtain ⟨hx, hb, hr, hml, hown, hts, hlocks, hname⟩ := C0
  obtain ⟨hP, hK⟩ := hB
  unfold F_X2_number at h
  refine lv_iload_n hx hb dX2_number_0 rfl (lv_at hl 1 rfl) ?_
  by_cases c1 : v1 = 0
  · replace h := ip c1 h
    refine lv_tableIn (off := 47) (tgt := 48) hx hb dX2_number_1 (by rw [c1]; decide) (by rw [c1]; decide) (by rw [c1]; decide) (by decide) ?_
    refine lv_aload_n hx hb dX2_number_48 rfl (lv_at hl 0 rfl) ?_
    refine va_get (D := D) (ci := 2) (v := .int (x0.1 0)) (C := RX2) (T := TX2) (N := 9) hx hb hts inX2_number_2 hown hK.1 hP 0 rfl rfl 4 (by decide) (hts (.fieldLink RX2 33 "LyingScale$State" "coins" "I") (List.mem_of_getElem? (i := 1) rfl)) (fun _ h9 => h9) rfl dX2_number_49 ?_
    exact W.iret hx hb hr (fun t ht hW => ⟨_, rfl, Option.some.inj h, ht⟩) (fun q hq => absurd hq List.not_mem_nil) dX2_number_52 hlocks
  replace h := im c1 h
  by_cases c2 : v1 = 1
  · replace h := ip c2 h
    refine lv_tableIn (off := 52) (tgt := 53) hx hb dX2_number_1 (by rw [c2]; decide) (by rw [c2]; decide) (by rw [c2]; decide) (by decide) ?_
    refine lv_aload_n hx hb dX2_number_53 rfl (lv_at hl 0 rfl) ?_
    refine va_get (D := D) (ci := 2) (v := .int (x0.1 1)) (C := RX2) (T := TX2) (N := 9) hx hb hts inX2_number_2 hown hK.1 hP 0 rfl rfl 5 (by decide) (hts (.fieldLink RX2 37 "LyingScale$State" "limit" "I") (List.mem_of_getElem? (i := 2) rfl)) (fun _ h9 => h9) rfl dX2_number_54 ?_
    exact W.iret hx hb hr (fun t ht hW => ⟨_, rfl, Option.some.inj h, ht⟩) (fun q hq => absurd hq List.not_mem_nil) dX2_number_57 hlocks
  replace h := im c2 h
  by_cases c3 : v1 = 2
  · replace h := ip c3 h
    refine lv_tableIn (off := 57) (tgt := 58) hx hb dX2_number_1 (by rw [c3]; decide) (by rw [c3]; decide) (by rw [c3]; decide) (by decide) ?_
    refine lv_aload_n hx hb dX2_number_58 rfl (lv_at hl 0 rfl) ?_
    refine va_get (D := D) (ci := 2) (v := .ref (a0 1)) (C := RX2) (T := TX2) (N := 9) hx hb hts inX2_number_2 hown hK.1 hP 0 rfl rfl 0 (by decide) (hts (.fieldLink RX2 14 "LyingScale$State" "told" "LLyingScale$Weighings;") (List.mem_of_getElem? (i := 3) rfl)) (fun _ h9 => h9) rfl dX2_number_59 ?_
    refine va_getN (D := D) (ci := 3) (v := .int (x0.1 5)) (C := RX3) (T := TX3) (N := 4) hx hb hts inX2_number_3 hown hK.1 hP 1 rfl rfl 3 (by decide) (va_Nw.use rfl (hK.2 (.fieldLinkNest RX2 40 "LyingScale$Weighings" "count" "I" "LyingScale") (List.mem_of_getElem? (i := 6) rfl))) (fun _ h9 => h9) rfl dX2_number_62 ?_
    exact W.iret hx hb hr (fun t ht hW => ⟨_, rfl, Option.some.inj h, ht⟩) (fun q hq => absurd hq List.not_mem_nil) dX2_number_65 hlocks
  replace h := im c3 h
  by_cases c4 : v1 = 3
  · replace h := ip c4 h
    refine lv_tableIn (off := 65) (tgt := 66) hx hb dX2_number_1 (by rw [c4]; decide) (by rw [c4]; decide) (by rw [c4]; decide) (by decide) ?_
    refine lv_aload_n hx hb dX2_number_66 rfl (lv_at hl 0 rfl) ?_
    replace h := bd h
    obtain ⟨t5, et5, h⟩ := h
    refine callRi (v := t5) (va_runV (As := []) (rest := []) ⟨hx, hb, hml, hown, hts⟩ (c_X2_countLeft l D T a0 x0 t5 et5) (cwV 0 hts gX2_number_X2_countLeft rfl rfl rfl hdV_X2_countLeft ⟨Nat.le_of_ble_eq_true rfl, Nat.le_of_ble_eq_true rfl⟩) ⟨PB_blind, va_recv hK.1 hP (ci := 2) (q0 := 0) rfl rfl, PB_at hP hK⟩ rfl rfl hl.1 rfl (lv_room (Nat.le_of_ble_eq_true rfl)) dX2_number_67 ⟨Nat.zero_le _, Nat.zero_le _⟩) ?_
    exact W.iret hx hb hr (fun t ht hW => ⟨_, rfl, Option.some.inj h, ht⟩) (fun q hq => absurd hq List.not_mem_nil) dX2_number_70 hlocks
  replace h := im c4 h
  by_cases c6 : v1 = 4
  · replace h := ip c6 h
    refine lv_tableIn (off := 70) (tgt := 71) hx hb dX2_number_1 (by rw [c6]; decide) (by rw [c6]; decide) (by rw [c6]; decide) (by decide) ?_
    refine lv_aload_n hx hb dX2_number_71 rfl (lv_at hl 0 rfl) ?_
    refine va_get (D := D) (ci := 2) (v := .ref (a0 2)) (C := RX2) (T := TX2) (N := 9) hx hb hts inX2_number_2 hown hK.1 hP 0 rfl rfl 1 (by decide) (hts (.fieldLink RX2 20 "LyingScale$State" "plan" "LLyingScale$Weighings;") (List.mem_of_getElem? (i := 4) rfl)) (fun _ h9 => h9) rfl dX2_number_72 ?_
    refine va_getN (D := D) (ci := 3) (v := .int (x0.1 6)) (C := RX3) (T := TX3) (N := 4) hx hb hts inX2_number_3 hown hK.1 hP 2 rfl rfl 3 (by decide) (va_Nw.use rfl (hK.2 (.fieldLinkNest RX2 40 "LyingScale$Weighings" "count" "I" "LyingScale") (List.mem_of_getElem? (i := 6) rfl))) (fun _ h9 => h9) rfl dX2_number_75 ?_
    exact W.iret hx hb hr (fun t ht hW => ⟨_, rfl, Option.some.inj h, ht⟩) (fun q hq => absurd hq List.not_mem_nil) dX2_number_78 hlocks
  replace h := im c6 h
  by_cases c7 : v1 = 5
  · replace h := ip c7 h
    refine lv_tableIn (off := 78) (tgt := 79) hx hb dX2_number_1 (by rw [c7]; decide) (by rw [c7]; decide) (by rw [c7]; decide) (by decide) ?_
    refine lv_aload_n hx hb dX2_number_79 rfl (lv_at hl 0 rfl) ?_
    refine va_get (D := D) (ci := 2) (v := .int (x0.1 2)) (C := RX2) (T := TX2) (N := 9) hx hb hts inX2_number_2 hown hK.1 hP 0 rfl rfl 6 (by decide) (hts (.fieldLink RX2 58 "LyingScale$State" "hidden" "I") (List.mem_of_getElem? (i := 5) rfl)) (fun _ h9 => h9) rfl dX2_number_80 ?_
    exact W.iret hx hb hr (fun t ht hW => ⟨_, rfl, Option.some.inj h, ht⟩) (fun q hq => absurd hq List.not_mem_nil) dX2_number_83 hlocks
  replace h := im c7 h
  by_cases c8 : v1 = 6
  · replace h := ip c8 h
    refine lv_tableIn (off := 83) (tgt := 84) hx hb dX2_number_1 (by rw [c8]; decide) (by rw [c8]; decide) (by rw [c8]; decide) (by decide) ?_
    refine lv_aload_n hx hb dX2_number_84 rfl (lv_at hl 0 rfl) ?_
    refine va_get (D := D) (ci := 2) (v := .int (x0.1 4)) (C := RX2) (T := TX2) (N := 9) hx hb hts inX2_number_2 hown hK.1 hP 0 rfl rfl 8 (by decide) (hts (.fieldLink RX2 64 "LyingScale$State" "answered" "I") (List.mem_of_getElem? (i := 6) rfl)) (fun _ h9 => h9) rfl dX2_number_85 ?_
    exact W.iret hx hb hr (fun t ht hW => ⟨_, rfl, Option.some.inj h, ht⟩) (fun q hq => absurd hq List.not_mem_nil) dX2_number_88 hlocks
  replace h := im c8 h
  by_cases c9 : v1 = 7
  · replace h := ip c9 h
    refine lv_tableIn (off := 88) (tgt := 89) hx hb dX2_number_1 (by rw [c9]; decide) (by rw [c9]; decide) (by rw [c9]; decide) (by decide) ?_
    refine lv_aload_n hx hb dX2_number_89 rfl (lv_at hl 0 rfl) ?_
    replace h := bd h
    obtain ⟨t10, et10, h⟩ := h
    refine callRi (v := t10) (va_runV (As := []) (rest := []) ⟨hx, hb, hml, hown, hts⟩ (c_X2_falseCoins l D T a0 x0 t10 et10) (cwV 0 hts gX2_number_X2_falseCoins rfl rfl rfl hdV_X2_falseCoins ⟨Nat.le_of_ble_eq_true rfl, Nat.le_of_ble_eq_true rfl⟩) ⟨PB_blind, va_recv hK.1 hP (ci := 2) (q0 := 0) rfl rfl, PB_at hP hK⟩ rfl rfl hl.1 rfl (lv_room (Nat.le_of_ble_eq_true rfl)) dX2_number_90 ⟨Nat.zero_le _, Nat.zero_le _⟩) ?_
    exact W.iret hx hb hr (fun t ht hW => ⟨_, rfl, Option.some.inj h, ht⟩) (fun q hq => absurd hq List.not_mem_nil) dX2_number_93 hlocks
  replace h := im c9 h
  have qc1 := lv_neT c1 (a := 0) (by decide)
  have qc2 := lv_neT c2 (a := 1) (by decide)
  have qc3 := lv_neT c3 (a := 2) (by decide)
  have qc4 := lv_neT c4 (a := 3) (by decide)
  have qc6 := lv_neT c6 (a := 4) (by decide)
  have qc7 := lv_neT c7 (a := 5) (by decide)
  have qc8 := lv_neT c8 (a := 6) (by decide)
  have qc9 := lv_neT c9 (a := 7) (by decide)
  refine lv_tableOut (tgt := 94) hx hb dX2_number_1 (by omega) (by decide) ?_
  refine lv_aload_n hx hb dX2_number_94 rfl (lv_at hl 0 rfl) ?_
  refine lv_iconst (v := 0) hx hb dX2_number_95 (by decide) ?_
  replace h := bd h
  obtain ⟨t11, et11, h⟩ := h
  refine callRi (v := t11) (va_runV (As := [.int 0]) (rest := []) ⟨hx, hb, hml, hown, hts⟩ (c_X2_isLeft l D T a0 x0 0 t11 et11) (cwV 1 hts gX2_number_X2_isLeft rfl rfl rfl hdV_X2_isLeft ⟨Nat.le_of_ble_eq_true rfl, Nat.le_of_ble_eq_true rfl⟩) ⟨PB_blind, va_recv hK.1 hP (ci := 2) (q0 := 0) rfl rfl, PB_at hP hK⟩ rfl rfl hl.1 rfl (lv_room (Nat.le_of_ble_eq_true rfl)) dX2_number_96 ⟨Nat.zero_le _, Nat.zero_le _⟩) ?_
  refine lv_if_eq (tgt := 106) hx hb dX2_number_99 (by decide) (fun c12 => ?_) (fun c12 => ?_)
  · replace h := ip c12 h
    refine lv_iconst (v := 0) hx hb dX2_number_106 (by decide) ?_
    exact W.iret hx hb hr (fun t ht hW => ⟨_, rfl, Option.some.inj h, ht⟩) (fun q hq => absurd hq List.not_mem_nil) dX2_number_107 hlocks
  replace h := im c12 h
  refine lv_iconst (v := 1) hx hb dX2_number_102 (by decide) ?_
  refine lv_goto (tgt := 107) hx hb dX2_number_103 (by decide) ?_
  exact W.iret hx hb hr (fun t ht hW => ⟨_, rfl, Option.some.inj h, ht⟩) (fun q hq => absurd hq List.not_mem_nil) dX2_number_107 hlocks
set_option maxHeartbeats 4000000 in
set_option maxRecDepth 100000 in
theorem c_X2_volumeLeft (l : Launch) (D : va_G) (T : Nat → ClassId) (a0 : Nat → Nat) (x0 : St) (v1 : Int32) (v2 : Int32) (r : Int64) (h : F_X2_volumeLeft x0 v1 v2 = some r) : Met l yX2_volumeLeft wsX2_volumeLeft ({ frames := 2, cells := 0, slots := 0, locals := 50 } : Room) (va_Pc [.ref (a0 0), .int v1, .int v2] (PB D T (stW T a0 (x0)))) (QRl r) 0 0 (fun _ => False) := by
  refine met_of (cc := cX2_volumeLeft) (maxL := 3) (ret := (some .long)) (lv := [(0, .ref (a0 0)), (1, .int v1), (2, .int v2)]) (by decide) rfl (Nat.le_of_ble_eq_true rfl) rfl ?_
  intro p e s m args below meth c ls C0 hl hB
  obtain ⟨hx, hb, hr, hml, hown, hts, hlocks, hname⟩ := C0
  obtain ⟨hP, hK⟩ := hB
  unfold F_X2_volumeLeft at h
  refine lv_iload_n hx hb dX2_volumeLeft_0 rfl (lv_at hl 1 rfl) ?_
  refine lv_aload_n hx hb dX2_volumeLeft_1 rfl (lv_at hl 0 rfl) ?_
  refine va_get (D := D) (ci := 2) (v := .int (x0.1 1)) (C := RX2) (T := TX2) (N := 9) hx hb hts inX2_volumeLeft_2 hown hK.1 hP 0 rfl rfl 5 (by decide) (hts (.fieldLink RX2 37 "LyingScale$State" "limit" "I") (List.mem_of_getElem? (i := 1) rfl)) (fun _ h9 => h9) rfl dX2_volumeLeft_2 ?_
  refine lv_icmp_le (tgt := 12) hx hb dX2_volumeLeft_5 (by decide) (fun c1 => ?_) (fun c1 => ?_)
  · replace h := ip c1 h
    refine lv_iload_n hx hb dX2_volumeLeft_12 rfl (lv_at hl 2 rfl) ?_
    refine lv_aload_n hx hb dX2_volumeLeft_13 rfl (lv_at hl 0 rfl) ?_
    refine va_get (D := D) (ci := 2) (v := .int (x0.1 1)) (C := RX2) (T := TX2) (N := 9) hx hb hts inX2_volumeLeft_2 hown hK.1 hP 0 rfl rfl 5 (by decide) (hts (.fieldLink RX2 37 "LyingScale$State" "limit" "I") (List.mem_of_getElem? (i := 1) rfl)) (fun _ h9 => h9) rfl dX2_volumeLeft_14 ?_
    refine lv_iload_n hx hb dX2_volumeLeft_17 rfl (lv_at hl 1 rfl) ?_
    refine lv_isub hx hb dX2_volumeLeft_18 ?_
    replace h := bd h
    obtain ⟨t2, et2, h⟩ := h
    refine callRl (v := t2) (va_runSN (As := [.int v2, .int ((x0.1 1) - v1)]) (rest := []) ⟨hx, hb, hml, hown, hts⟩ (c_X4_volume l D T v2 ((x0.1 1) - v1) t2 et2) ⟨va_cnB 2 hts gX2_volumeLeft_X4_volume_n141 rfl rfl rfl (hK.2 (.methodLinkNest RX2 141 yX4_volume "LyingScale") (List.mem_of_getElem? (i := 8) rfl)) (hts (.initialized RX4) (List.mem_of_getElem? (i := 3) rfl)) hdS_X4_volume ⟨Nat.le_of_ble_eq_true rfl, Nat.le_of_ble_eq_true rfl⟩, (hts (.static yX4_volume) (List.mem_of_getElem? (i := 2) rfl)), trivial⟩ ⟨PB_blind, PB_at (hP.sub (ws' := ([] : va_W)) [] rfl) hK⟩ rfl rfl hl.1 rfl (lv_room (Nat.le_of_ble_eq_true rfl)) dX2_volumeLeft_19 ⟨Nat.zero_le _, Nat.zero_le _⟩) ?_
    exact W.lret hx hb hr (fun t ht hW => ⟨_, rfl, Option.some.inj h, ht⟩) (fun q hq => absurd hq List.not_mem_nil) dX2_volumeLeft_22 hlocks
  replace h := im c1 h
  refine lv_lconst (v := 0) hx hb dX2_volumeLeft_8 (by decide) ?_
  refine lv_goto (tgt := 22) hx hb dX2_volumeLeft_9 (by decide) ?_
  exact W.lret hx hb hr (fun t ht hW => ⟨_, rfl, Option.some.inj h, ht⟩) (fun q hq => absurd hq List.not_mem_nil) dX2_volumeLeft_22 hlocks
set_option maxHeartbeats 4000000 in
set_option maxRecDepth 100000 in
theorem c_X2_weightAhead (l : Launch) (D : va_G) (T : Nat → ClassId) (a0 : Nat → Nat) (x0 : St) (v1 : Int32) (r : Int64) (h : F_X2_weightAhead x0 v1 = some r) : Met l yX2_weightAhead wsX2_weightAhead ({ frames := 3, cells := 0, slots := 0, locals := 72 } : Room) (va_Pc [.ref (a0 0), .int v1] (PB D T (stW T a0 (x0)))) (QRl r) 0 0 (fun _ => False) := by
  refine met_of (cc := cX2_weightAhead) (maxL := 5) (ret := (some .long)) (lv := [(0, .ref (a0 0)), (1, .int v1)]) (by decide) rfl (Nat.le_of_ble_eq_true rfl) rfl ?_
  intro p e s m args below meth c ls C0 hl hB
  obtain ⟨hx, hb, hr, hml, hown, hts, hlocks, hname⟩ := C0
  obtain ⟨hP, hK⟩ := hB
  unfold F_X2_weightAhead at h
  refine lv_lconst (v := 0) hx hb dX2_weightAhead_0 (by decide) ?_
  refine lv_lstore_n (lv' := [(2, .long 0), (0, .ref (a0 0)), (1, .int v1)]) hx hb dX2_weightAhead_1 rfl hl (by decide) rfl (fun ls hl => ?_)
  refine lv_iconst (v := 0) hx hb dX2_weightAhead_2 (by decide) ?_
  refine lv_istore (lv' := [(4, .int 0), (2, .long 0), (0, .ref (a0 0)), (1, .int v1)]) hx hb dX2_weightAhead_3 hl (by decide) rfl (fun ls hl => ?_)
  have K5 : ∀ (n5 : Nat) (i2_5 : Int64) (i4_5 : Int32) (ls : Array Slot), fx2 (B_X2_weightAhead_5 x0 v1) n5 i2_5 i4_5 = some r → lv_has ls 5 [(0, .ref (a0 0)), (1, .int v1), (2, .long i2_5), (4, .int i4_5)] → W p l e ({ frames := 3, cells := 0, slots := 0, locals := 72 } : Room) s m args below meth c s.heap [] 0 0 (MQ below (QRl r) args s 0 0 (fun _ => False)) (F0 m 5 ls []) := by
    intro n5
    induction n5 with
    | zero =>
        intro i2_5 i4_5 ls h
        cases h
    | succ n5 ih5 =>
        intro i2_5 i4_5 ls h hl
        replace h : B_X2_weightAhead_5 x0 v1 (fx2 (B_X2_weightAhead_5 x0 v1) n5) i2_5 i4_5 = some r := h
        unfold B_X2_weightAhead_5 at h
        refine lv_iload hx hb dX2_weightAhead_5 (lv_at hl 3 rfl) ?_
        refine lv_aload_n hx hb dX2_weightAhead_7 rfl (lv_at hl 0 rfl) ?_
        replace h := bd h
        obtain ⟨t1, et1, h⟩ := h
        refine callRi (v := t1) (va_runV (As := []) (rest := [.int i4_5]) ⟨hx, hb, hml, hown, hts⟩ (c_X2_cases l D T a0 x0 t1 et1) (cwV 0 hts gX2_weightAhead_X2_cases rfl rfl rfl hdV_X2_cases ⟨Nat.le_of_ble_eq_true rfl, Nat.le_of_ble_eq_true rfl⟩) ⟨PB_blind, va_recv hK.1 hP (ci := 2) (q0 := 0) rfl rfl, PB_at hP hK⟩ rfl rfl hl.1 rfl (lv_room (Nat.le_of_ble_eq_true rfl)) dX2_weightAhead_8 ⟨Nat.zero_le _, Nat.zero_le _⟩) ?_
        refine lv_icmp_ge (tgt := 37) hx hb dX2_weightAhead_11 (by decide) (fun c2 => ?_) (fun c2 => ?_)
        · replace h := ip c2 h
          refine lv_lload_n hx hb dX2_weightAhead_37 rfl (lv_at hl 2 rfl) ?_
          exact W.lret hx hb hr (fun t ht hW => ⟨_, rfl, Option.some.inj h, ht⟩) (fun q hq => absurd hq List.not_mem_nil) dX2_weightAhead_38 hlocks
        replace h := im c2 h
        refine lv_lload_n hx hb dX2_weightAhead_14 rfl (lv_at hl 2 rfl) ?_
        refine lv_aload_n hx hb dX2_weightAhead_15 rfl (lv_at hl 0 rfl) ?_
        refine lv_aload_n hx hb dX2_weightAhead_16 rfl (lv_at hl 0 rfl) ?_
        refine va_get (D := D) (ci := 2) (v := .ref (a0 3)) (C := RX2) (T := TX2) (N := 9) hx hb hts inX2_weightAhead_2 hown hK.1 hP 0 rfl rfl 2 (by decide) (hts (.fieldLink RX2 23 "LyingScale$State" "liesOf" "[I") (List.mem_of_getElem? (i := 1) rfl)) (fun _ h9 => h9) rfl dX2_weightAhead_17 ?_
        refine lv_iload hx hb dX2_weightAhead_20 (lv_at hl 3 rfl) ?_
        replace h := bd h
        obtain ⟨t3, et3, h⟩ := h
        refine callRi (v := t3) (va_runSN (As := [.ref (a0 3), .int i4_5]) (rest := [.ref (a0 0), .long i2_5]) ⟨hx, hb, hml, hown, hts⟩ (c_X4_at l D T (a0 3) 33 (x0.2 6) i4_5 (Nat.le_of_ble_eq_true rfl) t3 et3) ⟨va_cnB 2 hts gX2_weightAhead_X4_at_n89 rfl rfl rfl (hK.2 (.methodLinkNest RX2 89 yX4_at "LyingScale") (List.mem_of_getElem? (i := 11) rfl)) (hts (.initialized RX4) (List.mem_of_getElem? (i := 9) rfl)) hdS_X4_at ⟨Nat.le_of_ble_eq_true rfl, Nat.le_of_ble_eq_true rfl⟩, (hts (.static yX4_at) (List.mem_of_getElem? (i := 8) rfl)), trivial⟩ ⟨PB_blind, PB_at (hP.sub (ws' := ([(a0 3, .inl (T 0, 33, .inl (x0.2 6)))] : va_W)) [3] rfl) hK⟩ rfl rfl hl.1 rfl (lv_room (Nat.le_of_ble_eq_true rfl)) dX2_weightAhead_22 ⟨Nat.zero_le _, Nat.zero_le _⟩) ?_
        refine lv_iload_n hx hb dX2_weightAhead_25 rfl (lv_at hl 1 rfl) ?_
        replace h := bd h
        obtain ⟨t4, et4, h⟩ := h
        refine callRl (v := t4) (va_runV (As := [.int t3, .int v1]) (rest := [.long i2_5]) ⟨hx, hb, hml, hown, hts⟩ (c_X2_volumeLeft l D T a0 x0 t3 v1 t4 et4) (cwV 2 hts gX2_weightAhead_X2_volumeLeft rfl rfl rfl hdV_X2_volumeLeft ⟨Nat.le_of_ble_eq_true rfl, Nat.le_of_ble_eq_true rfl⟩) ⟨PB_blind, va_recv hK.1 hP (ci := 2) (q0 := 0) rfl rfl, PB_at hP hK⟩ rfl rfl hl.1 rfl (lv_room (Nat.le_of_ble_eq_true rfl)) dX2_weightAhead_26 ⟨Nat.zero_le _, Nat.zero_le _⟩) ?_
        refine lv_ladd hx hb dX2_weightAhead_29 ?_
        refine lv_lstore_n (lv' := [(2, .long (i2_5 + t4)), (0, .ref (a0 0)), (1, .int v1), (4, .int i4_5)]) hx hb dX2_weightAhead_30 rfl hl (by decide) rfl (fun ls hl => ?_)
        refine lv_iinc (v := i4_5 + 1) (lv' := [(4, .int (i4_5 + 1)), (2, .long (i2_5 + t4)), (0, .ref (a0 0)), (1, .int v1)]) hx hb dX2_weightAhead_31 hl (k := 3) rfl rfl (by decide) rfl (fun ls hl => ?_)
        refine lv_goto (tgt := 5) hx hb dX2_weightAhead_34 (by decide) ?_
        exact ih5 (i2_5 + t4) (i4_5 + 1) ls h (lv_sub hl [2, 3, 1, 0] rfl)
  exact K5 1000 0 0 ls h (lv_sub hl [2, 3, 1, 0] rfl)
set_option maxHeartbeats 4000000 in
set_option maxRecDepth 100000 in
theorem c_X2_weightIfTold (l : Launch) (D : va_G) (T : Nat → ClassId) (a0 : Nat → Nat) (x0 : St) (v1 : Int32) (v2 : Int32) (v3 : Int32) (v4 : Int32) (r : Int64) (h : F_X2_weightIfTold x0 v1 v2 v3 v4 = some r) : Met l yX2_weightIfTold wsX2_weightIfTold ({ frames := 3, cells := 0, slots := 0, locals := 72 } : Room) (va_Pc [.ref (a0 0), .int v1, .int v2, .int v3, .int v4] (PB D T (stW T a0 (x0)))) (QRl r) 0 0 (fun _ => False) := by
  refine met_of (cc := cX2_weightIfTold) (maxL := 8) (ret := (some .long)) (lv := [(0, .ref (a0 0)), (1, .int v1), (2, .int v2), (3, .int v3), (4, .int v4)]) (by decide) rfl (Nat.le_of_ble_eq_true rfl) rfl ?_
  intro p e s m args below meth c ls C0 hl hB
  obtain ⟨hx, hb, hr, hml, hown, hts, hlocks, hname⟩ := C0
  obtain ⟨hP, hK⟩ := hB
  unfold F_X2_weightIfTold at h
  refine lv_lconst (v := 0) hx hb dX2_weightIfTold_0 (by decide) ?_
  refine lv_lstore (lv' := [(5, .long 0), (0, .ref (a0 0)), (1, .int v1), (2, .int v2), (3, .int v3), (4, .int v4)]) hx hb dX2_weightIfTold_1 hl (by decide) rfl (fun ls hl => ?_)
  refine lv_iconst (v := 0) hx hb dX2_weightIfTold_3 (by decide) ?_
  refine lv_istore (lv' := [(7, .int 0), (5, .long 0), (0, .ref (a0 0)), (1, .int v1), (2, .int v2), (3, .int v3), (4, .int v4)]) hx hb dX2_weightIfTold_4 hl (by decide) rfl (fun ls hl => ?_)
  have K6 : ∀ (n6 : Nat) (i5_6 : Int64) (i7_6 : Int32) (ls : Array Slot), fx2 (B_X2_weightIfTold_6 x0 v1 v2 v3 v4) n6 i5_6 i7_6 = some r → lv_has ls 8 [(0, .ref (a0 0)), (1, .int v1), (2, .int v2), (3, .int v3), (4, .int v4), (5, .long i5_6), (7, .int i7_6)] → W p l e ({ frames := 3, cells := 0, slots := 0, locals := 72 } : Room) s m args below meth c s.heap [] 0 0 (MQ below (QRl r) args s 0 0 (fun _ => False)) (F0 m 6 ls []) := by
    intro n6
    induction n6 with
    | zero =>
        intro i5_6 i7_6 ls h
        cases h
    | succ n6 ih6 =>
        intro i5_6 i7_6 ls h hl
        replace h : B_X2_weightIfTold_6 x0 v1 v2 v3 v4 (fx2 (B_X2_weightIfTold_6 x0 v1 v2 v3 v4) n6) i5_6 i7_6 = some r := h
        unfold B_X2_weightIfTold_6 at h
        refine lv_iload hx hb dX2_weightIfTold_6 (lv_at hl 6 rfl) ?_
        refine lv_aload_n hx hb dX2_weightIfTold_8 rfl (lv_at hl 0 rfl) ?_
        replace h := bd h
        obtain ⟨t1, et1, h⟩ := h
        refine callRi (v := t1) (va_runV (As := []) (rest := [.int i7_6]) ⟨hx, hb, hml, hown, hts⟩ (c_X2_cases l D T a0 x0 t1 et1) (cwV 0 hts gX2_weightIfTold_X2_cases rfl rfl rfl hdV_X2_cases ⟨Nat.le_of_ble_eq_true rfl, Nat.le_of_ble_eq_true rfl⟩) ⟨PB_blind, va_recv hK.1 hP (ci := 2) (q0 := 0) rfl rfl, PB_at hP hK⟩ rfl rfl hl.1 rfl (lv_room (Nat.le_of_ble_eq_true rfl)) dX2_weightIfTold_9 ⟨Nat.zero_le _, Nat.zero_le _⟩) ?_
        refine lv_icmp_ge (tgt := 41) hx hb dX2_weightIfTold_12 (by decide) (fun c2 => ?_) (fun c2 => ?_)
        · replace h := ip c2 h
          refine lv_lload hx hb dX2_weightIfTold_41 (lv_at hl 5 rfl) ?_
          exact W.lret hx hb hr (fun t ht hW => ⟨_, rfl, Option.some.inj h, ht⟩) (fun q hq => absurd hq List.not_mem_nil) dX2_weightIfTold_43 hlocks
        replace h := im c2 h
        refine lv_lload hx hb dX2_weightIfTold_15 (lv_at hl 5 rfl) ?_
        refine lv_aload_n hx hb dX2_weightIfTold_17 rfl (lv_at hl 0 rfl) ?_
        refine lv_aload_n hx hb dX2_weightIfTold_18 rfl (lv_at hl 0 rfl) ?_
        refine lv_iload hx hb dX2_weightIfTold_19 (lv_at hl 6 rfl) ?_
        refine lv_iload_n hx hb dX2_weightIfTold_21 rfl (lv_at hl 1 rfl) ?_
        refine lv_iload_n hx hb dX2_weightIfTold_22 rfl (lv_at hl 2 rfl) ?_
        refine lv_iload_n hx hb dX2_weightIfTold_23 rfl (lv_at hl 3 rfl) ?_
        replace h := bd h
        obtain ⟨t3, et3, h⟩ := h
        refine callRi (v := t3) (va_runV (As := [.int i7_6, .int v1, .int v2, .int v3]) (rest := [.ref (a0 0), .long i5_6]) ⟨hx, hb, hml, hown, hts⟩ (c_X2_liesIfTold l D T a0 x0 i7_6 v1 v2 v3 t3 et3) (cwV 4 hts gX2_weightIfTold_X2_liesIfTold rfl rfl rfl hdV_X2_liesIfTold ⟨Nat.le_of_ble_eq_true rfl, Nat.le_of_ble_eq_true rfl⟩) ⟨PB_blind, va_recv hK.1 hP (ci := 2) (q0 := 0) rfl rfl, PB_at hP hK⟩ rfl rfl hl.1 rfl (lv_room (Nat.le_of_ble_eq_true rfl)) dX2_weightIfTold_24 ⟨Nat.zero_le _, Nat.zero_le _⟩) ?_
        refine lv_iload hx hb dX2_weightIfTold_27 (lv_at hl 4 rfl) ?_
        replace h := bd h
        obtain ⟨t4, et4, h⟩ := h
        refine callRl (v := t4) (va_runV (As := [.int t3, .int v4]) (rest := [.long i5_6]) ⟨hx, hb, hml, hown, hts⟩ (c_X2_volumeLeft l D T a0 x0 t3 v4 t4 et4) (cwV 2 hts gX2_weightIfTold_X2_volumeLeft rfl rfl rfl hdV_X2_volumeLeft ⟨Nat.le_of_ble_eq_true rfl, Nat.le_of_ble_eq_true rfl⟩) ⟨PB_blind, va_recv hK.1 hP (ci := 2) (q0 := 0) rfl rfl, PB_at hP hK⟩ rfl rfl hl.1 rfl (lv_room (Nat.le_of_ble_eq_true rfl)) dX2_weightIfTold_29 ⟨Nat.zero_le _, Nat.zero_le _⟩) ?_
        refine lv_ladd hx hb dX2_weightIfTold_32 ?_
        refine lv_lstore (lv' := [(5, .long (i5_6 + t4)), (0, .ref (a0 0)), (1, .int v1), (2, .int v2), (3, .int v3), (4, .int v4), (7, .int i7_6)]) hx hb dX2_weightIfTold_33 hl (by decide) rfl (fun ls hl => ?_)
        refine lv_iinc (v := i7_6 + 1) (lv' := [(7, .int (i7_6 + 1)), (5, .long (i5_6 + t4)), (0, .ref (a0 0)), (1, .int v1), (2, .int v2), (3, .int v3), (4, .int v4)]) hx hb dX2_weightIfTold_35 hl (k := 6) rfl rfl (by decide) rfl (fun ls hl => ?_)
        refine lv_goto (tgt := 6) hx hb dX2_weightIfTold_38 (by decide) ?_
        exact ih6 (i5_6 + t4) (i7_6 + 1) ls h (lv_sub hl [2, 3, 4, 5, 6, 1, 0] rfl)
  exact K6 1000 0 0 ls h (lv_sub hl [2, 3, 4, 5, 6, 1, 0] rfl)
set_option maxHeartbeats 4000000 in
set_option maxRecDepth 100000 in
theorem c_X2_copyFrom (l : Launch) (D : va_G) (T : Nat → ClassId) (a0 : Nat → Nat) (x0 : St) (a1 : Nat → Nat) (x1 : St) (sz : Nat) (r : St) (h : F_X2_copyFrom x0 x1 = some r) : Met l yX2_copyFrom wsX2_copyFrom ({ frames := 3, cells := 0, slots := 0, locals := 65 } : Room) (va_Pc [.ref (a0 0), .ref (a1 0)] (PM D T (stW T a0 (x0) ++ stW T a1 (x1)) sz)) (QMv D (stW T a0 (r) ++ stW T a1 (x1)) (va_A (stW T a0 (x0) ++ stW T a1 (x1)) sz)) 0 0 (va_A (stW T a0 (x0) ++ stW T a1 (x1)) sz) := by
  refine met_of (cc := cX2_copyFrom) (maxL := 2) (ret := none) (lv := [(0, .ref (a0 0)), (1, .ref (a1 0))]) (by decide) rfl (Nat.le_of_ble_eq_true rfl) rfl ?_
  intro p e s m args below meth c ls C0 hl hB
  obtain ⟨hx, hb, hr, hml, hown, hts, hlocks, hname⟩ := C0
  obtain ⟨hsz, hP, hK, hD0⟩ := hB
  subst hsz
  have hD := hD0.self (sz := s.heap.size)
  generalize hAe : va_A (stW T a0 (x0) ++ stW T a1 (x1)) s.heap.size = A at hD ⊢
  have hA : ∀ q : Nat, s.heap.size ≤ q → A q := fun q h => by rw [← hAe]; exact Or.inr h
  obtain ⟨H, hH⟩ : ∃ H, H = s.heap := ⟨_, rfl⟩
  obtain ⟨locs, hlo⟩ : ∃ L : List Loc, L = [] := ⟨_, rfl⟩
  have hS : va_S A s.heap s.heap [] := va_S.rf
  rw [← hH] at hP ⊢
  rw [← hlo]
  replace hS : va_S A s.heap H locs := by rw [hH, hlo]; exact hS
  clear hH hlo
  unfold F_X2_copyFrom at h
  refine lv_aload_n hx hb dX2_copyFrom_0 rfl (lv_at hl 0 rfl) ?_
  refine va_get (D := D) (ci := 2) (v := .ref (a0 1)) (C := RX2) (T := TX2) (N := 9) hx hb hts inX2_copyFrom_2 hown hK.1 hP 0 rfl rfl 0 (by decide) (hts (.fieldLink RX2 14 "LyingScale$State" "told" "LLyingScale$Weighings;") (List.mem_of_getElem? (i := 1) rfl)) (fun _ h9 => h9) rfl dX2_copyFrom_1 ?_
  refine lv_aload_n hx hb dX2_copyFrom_4 rfl (lv_at hl 1 rfl) ?_
  refine va_get (D := D) (ci := 2) (v := .ref (a1 1)) (C := RX2) (T := TX2) (N := 9) hx hb hts inX2_copyFrom_2 hown hK.1 hP 11 rfl rfl 0 (by decide) (hts (.fieldLink RX2 14 "LyingScale$State" "told" "LLyingScale$Weighings;") (List.mem_of_getElem? (i := 1) rfl)) (fun _ h9 => h9) rfl dX2_copyFrom_5 ?_
  replace h := bd h
  obtain ⟨t1, et1, h⟩ := h
  refine callMv (wr := [(a0 0, .inr (2, [.ref (a0 1), .ref (a0 2), .ref (a0 3), .ref (a0 4), .int (x0.1 0), .int (x0.1 1), .int (x0.1 2), .int (x0.1 3), .int (x0.1 4)])), (a0 2, .inr (3, [.ref (a0 8), .ref (a0 9), .ref (a0 10), .int (x0.1 6)])), (a0 3, .inl (T 0, 33, .inl (x0.2 6))), (a0 4, .inl (T 0, 33, .inl (x0.2 7))), (a0 8, .inl (T 0, 8, .inl (x0.2 3))), (a0 9, .inl (T 0, 8, .inl (x0.2 4))), (a0 10, .inl (T 0, 8, .inl (x0.2 5))), (a1 0, .inr (2, [.ref (a1 1), .ref (a1 2), .ref (a1 3), .ref (a1 4), .int (x1.1 0), .int (x1.1 1), .int (x1.1 2), .int (x1.1 3), .int (x1.1 4)])), (a1 2, .inr (3, [.ref (a1 8), .ref (a1 9), .ref (a1 10), .int (x1.1 6)])), (a1 3, .inl (T 0, 33, .inl (x1.2 6))), (a1 4, .inl (T 0, 33, .inl (x1.2 7))), (a1 8, .inl (T 0, 8, .inl (x1.2 3))), (a1 9, .inl (T 0, 8, .inl (x1.2 4))), (a1 10, .inl (T 0, 8, .inl (x1.2 5)))]) (ws' := stW T a0 (tdU x0 t1) ++ stW T a1 (x1)) (va_runV (As := [.ref (a1 1)]) (rest := []) ⟨hx, hb, hml, hown, hts⟩ (c_X3_copyFrom l D T (tdA a0) 40 (tdS x0) (tdA a1) 40 (tdS x1) _ (Nat.le_of_ble_eq_true rfl) (Nat.le_of_ble_eq_true rfl) t1 et1) (cwV 1 hts gX2_copyFrom_X3_copyFrom rfl rfl rfl hdV_X3_copyFrom ⟨Nat.le_of_ble_eq_true rfl, Nat.le_of_ble_eq_true rfl⟩) ⟨PM_blind, va_recv hK.1 hP (ci := 3) (q0 := 1) rfl rfl, PM_at (hP.sub (ws' := wgW T 40 (tdA a0) (tdS x0) ++ wgW T 40 (tdA a1) (tdS x1)) [1, 5, 6, 7, 12, 16, 17, 18] rfl) (hD.sub (ws' := wgW T 40 (tdA a0) (tdS x0) ++ wgW T 40 (tdA a1) (tdS x1)) [1, 5, 6, 7, 12, 16, 17, 18] (by decide) rfl) hK⟩ rfl rfl hl.1 rfl (lv_room (Nat.le_of_ble_eq_true rfl)) dX2_copyFrom_8 ⟨Nat.zero_le _, Nat.zero_le _⟩) hS hA hP hD [1, 5, 6, 7, 12, 16, 17, 18] [0, 2, 3, 4, 8, 9, 10, 11, 13, 14, 15, 19, 20, 21] rfl rfl (by decide) (by decide) [0, 14, 1, 2, 3, 15, 16, 17, 4, 5, 6, 7, 18, 8, 9, 10, 19, 20, 21, 11, 12, 13] (by decide) rfl (fun H locs hP hD hS => ?_)
  refine lv_aload_n hx hb dX2_copyFrom_11 rfl (lv_at hl 0 rfl) ?_
  refine va_get (D := D) (ci := 2) (v := .ref (a0 2)) (C := RX2) (T := TX2) (N := 9) hx hb hts inX2_copyFrom_2 hown hK.1 hP 0 rfl rfl 1 (by decide) (hts (.fieldLink RX2 20 "LyingScale$State" "plan" "LLyingScale$Weighings;") (List.mem_of_getElem? (i := 2) rfl)) (fun _ h9 => h9) rfl dX2_copyFrom_12 ?_
  refine lv_aload_n hx hb dX2_copyFrom_15 rfl (lv_at hl 1 rfl) ?_
  refine va_get (D := D) (ci := 2) (v := .ref (a1 2)) (C := RX2) (T := TX2) (N := 9) hx hb hts inX2_copyFrom_2 hown hK.1 hP 11 rfl rfl 1 (by decide) (hts (.fieldLink RX2 20 "LyingScale$State" "plan" "LLyingScale$Weighings;") (List.mem_of_getElem? (i := 2) rfl)) (fun _ h9 => h9) rfl dX2_copyFrom_16 ?_
  replace h := bd h
  obtain ⟨t2, et2, h⟩ := h
  refine callMv (wr := [(a0 0, .inr (2, [.ref (a0 1), .ref (a0 2), .ref (a0 3), .ref (a0 4), .int ((tdU x0 t1).1 0), .int ((tdU x0 t1).1 1), .int ((tdU x0 t1).1 2), .int ((tdU x0 t1).1 3), .int ((tdU x0 t1).1 4)])), (a0 1, .inr (3, [.ref (a0 5), .ref (a0 6), .ref (a0 7), .int ((tdU x0 t1).1 5)])), (a0 3, .inl (T 0, 33, .inl ((tdU x0 t1).2 6))), (a0 4, .inl (T 0, 33, .inl ((tdU x0 t1).2 7))), (a0 5, .inl (T 0, 40, .inl ((tdU x0 t1).2 0))), (a0 6, .inl (T 0, 40, .inl ((tdU x0 t1).2 1))), (a0 7, .inl (T 0, 40, .inl ((tdU x0 t1).2 2))), (a1 0, .inr (2, [.ref (a1 1), .ref (a1 2), .ref (a1 3), .ref (a1 4), .int (x1.1 0), .int (x1.1 1), .int (x1.1 2), .int (x1.1 3), .int (x1.1 4)])), (a1 1, .inr (3, [.ref (a1 5), .ref (a1 6), .ref (a1 7), .int (x1.1 5)])), (a1 3, .inl (T 0, 33, .inl (x1.2 6))), (a1 4, .inl (T 0, 33, .inl (x1.2 7))), (a1 5, .inl (T 0, 40, .inl (x1.2 0))), (a1 6, .inl (T 0, 40, .inl (x1.2 1))), (a1 7, .inl (T 0, 40, .inl (x1.2 2)))]) (ws' := stW T a0 (plU (tdU x0 t1) t2) ++ stW T a1 (x1)) (va_runV (As := [.ref (a1 2)]) (rest := []) ⟨hx, hb, hml, hown, hts⟩ (c_X3_copyFrom l D T (plA a0) 8 (plS (tdU x0 t1)) (plA a1) 8 (plS x1) _ (Nat.le_of_ble_eq_true rfl) (Nat.le_of_ble_eq_true rfl) t2 et2) (cwV 1 hts gX2_copyFrom_X3_copyFrom rfl rfl rfl hdV_X3_copyFrom ⟨Nat.le_of_ble_eq_true rfl, Nat.le_of_ble_eq_true rfl⟩) ⟨PM_blind, va_recv hK.1 hP (ci := 3) (q0 := 2) rfl rfl, PM_at (hP.sub (ws' := wgW T 8 (plA a0) (plS (tdU x0 t1)) ++ wgW T 8 (plA a1) (plS x1)) [2, 8, 9, 10, 13, 19, 20, 21] rfl) (hD.sub (ws' := wgW T 8 (plA a0) (plS (tdU x0 t1)) ++ wgW T 8 (plA a1) (plS x1)) [2, 8, 9, 10, 13, 19, 20, 21] (by decide) rfl) hK⟩ rfl rfl hl.1 rfl (lv_room (Nat.le_of_ble_eq_true rfl)) dX2_copyFrom_19 ⟨Nat.zero_le _, Nat.zero_le _⟩) hS hA hP hD [2, 8, 9, 10, 13, 19, 20, 21] [0, 1, 3, 4, 5, 6, 7, 11, 12, 14, 15, 16, 17, 18] rfl rfl (by decide) (by decide) [0, 1, 14, 2, 3, 4, 5, 6, 15, 16, 17, 7, 8, 18, 9, 10, 11, 12, 13, 19, 20, 21] (by decide) rfl (fun H locs hP hD hS => ?_)
  refine lv_aload_n hx hb dX2_copyFrom_22 rfl (lv_at hl 1 rfl) ?_
  refine va_get (D := D) (ci := 2) (v := .ref (a1 3)) (C := RX2) (T := TX2) (N := 9) hx hb hts inX2_copyFrom_2 hown hK.1 hP 11 rfl rfl 2 (by decide) (hts (.fieldLink RX2 23 "LyingScale$State" "liesOf" "[I") (List.mem_of_getElem? (i := 3) rfl)) (fun _ h9 => h9) rfl dX2_copyFrom_23 ?_
  refine lv_aload_n hx hb dX2_copyFrom_26 rfl (lv_at hl 0 rfl) ?_
  refine va_get (D := D) (ci := 2) (v := .ref (a0 3)) (C := RX2) (T := TX2) (N := 9) hx hb hts inX2_copyFrom_2 hown hK.1 hP 0 rfl rfl 2 (by decide) (hts (.fieldLink RX2 23 "LyingScale$State" "liesOf" "[I") (List.mem_of_getElem? (i := 3) rfl)) (fun _ h9 => h9) rfl dX2_copyFrom_27 ?_
  replace h := bd h
  obtain ⟨t3, et3, h⟩ := h
  refine callMv (wr := [(a0 0, .inr (2, [.ref (a0 1), .ref (a0 2), .ref (a0 3), .ref (a0 4), .int ((plU (tdU x0 t1) t2).1 0), .int ((plU (tdU x0 t1) t2).1 1), .int ((plU (tdU x0 t1) t2).1 2), .int ((plU (tdU x0 t1) t2).1 3), .int ((plU (tdU x0 t1) t2).1 4)])), (a0 1, .inr (3, [.ref (a0 5), .ref (a0 6), .ref (a0 7), .int ((plU (tdU x0 t1) t2).1 5)])), (a0 2, .inr (3, [.ref (a0 8), .ref (a0 9), .ref (a0 10), .int ((plU (tdU x0 t1) t2).1 6)])), (a0 4, .inl (T 0, 33, .inl ((plU (tdU x0 t1) t2).2 7))), (a0 5, .inl (T 0, 40, .inl ((plU (tdU x0 t1) t2).2 0))), (a0 6, .inl (T 0, 40, .inl ((plU (tdU x0 t1) t2).2 1))), (a0 7, .inl (T 0, 40, .inl ((plU (tdU x0 t1) t2).2 2))), (a0 8, .inl (T 0, 8, .inl ((plU (tdU x0 t1) t2).2 3))), (a0 9, .inl (T 0, 8, .inl ((plU (tdU x0 t1) t2).2 4))), (a0 10, .inl (T 0, 8, .inl ((plU (tdU x0 t1) t2).2 5))), (a1 0, .inr (2, [.ref (a1 1), .ref (a1 2), .ref (a1 3), .ref (a1 4), .int (x1.1 0), .int (x1.1 1), .int (x1.1 2), .int (x1.1 3), .int (x1.1 4)])), (a1 1, .inr (3, [.ref (a1 5), .ref (a1 6), .ref (a1 7), .int (x1.1 5)])), (a1 2, .inr (3, [.ref (a1 8), .ref (a1 9), .ref (a1 10), .int (x1.1 6)])), (a1 4, .inl (T 0, 33, .inl (x1.2 7))), (a1 5, .inl (T 0, 40, .inl (x1.2 0))), (a1 6, .inl (T 0, 40, .inl (x1.2 1))), (a1 7, .inl (T 0, 40, .inl (x1.2 2))), (a1 8, .inl (T 0, 8, .inl (x1.2 3))), (a1 9, .inl (T 0, 8, .inl (x1.2 4))), (a1 10, .inl (T 0, 8, .inl (x1.2 5)))]) (ws' := stW T a0 (sA (plU (tdU x0 t1) t2) 6 t3) ++ stW T a1 (x1)) (va_runSN (As := [.ref (a1 3), .ref (a0 3)]) (rest := []) ⟨hx, hb, hml, hown, hts⟩ (c_X4_copyRow l D T (a1 3) 33 (x1.2 6) (a0 3) 33 ((plU (tdU x0 t1) t2).2 6) _ (Nat.le_of_ble_eq_true rfl) (Nat.le_of_ble_eq_true rfl) t3 et3) ⟨va_cnB 2 hts gX2_copyFrom_X4_copyRow_n54 rfl rfl rfl (hK.2 (.methodLinkNest RX2 54 yX4_copyRow "LyingScale") (List.mem_of_getElem? (i := 9) rfl)) (hts (.initialized RX4) (List.mem_of_getElem? (i := 19) rfl)) hdS_X4_copyRow ⟨Nat.le_of_ble_eq_true rfl, Nat.le_of_ble_eq_true rfl⟩, (hts (.static yX4_copyRow) (List.mem_of_getElem? (i := 18) rfl)), trivial⟩ ⟨PM_blind, PM_at (hP.sub (ws' := ([(a1 3, .inl (T 0, 33, .inl (x1.2 6)))] : va_W) ++ ([(a0 3, .inl (T 0, 33, .inl ((plU (tdU x0 t1) t2).2 6)))] : va_W)) [14, 3] rfl) (hD.sub (ws' := ([(a1 3, .inl (T 0, 33, .inl (x1.2 6)))] : va_W) ++ ([(a0 3, .inl (T 0, 33, .inl ((plU (tdU x0 t1) t2).2 6)))] : va_W)) [14, 3] (by decide) rfl) hK⟩ rfl rfl hl.1 rfl (lv_room (Nat.le_of_ble_eq_true rfl)) dX2_copyFrom_30 ⟨Nat.zero_le _, Nat.zero_le _⟩) hS hA hP hD [14, 3] [0, 1, 2, 4, 5, 6, 7, 8, 9, 10, 11, 12, 13, 15, 16, 17, 18, 19, 20, 21] rfl rfl (by decide) (by decide) [0, 1, 2, 21, 3, 4, 5, 6, 7, 8, 9, 10, 11, 12, 20, 13, 14, 15, 16, 17, 18, 19] (by decide) rfl (fun H locs hP hD hS => ?_)
  refine lv_aload_n hx hb dX2_copyFrom_33 rfl (lv_at hl 0 rfl) ?_
  refine lv_aload_n hx hb dX2_copyFrom_34 rfl (lv_at hl 1 rfl) ?_
  refine va_get (D := D) (ci := 2) (v := .int (x1.1 0)) (C := RX2) (T := TX2) (N := 9) hx hb hts inX2_copyFrom_2 hown hK.1 hP 11 rfl rfl 4 (by decide) (hts (.fieldLink RX2 33 "LyingScale$State" "coins" "I") (List.mem_of_getElem? (i := 4) rfl)) (fun _ h9 => h9) rfl dX2_copyFrom_35 ?_
  refine va_put (D := D) (ci := 2) (v := .int (x1.1 0)) (ty := .int) (C := RX2) (T := TX2) (N := 9) hx hb hts inX2_copyFrom_2 tyX2 tyX2_ok nmX2 hown hK.1 hP hD hS 0 rfl rfl 4 (by decide) (hts (.fieldLink RX2 33 "LyingScale$State" "coins" "I") (List.mem_of_getElem? (i := 4) rfl)) (fun _ h9 => h9) rfl (by decide +kernel) rfl rfl (Nat.le_of_ble_eq_true rfl) dX2_copyFrom_38 (fun H locs hP hD hS => ?_)
  replace hP : va_P D vwCl (stW T a0 (sI (sA (plU (tdU x0 t1) t2) 6 t3) 0 (x1.1 0)) ++ stW T a1 (x1)) H := hP
  replace hD : va_D A (stW T a0 (sI (sA (plU (tdU x0 t1) t2) 6 t3) 0 (x1.1 0)) ++ stW T a1 (x1)) := hD
  replace h := bd h
  obtain ⟨y4, ey4, h⟩ := h
  rw [Option.some.inj ey4] at hP hD
  refine lv_aload_n hx hb dX2_copyFrom_41 rfl (lv_at hl 0 rfl) ?_
  refine lv_aload_n hx hb dX2_copyFrom_42 rfl (lv_at hl 1 rfl) ?_
  refine va_get (D := D) (ci := 2) (v := .int (x1.1 1)) (C := RX2) (T := TX2) (N := 9) hx hb hts inX2_copyFrom_2 hown hK.1 hP 11 rfl rfl 5 (by decide) (hts (.fieldLink RX2 37 "LyingScale$State" "limit" "I") (List.mem_of_getElem? (i := 5) rfl)) (fun _ h9 => h9) rfl dX2_copyFrom_43 ?_
  refine va_put (D := D) (ci := 2) (v := .int (x1.1 1)) (ty := .int) (C := RX2) (T := TX2) (N := 9) hx hb hts inX2_copyFrom_2 tyX2 tyX2_ok nmX2 hown hK.1 hP hD hS 0 rfl rfl 5 (by decide) (hts (.fieldLink RX2 37 "LyingScale$State" "limit" "I") (List.mem_of_getElem? (i := 5) rfl)) (fun _ h9 => h9) rfl (by decide +kernel) rfl rfl (Nat.le_of_ble_eq_true rfl) dX2_copyFrom_46 (fun H locs hP hD hS => ?_)
  replace hP : va_P D vwCl (stW T a0 (sI y4 1 (x1.1 1)) ++ stW T a1 (x1)) H := hP
  replace hD : va_D A (stW T a0 (sI y4 1 (x1.1 1)) ++ stW T a1 (x1)) := hD
  refine lv_aload_n hx hb dX2_copyFrom_49 rfl (lv_at hl 0 rfl) ?_
  refine lv_aload_n hx hb dX2_copyFrom_50 rfl (lv_at hl 1 rfl) ?_
  refine va_get (D := D) (ci := 2) (v := .int (x1.1 2)) (C := RX2) (T := TX2) (N := 9) hx hb hts inX2_copyFrom_2 hown hK.1 hP 11 rfl rfl 6 (by decide) (hts (.fieldLink RX2 58 "LyingScale$State" "hidden" "I") (List.mem_of_getElem? (i := 6) rfl)) (fun _ h9 => h9) rfl dX2_copyFrom_51 ?_
  refine va_put (D := D) (ci := 2) (v := .int (x1.1 2)) (ty := .int) (C := RX2) (T := TX2) (N := 9) hx hb hts inX2_copyFrom_2 tyX2 tyX2_ok nmX2 hown hK.1 hP hD hS 0 rfl rfl 6 (by decide) (hts (.fieldLink RX2 58 "LyingScale$State" "hidden" "I") (List.mem_of_getElem? (i := 6) rfl)) (fun _ h9 => h9) rfl (by decide +kernel) rfl rfl (Nat.le_of_ble_eq_true rfl) dX2_copyFrom_54 (fun H locs hP hD hS => ?_)
  replace hP : va_P D vwCl (stW T a0 (sI (sI y4 1 (x1.1 1)) 2 (x1.1 2)) ++ stW T a1 (x1)) H := hP
  replace hD : va_D A (stW T a0 (sI (sI y4 1 (x1.1 1)) 2 (x1.1 2)) ++ stW T a1 (x1)) := hD
  refine lv_aload_n hx hb dX2_copyFrom_57 rfl (lv_at hl 0 rfl) ?_
  refine lv_aload_n hx hb dX2_copyFrom_58 rfl (lv_at hl 1 rfl) ?_
  refine va_get (D := D) (ci := 2) (v := .int (x1.1 3)) (C := RX2) (T := TX2) (N := 9) hx hb hts inX2_copyFrom_2 hown hK.1 hP 11 rfl rfl 7 (by decide) (hts (.fieldLink RX2 61 "LyingScale$State" "lieSet" "I") (List.mem_of_getElem? (i := 7) rfl)) (fun _ h9 => h9) rfl dX2_copyFrom_59 ?_
  refine va_put (D := D) (ci := 2) (v := .int (x1.1 3)) (ty := .int) (C := RX2) (T := TX2) (N := 9) hx hb hts inX2_copyFrom_2 tyX2 tyX2_ok nmX2 hown hK.1 hP hD hS 0 rfl rfl 7 (by decide) (hts (.fieldLink RX2 61 "LyingScale$State" "lieSet" "I") (List.mem_of_getElem? (i := 7) rfl)) (fun _ h9 => h9) rfl (by decide +kernel) rfl rfl (Nat.le_of_ble_eq_true rfl) dX2_copyFrom_62 (fun H locs hP hD hS => ?_)
  replace hP : va_P D vwCl (stW T a0 (sI (sI (sI y4 1 (x1.1 1)) 2 (x1.1 2)) 3 (x1.1 3)) ++ stW T a1 (x1)) H := hP
  replace hD : va_D A (stW T a0 (sI (sI (sI y4 1 (x1.1 1)) 2 (x1.1 2)) 3 (x1.1 3)) ++ stW T a1 (x1)) := hD
  replace h := bd h
  obtain ⟨y5, ey5, h⟩ := h
  rw [Option.some.inj ey5] at hP hD
  refine lv_aload_n hx hb dX2_copyFrom_65 rfl (lv_at hl 0 rfl) ?_
  refine lv_aload_n hx hb dX2_copyFrom_66 rfl (lv_at hl 1 rfl) ?_
  refine va_get (D := D) (ci := 2) (v := .int (x1.1 4)) (C := RX2) (T := TX2) (N := 9) hx hb hts inX2_copyFrom_2 hown hK.1 hP 11 rfl rfl 8 (by decide) (hts (.fieldLink RX2 64 "LyingScale$State" "answered" "I") (List.mem_of_getElem? (i := 8) rfl)) (fun _ h9 => h9) rfl dX2_copyFrom_67 ?_
  refine va_put (D := D) (ci := 2) (v := .int (x1.1 4)) (ty := .int) (C := RX2) (T := TX2) (N := 9) hx hb hts inX2_copyFrom_2 tyX2 tyX2_ok nmX2 hown hK.1 hP hD hS 0 rfl rfl 8 (by decide) (hts (.fieldLink RX2 64 "LyingScale$State" "answered" "I") (List.mem_of_getElem? (i := 8) rfl)) (fun _ h9 => h9) rfl (by decide +kernel) rfl rfl (Nat.le_of_ble_eq_true rfl) dX2_copyFrom_70 (fun H locs hP hD hS => ?_)
  replace hP : va_P D vwCl (stW T a0 (sI y5 4 (x1.1 4)) ++ stW T a1 (x1)) H := hP
  replace hD : va_D A (stW T a0 (sI y5 4 (x1.1 4)) ++ stW T a1 (x1)) := hD
  obtain rfl := Option.some.inj h
  exact W.vret hx hb hr (fun t ht hW => ⟨⟨(), rfl, trivial, by rw [ht]; exact hP, hD⟩, hS.F ht⟩) hS.2.2 dX2_copyFrom_73 hlocks
end
section
/-! the scale's world and methods that throw -/
abbrev ZT : Type := Nat → St
abbrev AT : Type := Nat → Nat → Nat
abbrev exNm : List String := ["java/lang/RuntimeException", "java/lang/Exception"]
theorem exFit : ∀ n ∈ exNm, Bundle.fit n = true := by decide +kernel
def exCls : List String := ["java/lang/IllegalArgumentException", "java/lang/IllegalStateException", "java/lang/IndexOutOfBoundsException"]
def exW : List Cond := [.declares (Bundle.initS "java/lang/RuntimeException"), .declares (Bundle.initS "java/lang/Exception"), .declares (Bundle.initS Bundle.tN), .castable "java/lang/IllegalArgumentException" "java/lang/IllegalArgumentException", .castable "java/lang/IllegalStateException" "java/lang/IllegalStateException", .castable "java/lang/IndexOutOfBoundsException" "java/lang/IndexOutOfBoundsException"]
theorem exW_warm {s U : State} (hW : s.WarmedH U.vm) (h : ∀ w ∈ exW, va_Nw w s) : ∀ w ∈ exW, va_Nw w U := by
  have hD : ∀ n : String, va_Nw (.declares (Bundle.initS n)) s → va_Nw (.declares (Bundle.initS n)) U := fun n q => va_Nw.warmD hW q
  have hC : ∀ E : String, va_Nw (.castable E E) s → va_Nw (.castable E E) U := fun E q => va_Nw.warmC hW q
  simp only [exW, List.forall_mem_cons] at h ⊢
  exact ⟨hD _ h.1, hD _ h.2.1, hD _ h.2.2.1, hC _ h.2.2.2.1, hC _ h.2.2.2.2.1, hC _ h.2.2.2.2.2.1, fun _ q => absurd q List.not_mem_nil⟩
theorem exW_tabs : ∀ w ∈ exW, w.onTables = true := by decide +kernel
def strs : List (Nat × String) := [(32, "coins is out of range"), (55, "lies is out of range"), (95, "no such case"), (106, "no weighing"), (111, "the scale cannot answer"), (153, "what is out of range"), (164, "weighings is out of range"), (172, "no weighing, no answer, or weighings out of range"), (235, "there is no saved state")]
/-- what a throw needs of the start -/
def EXF (A : Nat → Prop) (U : State) : Prop := vx_Zq Bundle.tN "UNASSIGNED_STACK" Bundle.steD A U U.heap ∧ vx_Zq Bundle.tN "SUPPRESSED_SENTINEL" Bundle.listD A U U.heap ∧ (∀ q ∈ strs, ∃ sa, vk_R RX4 q.1 q.2 sa U) ∧ ∀ w ∈ exW, va_Nw w U
theorem EXF.calling {A : Nat → Prop} {U : State} {g : JFrame} {mk : MethodId} {a : Array Value} (h : EXF A U) : EXF A (U.calling g mk a) := by
  refine ⟨vx_Zq.moved (u := U) (U := U.calling g mk a) (Vm.Alike.refl U.vm) h.1, vx_Zq.moved (u := U) (U := U.calling g mk a) (Vm.Alike.refl U.vm) h.2.1, fun q hq => ?_, fun w hw => va_Nw.same (u := U) (U := U.calling g mk a) (exW_tabs w hw) rfl (h.2.2.2 w hw)⟩
  obtain ⟨sa, hs⟩ := h.2.2.1 q hq
  exact ⟨sa, vk_R.same (u := U) (U := U.calling g mk a) rfl hs⟩
theorem EXF.at {A0 A : Nat → Prop} {s U : State} {H : Heap} {locs : List Loc} (hE : EXF A0 s) (hS : va_S A0 s.heap H locs) (hAB : ∀ q, A q → A0 q) (hU : U.heap = H) (hW : s.WarmedH U.vm) : EXF A U := by
  refine ⟨?_, ?_, fun q hq => ?_, exW_warm hW hE.2.2.2⟩
  · rw [hU]; exact vx_Zq.narrow (vx_Zq.moved hW.alike (hE.1.kept hS.2.1)) hAB
  · rw [hU]; exact vx_Zq.narrow (vx_Zq.moved hW.alike (hE.2.1.kept hS.2.1)) hAB
  · obtain ⟨sa, hs⟩ := hE.2.2.1 q hq
    exact ⟨sa, vk_R.warm hW hs⟩
def PX (D : va_G) (T : Nat → ClassId) (wc : va_W) (sz : Nat) (U : State) : Prop := PM D T wc sz U ∧ EXF (va_A wc sz) U
theorem PX_blind {D : va_G} {T : Nat → ClassId} {wc : va_W} {sz : Nat} {av : List Value} : FrameBlind (va_Pc av (PX D T wc sz)) := fun _ _ _ _ q => ⟨q.1, ⟨q.2.1.1, q.2.1.2.1, q.2.1.2.2.1.calling, q.2.1.2.2.2⟩, q.2.2.calling⟩
theorem PX_at {D : va_G} {T : Nat → ClassId} {wc : va_W} {av : List Value} {s : State} {H : Heap} {locs : List Loc} {A A0 : Nat → Prop} (hP : va_P D vwCl wc H) (hD : va_D A wc) (hK : KK D T s) (hE : EXF A0 s) (hS : va_S A0 s.heap H locs) (hAB : ∀ q, va_A wc H.size q → A0 q) : ∀ U : State, U.heap = H → s.WarmedH U.vm → va_Pc av (PX D T wc H.size) av.toArray U := fun U hU hW => ⟨rfl, ⟨by rw [hU], by rw [hU]; exact hP, hK.warm hW, hD.weaken (fun _ _ _ _ => trivial)⟩, hE.at hS hAB hU hW⟩
def QXi (D : va_G) (W1 : AT → ZT → va_W) (r : Sum String (Int32 × ZT)) (A : Nat → Prop) : Array Value → State → Outcome → State → Prop := va_Qi (fun (v : Int32) (u : AT × ZT) => r = .inr (v, u.2)) (fun u t => va_P D vwCl (W1 u.1 u.2) t.heap ∧ va_D A (W1 u.1 u.2)) A
def QXl (D : va_G) (W1 : AT → ZT → va_W) (r : Sum String (Int64 × ZT)) (A : Nat → Prop) : Array Value → State → Outcome → State → Prop := va_Ql (fun (v : Int64) (u : AT × ZT) => r = .inr (v, u.2)) (fun u t => va_P D vwCl (W1 u.1 u.2) t.heap ∧ va_D A (W1 u.1 u.2)) A
def XXq {β : Type} (r : Sum String β) : String → State → State → Prop := vx_X (fun (_ : Unit) => True) (fun E _ _ => r = .inl E) (fun _ => False)
def QEi (D : va_G) (W1 : AT → ZT → va_W) (v : Int32) (z : ZT) (A : Nat → Prop) : Array Value → State → Outcome → State → Prop := va_Qi (fun (r : Int32) (_ : AT) => r = v) (fun u t => va_P D vwCl (W1 u z) t.heap ∧ va_D A (W1 u z)) A
def QEl (D : va_G) (W1 : AT → ZT → va_W) (v : Int64) (z : ZT) (A : Nat → Prop) : Array Value → State → Outcome → State → Prop := va_Ql (fun (r : Int64) (_ : AT) => r = v) (fun u t => va_P D vwCl (W1 u z) t.heap ∧ va_D A (W1 u z)) A
def QEd (D : va_G) (W1 : AT → ZT → va_W) (v : UInt64) (z : ZT) (A : Nat → Prop) : Array Value → State → Outcome → State → Prop := va_Qd (fun (r : UInt64) (_ : AT) => r = v) (fun u t => va_P D vwCl (W1 u z) t.heap ∧ va_D A (W1 u z)) A
def QEv (D : va_G) (W1 : AT → ZT → va_W) (z : ZT) (A : Nat → Prop) : Array Value → State → Outcome → State → Prop := va_Qv (fun (_ : AT) => True) (fun u t => va_P D vwCl (W1 u z) t.heap ∧ va_D A (W1 u z)) A
theorem met_ofX {l : Launch} {y : MethodName} {ws ws' : List Cond} {rm : Room} {av : List Value} {B : State → Prop} {Qc : Array Value → State → Outcome → State → Prop} {XC : String → State → State → Prop} {mc ms : Nat} {free : Addr → Prop} {cc : ByteArray} {maxL : Nat} {ret : Option FieldType} {lv : List (Nat × Value)}
    (hy : plainName y.cls = true) (hw : ws = Cond.code y cc maxL ret :: ws') (hn : (lg_sl av).length ≤ maxL) (hlv : lv_args 0 av = lv)
    (body : ∀ (p : Program) (e : Env) (s : State) (m : MethodId) (args : Array Value) (below : List Frame) (meth : Method) (c : Code) (ls : Array Slot), CX p s m args meth c cc maxL ret ws y → (∀ x ∈ c.exceptionTable.toList, False) → lv_has ls maxL lv → B s →
      W p l e rm s m args below meth c s.heap [] 0 0 (vx_MQ below Qc XC args s mc ms free) (F0 m 0 ls [])) : vx_Met l y ws rm (va_Pc av B) Qc XC mc ms free := by
  refine vx_ofW (cc := cc) (maxL := maxL) (ret := ret) hy hw ?_
  intro p e s m args below meth c s₁ C0 hml hno hv
  obtain ⟨rfl, hB⟩ := hv
  have hl := lv_entry av (n := maxL) hn
  rw [lg_entry_eq]
  rw [hlv] at hl
  exact body p e s m _ below meth c _ ⟨C0.exec, C0.bytes, C0.returns, hml, findClass_of_methodNamed C0.named, atoms_spec (ws := ws) C0.pre, C0.notSynchronized, (name_of_methodNamed C0.named C0.method).1⟩ hno hl hB
section SC
variable {p : Program} {l : Launch} {e : Env} {R : Room} {s : State} {m : MethodId} {args : Array Value} {below : List Frame} {meth : Method} {c : Code} {H : Heap} {locs : List Loc} {cells slots : Nat} {Q : State → Prop}
variable {pc : Nat} {ls : Array Slot} {rest st0 : List Value} {a : Array Value} {A0 : Nat → Prop} {H0 : Heap} {mc ms : Nat} {D : va_G} {wc : va_W} {W1 : AT → ZT → va_W} {z : ZT}
theorem va_self {A0 : Nat → Prop} {wc : va_W} {H0 H : Heap} {locs : List Loc} (hD : va_D A0 wc) (hS : va_S A0 H0 H locs) (hA : ∀ q, H0.size ≤ q → A0 q) : ∀ q, va_A wc H.size q → A0 q := by
  intro q h
  rcases h with ⟨k, e, h⟩ | h
  · exact hD.2 k (q, e) h
  · exact hA q (Nat.le_trans hS.1 h)
theorem callEi {v : Int32} (hr : va_Run p l e R s m args below meth c H locs cells slots mc ms (F0 m pc ls st0) rest (QEi D W1 v z (va_A wc H.size) a) (va_A wc H.size)) (hS : va_S A0 H0 H locs) (hA : ∀ q, H0.size ≤ q → A0 q) (hP : va_P D vwCl wc H) (hD : va_D A0 wc)
    (kk : ∀ (u : AT) (H1 : Heap) (locs1 : List Loc), va_P D vwCl (W1 u z) H1 → va_D A0 (W1 u z) → va_S A0 H0 H1 locs1 → W p l e R s m args below meth c H1 locs1 (cells + mc) (slots + ms) Q (F0 m (pc + 3) ls (.int v :: rest))) : W p l e R s m args below meth c H locs cells slots Q (F0 m pc ls st0) := by
  have hF := va_self hD hS hA
  refine va_calli hr hS (fun q _ h => hF q h) hF (fun r u t H1 locs ht hvm hw hB hz1 hk1 hS => ?_)
  subst hw
  rw [ht] at hB
  exact kk u H1 locs hB.1 (hB.2.weaken (fun k q _ h => hF q.1 h)) hS
theorem callEl {v : Int64} (hr : va_Run p l e R s m args below meth c H locs cells slots mc ms (F0 m pc ls st0) rest (QEl D W1 v z (va_A wc H.size) a) (va_A wc H.size)) (hS : va_S A0 H0 H locs) (hA : ∀ q, H0.size ≤ q → A0 q) (hP : va_P D vwCl wc H) (hD : va_D A0 wc)
    (kk : ∀ (u : AT) (H1 : Heap) (locs1 : List Loc), va_P D vwCl (W1 u z) H1 → va_D A0 (W1 u z) → va_S A0 H0 H1 locs1 → W p l e R s m args below meth c H1 locs1 (cells + mc) (slots + ms) Q (F0 m (pc + 3) ls (.long v :: rest))) : W p l e R s m args below meth c H locs cells slots Q (F0 m pc ls st0) := by
  have hF := va_self hD hS hA
  refine va_calll hr hS (fun q _ h => hF q h) hF (fun r u t H1 locs ht hvm hw hB hz1 hk1 hS => ?_)
  subst hw
  rw [ht] at hB
  exact kk u H1 locs hB.1 (hB.2.weaken (fun k q _ h => hF q.1 h)) hS
theorem callEd {v : UInt64} (hr : va_Run p l e R s m args below meth c H locs cells slots mc ms (F0 m pc ls st0) rest (QEd D W1 v z (va_A wc H.size) a) (va_A wc H.size)) (hS : va_S A0 H0 H locs) (hA : ∀ q, H0.size ≤ q → A0 q) (hP : va_P D vwCl wc H) (hD : va_D A0 wc)
    (kk : ∀ (u : AT) (H1 : Heap) (locs1 : List Loc), va_P D vwCl (W1 u z) H1 → va_D A0 (W1 u z) → va_S A0 H0 H1 locs1 → W p l e R s m args below meth c H1 locs1 (cells + mc) (slots + ms) Q (F0 m (pc + 3) ls (.double v :: rest))) : W p l e R s m args below meth c H locs cells slots Q (F0 m pc ls st0) := by
  have hF := va_self hD hS hA
  refine va_calld hr hS (fun q _ h => hF q h) hF (fun r u t H1 locs ht hvm hw hB hz1 hk1 hS => ?_)
  subst hw
  rw [ht] at hB
  exact kk u H1 locs hB.1 (hB.2.weaken (fun k q _ h => hF q.1 h)) hS
theorem callEv (hr : va_Run p l e R s m args below meth c H locs cells slots mc ms (F0 m pc ls st0) rest (QEv D W1 z (va_A wc H.size) a) (va_A wc H.size)) (hS : va_S A0 H0 H locs) (hA : ∀ q, H0.size ≤ q → A0 q) (hP : va_P D vwCl wc H) (hD : va_D A0 wc)
    (kk : ∀ (u : AT) (H1 : Heap) (locs1 : List Loc), va_P D vwCl (W1 u z) H1 → va_D A0 (W1 u z) → va_S A0 H0 H1 locs1 → W p l e R s m args below meth c H1 locs1 (cells + mc) (slots + ms) Q (F0 m (pc + 3) ls rest)) : W p l e R s m args below meth c H locs cells slots Q (F0 m pc ls st0) := by
  have hF := va_self hD hS hA
  refine va_callv hr hS (fun q _ h => hF q h) hF (fun u t H1 locs ht hvm hw hB hz1 hk1 hS => ?_)
  rw [ht] at hB
  exact kk u H1 locs hB.1 (hB.2.weaken (fun k q _ h => hF q.1 h)) hS
/-- an answer that is a reference and writes nothing -/
def QRa (v : Value) : Array Value → State → Outcome → State → Prop := fun _ st o t => o = .returned (some v) ∧ t.heap = st.heap
theorem callRa {v : Value} (hr : va_Run p l e R s m args below meth c H locs cells slots 0 0 (F0 m pc ls st0) rest (QRa v a) (fun _ => False))
    (kk : W p l e R s m args below meth c H locs cells slots Q (F0 m (pc + 3) ls (v :: rest))) : W p l e R s m args below meth c H locs cells slots Q (F0 m pc ls st0) := by
  intro T hT X
  obtain ⟨v', st₀, t, T', L, h0, X', hL, e1, -, ⟨hv, hh⟩, st⟩ := hr T hT X
  cases hv
  obtain ⟨t2, a1, b1⟩ := kk T' (by rw [e1, hh, h0]) (Stand.forget X' (fun q h => (hL q h).elim))
  exact ⟨t2, st t2 a1, b1⟩
theorem eqa {x y : Value} (h : x = y) (kk : W p l e R s m args below meth c H locs cells slots Q (F0 m pc ls (y :: rest))) : W p l e R s m args below meth c H locs cells slots Q (F0 m pc ls (x :: rest)) := h ▸ kk
end SC
def exb34 : List Cond := [.declares (Bundle.initS "java/lang/RuntimeException"), .declares (Bundle.initS "java/lang/Exception"), .declares (Bundle.initS Bundle.tN), .castable "java/lang/IllegalArgumentException" "java/lang/IllegalArgumentException"]
theorem bad_34 : ∀ w ∈ (vx_atS RX4 34 "java/lang/IllegalArgumentException" ["java/lang/RuntimeException", "java/lang/Exception"]).filter (fun w => !goodWord w), w ∈ exb34 := by decide +kernel
theorem exB34 {args : Array Value} {s : State} (h : ∀ w ∈ exW, va_Nw w s) : ∀ w ∈ exb34, w.before args s = true := fun w hw => va_Nw.use (exW_tabs w ((by decide +kernel : ∀ w ∈ exb34, w ∈ exW) w hw)) (h w ((by decide +kernel : ∀ w ∈ exb34, w ∈ exW) w hw))
theorem ot_34 : ∀ w ∈ Cond.classLink RX4 30 "java/lang/IllegalArgumentException" :: Cond.initialized "java/lang/IllegalArgumentException" :: vx_atS RX4 34 "java/lang/IllegalArgumentException" ["java/lang/RuntimeException", "java/lang/Exception"], vx_ot w = true := by decide +kernel
def exb82 : List Cond := [.declares (Bundle.initS "java/lang/RuntimeException"), .declares (Bundle.initS "java/lang/Exception"), .declares (Bundle.initS Bundle.tN), .castable "java/lang/IllegalStateException" "java/lang/IllegalStateException"]
theorem bad_82 : ∀ w ∈ (vx_atS RX4 82 "java/lang/IllegalStateException" ["java/lang/RuntimeException", "java/lang/Exception"]).filter (fun w => !goodWord w), w ∈ exb82 := by decide +kernel
theorem exB82 {args : Array Value} {s : State} (h : ∀ w ∈ exW, va_Nw w s) : ∀ w ∈ exb82, w.before args s = true := fun w hw => va_Nw.use (exW_tabs w ((by decide +kernel : ∀ w ∈ exb82, w ∈ exW) w hw)) (h w ((by decide +kernel : ∀ w ∈ exb82, w ∈ exW) w hw))
theorem ot_82 : ∀ w ∈ Cond.classLink RX4 78 "java/lang/IllegalStateException" :: Cond.initialized "java/lang/IllegalStateException" :: vx_atS RX4 82 "java/lang/IllegalStateException" ["java/lang/RuntimeException", "java/lang/Exception"], vx_ot w = true := by decide +kernel
def exb97 : List Cond := [.declares (Bundle.initS "java/lang/RuntimeException"), .declares (Bundle.initS "java/lang/Exception"), .declares (Bundle.initS Bundle.tN), .castable "java/lang/IndexOutOfBoundsException" "java/lang/IndexOutOfBoundsException"]
theorem bad_97 : ∀ w ∈ (vx_atS RX4 97 "java/lang/IndexOutOfBoundsException" ["java/lang/RuntimeException", "java/lang/Exception"]).filter (fun w => !goodWord w), w ∈ exb97 := by decide +kernel
theorem exB97 {args : Array Value} {s : State} (h : ∀ w ∈ exW, va_Nw w s) : ∀ w ∈ exb97, w.before args s = true := fun w hw => va_Nw.use (exW_tabs w ((by decide +kernel : ∀ w ∈ exb97, w ∈ exW) w hw)) (h w ((by decide +kernel : ∀ w ∈ exb97, w ∈ exW) w hw))
theorem ot_97 : ∀ w ∈ Cond.classLink RX4 93 "java/lang/IndexOutOfBoundsException" :: Cond.initialized "java/lang/IndexOutOfBoundsException" :: vx_atS RX4 97 "java/lang/IndexOutOfBoundsException" ["java/lang/RuntimeException", "java/lang/Exception"], vx_ot w = true := by decide +kernel
def rotA (A : AT) : AT := fun k => if k = 1 then A 2 else if k = 2 then A 3 else if k = 3 then A 4 else if k = 4 then A 1 else A k
def rotZ (Z : ZT) : ZT := fun k => if k = 1 then Z 2 else if k = 2 then Z 3 else if k = 3 then Z 4 else if k = 4 then Z 1 else Z k
theorem rot_q (A : AT) : va_up (va_up (va_up (va_up (hsQ A) 0 (some (A 2 0))) 1 (some (A 3 0))) 2 (some (A 4 0))) 3 (some (A 1 0)) = hsQ (rotA A) := by
  funext i
  match i with
  | 0 => rfl
  | 1 => rfl
  | 2 => rfl
  | 3 => rfl
  | i + 4 =>
    have h : ¬ i + 4 < 4 := by omega
    simp [va_up, hsQ, h]
section SW
variable {p : Program} {l : Launch} {e : Env} {R : Room} {s : State} {m : MethodId} {args : Array Value} {below : List Frame} {meth : Method} {c : Code} {H : Heap} {locs : List Loc} {cells slots : Nat} {Q : State → Prop}
variable {pc : Nat} {ls : Array Slot} {rest st0 : List Value} {a : Array Value} {A0 : Nat → Prop} {H0 : Heap} {mc ms : Nat} {D : va_G} {wc w1 : va_W}
theorem callWv (hr : va_Run p l e R s m args below meth c H locs cells slots mc ms (F0 m pc ls st0) rest (QMv D w1 (va_A wc H.size) a) (va_A wc H.size)) (hS : va_S A0 H0 H locs) (hA : ∀ q, H0.size ≤ q → A0 q) (hP : va_P D vwCl wc H) (hD : va_D A0 wc)
    (kk : ∀ (H1 : Heap) (locs1 : List Loc), va_P D vwCl w1 H1 → va_D A0 w1 → va_S A0 H0 H1 locs1 → W p l e R s m args below meth c H1 locs1 (cells + mc) (slots + ms) Q (F0 m (pc + 3) ls rest)) : W p l e R s m args below meth c H locs cells slots Q (F0 m pc ls st0) := by
  have hF := va_self hD hS hA
  refine va_callv hr hS (fun q _ h => hF q h) hF (fun u t H1 locs ht hvm hw hB hz1 hk1 hS => ?_)
  rw [ht] at hB
  exact kk H1 locs hB.1 (hB.2.weaken (fun k q _ h => hF q.1 h)) hS
end SW
def F_X0_stateAt (v1 : Int32) : Option Nat := if v1 < 0 then none else if 4 ≤ v1 then none else some v1.toNatClampNeg
theorem inX0_stateAt_0 : ∀ w ∈ u_ws RX0 TX0 2, w ∈ wsX0_stateAt := by decide +kernel
theorem hdV_X0_stateAt : yX0_stateAt.cls = RX0 ∧ yX0_stateAt.cls ≠ "java/lang/invoke/MethodHandle" ∧ yX0_stateAt.cls ≠ "java/lang/invoke/VarHandle" ∧ (parseMethodDescriptor yX0_stateAt.desc).map (fun d => d.parameters.length) = some 1 := by decide +kernel
set_option maxHeartbeats 4000000 in
set_option maxRecDepth 100000 in
theorem c_X0_stateAt (l : Launch) (D : va_G) (T : Nat → ClassId) (h0 : Nat) (A0 : AT) (Z0 : ZT) (v1 : Int32) (r : Nat) (h : F_X0_stateAt v1 = some r) : Met l yX0_stateAt wsX0_stateAt ({ frames := 0, cells := 0, slots := 0, locals := 0 } : Room) (va_Pc [.ref (A0 6 1), .int v1] (PB D T (scW T h0 A0 Z0))) (QRa (.ref (A0 (1 + r) 0))) 0 0 (fun _ => False) := by
  refine met_of (cc := cX0_stateAt) (maxL := 2) (ret := (some (.object "LyingScale$State"))) (lv := [(0, .ref (A0 6 1)), (1, .int v1)]) (by decide) rfl (Nat.le_of_ble_eq_true rfl) rfl ?_
  intro p e s m args below meth c ls C0 hl hB
  obtain ⟨hx, hb, hr, hml, hown, hts, hlocks, hname⟩ := C0
  obtain ⟨hP, hK⟩ := hB
  unfold F_X0_stateAt at h
  refine lv_iload_n hx hb dX0_stateAt_0 rfl (lv_at hl 1 rfl) ?_
  refine lv_if_lt (tgt := 22) hx hb dX0_stateAt_1 (by decide) (fun c1 => ?_) (fun c1 => ?_)
  · replace h := ip c1 h
    cases h
  replace h := im c1 h
  refine lv_iload_n hx hb dX0_stateAt_4 rfl (lv_at hl 1 rfl) ?_
  refine lv_aload_n hx hb dX0_stateAt_5 rfl (lv_at hl 0 rfl) ?_
  refine va_get (D := D) (ci := 0) (v := .ref (A0 6 2)) (C := RX0) (T := TX0) (N := 2) hx hb hts inX0_stateAt_0 hown hK.1 hP 1 rfl rfl 0 (by decide) (hts (.fieldLink RX0 11 "LyingScale$History" "states" "[LLyingScale$State;") (List.mem_of_getElem? (i := 1) rfl)) (fun _ h9 => h9) rfl dX0_stateAt_6 ?_
  refine va_alen hx hb hK.1 hP 2 3 rfl rfl (v := 4) rfl dX0_stateAt_9 ?_
  refine lv_icmp_ge (tgt := 22) hx hb dX0_stateAt_10 (by decide) (fun c2 => ?_) (fun c2 => ?_)
  · replace h := ip c2 h
    cases h
  replace h := im c2 h
  refine lv_aload_n hx hb dX0_stateAt_13 rfl (lv_at hl 0 rfl) ?_
  refine va_get (D := D) (ci := 0) (v := .ref (A0 6 2)) (C := RX0) (T := TX0) (N := 2) hx hb hts inX0_stateAt_0 hown hK.1 hP 1 rfl rfl 0 (by decide) (hts (.fieldLink RX0 11 "LyingScale$History" "states" "[LLyingScale$State;") (List.mem_of_getElem? (i := 1) rfl)) (fun _ h9 => h9) rfl dX0_stateAt_14 ?_
  refine lv_iload_n hx hb dX0_stateAt_17 rfl (lv_at hl 1 rfl) ?_
  have hin : vp_in v1 4 := vin (n := 4) (by decide) c1 c2
  have hlt : v1.toNatClampNeg < 4 := Nat.not_le.mp (fun q => hin (Or.inr q))
  refine va_aldq hx hb hK.1 hP 2 3 rfl rfl hin dX0_stateAt_18 ?_
  obtain rfl := Option.some.inj h
  refine eqa (y := .ref (A0 (1 + v1.toNatClampNeg) 0)) (by simp [hsQ, hlt, va_rf]) ?_
  refine lv_goto (tgt := 23) hx hb dX0_stateAt_19 (by decide) ?_
  exact W.aret hx hb hr (Or.inl ⟨_, rfl⟩) (Or.inr ⟨_, rfl⟩) (fun t ht hW => ⟨rfl, ht⟩) (fun q hq => absurd hq List.not_mem_nil) dX0_stateAt_23 hlocks
end
section
def F_X0_dropOldest (Z0 : Nat → St) : Option ((Nat → St)) :=
  some (rotZ (zU Z0 6 (sI (Z0 6) 0 3)))
def F_X0_save (Z0 : Nat → St) : Option ((Nat → St)) :=
  if (Z0 6).1 0 = 0 then ((F_X2_copyFrom (Z0 1) (Z0 0)).bind fun t1 => (some (zU (zU Z0 1 t1) 6 (sI ((zU Z0 1 t1) 6) 0 ((((zU Z0 1 t1) 6).1 0) + 1)))).bind fun y2 => some y2) else if (Z0 6).1 0 = 1 then ((F_X2_copyFrom (Z0 2) (Z0 0)).bind fun t3 => (some (zU (zU Z0 2 t3) 6 (sI ((zU Z0 2 t3) 6) 0 ((((zU Z0 2 t3) 6).1 0) + 1)))).bind fun y4 => some y4) else if (Z0 6).1 0 = 2 then ((F_X2_copyFrom (Z0 3) (Z0 0)).bind fun t5 => (some (zU (zU Z0 3 t5) 6 (sI ((zU Z0 3 t5) 6) 0 ((((zU Z0 3 t5) 6).1 0) + 1)))).bind fun y6 => some y6) else if (Z0 6).1 0 = 3 then ((F_X2_copyFrom (Z0 4) (Z0 0)).bind fun t7 => (some (zU (zU Z0 4 t7) 6 (sI ((zU Z0 4 t7) 6) 0 ((((zU Z0 4 t7) 6).1 0) + 1)))).bind fun y8 => some y8) else if (Z0 6).1 0 = 4 then ((F_X2_copyFrom ((rotZ (zU Z0 6 (sI (Z0 6) 0 3))) 4) ((rotZ (zU Z0 6 (sI (Z0 6) 0 3))) 0)).bind fun t9 => (some (zU (zU (rotZ (zU Z0 6 (sI (Z0 6) 0 3))) 4 t9) 6 (sI ((zU (rotZ (zU Z0 6 (sI (Z0 6) 0 3))) 4 t9) 6) 0 ((((zU (rotZ (zU Z0 6 (sI (Z0 6) 0 3))) 4 t9) 6).1 0) + 1)))).bind fun y10 => some y10) else none
def F_X0_restore (Z0 : Nat → St) : Option ((Nat → St)) :=
  if (Z0 6).1 0 = 1 then ((F_X2_copyFrom (Z0 0) (Z0 1)).bind fun t1 => (some (zU (zU Z0 0 t1) 6 (sI ((zU Z0 0 t1) 6) 0 ((((zU Z0 0 t1) 6).1 0) - 1)))).bind fun y2 => some y2) else if (Z0 6).1 0 = 2 then ((F_X2_copyFrom (Z0 0) (Z0 2)).bind fun t3 => (some (zU (zU Z0 0 t3) 6 (sI ((zU Z0 0 t3) 6) 0 ((((zU Z0 0 t3) 6).1 0) - 1)))).bind fun y4 => some y4) else if (Z0 6).1 0 = 3 then ((F_X2_copyFrom (Z0 0) (Z0 3)).bind fun t5 => (some (zU (zU Z0 0 t5) 6 (sI ((zU Z0 0 t5) 6) 0 ((((zU Z0 0 t5) 6).1 0) - 1)))).bind fun y6 => some y6) else if (Z0 6).1 0 = 4 then ((F_X2_copyFrom (Z0 0) (Z0 4)).bind fun t7 => (some (zU (zU Z0 0 t7) 6 (sI ((zU Z0 0 t7) 6) 0 ((((zU Z0 0 t7) 6).1 0) - 1)))).bind fun y8 => some y8) else none
theorem inX0_dropOldest_0 : ∀ w ∈ u_ws RX0 TX0 2, w ∈ wsX0_dropOldest := by decide +kernel
theorem hdS_X0_dropOldest : yX0_dropOldest.cls ≠ "java/lang/invoke/MethodHandle" ∧ yX0_dropOldest.cls ≠ "java/lang/invoke/VarHandle" ∧ (parseMethodDescriptor yX0_dropOldest.desc).map (fun d => d.parameters.length) = some 0 := by decide +kernel
theorem hdV_X0_dropOldest : yX0_dropOldest.cls = RX0 ∧ yX0_dropOldest.cls ≠ "java/lang/invoke/MethodHandle" ∧ yX0_dropOldest.cls ≠ "java/lang/invoke/VarHandle" ∧ (parseMethodDescriptor yX0_dropOldest.desc).map (fun d => d.parameters.length) = some 0 := by decide +kernel
theorem inX0_save_0 : ∀ w ∈ u_ws RX0 TX0 2, w ∈ wsX0_save := by decide +kernel
theorem hdS_X0_save : yX0_save.cls ≠ "java/lang/invoke/MethodHandle" ∧ yX0_save.cls ≠ "java/lang/invoke/VarHandle" ∧ (parseMethodDescriptor yX0_save.desc).map (fun d => d.parameters.length) = some 1 := by decide +kernel
theorem hdV_X0_save : yX0_save.cls = RX0 ∧ yX0_save.cls ≠ "java/lang/invoke/MethodHandle" ∧ yX0_save.cls ≠ "java/lang/invoke/VarHandle" ∧ (parseMethodDescriptor yX0_save.desc).map (fun d => d.parameters.length) = some 1 := by decide +kernel
theorem inX0_restore_0 : ∀ w ∈ u_ws RX0 TX0 2, w ∈ wsX0_restore := by decide +kernel
theorem hdS_X0_restore : yX0_restore.cls ≠ "java/lang/invoke/MethodHandle" ∧ yX0_restore.cls ≠ "java/lang/invoke/VarHandle" ∧ (parseMethodDescriptor yX0_restore.desc).map (fun d => d.parameters.length) = some 1 := by decide +kernel
theorem hdV_X0_restore : yX0_restore.cls = RX0 ∧ yX0_restore.cls ≠ "java/lang/invoke/MethodHandle" ∧ yX0_restore.cls ≠ "java/lang/invoke/VarHandle" ∧ (parseMethodDescriptor yX0_restore.desc).map (fun d => d.parameters.length) = some 1 := by decide +kernel
set_option maxHeartbeats 4000000 in
set_option maxRecDepth 100000 in
theorem c_X0_dropOldest (l : Launch) (D : va_G) (T : Nat → ClassId) (h0 : Nat) (A0 : Nat → Nat → Nat) (Z0 : Nat → St) (sz : Nat) : Met l yX0_dropOldest wsX0_dropOldest ({ frames := 1, cells := 0, slots := 0, locals := 21 } : Room) (va_Pc [.ref (A0 6 1)] (PM D T (scW T h0 A0 (Z0)) sz)) (QMv D (scW T h0 (rotA A0) (rotZ (zU Z0 6 (sI (Z0 6) 0 3)))) (va_A (scW T h0 A0 (Z0)) sz)) 0 0 (va_A (scW T h0 A0 (Z0)) sz) := by
  refine met_of (cc := cX0_dropOldest) (maxL := 4) (ret := none) (lv := [(0, .ref (A0 6 1))]) (by decide) rfl (Nat.le_of_ble_eq_true rfl) rfl ?_
  intro p e s m args below meth c ls C0 hl hB
  obtain ⟨hx, hb, hr, hml, hown, hts, hlocks, hname⟩ := C0
  obtain ⟨hsz, hP, hK, hD0⟩ := hB
  subst hsz
  have hD := hD0.self (sz := s.heap.size)
  generalize hAe : va_A (scW T h0 A0 (Z0)) s.heap.size = A at hD ⊢
  have hA : ∀ q : Nat, s.heap.size ≤ q → A q := fun q h => by rw [← hAe]; exact Or.inr h
  have hS : va_S A s.heap s.heap [] := va_S.rf
  refine lv_aload_n hx hb dX0_dropOldest_0 rfl (lv_at hl 0 rfl) ?_
  refine lv_iconst (v := 0) hx hb dX0_dropOldest_1 (by decide) ?_
  refine callRa (v := .ref (A0 1 0)) (va_runV (As := [.int 0]) (rest := []) ⟨hx, hb, hml, hown, hts⟩ (c_X0_stateAt l D T h0 A0 Z0 0 0 (by decide +kernel)) (cwV 1 hts gX0_dropOldest_X0_stateAt rfl rfl rfl hdV_X0_stateAt ⟨Nat.le_of_ble_eq_true rfl, Nat.le_of_ble_eq_true rfl⟩) ⟨PB_blind, va_recv hK.1 hP (ci := 0) (q0 := 1) rfl rfl, PB_at hP hK⟩ rfl rfl hl.1 rfl (lv_room (Nat.le_of_ble_eq_true rfl)) dX0_dropOldest_2 ⟨Nat.zero_le _, Nat.zero_le _⟩) ?_
  refine lv_astore_n (lv' := [(1, .ref (A0 1 0)), (0, .ref (A0 6 1))]) hx hb dX0_dropOldest_5 rfl hl (by decide) rfl (fun ls hl => ?_)
  refine lv_aload_n hx hb dX0_dropOldest_6 rfl (lv_at hl 1 rfl) ?_
  refine va_get (D := D) (ci := 0) (v := .ref (A0 6 2)) (C := RX0) (T := TX0) (N := 2) hx hb hts inX0_dropOldest_0 hown hK.1 hP 1 rfl rfl 0 (by decide) (hts (.fieldLink RX0 11 "LyingScale$History" "states" "[LLyingScale$State;") (List.mem_of_getElem? (i := 1) rfl)) (fun _ h9 => h9) rfl dX0_dropOldest_7 ?_
  refine va_alen hx hb hK.1 hP 2 3 rfl rfl (v := 4) rfl dX0_dropOldest_10 ?_
  refine lv_iconst (v := 1) hx hb dX0_dropOldest_11 (by decide) ?_
  refine lv_isub hx hb dX0_dropOldest_12 ?_
  refine eqi (show (4 : Int32) - 1 = 3 from by decide) ?_
  refine lv_istore_n (lv' := [(2, .int 3), (1, .ref (A0 1 0)), (0, .ref (A0 6 1))]) hx hb dX0_dropOldest_13 rfl hl (by decide) rfl (fun ls hl => ?_)
  refine lv_iconst (v := 0) hx hb dX0_dropOldest_14 (by decide) ?_
  refine lv_istore_n (lv' := [(3, .int 0), (2, .int 3), (1, .ref (A0 1 0)), (0, .ref (A0 6 1))]) hx hb dX0_dropOldest_15 rfl hl (by decide) rfl (fun ls hl => ?_)
  refine lv_iload_n hx hb dX0_dropOldest_16 rfl (lv_at hl 0 rfl) ?_
  refine lv_iload_n hx hb dX0_dropOldest_17 rfl (lv_at hl 1 rfl) ?_
  refine lv_icmp_ge (tgt := 41) hx hb dX0_dropOldest_18 (by decide) (fun c => absurd c (by decide)) (fun _ => ?_)
  refine lv_aload_n hx hb dX0_dropOldest_21 rfl (lv_at hl 3 rfl) ?_
  refine va_get (D := D) (ci := 0) (v := .ref (A0 6 2)) (C := RX0) (T := TX0) (N := 2) hx hb hts inX0_dropOldest_0 hown hK.1 hP 1 rfl rfl 0 (by decide) (hts (.fieldLink RX0 11 "LyingScale$History" "states" "[LLyingScale$State;") (List.mem_of_getElem? (i := 1) rfl)) (fun _ h9 => h9) rfl dX0_dropOldest_22 ?_
  refine lv_iload_n hx hb dX0_dropOldest_25 rfl (lv_at hl 0 rfl) ?_
  refine lv_aload_n hx hb dX0_dropOldest_26 rfl (lv_at hl 3 rfl) ?_
  refine va_get (D := D) (ci := 0) (v := .ref (A0 6 2)) (C := RX0) (T := TX0) (N := 2) hx hb hts inX0_dropOldest_0 hown hK.1 hP 1 rfl rfl 0 (by decide) (hts (.fieldLink RX0 11 "LyingScale$History" "states" "[LLyingScale$State;") (List.mem_of_getElem? (i := 1) rfl)) (fun _ h9 => h9) rfl dX0_dropOldest_27 ?_
  refine lv_iload_n hx hb dX0_dropOldest_30 rfl (lv_at hl 0 rfl) ?_
  refine lv_iconst (v := 1) hx hb dX0_dropOldest_31 (by decide) ?_
  refine lv_iadd hx hb dX0_dropOldest_32 ?_
  refine eqi (show (0 : Int32) + 1 = 1 from by decide) ?_
  refine va_aldq hx hb hK.1 hP 2 3 rfl rfl (show ¬ ((1 : Int32) < 0 ∨ 4 ≤ Int32.toNatClampNeg 1) from by decide) dX0_dropOldest_33 ?_
  refine eqa (y := .ref (A0 2 0)) (by rw [show Int32.toNatClampNeg 1 = 1 from by decide]; rfl) ?_
  refine va_astq hx hb hK.1 hP hD hS 2 3 25 2 rfl rfl rfl rfl (show ¬ ((0 : Int32) < 0 ∨ 4 ≤ Int32.toNatClampNeg 0) from by decide) dX0_dropOldest_34 (fun H locs hP hD hS => ?_)
  rw [show Int32.toNatClampNeg 0 = 0 from by decide] at hP hD
  replace hP : va_P D vwCl (scWq T h0 (va_up (hsQ A0) 0 (some (A0 2 0))) A0 (Z0)) H := hP
  replace hD : va_D A (scWq T h0 (va_up (hsQ A0) 0 (some (A0 2 0))) A0 (Z0)) := hD
  refine lv_iinc (v := 1) (lv' := [(3, .int 1), (2, .int 3), (1, .ref (A0 1 0)), (0, .ref (A0 6 1))]) hx hb dX0_dropOldest_35 hl (k := 0) rfl (by decide) (by decide) rfl (fun ls hl => ?_)
  refine lv_goto (tgt := 16) hx hb dX0_dropOldest_38 (by decide) ?_
  refine lv_iload_n hx hb dX0_dropOldest_16 rfl (lv_at hl 0 rfl) ?_
  refine lv_iload_n hx hb dX0_dropOldest_17 rfl (lv_at hl 1 rfl) ?_
  refine lv_icmp_ge (tgt := 41) hx hb dX0_dropOldest_18 (by decide) (fun c => absurd c (by decide)) (fun _ => ?_)
  refine lv_aload_n hx hb dX0_dropOldest_21 rfl (lv_at hl 3 rfl) ?_
  refine va_get (D := D) (ci := 0) (v := .ref (A0 6 2)) (C := RX0) (T := TX0) (N := 2) hx hb hts inX0_dropOldest_0 hown hK.1 hP 1 rfl rfl 0 (by decide) (hts (.fieldLink RX0 11 "LyingScale$History" "states" "[LLyingScale$State;") (List.mem_of_getElem? (i := 1) rfl)) (fun _ h9 => h9) rfl dX0_dropOldest_22 ?_
  refine lv_iload_n hx hb dX0_dropOldest_25 rfl (lv_at hl 0 rfl) ?_
  refine lv_aload_n hx hb dX0_dropOldest_26 rfl (lv_at hl 3 rfl) ?_
  refine va_get (D := D) (ci := 0) (v := .ref (A0 6 2)) (C := RX0) (T := TX0) (N := 2) hx hb hts inX0_dropOldest_0 hown hK.1 hP 1 rfl rfl 0 (by decide) (hts (.fieldLink RX0 11 "LyingScale$History" "states" "[LLyingScale$State;") (List.mem_of_getElem? (i := 1) rfl)) (fun _ h9 => h9) rfl dX0_dropOldest_27 ?_
  refine lv_iload_n hx hb dX0_dropOldest_30 rfl (lv_at hl 0 rfl) ?_
  refine lv_iconst (v := 1) hx hb dX0_dropOldest_31 (by decide) ?_
  refine lv_iadd hx hb dX0_dropOldest_32 ?_
  refine eqi (show (1 : Int32) + 1 = 2 from by decide) ?_
  refine va_aldq hx hb hK.1 hP 2 3 rfl rfl (show ¬ ((2 : Int32) < 0 ∨ 4 ≤ Int32.toNatClampNeg 2) from by decide) dX0_dropOldest_33 ?_
  refine eqa (y := .ref (A0 3 0)) (by rw [show Int32.toNatClampNeg 2 = 2 from by decide]; rfl) ?_
  refine va_astq hx hb hK.1 hP hD hS 2 3 36 2 rfl rfl rfl rfl (show ¬ ((1 : Int32) < 0 ∨ 4 ≤ Int32.toNatClampNeg 1) from by decide) dX0_dropOldest_34 (fun H locs hP hD hS => ?_)
  rw [show Int32.toNatClampNeg 1 = 1 from by decide] at hP hD
  replace hP : va_P D vwCl (scWq T h0 (va_up (va_up (hsQ A0) 0 (some (A0 2 0))) 1 (some (A0 3 0))) A0 (Z0)) H := hP
  replace hD : va_D A (scWq T h0 (va_up (va_up (hsQ A0) 0 (some (A0 2 0))) 1 (some (A0 3 0))) A0 (Z0)) := hD
  refine lv_iinc (v := 2) (lv' := [(3, .int 2), (2, .int 3), (1, .ref (A0 1 0)), (0, .ref (A0 6 1))]) hx hb dX0_dropOldest_35 hl (k := 0) rfl (by decide) (by decide) rfl (fun ls hl => ?_)
  refine lv_goto (tgt := 16) hx hb dX0_dropOldest_38 (by decide) ?_
  refine lv_iload_n hx hb dX0_dropOldest_16 rfl (lv_at hl 0 rfl) ?_
  refine lv_iload_n hx hb dX0_dropOldest_17 rfl (lv_at hl 1 rfl) ?_
  refine lv_icmp_ge (tgt := 41) hx hb dX0_dropOldest_18 (by decide) (fun c => absurd c (by decide)) (fun _ => ?_)
  refine lv_aload_n hx hb dX0_dropOldest_21 rfl (lv_at hl 3 rfl) ?_
  refine va_get (D := D) (ci := 0) (v := .ref (A0 6 2)) (C := RX0) (T := TX0) (N := 2) hx hb hts inX0_dropOldest_0 hown hK.1 hP 1 rfl rfl 0 (by decide) (hts (.fieldLink RX0 11 "LyingScale$History" "states" "[LLyingScale$State;") (List.mem_of_getElem? (i := 1) rfl)) (fun _ h9 => h9) rfl dX0_dropOldest_22 ?_
  refine lv_iload_n hx hb dX0_dropOldest_25 rfl (lv_at hl 0 rfl) ?_
  refine lv_aload_n hx hb dX0_dropOldest_26 rfl (lv_at hl 3 rfl) ?_
  refine va_get (D := D) (ci := 0) (v := .ref (A0 6 2)) (C := RX0) (T := TX0) (N := 2) hx hb hts inX0_dropOldest_0 hown hK.1 hP 1 rfl rfl 0 (by decide) (hts (.fieldLink RX0 11 "LyingScale$History" "states" "[LLyingScale$State;") (List.mem_of_getElem? (i := 1) rfl)) (fun _ h9 => h9) rfl dX0_dropOldest_27 ?_
  refine lv_iload_n hx hb dX0_dropOldest_30 rfl (lv_at hl 0 rfl) ?_
  refine lv_iconst (v := 1) hx hb dX0_dropOldest_31 (by decide) ?_
  refine lv_iadd hx hb dX0_dropOldest_32 ?_
  refine eqi (show (2 : Int32) + 1 = 3 from by decide) ?_
  refine va_aldq hx hb hK.1 hP 2 3 rfl rfl (show ¬ ((3 : Int32) < 0 ∨ 4 ≤ Int32.toNatClampNeg 3) from by decide) dX0_dropOldest_33 ?_
  refine eqa (y := .ref (A0 4 0)) (by rw [show Int32.toNatClampNeg 3 = 3 from by decide]; rfl) ?_
  refine va_astq hx hb hK.1 hP hD hS 2 3 47 2 rfl rfl rfl rfl (show ¬ ((2 : Int32) < 0 ∨ 4 ≤ Int32.toNatClampNeg 2) from by decide) dX0_dropOldest_34 (fun H locs hP hD hS => ?_)
  rw [show Int32.toNatClampNeg 2 = 2 from by decide] at hP hD
  replace hP : va_P D vwCl (scWq T h0 (va_up (va_up (va_up (hsQ A0) 0 (some (A0 2 0))) 1 (some (A0 3 0))) 2 (some (A0 4 0))) A0 (Z0)) H := hP
  replace hD : va_D A (scWq T h0 (va_up (va_up (va_up (hsQ A0) 0 (some (A0 2 0))) 1 (some (A0 3 0))) 2 (some (A0 4 0))) A0 (Z0)) := hD
  refine lv_iinc (v := 3) (lv' := [(3, .int 3), (2, .int 3), (1, .ref (A0 1 0)), (0, .ref (A0 6 1))]) hx hb dX0_dropOldest_35 hl (k := 0) rfl (by decide) (by decide) rfl (fun ls hl => ?_)
  refine lv_goto (tgt := 16) hx hb dX0_dropOldest_38 (by decide) ?_
  refine lv_iload_n hx hb dX0_dropOldest_16 rfl (lv_at hl 0 rfl) ?_
  refine lv_iload_n hx hb dX0_dropOldest_17 rfl (lv_at hl 1 rfl) ?_
  refine lv_icmp_ge (tgt := 41) hx hb dX0_dropOldest_18 (by decide) (fun _ => ?_) (fun c => absurd c (by decide))
  refine lv_iload_n hx hb dX0_dropOldest_41 rfl (lv_at hl 1 rfl) ?_
  refine lv_if_lt (tgt := 57) hx hb dX0_dropOldest_42 (by decide) (fun c => absurd c (by decide)) (fun _ => ?_)
  refine lv_aload_n hx hb dX0_dropOldest_45 rfl (lv_at hl 3 rfl) ?_
  refine va_get (D := D) (ci := 0) (v := .ref (A0 6 2)) (C := RX0) (T := TX0) (N := 2) hx hb hts inX0_dropOldest_0 hown hK.1 hP 1 rfl rfl 0 (by decide) (hts (.fieldLink RX0 11 "LyingScale$History" "states" "[LLyingScale$State;") (List.mem_of_getElem? (i := 1) rfl)) (fun _ h9 => h9) rfl dX0_dropOldest_46 ?_
  refine lv_iload_n hx hb dX0_dropOldest_49 rfl (lv_at hl 1 rfl) ?_
  refine lv_aload_n hx hb dX0_dropOldest_50 rfl (lv_at hl 2 rfl) ?_
  refine va_astq hx hb hK.1 hP hD hS 2 3 14 2 rfl rfl rfl rfl (show ¬ ((3 : Int32) < 0 ∨ 4 ≤ Int32.toNatClampNeg 3) from by decide) dX0_dropOldest_51 (fun H locs hP hD hS => ?_)
  rw [show Int32.toNatClampNeg 3 = 3 from by decide] at hP hD
  replace hP : va_P D vwCl (scWq T h0 (va_up (va_up (va_up (va_up (hsQ A0) 0 (some (A0 2 0))) 1 (some (A0 3 0))) 2 (some (A0 4 0))) 3 (some (A0 1 0))) A0 (Z0)) H := hP
  replace hD : va_D A (scWq T h0 (va_up (va_up (va_up (va_up (hsQ A0) 0 (some (A0 2 0))) 1 (some (A0 3 0))) 2 (some (A0 4 0))) 3 (some (A0 1 0))) A0 (Z0)) := hD
  refine lv_aload_n hx hb dX0_dropOldest_52 rfl (lv_at hl 3 rfl) ?_
  refine lv_iload_n hx hb dX0_dropOldest_53 rfl (lv_at hl 1 rfl) ?_
  refine va_put (D := D) (ci := 0) (v := .int 3) (ty := .int) (C := RX0) (T := TX0) (N := 2) hx hb hts inX0_dropOldest_0 tyX0 tyX0_ok nmX0 hown hK.1 hP hD hS 1 rfl rfl 1 (by decide) (hts (.fieldLink RX0 18 "LyingScale$History" "count" "I") (List.mem_of_getElem? (i := 2) rfl)) (fun _ h9 => h9) rfl (by decide +kernel) rfl rfl (Nat.le_of_ble_eq_true rfl) dX0_dropOldest_54 (fun H locs hP hD hS => ?_)
  replace hP : va_P D vwCl (scWq T h0 (va_up (va_up (va_up (va_up (hsQ A0) 0 (some (A0 2 0))) 1 (some (A0 3 0))) 2 (some (A0 4 0))) 3 (some (A0 1 0))) A0 (zU Z0 6 (sI (Z0 6) 0 3))) H := hP
  replace hD : va_D A (scWq T h0 (va_up (va_up (va_up (va_up (hsQ A0) 0 (some (A0 2 0))) 1 (some (A0 3 0))) 2 (some (A0 4 0))) 3 (some (A0 1 0))) A0 (zU Z0 6 (sI (Z0 6) 0 3))) := hD
  rw [rot_q] at hP hD
  have hP9 := hP.sub (ws' := scW T h0 (rotA A0) (rotZ (zU Z0 6 (sI (Z0 6) 0 3)))) [0, 1, 2, 3, 4, 5, 6, 7, 8, 9, 10, 11, 12, 13, 25, 26, 27, 28, 29, 30, 31, 32, 33, 34, 35, 36, 37, 38, 39, 40, 41, 42, 43, 44, 45, 46, 47, 48, 49, 50, 51, 52, 53, 54, 55, 56, 57, 14, 15, 16, 17, 18, 19, 20, 21, 22, 23, 24, 58, 59, 60, 61, 62] rfl
  have hD9 := hD.sub (ws' := scW T h0 (rotA A0) (rotZ (zU Z0 6 (sI (Z0 6) 0 3)))) [0, 1, 2, 3, 4, 5, 6, 7, 8, 9, 10, 11, 12, 13, 25, 26, 27, 28, 29, 30, 31, 32, 33, 34, 35, 36, 37, 38, 39, 40, 41, 42, 43, 44, 45, 46, 47, 48, 49, 50, 51, 52, 53, 54, 55, 56, 57, 14, 15, 16, 17, 18, 19, 20, 21, 22, 23, 24, 58, 59, 60, 61, 62] (by decide +kernel) rfl
  exact W.vret hx hb hr (fun t ht hW => ⟨⟨(), rfl, trivial, by rw [ht]; exact hP9, hD9⟩, hS.F ht⟩) hS.2.2 dX0_dropOldest_57 hlocks
set_option maxHeartbeats 4000000 in
set_option maxRecDepth 100000 in
theorem c_X0_save (l : Launch) (D : va_G) (T : Nat → ClassId) (h0 : Nat) (A0 : Nat → Nat → Nat) (Z0 : Nat → St) (sz : Nat) (r : (Nat → St)) (h : F_X0_save Z0 = some r) : Met l yX0_save wsX0_save ({ frames := 4, cells := 0, slots := 0, locals := 86 } : Room) (va_Pc [.ref (A0 6 1), .ref (A0 0 0)] (PM D T (scW T h0 A0 (Z0)) sz)) (QEv D (scW T h0) r (va_A (scW T h0 A0 (Z0)) sz)) 0 0 (va_A (scW T h0 A0 (Z0)) sz) := by
  refine met_of (cc := cX0_save) (maxL := 3) (ret := none) (lv := [(0, .ref (A0 6 1)), (1, .ref (A0 0 0))]) (by decide) rfl (Nat.le_of_ble_eq_true rfl) rfl ?_
  intro p e s m args below meth c ls C0 hl hB
  obtain ⟨hx, hb, hr, hml, hown, hts, hlocks, hname⟩ := C0
  obtain ⟨hsz, hP, hK, hD0⟩ := hB
  subst hsz
  have hD := hD0.self (sz := s.heap.size)
  generalize hAe : va_A (scW T h0 A0 (Z0)) s.heap.size = A at hD ⊢
  have hA : ∀ q : Nat, s.heap.size ≤ q → A q := fun q h => by rw [← hAe]; exact Or.inr h
  have hS : va_S A s.heap s.heap [] := va_S.rf
  unfold F_X0_save at h
  by_cases k0_ : (Z0 6).1 0 = 0
  · replace h := ip k0_ h
    refine lv_aload_n hx hb dX0_save_0 rfl (lv_at hl 0 rfl) ?_
    refine va_get (D := D) (ci := 0) (v := .int ((Z0 6).1 0)) (C := RX0) (T := TX0) (N := 2) hx hb hts inX0_save_0 hown hK.1 hP 1 rfl rfl 1 (by decide) (hts (.fieldLink RX0 18 "LyingScale$History" "count" "I") (List.mem_of_getElem? (i := 1) rfl)) (fun _ h9 => h9) rfl dX0_save_1 ?_
    refine eqi (k0_) ?_
    refine lv_aload_n hx hb dX0_save_4 rfl (lv_at hl 0 rfl) ?_
    refine va_get (D := D) (ci := 0) (v := .ref (A0 6 2)) (C := RX0) (T := TX0) (N := 2) hx hb hts inX0_save_0 hown hK.1 hP 1 rfl rfl 0 (by decide) (hts (.fieldLink RX0 11 "LyingScale$History" "states" "[LLyingScale$State;") (List.mem_of_getElem? (i := 2) rfl)) (fun _ h9 => h9) rfl dX0_save_5 ?_
    refine va_alen hx hb hK.1 hP 2 3 rfl rfl (v := 4) rfl dX0_save_8 ?_
    refine lv_icmp_lt (tgt := 16) hx hb dX0_save_9 (by decide) (fun _ => ?_) (fun c => absurd c (by decide))
    refine lv_aload_n hx hb dX0_save_16 rfl (lv_at hl 0 rfl) ?_
    refine lv_aload_n hx hb dX0_save_17 rfl (lv_at hl 0 rfl) ?_
    refine va_get (D := D) (ci := 0) (v := .int ((Z0 6).1 0)) (C := RX0) (T := TX0) (N := 2) hx hb hts inX0_save_0 hown hK.1 hP 1 rfl rfl 1 (by decide) (hts (.fieldLink RX0 18 "LyingScale$History" "count" "I") (List.mem_of_getElem? (i := 1) rfl)) (fun _ h9 => h9) rfl dX0_save_18 ?_
    refine eqi (k0_) ?_
    refine callRa (v := .ref (A0 1 0)) (va_runV (As := [.int 0]) (rest := []) ⟨hx, hb, hml, hown, hts⟩ (c_X0_stateAt l D T h0 A0 Z0 0 0 (by decide +kernel)) (cwV 1 hts gX0_save_X0_stateAt rfl rfl rfl hdV_X0_stateAt ⟨Nat.le_of_ble_eq_true rfl, Nat.le_of_ble_eq_true rfl⟩) ⟨PB_blind, va_recv hK.1 hP (ci := 0) (q0 := 1) rfl rfl, PB_at hP hK⟩ rfl rfl hl.1 rfl (lv_room (Nat.le_of_ble_eq_true rfl)) dX0_save_21 ⟨Nat.zero_le _, Nat.zero_le _⟩) ?_
    refine lv_astore_n (lv' := [(2, .ref (A0 1 0)), (0, .ref (A0 6 1)), (1, .ref (A0 0 0))]) hx hb dX0_save_24 rfl hl (by decide) rfl (fun ls hl => ?_)
    refine lv_aload_n hx hb dX0_save_25 rfl (lv_at hl 0 rfl) ?_
    refine lv_ifnull hx hb dX0_save_26 ?_
    refine lv_aload_n hx hb dX0_save_29 rfl (lv_at hl 0 rfl) ?_
    refine lv_aload_n hx hb dX0_save_30 rfl (lv_at hl 2 rfl) ?_
    replace h := bd h
    obtain ⟨t1, et1, h⟩ := h
    refine callMv (wr := [(h0, .inr (4, [.ref (A0 0 0), .ref (A0 6 1), .ref (A0 5 0)])), (A0 6 1, .inr (0, [.ref (A0 6 2), .int ((Z0 6).1 0)])), (A0 6 2, .inl (T 3, 4, .inr (.inr (.inr (.inr (hsQ A0)))))), (A0 2 0, .inr (2, [.ref (A0 2 1), .ref (A0 2 2), .ref (A0 2 3), .ref (A0 2 4), .int ((Z0 2).1 0), .int ((Z0 2).1 1), .int ((Z0 2).1 2), .int ((Z0 2).1 3), .int ((Z0 2).1 4)])), (A0 2 1, .inr (3, [.ref (A0 2 5), .ref (A0 2 6), .ref (A0 2 7), .int ((Z0 2).1 5)])), (A0 2 2, .inr (3, [.ref (A0 2 8), .ref (A0 2 9), .ref (A0 2 10), .int ((Z0 2).1 6)])), (A0 2 3, .inl (T 0, 33, .inl ((Z0 2).2 6))), (A0 2 4, .inl (T 0, 33, .inl ((Z0 2).2 7))), (A0 2 5, .inl (T 0, 40, .inl ((Z0 2).2 0))), (A0 2 6, .inl (T 0, 40, .inl ((Z0 2).2 1))), (A0 2 7, .inl (T 0, 40, .inl ((Z0 2).2 2))), (A0 2 8, .inl (T 0, 8, .inl ((Z0 2).2 3))), (A0 2 9, .inl (T 0, 8, .inl ((Z0 2).2 4))), (A0 2 10, .inl (T 0, 8, .inl ((Z0 2).2 5))), (A0 3 0, .inr (2, [.ref (A0 3 1), .ref (A0 3 2), .ref (A0 3 3), .ref (A0 3 4), .int ((Z0 3).1 0), .int ((Z0 3).1 1), .int ((Z0 3).1 2), .int ((Z0 3).1 3), .int ((Z0 3).1 4)])), (A0 3 1, .inr (3, [.ref (A0 3 5), .ref (A0 3 6), .ref (A0 3 7), .int ((Z0 3).1 5)])), (A0 3 2, .inr (3, [.ref (A0 3 8), .ref (A0 3 9), .ref (A0 3 10), .int ((Z0 3).1 6)])), (A0 3 3, .inl (T 0, 33, .inl ((Z0 3).2 6))), (A0 3 4, .inl (T 0, 33, .inl ((Z0 3).2 7))), (A0 3 5, .inl (T 0, 40, .inl ((Z0 3).2 0))), (A0 3 6, .inl (T 0, 40, .inl ((Z0 3).2 1))), (A0 3 7, .inl (T 0, 40, .inl ((Z0 3).2 2))), (A0 3 8, .inl (T 0, 8, .inl ((Z0 3).2 3))), (A0 3 9, .inl (T 0, 8, .inl ((Z0 3).2 4))), (A0 3 10, .inl (T 0, 8, .inl ((Z0 3).2 5))), (A0 4 0, .inr (2, [.ref (A0 4 1), .ref (A0 4 2), .ref (A0 4 3), .ref (A0 4 4), .int ((Z0 4).1 0), .int ((Z0 4).1 1), .int ((Z0 4).1 2), .int ((Z0 4).1 3), .int ((Z0 4).1 4)])), (A0 4 1, .inr (3, [.ref (A0 4 5), .ref (A0 4 6), .ref (A0 4 7), .int ((Z0 4).1 5)])), (A0 4 2, .inr (3, [.ref (A0 4 8), .ref (A0 4 9), .ref (A0 4 10), .int ((Z0 4).1 6)])), (A0 4 3, .inl (T 0, 33, .inl ((Z0 4).2 6))), (A0 4 4, .inl (T 0, 33, .inl ((Z0 4).2 7))), (A0 4 5, .inl (T 0, 40, .inl ((Z0 4).2 0))), (A0 4 6, .inl (T 0, 40, .inl ((Z0 4).2 1))), (A0 4 7, .inl (T 0, 40, .inl ((Z0 4).2 2))), (A0 4 8, .inl (T 0, 8, .inl ((Z0 4).2 3))), (A0 4 9, .inl (T 0, 8, .inl ((Z0 4).2 4))), (A0 4 10, .inl (T 0, 8, .inl ((Z0 4).2 5))), (A0 5 0, .inr (1, [.ref (A0 5 1), .ref (A0 5 2), .ref (A0 5 3), .ref (A0 5 4), .int ((Z0 5).1 0), .int ((Z0 5).1 1), .int ((Z0 5).1 2), .int ((Z0 5).1 3), .int ((Z0 5).1 4)])), (A0 5 1, .inl (T 0, 100, .inl ((Z0 5).2 0))), (A0 5 2, .inl (T 0, 20, .inl ((Z0 5).2 1))), (A0 5 3, .inl (T 0, 20, .inl ((Z0 5).2 2))), (A0 5 4, .inl (T 0, 20, .inl ((Z0 5).2 3)))]) (ws' := scW T h0 A0 (zU Z0 1 t1)) (va_runV (As := [.ref (A0 0 0)]) (rest := []) ⟨hx, hb, hml, hown, hts⟩ (c_X2_copyFrom l D T (A0 1) (Z0 1) (A0 0) (Z0 0) _ t1 et1) (cwV 1 hts gX0_save_X2_copyFrom rfl rfl rfl hdV_X2_copyFrom ⟨Nat.le_of_ble_eq_true rfl, Nat.le_of_ble_eq_true rfl⟩) ⟨PM_blind, va_recv hK.1 hP (ci := 2) (q0 := 14) rfl rfl, PM_at (hP.sub (ws' := stW T (A0 1) (Z0 1) ++ stW T (A0 0) (Z0 0)) [14, 15, 16, 17, 18, 19, 20, 21, 22, 23, 24, 3, 4, 5, 6, 7, 8, 9, 10, 11, 12, 13] rfl) (hD.sub (ws' := stW T (A0 1) (Z0 1) ++ stW T (A0 0) (Z0 0)) [14, 15, 16, 17, 18, 19, 20, 21, 22, 23, 24, 3, 4, 5, 6, 7, 8, 9, 10, 11, 12, 13] (by decide) rfl) hK⟩ rfl rfl hl.1 rfl (lv_room (Nat.le_of_ble_eq_true rfl)) dX0_save_31 ⟨Nat.zero_le _, Nat.zero_le _⟩) hS hA hP hD [14, 15, 16, 17, 18, 19, 20, 21, 22, 23, 24, 3, 4, 5, 6, 7, 8, 9, 10, 11, 12, 13] [0, 1, 2, 25, 26, 27, 28, 29, 30, 31, 32, 33, 34, 35, 36, 37, 38, 39, 40, 41, 42, 43, 44, 45, 46, 47, 48, 49, 50, 51, 52, 53, 54, 55, 56, 57, 58, 59, 60, 61, 62] rfl rfl (by decide) (by decide) [0, 1, 2, 52, 53, 54, 55, 56, 57, 58, 59, 60, 61, 62, 41, 42, 43, 44, 45, 46, 47, 48, 49, 50, 51, 3, 4, 5, 6, 7, 8, 9, 10, 11, 12, 13, 14, 15, 16, 17, 18, 19, 20, 21, 22, 23, 24, 25, 26, 27, 28, 29, 30, 31, 32, 33, 34, 35, 36, 37, 38, 39, 40] (by decide) rfl (fun H locs hP hD hS => ?_)
    refine lv_aload_n hx hb dX0_save_34 rfl (lv_at hl 1 rfl) ?_
    refine lv_dup hx hb dX0_save_35 rfl ?_
    refine va_get (D := D) (ci := 0) (v := .int (((zU Z0 1 t1) 6).1 0)) (C := RX0) (T := TX0) (N := 2) hx hb hts inX0_save_0 hown hK.1 hP 1 rfl rfl 1 (by decide) (hts (.fieldLink RX0 18 "LyingScale$History" "count" "I") (List.mem_of_getElem? (i := 1) rfl)) (fun _ h9 => h9) rfl dX0_save_36 ?_
    refine lv_iconst (v := 1) hx hb dX0_save_39 (by decide) ?_
    refine lv_iadd hx hb dX0_save_40 ?_
    refine va_put (D := D) (ci := 0) (v := .int ((((zU Z0 1 t1) 6).1 0) + 1)) (ty := .int) (C := RX0) (T := TX0) (N := 2) hx hb hts inX0_save_0 tyX0 tyX0_ok nmX0 hown hK.1 hP hD hS 1 rfl rfl 1 (by decide) (hts (.fieldLink RX0 18 "LyingScale$History" "count" "I") (List.mem_of_getElem? (i := 1) rfl)) (fun _ h9 => h9) rfl (by decide +kernel) rfl rfl (Nat.le_of_ble_eq_true rfl) dX0_save_41 (fun H locs hP hD hS => ?_)
    replace hP : va_P D vwCl (scW T h0 A0 (zU (zU Z0 1 t1) 6 (sI ((zU Z0 1 t1) 6) 0 ((((zU Z0 1 t1) 6).1 0) + 1)))) H := hP
    replace hD : va_D A (scW T h0 A0 (zU (zU Z0 1 t1) 6 (sI ((zU Z0 1 t1) 6) 0 ((((zU Z0 1 t1) 6).1 0) + 1)))) := hD
    replace h := bd h
    obtain ⟨y2, ey2, h⟩ := h
    rw [Option.some.inj ey2] at hP hD
    obtain rfl := Option.some.inj h
    exact W.vret hx hb hr (fun t ht hW => ⟨⟨A0, rfl, trivial, by rw [ht]; exact hP, hD⟩, hS.F ht⟩) hS.2.2 dX0_save_44 hlocks
  replace h := im k0_ h
  by_cases k1_ : (Z0 6).1 0 = 1
  · replace h := ip k1_ h
    refine lv_aload_n hx hb dX0_save_0 rfl (lv_at hl 0 rfl) ?_
    refine va_get (D := D) (ci := 0) (v := .int ((Z0 6).1 0)) (C := RX0) (T := TX0) (N := 2) hx hb hts inX0_save_0 hown hK.1 hP 1 rfl rfl 1 (by decide) (hts (.fieldLink RX0 18 "LyingScale$History" "count" "I") (List.mem_of_getElem? (i := 1) rfl)) (fun _ h9 => h9) rfl dX0_save_1 ?_
    refine eqi (k1_) ?_
    refine lv_aload_n hx hb dX0_save_4 rfl (lv_at hl 0 rfl) ?_
    refine va_get (D := D) (ci := 0) (v := .ref (A0 6 2)) (C := RX0) (T := TX0) (N := 2) hx hb hts inX0_save_0 hown hK.1 hP 1 rfl rfl 0 (by decide) (hts (.fieldLink RX0 11 "LyingScale$History" "states" "[LLyingScale$State;") (List.mem_of_getElem? (i := 2) rfl)) (fun _ h9 => h9) rfl dX0_save_5 ?_
    refine va_alen hx hb hK.1 hP 2 3 rfl rfl (v := 4) rfl dX0_save_8 ?_
    refine lv_icmp_lt (tgt := 16) hx hb dX0_save_9 (by decide) (fun _ => ?_) (fun c => absurd c (by decide))
    refine lv_aload_n hx hb dX0_save_16 rfl (lv_at hl 0 rfl) ?_
    refine lv_aload_n hx hb dX0_save_17 rfl (lv_at hl 0 rfl) ?_
    refine va_get (D := D) (ci := 0) (v := .int ((Z0 6).1 0)) (C := RX0) (T := TX0) (N := 2) hx hb hts inX0_save_0 hown hK.1 hP 1 rfl rfl 1 (by decide) (hts (.fieldLink RX0 18 "LyingScale$History" "count" "I") (List.mem_of_getElem? (i := 1) rfl)) (fun _ h9 => h9) rfl dX0_save_18 ?_
    refine eqi (k1_) ?_
    refine callRa (v := .ref (A0 2 0)) (va_runV (As := [.int 1]) (rest := []) ⟨hx, hb, hml, hown, hts⟩ (c_X0_stateAt l D T h0 A0 Z0 1 1 (by decide +kernel)) (cwV 1 hts gX0_save_X0_stateAt rfl rfl rfl hdV_X0_stateAt ⟨Nat.le_of_ble_eq_true rfl, Nat.le_of_ble_eq_true rfl⟩) ⟨PB_blind, va_recv hK.1 hP (ci := 0) (q0 := 1) rfl rfl, PB_at hP hK⟩ rfl rfl hl.1 rfl (lv_room (Nat.le_of_ble_eq_true rfl)) dX0_save_21 ⟨Nat.zero_le _, Nat.zero_le _⟩) ?_
    refine lv_astore_n (lv' := [(2, .ref (A0 2 0)), (0, .ref (A0 6 1)), (1, .ref (A0 0 0))]) hx hb dX0_save_24 rfl hl (by decide) rfl (fun ls hl => ?_)
    refine lv_aload_n hx hb dX0_save_25 rfl (lv_at hl 0 rfl) ?_
    refine lv_ifnull hx hb dX0_save_26 ?_
    refine lv_aload_n hx hb dX0_save_29 rfl (lv_at hl 0 rfl) ?_
    refine lv_aload_n hx hb dX0_save_30 rfl (lv_at hl 2 rfl) ?_
    replace h := bd h
    obtain ⟨t3, et3, h⟩ := h
    refine callMv (wr := [(h0, .inr (4, [.ref (A0 0 0), .ref (A0 6 1), .ref (A0 5 0)])), (A0 6 1, .inr (0, [.ref (A0 6 2), .int ((Z0 6).1 0)])), (A0 6 2, .inl (T 3, 4, .inr (.inr (.inr (.inr (hsQ A0)))))), (A0 1 0, .inr (2, [.ref (A0 1 1), .ref (A0 1 2), .ref (A0 1 3), .ref (A0 1 4), .int ((Z0 1).1 0), .int ((Z0 1).1 1), .int ((Z0 1).1 2), .int ((Z0 1).1 3), .int ((Z0 1).1 4)])), (A0 1 1, .inr (3, [.ref (A0 1 5), .ref (A0 1 6), .ref (A0 1 7), .int ((Z0 1).1 5)])), (A0 1 2, .inr (3, [.ref (A0 1 8), .ref (A0 1 9), .ref (A0 1 10), .int ((Z0 1).1 6)])), (A0 1 3, .inl (T 0, 33, .inl ((Z0 1).2 6))), (A0 1 4, .inl (T 0, 33, .inl ((Z0 1).2 7))), (A0 1 5, .inl (T 0, 40, .inl ((Z0 1).2 0))), (A0 1 6, .inl (T 0, 40, .inl ((Z0 1).2 1))), (A0 1 7, .inl (T 0, 40, .inl ((Z0 1).2 2))), (A0 1 8, .inl (T 0, 8, .inl ((Z0 1).2 3))), (A0 1 9, .inl (T 0, 8, .inl ((Z0 1).2 4))), (A0 1 10, .inl (T 0, 8, .inl ((Z0 1).2 5))), (A0 3 0, .inr (2, [.ref (A0 3 1), .ref (A0 3 2), .ref (A0 3 3), .ref (A0 3 4), .int ((Z0 3).1 0), .int ((Z0 3).1 1), .int ((Z0 3).1 2), .int ((Z0 3).1 3), .int ((Z0 3).1 4)])), (A0 3 1, .inr (3, [.ref (A0 3 5), .ref (A0 3 6), .ref (A0 3 7), .int ((Z0 3).1 5)])), (A0 3 2, .inr (3, [.ref (A0 3 8), .ref (A0 3 9), .ref (A0 3 10), .int ((Z0 3).1 6)])), (A0 3 3, .inl (T 0, 33, .inl ((Z0 3).2 6))), (A0 3 4, .inl (T 0, 33, .inl ((Z0 3).2 7))), (A0 3 5, .inl (T 0, 40, .inl ((Z0 3).2 0))), (A0 3 6, .inl (T 0, 40, .inl ((Z0 3).2 1))), (A0 3 7, .inl (T 0, 40, .inl ((Z0 3).2 2))), (A0 3 8, .inl (T 0, 8, .inl ((Z0 3).2 3))), (A0 3 9, .inl (T 0, 8, .inl ((Z0 3).2 4))), (A0 3 10, .inl (T 0, 8, .inl ((Z0 3).2 5))), (A0 4 0, .inr (2, [.ref (A0 4 1), .ref (A0 4 2), .ref (A0 4 3), .ref (A0 4 4), .int ((Z0 4).1 0), .int ((Z0 4).1 1), .int ((Z0 4).1 2), .int ((Z0 4).1 3), .int ((Z0 4).1 4)])), (A0 4 1, .inr (3, [.ref (A0 4 5), .ref (A0 4 6), .ref (A0 4 7), .int ((Z0 4).1 5)])), (A0 4 2, .inr (3, [.ref (A0 4 8), .ref (A0 4 9), .ref (A0 4 10), .int ((Z0 4).1 6)])), (A0 4 3, .inl (T 0, 33, .inl ((Z0 4).2 6))), (A0 4 4, .inl (T 0, 33, .inl ((Z0 4).2 7))), (A0 4 5, .inl (T 0, 40, .inl ((Z0 4).2 0))), (A0 4 6, .inl (T 0, 40, .inl ((Z0 4).2 1))), (A0 4 7, .inl (T 0, 40, .inl ((Z0 4).2 2))), (A0 4 8, .inl (T 0, 8, .inl ((Z0 4).2 3))), (A0 4 9, .inl (T 0, 8, .inl ((Z0 4).2 4))), (A0 4 10, .inl (T 0, 8, .inl ((Z0 4).2 5))), (A0 5 0, .inr (1, [.ref (A0 5 1), .ref (A0 5 2), .ref (A0 5 3), .ref (A0 5 4), .int ((Z0 5).1 0), .int ((Z0 5).1 1), .int ((Z0 5).1 2), .int ((Z0 5).1 3), .int ((Z0 5).1 4)])), (A0 5 1, .inl (T 0, 100, .inl ((Z0 5).2 0))), (A0 5 2, .inl (T 0, 20, .inl ((Z0 5).2 1))), (A0 5 3, .inl (T 0, 20, .inl ((Z0 5).2 2))), (A0 5 4, .inl (T 0, 20, .inl ((Z0 5).2 3)))]) (ws' := scW T h0 A0 (zU Z0 2 t3)) (va_runV (As := [.ref (A0 0 0)]) (rest := []) ⟨hx, hb, hml, hown, hts⟩ (c_X2_copyFrom l D T (A0 2) (Z0 2) (A0 0) (Z0 0) _ t3 et3) (cwV 1 hts gX0_save_X2_copyFrom rfl rfl rfl hdV_X2_copyFrom ⟨Nat.le_of_ble_eq_true rfl, Nat.le_of_ble_eq_true rfl⟩) ⟨PM_blind, va_recv hK.1 hP (ci := 2) (q0 := 25) rfl rfl, PM_at (hP.sub (ws' := stW T (A0 2) (Z0 2) ++ stW T (A0 0) (Z0 0)) [25, 26, 27, 28, 29, 30, 31, 32, 33, 34, 35, 3, 4, 5, 6, 7, 8, 9, 10, 11, 12, 13] rfl) (hD.sub (ws' := stW T (A0 2) (Z0 2) ++ stW T (A0 0) (Z0 0)) [25, 26, 27, 28, 29, 30, 31, 32, 33, 34, 35, 3, 4, 5, 6, 7, 8, 9, 10, 11, 12, 13] (by decide) rfl) hK⟩ rfl rfl hl.1 rfl (lv_room (Nat.le_of_ble_eq_true rfl)) dX0_save_31 ⟨Nat.zero_le _, Nat.zero_le _⟩) hS hA hP hD [25, 26, 27, 28, 29, 30, 31, 32, 33, 34, 35, 3, 4, 5, 6, 7, 8, 9, 10, 11, 12, 13] [0, 1, 2, 14, 15, 16, 17, 18, 19, 20, 21, 22, 23, 24, 36, 37, 38, 39, 40, 41, 42, 43, 44, 45, 46, 47, 48, 49, 50, 51, 52, 53, 54, 55, 56, 57, 58, 59, 60, 61, 62] rfl rfl (by decide) (by decide) [0, 1, 2, 52, 53, 54, 55, 56, 57, 58, 59, 60, 61, 62, 3, 4, 5, 6, 7, 8, 9, 10, 11, 12, 13, 41, 42, 43, 44, 45, 46, 47, 48, 49, 50, 51, 14, 15, 16, 17, 18, 19, 20, 21, 22, 23, 24, 25, 26, 27, 28, 29, 30, 31, 32, 33, 34, 35, 36, 37, 38, 39, 40] (by decide) rfl (fun H locs hP hD hS => ?_)
    refine lv_aload_n hx hb dX0_save_34 rfl (lv_at hl 1 rfl) ?_
    refine lv_dup hx hb dX0_save_35 rfl ?_
    refine va_get (D := D) (ci := 0) (v := .int (((zU Z0 2 t3) 6).1 0)) (C := RX0) (T := TX0) (N := 2) hx hb hts inX0_save_0 hown hK.1 hP 1 rfl rfl 1 (by decide) (hts (.fieldLink RX0 18 "LyingScale$History" "count" "I") (List.mem_of_getElem? (i := 1) rfl)) (fun _ h9 => h9) rfl dX0_save_36 ?_
    refine lv_iconst (v := 1) hx hb dX0_save_39 (by decide) ?_
    refine lv_iadd hx hb dX0_save_40 ?_
    refine va_put (D := D) (ci := 0) (v := .int ((((zU Z0 2 t3) 6).1 0) + 1)) (ty := .int) (C := RX0) (T := TX0) (N := 2) hx hb hts inX0_save_0 tyX0 tyX0_ok nmX0 hown hK.1 hP hD hS 1 rfl rfl 1 (by decide) (hts (.fieldLink RX0 18 "LyingScale$History" "count" "I") (List.mem_of_getElem? (i := 1) rfl)) (fun _ h9 => h9) rfl (by decide +kernel) rfl rfl (Nat.le_of_ble_eq_true rfl) dX0_save_41 (fun H locs hP hD hS => ?_)
    replace hP : va_P D vwCl (scW T h0 A0 (zU (zU Z0 2 t3) 6 (sI ((zU Z0 2 t3) 6) 0 ((((zU Z0 2 t3) 6).1 0) + 1)))) H := hP
    replace hD : va_D A (scW T h0 A0 (zU (zU Z0 2 t3) 6 (sI ((zU Z0 2 t3) 6) 0 ((((zU Z0 2 t3) 6).1 0) + 1)))) := hD
    replace h := bd h
    obtain ⟨y4, ey4, h⟩ := h
    rw [Option.some.inj ey4] at hP hD
    obtain rfl := Option.some.inj h
    exact W.vret hx hb hr (fun t ht hW => ⟨⟨A0, rfl, trivial, by rw [ht]; exact hP, hD⟩, hS.F ht⟩) hS.2.2 dX0_save_44 hlocks
  replace h := im k1_ h
  by_cases k2_ : (Z0 6).1 0 = 2
  · replace h := ip k2_ h
    refine lv_aload_n hx hb dX0_save_0 rfl (lv_at hl 0 rfl) ?_
    refine va_get (D := D) (ci := 0) (v := .int ((Z0 6).1 0)) (C := RX0) (T := TX0) (N := 2) hx hb hts inX0_save_0 hown hK.1 hP 1 rfl rfl 1 (by decide) (hts (.fieldLink RX0 18 "LyingScale$History" "count" "I") (List.mem_of_getElem? (i := 1) rfl)) (fun _ h9 => h9) rfl dX0_save_1 ?_
    refine eqi (k2_) ?_
    refine lv_aload_n hx hb dX0_save_4 rfl (lv_at hl 0 rfl) ?_
    refine va_get (D := D) (ci := 0) (v := .ref (A0 6 2)) (C := RX0) (T := TX0) (N := 2) hx hb hts inX0_save_0 hown hK.1 hP 1 rfl rfl 0 (by decide) (hts (.fieldLink RX0 11 "LyingScale$History" "states" "[LLyingScale$State;") (List.mem_of_getElem? (i := 2) rfl)) (fun _ h9 => h9) rfl dX0_save_5 ?_
    refine va_alen hx hb hK.1 hP 2 3 rfl rfl (v := 4) rfl dX0_save_8 ?_
    refine lv_icmp_lt (tgt := 16) hx hb dX0_save_9 (by decide) (fun _ => ?_) (fun c => absurd c (by decide))
    refine lv_aload_n hx hb dX0_save_16 rfl (lv_at hl 0 rfl) ?_
    refine lv_aload_n hx hb dX0_save_17 rfl (lv_at hl 0 rfl) ?_
    refine va_get (D := D) (ci := 0) (v := .int ((Z0 6).1 0)) (C := RX0) (T := TX0) (N := 2) hx hb hts inX0_save_0 hown hK.1 hP 1 rfl rfl 1 (by decide) (hts (.fieldLink RX0 18 "LyingScale$History" "count" "I") (List.mem_of_getElem? (i := 1) rfl)) (fun _ h9 => h9) rfl dX0_save_18 ?_
    refine eqi (k2_) ?_
    refine callRa (v := .ref (A0 3 0)) (va_runV (As := [.int 2]) (rest := []) ⟨hx, hb, hml, hown, hts⟩ (c_X0_stateAt l D T h0 A0 Z0 2 2 (by decide +kernel)) (cwV 1 hts gX0_save_X0_stateAt rfl rfl rfl hdV_X0_stateAt ⟨Nat.le_of_ble_eq_true rfl, Nat.le_of_ble_eq_true rfl⟩) ⟨PB_blind, va_recv hK.1 hP (ci := 0) (q0 := 1) rfl rfl, PB_at hP hK⟩ rfl rfl hl.1 rfl (lv_room (Nat.le_of_ble_eq_true rfl)) dX0_save_21 ⟨Nat.zero_le _, Nat.zero_le _⟩) ?_
    refine lv_astore_n (lv' := [(2, .ref (A0 3 0)), (0, .ref (A0 6 1)), (1, .ref (A0 0 0))]) hx hb dX0_save_24 rfl hl (by decide) rfl (fun ls hl => ?_)
    refine lv_aload_n hx hb dX0_save_25 rfl (lv_at hl 0 rfl) ?_
    refine lv_ifnull hx hb dX0_save_26 ?_
    refine lv_aload_n hx hb dX0_save_29 rfl (lv_at hl 0 rfl) ?_
    refine lv_aload_n hx hb dX0_save_30 rfl (lv_at hl 2 rfl) ?_
    replace h := bd h
    obtain ⟨t5, et5, h⟩ := h
    refine callMv (wr := [(h0, .inr (4, [.ref (A0 0 0), .ref (A0 6 1), .ref (A0 5 0)])), (A0 6 1, .inr (0, [.ref (A0 6 2), .int ((Z0 6).1 0)])), (A0 6 2, .inl (T 3, 4, .inr (.inr (.inr (.inr (hsQ A0)))))), (A0 1 0, .inr (2, [.ref (A0 1 1), .ref (A0 1 2), .ref (A0 1 3), .ref (A0 1 4), .int ((Z0 1).1 0), .int ((Z0 1).1 1), .int ((Z0 1).1 2), .int ((Z0 1).1 3), .int ((Z0 1).1 4)])), (A0 1 1, .inr (3, [.ref (A0 1 5), .ref (A0 1 6), .ref (A0 1 7), .int ((Z0 1).1 5)])), (A0 1 2, .inr (3, [.ref (A0 1 8), .ref (A0 1 9), .ref (A0 1 10), .int ((Z0 1).1 6)])), (A0 1 3, .inl (T 0, 33, .inl ((Z0 1).2 6))), (A0 1 4, .inl (T 0, 33, .inl ((Z0 1).2 7))), (A0 1 5, .inl (T 0, 40, .inl ((Z0 1).2 0))), (A0 1 6, .inl (T 0, 40, .inl ((Z0 1).2 1))), (A0 1 7, .inl (T 0, 40, .inl ((Z0 1).2 2))), (A0 1 8, .inl (T 0, 8, .inl ((Z0 1).2 3))), (A0 1 9, .inl (T 0, 8, .inl ((Z0 1).2 4))), (A0 1 10, .inl (T 0, 8, .inl ((Z0 1).2 5))), (A0 2 0, .inr (2, [.ref (A0 2 1), .ref (A0 2 2), .ref (A0 2 3), .ref (A0 2 4), .int ((Z0 2).1 0), .int ((Z0 2).1 1), .int ((Z0 2).1 2), .int ((Z0 2).1 3), .int ((Z0 2).1 4)])), (A0 2 1, .inr (3, [.ref (A0 2 5), .ref (A0 2 6), .ref (A0 2 7), .int ((Z0 2).1 5)])), (A0 2 2, .inr (3, [.ref (A0 2 8), .ref (A0 2 9), .ref (A0 2 10), .int ((Z0 2).1 6)])), (A0 2 3, .inl (T 0, 33, .inl ((Z0 2).2 6))), (A0 2 4, .inl (T 0, 33, .inl ((Z0 2).2 7))), (A0 2 5, .inl (T 0, 40, .inl ((Z0 2).2 0))), (A0 2 6, .inl (T 0, 40, .inl ((Z0 2).2 1))), (A0 2 7, .inl (T 0, 40, .inl ((Z0 2).2 2))), (A0 2 8, .inl (T 0, 8, .inl ((Z0 2).2 3))), (A0 2 9, .inl (T 0, 8, .inl ((Z0 2).2 4))), (A0 2 10, .inl (T 0, 8, .inl ((Z0 2).2 5))), (A0 4 0, .inr (2, [.ref (A0 4 1), .ref (A0 4 2), .ref (A0 4 3), .ref (A0 4 4), .int ((Z0 4).1 0), .int ((Z0 4).1 1), .int ((Z0 4).1 2), .int ((Z0 4).1 3), .int ((Z0 4).1 4)])), (A0 4 1, .inr (3, [.ref (A0 4 5), .ref (A0 4 6), .ref (A0 4 7), .int ((Z0 4).1 5)])), (A0 4 2, .inr (3, [.ref (A0 4 8), .ref (A0 4 9), .ref (A0 4 10), .int ((Z0 4).1 6)])), (A0 4 3, .inl (T 0, 33, .inl ((Z0 4).2 6))), (A0 4 4, .inl (T 0, 33, .inl ((Z0 4).2 7))), (A0 4 5, .inl (T 0, 40, .inl ((Z0 4).2 0))), (A0 4 6, .inl (T 0, 40, .inl ((Z0 4).2 1))), (A0 4 7, .inl (T 0, 40, .inl ((Z0 4).2 2))), (A0 4 8, .inl (T 0, 8, .inl ((Z0 4).2 3))), (A0 4 9, .inl (T 0, 8, .inl ((Z0 4).2 4))), (A0 4 10, .inl (T 0, 8, .inl ((Z0 4).2 5))), (A0 5 0, .inr (1, [.ref (A0 5 1), .ref (A0 5 2), .ref (A0 5 3), .ref (A0 5 4), .int ((Z0 5).1 0), .int ((Z0 5).1 1), .int ((Z0 5).1 2), .int ((Z0 5).1 3), .int ((Z0 5).1 4)])), (A0 5 1, .inl (T 0, 100, .inl ((Z0 5).2 0))), (A0 5 2, .inl (T 0, 20, .inl ((Z0 5).2 1))), (A0 5 3, .inl (T 0, 20, .inl ((Z0 5).2 2))), (A0 5 4, .inl (T 0, 20, .inl ((Z0 5).2 3)))]) (ws' := scW T h0 A0 (zU Z0 3 t5)) (va_runV (As := [.ref (A0 0 0)]) (rest := []) ⟨hx, hb, hml, hown, hts⟩ (c_X2_copyFrom l D T (A0 3) (Z0 3) (A0 0) (Z0 0) _ t5 et5) (cwV 1 hts gX0_save_X2_copyFrom rfl rfl rfl hdV_X2_copyFrom ⟨Nat.le_of_ble_eq_true rfl, Nat.le_of_ble_eq_true rfl⟩) ⟨PM_blind, va_recv hK.1 hP (ci := 2) (q0 := 36) rfl rfl, PM_at (hP.sub (ws' := stW T (A0 3) (Z0 3) ++ stW T (A0 0) (Z0 0)) [36, 37, 38, 39, 40, 41, 42, 43, 44, 45, 46, 3, 4, 5, 6, 7, 8, 9, 10, 11, 12, 13] rfl) (hD.sub (ws' := stW T (A0 3) (Z0 3) ++ stW T (A0 0) (Z0 0)) [36, 37, 38, 39, 40, 41, 42, 43, 44, 45, 46, 3, 4, 5, 6, 7, 8, 9, 10, 11, 12, 13] (by decide) rfl) hK⟩ rfl rfl hl.1 rfl (lv_room (Nat.le_of_ble_eq_true rfl)) dX0_save_31 ⟨Nat.zero_le _, Nat.zero_le _⟩) hS hA hP hD [36, 37, 38, 39, 40, 41, 42, 43, 44, 45, 46, 3, 4, 5, 6, 7, 8, 9, 10, 11, 12, 13] [0, 1, 2, 14, 15, 16, 17, 18, 19, 20, 21, 22, 23, 24, 25, 26, 27, 28, 29, 30, 31, 32, 33, 34, 35, 47, 48, 49, 50, 51, 52, 53, 54, 55, 56, 57, 58, 59, 60, 61, 62] rfl rfl (by decide) (by decide) [0, 1, 2, 52, 53, 54, 55, 56, 57, 58, 59, 60, 61, 62, 3, 4, 5, 6, 7, 8, 9, 10, 11, 12, 13, 14, 15, 16, 17, 18, 19, 20, 21, 22, 23, 24, 41, 42, 43, 44, 45, 46, 47, 48, 49, 50, 51, 25, 26, 27, 28, 29, 30, 31, 32, 33, 34, 35, 36, 37, 38, 39, 40] (by decide) rfl (fun H locs hP hD hS => ?_)
    refine lv_aload_n hx hb dX0_save_34 rfl (lv_at hl 1 rfl) ?_
    refine lv_dup hx hb dX0_save_35 rfl ?_
    refine va_get (D := D) (ci := 0) (v := .int (((zU Z0 3 t5) 6).1 0)) (C := RX0) (T := TX0) (N := 2) hx hb hts inX0_save_0 hown hK.1 hP 1 rfl rfl 1 (by decide) (hts (.fieldLink RX0 18 "LyingScale$History" "count" "I") (List.mem_of_getElem? (i := 1) rfl)) (fun _ h9 => h9) rfl dX0_save_36 ?_
    refine lv_iconst (v := 1) hx hb dX0_save_39 (by decide) ?_
    refine lv_iadd hx hb dX0_save_40 ?_
    refine va_put (D := D) (ci := 0) (v := .int ((((zU Z0 3 t5) 6).1 0) + 1)) (ty := .int) (C := RX0) (T := TX0) (N := 2) hx hb hts inX0_save_0 tyX0 tyX0_ok nmX0 hown hK.1 hP hD hS 1 rfl rfl 1 (by decide) (hts (.fieldLink RX0 18 "LyingScale$History" "count" "I") (List.mem_of_getElem? (i := 1) rfl)) (fun _ h9 => h9) rfl (by decide +kernel) rfl rfl (Nat.le_of_ble_eq_true rfl) dX0_save_41 (fun H locs hP hD hS => ?_)
    replace hP : va_P D vwCl (scW T h0 A0 (zU (zU Z0 3 t5) 6 (sI ((zU Z0 3 t5) 6) 0 ((((zU Z0 3 t5) 6).1 0) + 1)))) H := hP
    replace hD : va_D A (scW T h0 A0 (zU (zU Z0 3 t5) 6 (sI ((zU Z0 3 t5) 6) 0 ((((zU Z0 3 t5) 6).1 0) + 1)))) := hD
    replace h := bd h
    obtain ⟨y6, ey6, h⟩ := h
    rw [Option.some.inj ey6] at hP hD
    obtain rfl := Option.some.inj h
    exact W.vret hx hb hr (fun t ht hW => ⟨⟨A0, rfl, trivial, by rw [ht]; exact hP, hD⟩, hS.F ht⟩) hS.2.2 dX0_save_44 hlocks
  replace h := im k2_ h
  by_cases k3_ : (Z0 6).1 0 = 3
  · replace h := ip k3_ h
    refine lv_aload_n hx hb dX0_save_0 rfl (lv_at hl 0 rfl) ?_
    refine va_get (D := D) (ci := 0) (v := .int ((Z0 6).1 0)) (C := RX0) (T := TX0) (N := 2) hx hb hts inX0_save_0 hown hK.1 hP 1 rfl rfl 1 (by decide) (hts (.fieldLink RX0 18 "LyingScale$History" "count" "I") (List.mem_of_getElem? (i := 1) rfl)) (fun _ h9 => h9) rfl dX0_save_1 ?_
    refine eqi (k3_) ?_
    refine lv_aload_n hx hb dX0_save_4 rfl (lv_at hl 0 rfl) ?_
    refine va_get (D := D) (ci := 0) (v := .ref (A0 6 2)) (C := RX0) (T := TX0) (N := 2) hx hb hts inX0_save_0 hown hK.1 hP 1 rfl rfl 0 (by decide) (hts (.fieldLink RX0 11 "LyingScale$History" "states" "[LLyingScale$State;") (List.mem_of_getElem? (i := 2) rfl)) (fun _ h9 => h9) rfl dX0_save_5 ?_
    refine va_alen hx hb hK.1 hP 2 3 rfl rfl (v := 4) rfl dX0_save_8 ?_
    refine lv_icmp_lt (tgt := 16) hx hb dX0_save_9 (by decide) (fun _ => ?_) (fun c => absurd c (by decide))
    refine lv_aload_n hx hb dX0_save_16 rfl (lv_at hl 0 rfl) ?_
    refine lv_aload_n hx hb dX0_save_17 rfl (lv_at hl 0 rfl) ?_
    refine va_get (D := D) (ci := 0) (v := .int ((Z0 6).1 0)) (C := RX0) (T := TX0) (N := 2) hx hb hts inX0_save_0 hown hK.1 hP 1 rfl rfl 1 (by decide) (hts (.fieldLink RX0 18 "LyingScale$History" "count" "I") (List.mem_of_getElem? (i := 1) rfl)) (fun _ h9 => h9) rfl dX0_save_18 ?_
    refine eqi (k3_) ?_
    refine callRa (v := .ref (A0 4 0)) (va_runV (As := [.int 3]) (rest := []) ⟨hx, hb, hml, hown, hts⟩ (c_X0_stateAt l D T h0 A0 Z0 3 3 (by decide +kernel)) (cwV 1 hts gX0_save_X0_stateAt rfl rfl rfl hdV_X0_stateAt ⟨Nat.le_of_ble_eq_true rfl, Nat.le_of_ble_eq_true rfl⟩) ⟨PB_blind, va_recv hK.1 hP (ci := 0) (q0 := 1) rfl rfl, PB_at hP hK⟩ rfl rfl hl.1 rfl (lv_room (Nat.le_of_ble_eq_true rfl)) dX0_save_21 ⟨Nat.zero_le _, Nat.zero_le _⟩) ?_
    refine lv_astore_n (lv' := [(2, .ref (A0 4 0)), (0, .ref (A0 6 1)), (1, .ref (A0 0 0))]) hx hb dX0_save_24 rfl hl (by decide) rfl (fun ls hl => ?_)
    refine lv_aload_n hx hb dX0_save_25 rfl (lv_at hl 0 rfl) ?_
    refine lv_ifnull hx hb dX0_save_26 ?_
    refine lv_aload_n hx hb dX0_save_29 rfl (lv_at hl 0 rfl) ?_
    refine lv_aload_n hx hb dX0_save_30 rfl (lv_at hl 2 rfl) ?_
    replace h := bd h
    obtain ⟨t7, et7, h⟩ := h
    refine callMv (wr := [(h0, .inr (4, [.ref (A0 0 0), .ref (A0 6 1), .ref (A0 5 0)])), (A0 6 1, .inr (0, [.ref (A0 6 2), .int ((Z0 6).1 0)])), (A0 6 2, .inl (T 3, 4, .inr (.inr (.inr (.inr (hsQ A0)))))), (A0 1 0, .inr (2, [.ref (A0 1 1), .ref (A0 1 2), .ref (A0 1 3), .ref (A0 1 4), .int ((Z0 1).1 0), .int ((Z0 1).1 1), .int ((Z0 1).1 2), .int ((Z0 1).1 3), .int ((Z0 1).1 4)])), (A0 1 1, .inr (3, [.ref (A0 1 5), .ref (A0 1 6), .ref (A0 1 7), .int ((Z0 1).1 5)])), (A0 1 2, .inr (3, [.ref (A0 1 8), .ref (A0 1 9), .ref (A0 1 10), .int ((Z0 1).1 6)])), (A0 1 3, .inl (T 0, 33, .inl ((Z0 1).2 6))), (A0 1 4, .inl (T 0, 33, .inl ((Z0 1).2 7))), (A0 1 5, .inl (T 0, 40, .inl ((Z0 1).2 0))), (A0 1 6, .inl (T 0, 40, .inl ((Z0 1).2 1))), (A0 1 7, .inl (T 0, 40, .inl ((Z0 1).2 2))), (A0 1 8, .inl (T 0, 8, .inl ((Z0 1).2 3))), (A0 1 9, .inl (T 0, 8, .inl ((Z0 1).2 4))), (A0 1 10, .inl (T 0, 8, .inl ((Z0 1).2 5))), (A0 2 0, .inr (2, [.ref (A0 2 1), .ref (A0 2 2), .ref (A0 2 3), .ref (A0 2 4), .int ((Z0 2).1 0), .int ((Z0 2).1 1), .int ((Z0 2).1 2), .int ((Z0 2).1 3), .int ((Z0 2).1 4)])), (A0 2 1, .inr (3, [.ref (A0 2 5), .ref (A0 2 6), .ref (A0 2 7), .int ((Z0 2).1 5)])), (A0 2 2, .inr (3, [.ref (A0 2 8), .ref (A0 2 9), .ref (A0 2 10), .int ((Z0 2).1 6)])), (A0 2 3, .inl (T 0, 33, .inl ((Z0 2).2 6))), (A0 2 4, .inl (T 0, 33, .inl ((Z0 2).2 7))), (A0 2 5, .inl (T 0, 40, .inl ((Z0 2).2 0))), (A0 2 6, .inl (T 0, 40, .inl ((Z0 2).2 1))), (A0 2 7, .inl (T 0, 40, .inl ((Z0 2).2 2))), (A0 2 8, .inl (T 0, 8, .inl ((Z0 2).2 3))), (A0 2 9, .inl (T 0, 8, .inl ((Z0 2).2 4))), (A0 2 10, .inl (T 0, 8, .inl ((Z0 2).2 5))), (A0 3 0, .inr (2, [.ref (A0 3 1), .ref (A0 3 2), .ref (A0 3 3), .ref (A0 3 4), .int ((Z0 3).1 0), .int ((Z0 3).1 1), .int ((Z0 3).1 2), .int ((Z0 3).1 3), .int ((Z0 3).1 4)])), (A0 3 1, .inr (3, [.ref (A0 3 5), .ref (A0 3 6), .ref (A0 3 7), .int ((Z0 3).1 5)])), (A0 3 2, .inr (3, [.ref (A0 3 8), .ref (A0 3 9), .ref (A0 3 10), .int ((Z0 3).1 6)])), (A0 3 3, .inl (T 0, 33, .inl ((Z0 3).2 6))), (A0 3 4, .inl (T 0, 33, .inl ((Z0 3).2 7))), (A0 3 5, .inl (T 0, 40, .inl ((Z0 3).2 0))), (A0 3 6, .inl (T 0, 40, .inl ((Z0 3).2 1))), (A0 3 7, .inl (T 0, 40, .inl ((Z0 3).2 2))), (A0 3 8, .inl (T 0, 8, .inl ((Z0 3).2 3))), (A0 3 9, .inl (T 0, 8, .inl ((Z0 3).2 4))), (A0 3 10, .inl (T 0, 8, .inl ((Z0 3).2 5))), (A0 5 0, .inr (1, [.ref (A0 5 1), .ref (A0 5 2), .ref (A0 5 3), .ref (A0 5 4), .int ((Z0 5).1 0), .int ((Z0 5).1 1), .int ((Z0 5).1 2), .int ((Z0 5).1 3), .int ((Z0 5).1 4)])), (A0 5 1, .inl (T 0, 100, .inl ((Z0 5).2 0))), (A0 5 2, .inl (T 0, 20, .inl ((Z0 5).2 1))), (A0 5 3, .inl (T 0, 20, .inl ((Z0 5).2 2))), (A0 5 4, .inl (T 0, 20, .inl ((Z0 5).2 3)))]) (ws' := scW T h0 A0 (zU Z0 4 t7)) (va_runV (As := [.ref (A0 0 0)]) (rest := []) ⟨hx, hb, hml, hown, hts⟩ (c_X2_copyFrom l D T (A0 4) (Z0 4) (A0 0) (Z0 0) _ t7 et7) (cwV 1 hts gX0_save_X2_copyFrom rfl rfl rfl hdV_X2_copyFrom ⟨Nat.le_of_ble_eq_true rfl, Nat.le_of_ble_eq_true rfl⟩) ⟨PM_blind, va_recv hK.1 hP (ci := 2) (q0 := 47) rfl rfl, PM_at (hP.sub (ws' := stW T (A0 4) (Z0 4) ++ stW T (A0 0) (Z0 0)) [47, 48, 49, 50, 51, 52, 53, 54, 55, 56, 57, 3, 4, 5, 6, 7, 8, 9, 10, 11, 12, 13] rfl) (hD.sub (ws' := stW T (A0 4) (Z0 4) ++ stW T (A0 0) (Z0 0)) [47, 48, 49, 50, 51, 52, 53, 54, 55, 56, 57, 3, 4, 5, 6, 7, 8, 9, 10, 11, 12, 13] (by decide) rfl) hK⟩ rfl rfl hl.1 rfl (lv_room (Nat.le_of_ble_eq_true rfl)) dX0_save_31 ⟨Nat.zero_le _, Nat.zero_le _⟩) hS hA hP hD [47, 48, 49, 50, 51, 52, 53, 54, 55, 56, 57, 3, 4, 5, 6, 7, 8, 9, 10, 11, 12, 13] [0, 1, 2, 14, 15, 16, 17, 18, 19, 20, 21, 22, 23, 24, 25, 26, 27, 28, 29, 30, 31, 32, 33, 34, 35, 36, 37, 38, 39, 40, 41, 42, 43, 44, 45, 46, 58, 59, 60, 61, 62] rfl rfl (by decide) (by decide) [0, 1, 2, 52, 53, 54, 55, 56, 57, 58, 59, 60, 61, 62, 3, 4, 5, 6, 7, 8, 9, 10, 11, 12, 13, 14, 15, 16, 17, 18, 19, 20, 21, 22, 23, 24, 25, 26, 27, 28, 29, 30, 31, 32, 33, 34, 35, 41, 42, 43, 44, 45, 46, 47, 48, 49, 50, 51, 36, 37, 38, 39, 40] (by decide) rfl (fun H locs hP hD hS => ?_)
    refine lv_aload_n hx hb dX0_save_34 rfl (lv_at hl 1 rfl) ?_
    refine lv_dup hx hb dX0_save_35 rfl ?_
    refine va_get (D := D) (ci := 0) (v := .int (((zU Z0 4 t7) 6).1 0)) (C := RX0) (T := TX0) (N := 2) hx hb hts inX0_save_0 hown hK.1 hP 1 rfl rfl 1 (by decide) (hts (.fieldLink RX0 18 "LyingScale$History" "count" "I") (List.mem_of_getElem? (i := 1) rfl)) (fun _ h9 => h9) rfl dX0_save_36 ?_
    refine lv_iconst (v := 1) hx hb dX0_save_39 (by decide) ?_
    refine lv_iadd hx hb dX0_save_40 ?_
    refine va_put (D := D) (ci := 0) (v := .int ((((zU Z0 4 t7) 6).1 0) + 1)) (ty := .int) (C := RX0) (T := TX0) (N := 2) hx hb hts inX0_save_0 tyX0 tyX0_ok nmX0 hown hK.1 hP hD hS 1 rfl rfl 1 (by decide) (hts (.fieldLink RX0 18 "LyingScale$History" "count" "I") (List.mem_of_getElem? (i := 1) rfl)) (fun _ h9 => h9) rfl (by decide +kernel) rfl rfl (Nat.le_of_ble_eq_true rfl) dX0_save_41 (fun H locs hP hD hS => ?_)
    replace hP : va_P D vwCl (scW T h0 A0 (zU (zU Z0 4 t7) 6 (sI ((zU Z0 4 t7) 6) 0 ((((zU Z0 4 t7) 6).1 0) + 1)))) H := hP
    replace hD : va_D A (scW T h0 A0 (zU (zU Z0 4 t7) 6 (sI ((zU Z0 4 t7) 6) 0 ((((zU Z0 4 t7) 6).1 0) + 1)))) := hD
    replace h := bd h
    obtain ⟨y8, ey8, h⟩ := h
    rw [Option.some.inj ey8] at hP hD
    obtain rfl := Option.some.inj h
    exact W.vret hx hb hr (fun t ht hW => ⟨⟨A0, rfl, trivial, by rw [ht]; exact hP, hD⟩, hS.F ht⟩) hS.2.2 dX0_save_44 hlocks
  replace h := im k3_ h
  by_cases k4_ : (Z0 6).1 0 = 4
  · replace h := ip k4_ h
    refine lv_aload_n hx hb dX0_save_0 rfl (lv_at hl 0 rfl) ?_
    refine va_get (D := D) (ci := 0) (v := .int ((Z0 6).1 0)) (C := RX0) (T := TX0) (N := 2) hx hb hts inX0_save_0 hown hK.1 hP 1 rfl rfl 1 (by decide) (hts (.fieldLink RX0 18 "LyingScale$History" "count" "I") (List.mem_of_getElem? (i := 1) rfl)) (fun _ h9 => h9) rfl dX0_save_1 ?_
    refine eqi (k4_) ?_
    refine lv_aload_n hx hb dX0_save_4 rfl (lv_at hl 0 rfl) ?_
    refine va_get (D := D) (ci := 0) (v := .ref (A0 6 2)) (C := RX0) (T := TX0) (N := 2) hx hb hts inX0_save_0 hown hK.1 hP 1 rfl rfl 0 (by decide) (hts (.fieldLink RX0 11 "LyingScale$History" "states" "[LLyingScale$State;") (List.mem_of_getElem? (i := 2) rfl)) (fun _ h9 => h9) rfl dX0_save_5 ?_
    refine va_alen hx hb hK.1 hP 2 3 rfl rfl (v := 4) rfl dX0_save_8 ?_
    refine lv_icmp_lt (tgt := 16) hx hb dX0_save_9 (by decide) (fun c => absurd c (by decide)) (fun _ => ?_)
    refine lv_aload_n hx hb dX0_save_12 rfl (lv_at hl 0 rfl) ?_
    refine callWv (va_runV (As := []) (rest := []) ⟨hx, hb, hml, hown, hts⟩ (c_X0_dropOldest l D T h0 A0 Z0 _) (cwV 0 hts gX0_save_X0_dropOldest rfl rfl rfl hdV_X0_dropOldest ⟨Nat.le_of_ble_eq_true rfl, Nat.le_of_ble_eq_true rfl⟩) ⟨PM_blind, va_recv hK.1 hP (ci := 0) (q0 := 1) rfl rfl, PM_at hP hD hK⟩ rfl rfl hl.1 rfl (lv_room (Nat.le_of_ble_eq_true rfl)) dX0_save_13 ⟨Nat.zero_le _, Nat.zero_le _⟩) hS hA hP hD (fun H locs hP hD hS => ?_)
    refine lv_aload_n hx hb dX0_save_16 rfl (lv_at hl 0 rfl) ?_
    refine lv_aload_n hx hb dX0_save_17 rfl (lv_at hl 0 rfl) ?_
    refine va_get (D := D) (ci := 0) (v := .int (((rotZ (zU Z0 6 (sI (Z0 6) 0 3))) 6).1 0)) (C := RX0) (T := TX0) (N := 2) hx hb hts inX0_save_0 hown hK.1 hP 1 rfl rfl 1 (by decide) (hts (.fieldLink RX0 18 "LyingScale$History" "count" "I") (List.mem_of_getElem? (i := 1) rfl)) (fun _ h9 => h9) rfl dX0_save_18 ?_
    refine eqi (rfl) ?_
    refine callRa (v := .ref ((rotA A0) 4 0)) (va_runV (As := [.int 3]) (rest := []) ⟨hx, hb, hml, hown, hts⟩ (c_X0_stateAt l D T h0 (rotA A0) (rotZ (zU Z0 6 (sI (Z0 6) 0 3))) 3 3 (by decide +kernel)) (cwV 1 hts gX0_save_X0_stateAt rfl rfl rfl hdV_X0_stateAt ⟨Nat.le_of_ble_eq_true rfl, Nat.le_of_ble_eq_true rfl⟩) ⟨PB_blind, va_recv hK.1 hP (ci := 0) (q0 := 1) rfl rfl, PB_at hP hK⟩ rfl rfl hl.1 rfl (lv_room (Nat.le_of_ble_eq_true rfl)) dX0_save_21 ⟨Nat.zero_le _, Nat.zero_le _⟩) ?_
    refine lv_astore_n (lv' := [(2, .ref ((rotA A0) 4 0)), (0, .ref (A0 6 1)), (1, .ref (A0 0 0))]) hx hb dX0_save_24 rfl hl (by decide) rfl (fun ls hl => ?_)
    refine lv_aload_n hx hb dX0_save_25 rfl (lv_at hl 0 rfl) ?_
    refine lv_ifnull hx hb dX0_save_26 ?_
    refine lv_aload_n hx hb dX0_save_29 rfl (lv_at hl 0 rfl) ?_
    refine lv_aload_n hx hb dX0_save_30 rfl (lv_at hl 2 rfl) ?_
    replace h := bd h
    obtain ⟨t9, et9, h⟩ := h
    refine callMv (wr := [(h0, .inr (4, [.ref ((rotA A0) 0 0), .ref ((rotA A0) 6 1), .ref ((rotA A0) 5 0)])), ((rotA A0) 6 1, .inr (0, [.ref ((rotA A0) 6 2), .int (((rotZ (zU Z0 6 (sI (Z0 6) 0 3))) 6).1 0)])), ((rotA A0) 6 2, .inl (T 3, 4, .inr (.inr (.inr (.inr (hsQ (rotA A0))))))), ((rotA A0) 1 0, .inr (2, [.ref ((rotA A0) 1 1), .ref ((rotA A0) 1 2), .ref ((rotA A0) 1 3), .ref ((rotA A0) 1 4), .int (((rotZ (zU Z0 6 (sI (Z0 6) 0 3))) 1).1 0), .int (((rotZ (zU Z0 6 (sI (Z0 6) 0 3))) 1).1 1), .int (((rotZ (zU Z0 6 (sI (Z0 6) 0 3))) 1).1 2), .int (((rotZ (zU Z0 6 (sI (Z0 6) 0 3))) 1).1 3), .int (((rotZ (zU Z0 6 (sI (Z0 6) 0 3))) 1).1 4)])), ((rotA A0) 1 1, .inr (3, [.ref ((rotA A0) 1 5), .ref ((rotA A0) 1 6), .ref ((rotA A0) 1 7), .int (((rotZ (zU Z0 6 (sI (Z0 6) 0 3))) 1).1 5)])), ((rotA A0) 1 2, .inr (3, [.ref ((rotA A0) 1 8), .ref ((rotA A0) 1 9), .ref ((rotA A0) 1 10), .int (((rotZ (zU Z0 6 (sI (Z0 6) 0 3))) 1).1 6)])), ((rotA A0) 1 3, .inl (T 0, 33, .inl (((rotZ (zU Z0 6 (sI (Z0 6) 0 3))) 1).2 6))), ((rotA A0) 1 4, .inl (T 0, 33, .inl (((rotZ (zU Z0 6 (sI (Z0 6) 0 3))) 1).2 7))), ((rotA A0) 1 5, .inl (T 0, 40, .inl (((rotZ (zU Z0 6 (sI (Z0 6) 0 3))) 1).2 0))), ((rotA A0) 1 6, .inl (T 0, 40, .inl (((rotZ (zU Z0 6 (sI (Z0 6) 0 3))) 1).2 1))), ((rotA A0) 1 7, .inl (T 0, 40, .inl (((rotZ (zU Z0 6 (sI (Z0 6) 0 3))) 1).2 2))), ((rotA A0) 1 8, .inl (T 0, 8, .inl (((rotZ (zU Z0 6 (sI (Z0 6) 0 3))) 1).2 3))), ((rotA A0) 1 9, .inl (T 0, 8, .inl (((rotZ (zU Z0 6 (sI (Z0 6) 0 3))) 1).2 4))), ((rotA A0) 1 10, .inl (T 0, 8, .inl (((rotZ (zU Z0 6 (sI (Z0 6) 0 3))) 1).2 5))), ((rotA A0) 2 0, .inr (2, [.ref ((rotA A0) 2 1), .ref ((rotA A0) 2 2), .ref ((rotA A0) 2 3), .ref ((rotA A0) 2 4), .int (((rotZ (zU Z0 6 (sI (Z0 6) 0 3))) 2).1 0), .int (((rotZ (zU Z0 6 (sI (Z0 6) 0 3))) 2).1 1), .int (((rotZ (zU Z0 6 (sI (Z0 6) 0 3))) 2).1 2), .int (((rotZ (zU Z0 6 (sI (Z0 6) 0 3))) 2).1 3), .int (((rotZ (zU Z0 6 (sI (Z0 6) 0 3))) 2).1 4)])), ((rotA A0) 2 1, .inr (3, [.ref ((rotA A0) 2 5), .ref ((rotA A0) 2 6), .ref ((rotA A0) 2 7), .int (((rotZ (zU Z0 6 (sI (Z0 6) 0 3))) 2).1 5)])), ((rotA A0) 2 2, .inr (3, [.ref ((rotA A0) 2 8), .ref ((rotA A0) 2 9), .ref ((rotA A0) 2 10), .int (((rotZ (zU Z0 6 (sI (Z0 6) 0 3))) 2).1 6)])), ((rotA A0) 2 3, .inl (T 0, 33, .inl (((rotZ (zU Z0 6 (sI (Z0 6) 0 3))) 2).2 6))), ((rotA A0) 2 4, .inl (T 0, 33, .inl (((rotZ (zU Z0 6 (sI (Z0 6) 0 3))) 2).2 7))), ((rotA A0) 2 5, .inl (T 0, 40, .inl (((rotZ (zU Z0 6 (sI (Z0 6) 0 3))) 2).2 0))), ((rotA A0) 2 6, .inl (T 0, 40, .inl (((rotZ (zU Z0 6 (sI (Z0 6) 0 3))) 2).2 1))), ((rotA A0) 2 7, .inl (T 0, 40, .inl (((rotZ (zU Z0 6 (sI (Z0 6) 0 3))) 2).2 2))), ((rotA A0) 2 8, .inl (T 0, 8, .inl (((rotZ (zU Z0 6 (sI (Z0 6) 0 3))) 2).2 3))), ((rotA A0) 2 9, .inl (T 0, 8, .inl (((rotZ (zU Z0 6 (sI (Z0 6) 0 3))) 2).2 4))), ((rotA A0) 2 10, .inl (T 0, 8, .inl (((rotZ (zU Z0 6 (sI (Z0 6) 0 3))) 2).2 5))), ((rotA A0) 3 0, .inr (2, [.ref ((rotA A0) 3 1), .ref ((rotA A0) 3 2), .ref ((rotA A0) 3 3), .ref ((rotA A0) 3 4), .int (((rotZ (zU Z0 6 (sI (Z0 6) 0 3))) 3).1 0), .int (((rotZ (zU Z0 6 (sI (Z0 6) 0 3))) 3).1 1), .int (((rotZ (zU Z0 6 (sI (Z0 6) 0 3))) 3).1 2), .int (((rotZ (zU Z0 6 (sI (Z0 6) 0 3))) 3).1 3), .int (((rotZ (zU Z0 6 (sI (Z0 6) 0 3))) 3).1 4)])), ((rotA A0) 3 1, .inr (3, [.ref ((rotA A0) 3 5), .ref ((rotA A0) 3 6), .ref ((rotA A0) 3 7), .int (((rotZ (zU Z0 6 (sI (Z0 6) 0 3))) 3).1 5)])), ((rotA A0) 3 2, .inr (3, [.ref ((rotA A0) 3 8), .ref ((rotA A0) 3 9), .ref ((rotA A0) 3 10), .int (((rotZ (zU Z0 6 (sI (Z0 6) 0 3))) 3).1 6)])), ((rotA A0) 3 3, .inl (T 0, 33, .inl (((rotZ (zU Z0 6 (sI (Z0 6) 0 3))) 3).2 6))), ((rotA A0) 3 4, .inl (T 0, 33, .inl (((rotZ (zU Z0 6 (sI (Z0 6) 0 3))) 3).2 7))), ((rotA A0) 3 5, .inl (T 0, 40, .inl (((rotZ (zU Z0 6 (sI (Z0 6) 0 3))) 3).2 0))), ((rotA A0) 3 6, .inl (T 0, 40, .inl (((rotZ (zU Z0 6 (sI (Z0 6) 0 3))) 3).2 1))), ((rotA A0) 3 7, .inl (T 0, 40, .inl (((rotZ (zU Z0 6 (sI (Z0 6) 0 3))) 3).2 2))), ((rotA A0) 3 8, .inl (T 0, 8, .inl (((rotZ (zU Z0 6 (sI (Z0 6) 0 3))) 3).2 3))), ((rotA A0) 3 9, .inl (T 0, 8, .inl (((rotZ (zU Z0 6 (sI (Z0 6) 0 3))) 3).2 4))), ((rotA A0) 3 10, .inl (T 0, 8, .inl (((rotZ (zU Z0 6 (sI (Z0 6) 0 3))) 3).2 5))), ((rotA A0) 5 0, .inr (1, [.ref ((rotA A0) 5 1), .ref ((rotA A0) 5 2), .ref ((rotA A0) 5 3), .ref ((rotA A0) 5 4), .int (((rotZ (zU Z0 6 (sI (Z0 6) 0 3))) 5).1 0), .int (((rotZ (zU Z0 6 (sI (Z0 6) 0 3))) 5).1 1), .int (((rotZ (zU Z0 6 (sI (Z0 6) 0 3))) 5).1 2), .int (((rotZ (zU Z0 6 (sI (Z0 6) 0 3))) 5).1 3), .int (((rotZ (zU Z0 6 (sI (Z0 6) 0 3))) 5).1 4)])), ((rotA A0) 5 1, .inl (T 0, 100, .inl (((rotZ (zU Z0 6 (sI (Z0 6) 0 3))) 5).2 0))), ((rotA A0) 5 2, .inl (T 0, 20, .inl (((rotZ (zU Z0 6 (sI (Z0 6) 0 3))) 5).2 1))), ((rotA A0) 5 3, .inl (T 0, 20, .inl (((rotZ (zU Z0 6 (sI (Z0 6) 0 3))) 5).2 2))), ((rotA A0) 5 4, .inl (T 0, 20, .inl (((rotZ (zU Z0 6 (sI (Z0 6) 0 3))) 5).2 3)))]) (ws' := scW T h0 (rotA A0) (zU (rotZ (zU Z0 6 (sI (Z0 6) 0 3))) 4 t9)) (va_runV (As := [.ref (A0 0 0)]) (rest := []) ⟨hx, hb, hml, hown, hts⟩ (c_X2_copyFrom l D T ((rotA A0) 4) ((rotZ (zU Z0 6 (sI (Z0 6) 0 3))) 4) ((rotA A0) 0) ((rotZ (zU Z0 6 (sI (Z0 6) 0 3))) 0) _ t9 et9) (cwV 1 hts gX0_save_X2_copyFrom rfl rfl rfl hdV_X2_copyFrom ⟨Nat.le_of_ble_eq_true rfl, Nat.le_of_ble_eq_true rfl⟩) ⟨PM_blind, va_recv hK.1 hP (ci := 2) (q0 := 47) rfl rfl, PM_at (hP.sub (ws' := stW T ((rotA A0) 4) ((rotZ (zU Z0 6 (sI (Z0 6) 0 3))) 4) ++ stW T ((rotA A0) 0) ((rotZ (zU Z0 6 (sI (Z0 6) 0 3))) 0)) [47, 48, 49, 50, 51, 52, 53, 54, 55, 56, 57, 3, 4, 5, 6, 7, 8, 9, 10, 11, 12, 13] rfl) (hD.sub (ws' := stW T ((rotA A0) 4) ((rotZ (zU Z0 6 (sI (Z0 6) 0 3))) 4) ++ stW T ((rotA A0) 0) ((rotZ (zU Z0 6 (sI (Z0 6) 0 3))) 0)) [47, 48, 49, 50, 51, 52, 53, 54, 55, 56, 57, 3, 4, 5, 6, 7, 8, 9, 10, 11, 12, 13] (by decide) rfl) hK⟩ rfl rfl hl.1 rfl (lv_room (Nat.le_of_ble_eq_true rfl)) dX0_save_31 ⟨Nat.zero_le _, Nat.zero_le _⟩) hS hA hP hD [47, 48, 49, 50, 51, 52, 53, 54, 55, 56, 57, 3, 4, 5, 6, 7, 8, 9, 10, 11, 12, 13] [0, 1, 2, 14, 15, 16, 17, 18, 19, 20, 21, 22, 23, 24, 25, 26, 27, 28, 29, 30, 31, 32, 33, 34, 35, 36, 37, 38, 39, 40, 41, 42, 43, 44, 45, 46, 58, 59, 60, 61, 62] rfl rfl (by decide) (by decide) [0, 1, 2, 52, 53, 54, 55, 56, 57, 58, 59, 60, 61, 62, 3, 4, 5, 6, 7, 8, 9, 10, 11, 12, 13, 14, 15, 16, 17, 18, 19, 20, 21, 22, 23, 24, 25, 26, 27, 28, 29, 30, 31, 32, 33, 34, 35, 41, 42, 43, 44, 45, 46, 47, 48, 49, 50, 51, 36, 37, 38, 39, 40] (by decide) rfl (fun H locs hP hD hS => ?_)
    refine lv_aload_n hx hb dX0_save_34 rfl (lv_at hl 1 rfl) ?_
    refine lv_dup hx hb dX0_save_35 rfl ?_
    refine va_get (D := D) (ci := 0) (v := .int (((zU (rotZ (zU Z0 6 (sI (Z0 6) 0 3))) 4 t9) 6).1 0)) (C := RX0) (T := TX0) (N := 2) hx hb hts inX0_save_0 hown hK.1 hP 1 rfl rfl 1 (by decide) (hts (.fieldLink RX0 18 "LyingScale$History" "count" "I") (List.mem_of_getElem? (i := 1) rfl)) (fun _ h9 => h9) rfl dX0_save_36 ?_
    refine lv_iconst (v := 1) hx hb dX0_save_39 (by decide) ?_
    refine lv_iadd hx hb dX0_save_40 ?_
    refine va_put (D := D) (ci := 0) (v := .int ((((zU (rotZ (zU Z0 6 (sI (Z0 6) 0 3))) 4 t9) 6).1 0) + 1)) (ty := .int) (C := RX0) (T := TX0) (N := 2) hx hb hts inX0_save_0 tyX0 tyX0_ok nmX0 hown hK.1 hP hD hS 1 rfl rfl 1 (by decide) (hts (.fieldLink RX0 18 "LyingScale$History" "count" "I") (List.mem_of_getElem? (i := 1) rfl)) (fun _ h9 => h9) rfl (by decide +kernel) rfl rfl (Nat.le_of_ble_eq_true rfl) dX0_save_41 (fun H locs hP hD hS => ?_)
    replace hP : va_P D vwCl (scW T h0 (rotA A0) (zU (zU (rotZ (zU Z0 6 (sI (Z0 6) 0 3))) 4 t9) 6 (sI ((zU (rotZ (zU Z0 6 (sI (Z0 6) 0 3))) 4 t9) 6) 0 ((((zU (rotZ (zU Z0 6 (sI (Z0 6) 0 3))) 4 t9) 6).1 0) + 1)))) H := hP
    replace hD : va_D A (scW T h0 (rotA A0) (zU (zU (rotZ (zU Z0 6 (sI (Z0 6) 0 3))) 4 t9) 6 (sI ((zU (rotZ (zU Z0 6 (sI (Z0 6) 0 3))) 4 t9) 6) 0 ((((zU (rotZ (zU Z0 6 (sI (Z0 6) 0 3))) 4 t9) 6).1 0) + 1)))) := hD
    replace h := bd h
    obtain ⟨y10, ey10, h⟩ := h
    rw [Option.some.inj ey10] at hP hD
    obtain rfl := Option.some.inj h
    exact W.vret hx hb hr (fun t ht hW => ⟨⟨(rotA A0), rfl, trivial, by rw [ht]; exact hP, hD⟩, hS.F ht⟩) hS.2.2 dX0_save_44 hlocks
  replace h := im k4_ h
  cases h
set_option maxHeartbeats 4000000 in
set_option maxRecDepth 100000 in
theorem c_X0_restore (l : Launch) (D : va_G) (T : Nat → ClassId) (h0 : Nat) (A0 : Nat → Nat → Nat) (Z0 : Nat → St) (sz : Nat) (r : (Nat → St)) (h : F_X0_restore Z0 = some r) : Met l yX0_restore wsX0_restore ({ frames := 4, cells := 0, slots := 0, locals := 86 } : Room) (va_Pc [.ref (A0 6 1), .ref (A0 0 0)] (PM D T (scW T h0 A0 (Z0)) sz)) (QEv D (scW T h0) r (va_A (scW T h0 A0 (Z0)) sz)) 0 0 (va_A (scW T h0 A0 (Z0)) sz) := by
  refine met_of (cc := cX0_restore) (maxL := 3) (ret := none) (lv := [(0, .ref (A0 6 1)), (1, .ref (A0 0 0))]) (by decide) rfl (Nat.le_of_ble_eq_true rfl) rfl ?_
  intro p e s m args below meth c ls C0 hl hB
  obtain ⟨hx, hb, hr, hml, hown, hts, hlocks, hname⟩ := C0
  obtain ⟨hsz, hP, hK, hD0⟩ := hB
  subst hsz
  have hD := hD0.self (sz := s.heap.size)
  generalize hAe : va_A (scW T h0 A0 (Z0)) s.heap.size = A at hD ⊢
  have hA : ∀ q : Nat, s.heap.size ≤ q → A q := fun q h => by rw [← hAe]; exact Or.inr h
  have hS : va_S A s.heap s.heap [] := va_S.rf
  unfold F_X0_restore at h
  by_cases k1_ : (Z0 6).1 0 = 1
  · replace h := ip k1_ h
    refine lv_aload_n hx hb dX0_restore_0 rfl (lv_at hl 0 rfl) ?_
    refine lv_aload_n hx hb dX0_restore_1 rfl (lv_at hl 0 rfl) ?_
    refine va_get (D := D) (ci := 0) (v := .int ((Z0 6).1 0)) (C := RX0) (T := TX0) (N := 2) hx hb hts inX0_restore_0 hown hK.1 hP 1 rfl rfl 1 (by decide) (hts (.fieldLink RX0 18 "LyingScale$History" "count" "I") (List.mem_of_getElem? (i := 1) rfl)) (fun _ h9 => h9) rfl dX0_restore_2 ?_
    refine eqi (k1_) ?_
    refine lv_iconst (v := 1) hx hb dX0_restore_5 (by decide) ?_
    refine lv_isub hx hb dX0_restore_6 ?_
    refine eqi (show (1 : Int32) - 1 = 0 from by decide) ?_
    refine callRa (v := .ref (A0 1 0)) (va_runV (As := [.int 0]) (rest := []) ⟨hx, hb, hml, hown, hts⟩ (c_X0_stateAt l D T h0 A0 Z0 0 0 (by decide +kernel)) (cwV 1 hts gX0_restore_X0_stateAt rfl rfl rfl hdV_X0_stateAt ⟨Nat.le_of_ble_eq_true rfl, Nat.le_of_ble_eq_true rfl⟩) ⟨PB_blind, va_recv hK.1 hP (ci := 0) (q0 := 1) rfl rfl, PB_at hP hK⟩ rfl rfl hl.1 rfl (lv_room (Nat.le_of_ble_eq_true rfl)) dX0_restore_7 ⟨Nat.zero_le _, Nat.zero_le _⟩) ?_
    refine lv_astore_n (lv' := [(2, .ref (A0 1 0)), (0, .ref (A0 6 1)), (1, .ref (A0 0 0))]) hx hb dX0_restore_10 rfl hl (by decide) rfl (fun ls hl => ?_)
    refine lv_aload_n hx hb dX0_restore_11 rfl (lv_at hl 0 rfl) ?_
    refine lv_ifnull hx hb dX0_restore_12 ?_
    refine lv_aload_n hx hb dX0_restore_15 rfl (lv_at hl 2 rfl) ?_
    refine lv_aload_n hx hb dX0_restore_16 rfl (lv_at hl 0 rfl) ?_
    replace h := bd h
    obtain ⟨t1, et1, h⟩ := h
    refine callMv (wr := [(h0, .inr (4, [.ref (A0 0 0), .ref (A0 6 1), .ref (A0 5 0)])), (A0 6 1, .inr (0, [.ref (A0 6 2), .int ((Z0 6).1 0)])), (A0 6 2, .inl (T 3, 4, .inr (.inr (.inr (.inr (hsQ A0)))))), (A0 2 0, .inr (2, [.ref (A0 2 1), .ref (A0 2 2), .ref (A0 2 3), .ref (A0 2 4), .int ((Z0 2).1 0), .int ((Z0 2).1 1), .int ((Z0 2).1 2), .int ((Z0 2).1 3), .int ((Z0 2).1 4)])), (A0 2 1, .inr (3, [.ref (A0 2 5), .ref (A0 2 6), .ref (A0 2 7), .int ((Z0 2).1 5)])), (A0 2 2, .inr (3, [.ref (A0 2 8), .ref (A0 2 9), .ref (A0 2 10), .int ((Z0 2).1 6)])), (A0 2 3, .inl (T 0, 33, .inl ((Z0 2).2 6))), (A0 2 4, .inl (T 0, 33, .inl ((Z0 2).2 7))), (A0 2 5, .inl (T 0, 40, .inl ((Z0 2).2 0))), (A0 2 6, .inl (T 0, 40, .inl ((Z0 2).2 1))), (A0 2 7, .inl (T 0, 40, .inl ((Z0 2).2 2))), (A0 2 8, .inl (T 0, 8, .inl ((Z0 2).2 3))), (A0 2 9, .inl (T 0, 8, .inl ((Z0 2).2 4))), (A0 2 10, .inl (T 0, 8, .inl ((Z0 2).2 5))), (A0 3 0, .inr (2, [.ref (A0 3 1), .ref (A0 3 2), .ref (A0 3 3), .ref (A0 3 4), .int ((Z0 3).1 0), .int ((Z0 3).1 1), .int ((Z0 3).1 2), .int ((Z0 3).1 3), .int ((Z0 3).1 4)])), (A0 3 1, .inr (3, [.ref (A0 3 5), .ref (A0 3 6), .ref (A0 3 7), .int ((Z0 3).1 5)])), (A0 3 2, .inr (3, [.ref (A0 3 8), .ref (A0 3 9), .ref (A0 3 10), .int ((Z0 3).1 6)])), (A0 3 3, .inl (T 0, 33, .inl ((Z0 3).2 6))), (A0 3 4, .inl (T 0, 33, .inl ((Z0 3).2 7))), (A0 3 5, .inl (T 0, 40, .inl ((Z0 3).2 0))), (A0 3 6, .inl (T 0, 40, .inl ((Z0 3).2 1))), (A0 3 7, .inl (T 0, 40, .inl ((Z0 3).2 2))), (A0 3 8, .inl (T 0, 8, .inl ((Z0 3).2 3))), (A0 3 9, .inl (T 0, 8, .inl ((Z0 3).2 4))), (A0 3 10, .inl (T 0, 8, .inl ((Z0 3).2 5))), (A0 4 0, .inr (2, [.ref (A0 4 1), .ref (A0 4 2), .ref (A0 4 3), .ref (A0 4 4), .int ((Z0 4).1 0), .int ((Z0 4).1 1), .int ((Z0 4).1 2), .int ((Z0 4).1 3), .int ((Z0 4).1 4)])), (A0 4 1, .inr (3, [.ref (A0 4 5), .ref (A0 4 6), .ref (A0 4 7), .int ((Z0 4).1 5)])), (A0 4 2, .inr (3, [.ref (A0 4 8), .ref (A0 4 9), .ref (A0 4 10), .int ((Z0 4).1 6)])), (A0 4 3, .inl (T 0, 33, .inl ((Z0 4).2 6))), (A0 4 4, .inl (T 0, 33, .inl ((Z0 4).2 7))), (A0 4 5, .inl (T 0, 40, .inl ((Z0 4).2 0))), (A0 4 6, .inl (T 0, 40, .inl ((Z0 4).2 1))), (A0 4 7, .inl (T 0, 40, .inl ((Z0 4).2 2))), (A0 4 8, .inl (T 0, 8, .inl ((Z0 4).2 3))), (A0 4 9, .inl (T 0, 8, .inl ((Z0 4).2 4))), (A0 4 10, .inl (T 0, 8, .inl ((Z0 4).2 5))), (A0 5 0, .inr (1, [.ref (A0 5 1), .ref (A0 5 2), .ref (A0 5 3), .ref (A0 5 4), .int ((Z0 5).1 0), .int ((Z0 5).1 1), .int ((Z0 5).1 2), .int ((Z0 5).1 3), .int ((Z0 5).1 4)])), (A0 5 1, .inl (T 0, 100, .inl ((Z0 5).2 0))), (A0 5 2, .inl (T 0, 20, .inl ((Z0 5).2 1))), (A0 5 3, .inl (T 0, 20, .inl ((Z0 5).2 2))), (A0 5 4, .inl (T 0, 20, .inl ((Z0 5).2 3)))]) (ws' := scW T h0 A0 (zU Z0 0 t1)) (va_runV (As := [.ref (A0 1 0)]) (rest := []) ⟨hx, hb, hml, hown, hts⟩ (c_X2_copyFrom l D T (A0 0) (Z0 0) (A0 1) (Z0 1) _ t1 et1) (cwV 1 hts gX0_restore_X2_copyFrom rfl rfl rfl hdV_X2_copyFrom ⟨Nat.le_of_ble_eq_true rfl, Nat.le_of_ble_eq_true rfl⟩) ⟨PM_blind, va_recv hK.1 hP (ci := 2) (q0 := 3) rfl rfl, PM_at (hP.sub (ws' := stW T (A0 0) (Z0 0) ++ stW T (A0 1) (Z0 1)) [3, 4, 5, 6, 7, 8, 9, 10, 11, 12, 13, 14, 15, 16, 17, 18, 19, 20, 21, 22, 23, 24] rfl) (hD.sub (ws' := stW T (A0 0) (Z0 0) ++ stW T (A0 1) (Z0 1)) [3, 4, 5, 6, 7, 8, 9, 10, 11, 12, 13, 14, 15, 16, 17, 18, 19, 20, 21, 22, 23, 24] (by decide) rfl) hK⟩ rfl rfl hl.1 rfl (lv_room (Nat.le_of_ble_eq_true rfl)) dX0_restore_17 ⟨Nat.zero_le _, Nat.zero_le _⟩) hS hA hP hD [3, 4, 5, 6, 7, 8, 9, 10, 11, 12, 13, 14, 15, 16, 17, 18, 19, 20, 21, 22, 23, 24] [0, 1, 2, 25, 26, 27, 28, 29, 30, 31, 32, 33, 34, 35, 36, 37, 38, 39, 40, 41, 42, 43, 44, 45, 46, 47, 48, 49, 50, 51, 52, 53, 54, 55, 56, 57, 58, 59, 60, 61, 62] rfl rfl (by decide) (by decide) [0, 1, 2, 41, 42, 43, 44, 45, 46, 47, 48, 49, 50, 51, 52, 53, 54, 55, 56, 57, 58, 59, 60, 61, 62, 3, 4, 5, 6, 7, 8, 9, 10, 11, 12, 13, 14, 15, 16, 17, 18, 19, 20, 21, 22, 23, 24, 25, 26, 27, 28, 29, 30, 31, 32, 33, 34, 35, 36, 37, 38, 39, 40] (by decide) rfl (fun H locs hP hD hS => ?_)
    refine lv_aload_n hx hb dX0_restore_20 rfl (lv_at hl 1 rfl) ?_
    refine lv_dup hx hb dX0_restore_21 rfl ?_
    refine va_get (D := D) (ci := 0) (v := .int (((zU Z0 0 t1) 6).1 0)) (C := RX0) (T := TX0) (N := 2) hx hb hts inX0_restore_0 hown hK.1 hP 1 rfl rfl 1 (by decide) (hts (.fieldLink RX0 18 "LyingScale$History" "count" "I") (List.mem_of_getElem? (i := 1) rfl)) (fun _ h9 => h9) rfl dX0_restore_22 ?_
    refine lv_iconst (v := 1) hx hb dX0_restore_25 (by decide) ?_
    refine lv_isub hx hb dX0_restore_26 ?_
    refine va_put (D := D) (ci := 0) (v := .int ((((zU Z0 0 t1) 6).1 0) - 1)) (ty := .int) (C := RX0) (T := TX0) (N := 2) hx hb hts inX0_restore_0 tyX0 tyX0_ok nmX0 hown hK.1 hP hD hS 1 rfl rfl 1 (by decide) (hts (.fieldLink RX0 18 "LyingScale$History" "count" "I") (List.mem_of_getElem? (i := 1) rfl)) (fun _ h9 => h9) rfl (by decide +kernel) rfl rfl (Nat.le_of_ble_eq_true rfl) dX0_restore_27 (fun H locs hP hD hS => ?_)
    replace hP : va_P D vwCl (scW T h0 A0 (zU (zU Z0 0 t1) 6 (sI ((zU Z0 0 t1) 6) 0 ((((zU Z0 0 t1) 6).1 0) - 1)))) H := hP
    replace hD : va_D A (scW T h0 A0 (zU (zU Z0 0 t1) 6 (sI ((zU Z0 0 t1) 6) 0 ((((zU Z0 0 t1) 6).1 0) - 1)))) := hD
    replace h := bd h
    obtain ⟨y2, ey2, h⟩ := h
    rw [Option.some.inj ey2] at hP hD
    obtain rfl := Option.some.inj h
    exact W.vret hx hb hr (fun t ht hW => ⟨⟨A0, rfl, trivial, by rw [ht]; exact hP, hD⟩, hS.F ht⟩) hS.2.2 dX0_restore_30 hlocks
  replace h := im k1_ h
  by_cases k2_ : (Z0 6).1 0 = 2
  · replace h := ip k2_ h
    refine lv_aload_n hx hb dX0_restore_0 rfl (lv_at hl 0 rfl) ?_
    refine lv_aload_n hx hb dX0_restore_1 rfl (lv_at hl 0 rfl) ?_
    refine va_get (D := D) (ci := 0) (v := .int ((Z0 6).1 0)) (C := RX0) (T := TX0) (N := 2) hx hb hts inX0_restore_0 hown hK.1 hP 1 rfl rfl 1 (by decide) (hts (.fieldLink RX0 18 "LyingScale$History" "count" "I") (List.mem_of_getElem? (i := 1) rfl)) (fun _ h9 => h9) rfl dX0_restore_2 ?_
    refine eqi (k2_) ?_
    refine lv_iconst (v := 1) hx hb dX0_restore_5 (by decide) ?_
    refine lv_isub hx hb dX0_restore_6 ?_
    refine eqi (show (2 : Int32) - 1 = 1 from by decide) ?_
    refine callRa (v := .ref (A0 2 0)) (va_runV (As := [.int 1]) (rest := []) ⟨hx, hb, hml, hown, hts⟩ (c_X0_stateAt l D T h0 A0 Z0 1 1 (by decide +kernel)) (cwV 1 hts gX0_restore_X0_stateAt rfl rfl rfl hdV_X0_stateAt ⟨Nat.le_of_ble_eq_true rfl, Nat.le_of_ble_eq_true rfl⟩) ⟨PB_blind, va_recv hK.1 hP (ci := 0) (q0 := 1) rfl rfl, PB_at hP hK⟩ rfl rfl hl.1 rfl (lv_room (Nat.le_of_ble_eq_true rfl)) dX0_restore_7 ⟨Nat.zero_le _, Nat.zero_le _⟩) ?_
    refine lv_astore_n (lv' := [(2, .ref (A0 2 0)), (0, .ref (A0 6 1)), (1, .ref (A0 0 0))]) hx hb dX0_restore_10 rfl hl (by decide) rfl (fun ls hl => ?_)
    refine lv_aload_n hx hb dX0_restore_11 rfl (lv_at hl 0 rfl) ?_
    refine lv_ifnull hx hb dX0_restore_12 ?_
    refine lv_aload_n hx hb dX0_restore_15 rfl (lv_at hl 2 rfl) ?_
    refine lv_aload_n hx hb dX0_restore_16 rfl (lv_at hl 0 rfl) ?_
    replace h := bd h
    obtain ⟨t3, et3, h⟩ := h
    refine callMv (wr := [(h0, .inr (4, [.ref (A0 0 0), .ref (A0 6 1), .ref (A0 5 0)])), (A0 6 1, .inr (0, [.ref (A0 6 2), .int ((Z0 6).1 0)])), (A0 6 2, .inl (T 3, 4, .inr (.inr (.inr (.inr (hsQ A0)))))), (A0 1 0, .inr (2, [.ref (A0 1 1), .ref (A0 1 2), .ref (A0 1 3), .ref (A0 1 4), .int ((Z0 1).1 0), .int ((Z0 1).1 1), .int ((Z0 1).1 2), .int ((Z0 1).1 3), .int ((Z0 1).1 4)])), (A0 1 1, .inr (3, [.ref (A0 1 5), .ref (A0 1 6), .ref (A0 1 7), .int ((Z0 1).1 5)])), (A0 1 2, .inr (3, [.ref (A0 1 8), .ref (A0 1 9), .ref (A0 1 10), .int ((Z0 1).1 6)])), (A0 1 3, .inl (T 0, 33, .inl ((Z0 1).2 6))), (A0 1 4, .inl (T 0, 33, .inl ((Z0 1).2 7))), (A0 1 5, .inl (T 0, 40, .inl ((Z0 1).2 0))), (A0 1 6, .inl (T 0, 40, .inl ((Z0 1).2 1))), (A0 1 7, .inl (T 0, 40, .inl ((Z0 1).2 2))), (A0 1 8, .inl (T 0, 8, .inl ((Z0 1).2 3))), (A0 1 9, .inl (T 0, 8, .inl ((Z0 1).2 4))), (A0 1 10, .inl (T 0, 8, .inl ((Z0 1).2 5))), (A0 3 0, .inr (2, [.ref (A0 3 1), .ref (A0 3 2), .ref (A0 3 3), .ref (A0 3 4), .int ((Z0 3).1 0), .int ((Z0 3).1 1), .int ((Z0 3).1 2), .int ((Z0 3).1 3), .int ((Z0 3).1 4)])), (A0 3 1, .inr (3, [.ref (A0 3 5), .ref (A0 3 6), .ref (A0 3 7), .int ((Z0 3).1 5)])), (A0 3 2, .inr (3, [.ref (A0 3 8), .ref (A0 3 9), .ref (A0 3 10), .int ((Z0 3).1 6)])), (A0 3 3, .inl (T 0, 33, .inl ((Z0 3).2 6))), (A0 3 4, .inl (T 0, 33, .inl ((Z0 3).2 7))), (A0 3 5, .inl (T 0, 40, .inl ((Z0 3).2 0))), (A0 3 6, .inl (T 0, 40, .inl ((Z0 3).2 1))), (A0 3 7, .inl (T 0, 40, .inl ((Z0 3).2 2))), (A0 3 8, .inl (T 0, 8, .inl ((Z0 3).2 3))), (A0 3 9, .inl (T 0, 8, .inl ((Z0 3).2 4))), (A0 3 10, .inl (T 0, 8, .inl ((Z0 3).2 5))), (A0 4 0, .inr (2, [.ref (A0 4 1), .ref (A0 4 2), .ref (A0 4 3), .ref (A0 4 4), .int ((Z0 4).1 0), .int ((Z0 4).1 1), .int ((Z0 4).1 2), .int ((Z0 4).1 3), .int ((Z0 4).1 4)])), (A0 4 1, .inr (3, [.ref (A0 4 5), .ref (A0 4 6), .ref (A0 4 7), .int ((Z0 4).1 5)])), (A0 4 2, .inr (3, [.ref (A0 4 8), .ref (A0 4 9), .ref (A0 4 10), .int ((Z0 4).1 6)])), (A0 4 3, .inl (T 0, 33, .inl ((Z0 4).2 6))), (A0 4 4, .inl (T 0, 33, .inl ((Z0 4).2 7))), (A0 4 5, .inl (T 0, 40, .inl ((Z0 4).2 0))), (A0 4 6, .inl (T 0, 40, .inl ((Z0 4).2 1))), (A0 4 7, .inl (T 0, 40, .inl ((Z0 4).2 2))), (A0 4 8, .inl (T 0, 8, .inl ((Z0 4).2 3))), (A0 4 9, .inl (T 0, 8, .inl ((Z0 4).2 4))), (A0 4 10, .inl (T 0, 8, .inl ((Z0 4).2 5))), (A0 5 0, .inr (1, [.ref (A0 5 1), .ref (A0 5 2), .ref (A0 5 3), .ref (A0 5 4), .int ((Z0 5).1 0), .int ((Z0 5).1 1), .int ((Z0 5).1 2), .int ((Z0 5).1 3), .int ((Z0 5).1 4)])), (A0 5 1, .inl (T 0, 100, .inl ((Z0 5).2 0))), (A0 5 2, .inl (T 0, 20, .inl ((Z0 5).2 1))), (A0 5 3, .inl (T 0, 20, .inl ((Z0 5).2 2))), (A0 5 4, .inl (T 0, 20, .inl ((Z0 5).2 3)))]) (ws' := scW T h0 A0 (zU Z0 0 t3)) (va_runV (As := [.ref (A0 2 0)]) (rest := []) ⟨hx, hb, hml, hown, hts⟩ (c_X2_copyFrom l D T (A0 0) (Z0 0) (A0 2) (Z0 2) _ t3 et3) (cwV 1 hts gX0_restore_X2_copyFrom rfl rfl rfl hdV_X2_copyFrom ⟨Nat.le_of_ble_eq_true rfl, Nat.le_of_ble_eq_true rfl⟩) ⟨PM_blind, va_recv hK.1 hP (ci := 2) (q0 := 3) rfl rfl, PM_at (hP.sub (ws' := stW T (A0 0) (Z0 0) ++ stW T (A0 2) (Z0 2)) [3, 4, 5, 6, 7, 8, 9, 10, 11, 12, 13, 25, 26, 27, 28, 29, 30, 31, 32, 33, 34, 35] rfl) (hD.sub (ws' := stW T (A0 0) (Z0 0) ++ stW T (A0 2) (Z0 2)) [3, 4, 5, 6, 7, 8, 9, 10, 11, 12, 13, 25, 26, 27, 28, 29, 30, 31, 32, 33, 34, 35] (by decide) rfl) hK⟩ rfl rfl hl.1 rfl (lv_room (Nat.le_of_ble_eq_true rfl)) dX0_restore_17 ⟨Nat.zero_le _, Nat.zero_le _⟩) hS hA hP hD [3, 4, 5, 6, 7, 8, 9, 10, 11, 12, 13, 25, 26, 27, 28, 29, 30, 31, 32, 33, 34, 35] [0, 1, 2, 14, 15, 16, 17, 18, 19, 20, 21, 22, 23, 24, 36, 37, 38, 39, 40, 41, 42, 43, 44, 45, 46, 47, 48, 49, 50, 51, 52, 53, 54, 55, 56, 57, 58, 59, 60, 61, 62] rfl rfl (by decide) (by decide) [0, 1, 2, 41, 42, 43, 44, 45, 46, 47, 48, 49, 50, 51, 3, 4, 5, 6, 7, 8, 9, 10, 11, 12, 13, 52, 53, 54, 55, 56, 57, 58, 59, 60, 61, 62, 14, 15, 16, 17, 18, 19, 20, 21, 22, 23, 24, 25, 26, 27, 28, 29, 30, 31, 32, 33, 34, 35, 36, 37, 38, 39, 40] (by decide) rfl (fun H locs hP hD hS => ?_)
    refine lv_aload_n hx hb dX0_restore_20 rfl (lv_at hl 1 rfl) ?_
    refine lv_dup hx hb dX0_restore_21 rfl ?_
    refine va_get (D := D) (ci := 0) (v := .int (((zU Z0 0 t3) 6).1 0)) (C := RX0) (T := TX0) (N := 2) hx hb hts inX0_restore_0 hown hK.1 hP 1 rfl rfl 1 (by decide) (hts (.fieldLink RX0 18 "LyingScale$History" "count" "I") (List.mem_of_getElem? (i := 1) rfl)) (fun _ h9 => h9) rfl dX0_restore_22 ?_
    refine lv_iconst (v := 1) hx hb dX0_restore_25 (by decide) ?_
    refine lv_isub hx hb dX0_restore_26 ?_
    refine va_put (D := D) (ci := 0) (v := .int ((((zU Z0 0 t3) 6).1 0) - 1)) (ty := .int) (C := RX0) (T := TX0) (N := 2) hx hb hts inX0_restore_0 tyX0 tyX0_ok nmX0 hown hK.1 hP hD hS 1 rfl rfl 1 (by decide) (hts (.fieldLink RX0 18 "LyingScale$History" "count" "I") (List.mem_of_getElem? (i := 1) rfl)) (fun _ h9 => h9) rfl (by decide +kernel) rfl rfl (Nat.le_of_ble_eq_true rfl) dX0_restore_27 (fun H locs hP hD hS => ?_)
    replace hP : va_P D vwCl (scW T h0 A0 (zU (zU Z0 0 t3) 6 (sI ((zU Z0 0 t3) 6) 0 ((((zU Z0 0 t3) 6).1 0) - 1)))) H := hP
    replace hD : va_D A (scW T h0 A0 (zU (zU Z0 0 t3) 6 (sI ((zU Z0 0 t3) 6) 0 ((((zU Z0 0 t3) 6).1 0) - 1)))) := hD
    replace h := bd h
    obtain ⟨y4, ey4, h⟩ := h
    rw [Option.some.inj ey4] at hP hD
    obtain rfl := Option.some.inj h
    exact W.vret hx hb hr (fun t ht hW => ⟨⟨A0, rfl, trivial, by rw [ht]; exact hP, hD⟩, hS.F ht⟩) hS.2.2 dX0_restore_30 hlocks
  replace h := im k2_ h
  by_cases k3_ : (Z0 6).1 0 = 3
  · replace h := ip k3_ h
    refine lv_aload_n hx hb dX0_restore_0 rfl (lv_at hl 0 rfl) ?_
    refine lv_aload_n hx hb dX0_restore_1 rfl (lv_at hl 0 rfl) ?_
    refine va_get (D := D) (ci := 0) (v := .int ((Z0 6).1 0)) (C := RX0) (T := TX0) (N := 2) hx hb hts inX0_restore_0 hown hK.1 hP 1 rfl rfl 1 (by decide) (hts (.fieldLink RX0 18 "LyingScale$History" "count" "I") (List.mem_of_getElem? (i := 1) rfl)) (fun _ h9 => h9) rfl dX0_restore_2 ?_
    refine eqi (k3_) ?_
    refine lv_iconst (v := 1) hx hb dX0_restore_5 (by decide) ?_
    refine lv_isub hx hb dX0_restore_6 ?_
    refine eqi (show (3 : Int32) - 1 = 2 from by decide) ?_
    refine callRa (v := .ref (A0 3 0)) (va_runV (As := [.int 2]) (rest := []) ⟨hx, hb, hml, hown, hts⟩ (c_X0_stateAt l D T h0 A0 Z0 2 2 (by decide +kernel)) (cwV 1 hts gX0_restore_X0_stateAt rfl rfl rfl hdV_X0_stateAt ⟨Nat.le_of_ble_eq_true rfl, Nat.le_of_ble_eq_true rfl⟩) ⟨PB_blind, va_recv hK.1 hP (ci := 0) (q0 := 1) rfl rfl, PB_at hP hK⟩ rfl rfl hl.1 rfl (lv_room (Nat.le_of_ble_eq_true rfl)) dX0_restore_7 ⟨Nat.zero_le _, Nat.zero_le _⟩) ?_
    refine lv_astore_n (lv' := [(2, .ref (A0 3 0)), (0, .ref (A0 6 1)), (1, .ref (A0 0 0))]) hx hb dX0_restore_10 rfl hl (by decide) rfl (fun ls hl => ?_)
    refine lv_aload_n hx hb dX0_restore_11 rfl (lv_at hl 0 rfl) ?_
    refine lv_ifnull hx hb dX0_restore_12 ?_
    refine lv_aload_n hx hb dX0_restore_15 rfl (lv_at hl 2 rfl) ?_
    refine lv_aload_n hx hb dX0_restore_16 rfl (lv_at hl 0 rfl) ?_
    replace h := bd h
    obtain ⟨t5, et5, h⟩ := h
    refine callMv (wr := [(h0, .inr (4, [.ref (A0 0 0), .ref (A0 6 1), .ref (A0 5 0)])), (A0 6 1, .inr (0, [.ref (A0 6 2), .int ((Z0 6).1 0)])), (A0 6 2, .inl (T 3, 4, .inr (.inr (.inr (.inr (hsQ A0)))))), (A0 1 0, .inr (2, [.ref (A0 1 1), .ref (A0 1 2), .ref (A0 1 3), .ref (A0 1 4), .int ((Z0 1).1 0), .int ((Z0 1).1 1), .int ((Z0 1).1 2), .int ((Z0 1).1 3), .int ((Z0 1).1 4)])), (A0 1 1, .inr (3, [.ref (A0 1 5), .ref (A0 1 6), .ref (A0 1 7), .int ((Z0 1).1 5)])), (A0 1 2, .inr (3, [.ref (A0 1 8), .ref (A0 1 9), .ref (A0 1 10), .int ((Z0 1).1 6)])), (A0 1 3, .inl (T 0, 33, .inl ((Z0 1).2 6))), (A0 1 4, .inl (T 0, 33, .inl ((Z0 1).2 7))), (A0 1 5, .inl (T 0, 40, .inl ((Z0 1).2 0))), (A0 1 6, .inl (T 0, 40, .inl ((Z0 1).2 1))), (A0 1 7, .inl (T 0, 40, .inl ((Z0 1).2 2))), (A0 1 8, .inl (T 0, 8, .inl ((Z0 1).2 3))), (A0 1 9, .inl (T 0, 8, .inl ((Z0 1).2 4))), (A0 1 10, .inl (T 0, 8, .inl ((Z0 1).2 5))), (A0 2 0, .inr (2, [.ref (A0 2 1), .ref (A0 2 2), .ref (A0 2 3), .ref (A0 2 4), .int ((Z0 2).1 0), .int ((Z0 2).1 1), .int ((Z0 2).1 2), .int ((Z0 2).1 3), .int ((Z0 2).1 4)])), (A0 2 1, .inr (3, [.ref (A0 2 5), .ref (A0 2 6), .ref (A0 2 7), .int ((Z0 2).1 5)])), (A0 2 2, .inr (3, [.ref (A0 2 8), .ref (A0 2 9), .ref (A0 2 10), .int ((Z0 2).1 6)])), (A0 2 3, .inl (T 0, 33, .inl ((Z0 2).2 6))), (A0 2 4, .inl (T 0, 33, .inl ((Z0 2).2 7))), (A0 2 5, .inl (T 0, 40, .inl ((Z0 2).2 0))), (A0 2 6, .inl (T 0, 40, .inl ((Z0 2).2 1))), (A0 2 7, .inl (T 0, 40, .inl ((Z0 2).2 2))), (A0 2 8, .inl (T 0, 8, .inl ((Z0 2).2 3))), (A0 2 9, .inl (T 0, 8, .inl ((Z0 2).2 4))), (A0 2 10, .inl (T 0, 8, .inl ((Z0 2).2 5))), (A0 4 0, .inr (2, [.ref (A0 4 1), .ref (A0 4 2), .ref (A0 4 3), .ref (A0 4 4), .int ((Z0 4).1 0), .int ((Z0 4).1 1), .int ((Z0 4).1 2), .int ((Z0 4).1 3), .int ((Z0 4).1 4)])), (A0 4 1, .inr (3, [.ref (A0 4 5), .ref (A0 4 6), .ref (A0 4 7), .int ((Z0 4).1 5)])), (A0 4 2, .inr (3, [.ref (A0 4 8), .ref (A0 4 9), .ref (A0 4 10), .int ((Z0 4).1 6)])), (A0 4 3, .inl (T 0, 33, .inl ((Z0 4).2 6))), (A0 4 4, .inl (T 0, 33, .inl ((Z0 4).2 7))), (A0 4 5, .inl (T 0, 40, .inl ((Z0 4).2 0))), (A0 4 6, .inl (T 0, 40, .inl ((Z0 4).2 1))), (A0 4 7, .inl (T 0, 40, .inl ((Z0 4).2 2))), (A0 4 8, .inl (T 0, 8, .inl ((Z0 4).2 3))), (A0 4 9, .inl (T 0, 8, .inl ((Z0 4).2 4))), (A0 4 10, .inl (T 0, 8, .inl ((Z0 4).2 5))), (A0 5 0, .inr (1, [.ref (A0 5 1), .ref (A0 5 2), .ref (A0 5 3), .ref (A0 5 4), .int ((Z0 5).1 0), .int ((Z0 5).1 1), .int ((Z0 5).1 2), .int ((Z0 5).1 3), .int ((Z0 5).1 4)])), (A0 5 1, .inl (T 0, 100, .inl ((Z0 5).2 0))), (A0 5 2, .inl (T 0, 20, .inl ((Z0 5).2 1))), (A0 5 3, .inl (T 0, 20, .inl ((Z0 5).2 2))), (A0 5 4, .inl (T 0, 20, .inl ((Z0 5).2 3)))]) (ws' := scW T h0 A0 (zU Z0 0 t5)) (va_runV (As := [.ref (A0 3 0)]) (rest := []) ⟨hx, hb, hml, hown, hts⟩ (c_X2_copyFrom l D T (A0 0) (Z0 0) (A0 3) (Z0 3) _ t5 et5) (cwV 1 hts gX0_restore_X2_copyFrom rfl rfl rfl hdV_X2_copyFrom ⟨Nat.le_of_ble_eq_true rfl, Nat.le_of_ble_eq_true rfl⟩) ⟨PM_blind, va_recv hK.1 hP (ci := 2) (q0 := 3) rfl rfl, PM_at (hP.sub (ws' := stW T (A0 0) (Z0 0) ++ stW T (A0 3) (Z0 3)) [3, 4, 5, 6, 7, 8, 9, 10, 11, 12, 13, 36, 37, 38, 39, 40, 41, 42, 43, 44, 45, 46] rfl) (hD.sub (ws' := stW T (A0 0) (Z0 0) ++ stW T (A0 3) (Z0 3)) [3, 4, 5, 6, 7, 8, 9, 10, 11, 12, 13, 36, 37, 38, 39, 40, 41, 42, 43, 44, 45, 46] (by decide) rfl) hK⟩ rfl rfl hl.1 rfl (lv_room (Nat.le_of_ble_eq_true rfl)) dX0_restore_17 ⟨Nat.zero_le _, Nat.zero_le _⟩) hS hA hP hD [3, 4, 5, 6, 7, 8, 9, 10, 11, 12, 13, 36, 37, 38, 39, 40, 41, 42, 43, 44, 45, 46] [0, 1, 2, 14, 15, 16, 17, 18, 19, 20, 21, 22, 23, 24, 25, 26, 27, 28, 29, 30, 31, 32, 33, 34, 35, 47, 48, 49, 50, 51, 52, 53, 54, 55, 56, 57, 58, 59, 60, 61, 62] rfl rfl (by decide) (by decide) [0, 1, 2, 41, 42, 43, 44, 45, 46, 47, 48, 49, 50, 51, 3, 4, 5, 6, 7, 8, 9, 10, 11, 12, 13, 14, 15, 16, 17, 18, 19, 20, 21, 22, 23, 24, 52, 53, 54, 55, 56, 57, 58, 59, 60, 61, 62, 25, 26, 27, 28, 29, 30, 31, 32, 33, 34, 35, 36, 37, 38, 39, 40] (by decide) rfl (fun H locs hP hD hS => ?_)
    refine lv_aload_n hx hb dX0_restore_20 rfl (lv_at hl 1 rfl) ?_
    refine lv_dup hx hb dX0_restore_21 rfl ?_
    refine va_get (D := D) (ci := 0) (v := .int (((zU Z0 0 t5) 6).1 0)) (C := RX0) (T := TX0) (N := 2) hx hb hts inX0_restore_0 hown hK.1 hP 1 rfl rfl 1 (by decide) (hts (.fieldLink RX0 18 "LyingScale$History" "count" "I") (List.mem_of_getElem? (i := 1) rfl)) (fun _ h9 => h9) rfl dX0_restore_22 ?_
    refine lv_iconst (v := 1) hx hb dX0_restore_25 (by decide) ?_
    refine lv_isub hx hb dX0_restore_26 ?_
    refine va_put (D := D) (ci := 0) (v := .int ((((zU Z0 0 t5) 6).1 0) - 1)) (ty := .int) (C := RX0) (T := TX0) (N := 2) hx hb hts inX0_restore_0 tyX0 tyX0_ok nmX0 hown hK.1 hP hD hS 1 rfl rfl 1 (by decide) (hts (.fieldLink RX0 18 "LyingScale$History" "count" "I") (List.mem_of_getElem? (i := 1) rfl)) (fun _ h9 => h9) rfl (by decide +kernel) rfl rfl (Nat.le_of_ble_eq_true rfl) dX0_restore_27 (fun H locs hP hD hS => ?_)
    replace hP : va_P D vwCl (scW T h0 A0 (zU (zU Z0 0 t5) 6 (sI ((zU Z0 0 t5) 6) 0 ((((zU Z0 0 t5) 6).1 0) - 1)))) H := hP
    replace hD : va_D A (scW T h0 A0 (zU (zU Z0 0 t5) 6 (sI ((zU Z0 0 t5) 6) 0 ((((zU Z0 0 t5) 6).1 0) - 1)))) := hD
    replace h := bd h
    obtain ⟨y6, ey6, h⟩ := h
    rw [Option.some.inj ey6] at hP hD
    obtain rfl := Option.some.inj h
    exact W.vret hx hb hr (fun t ht hW => ⟨⟨A0, rfl, trivial, by rw [ht]; exact hP, hD⟩, hS.F ht⟩) hS.2.2 dX0_restore_30 hlocks
  replace h := im k3_ h
  by_cases k4_ : (Z0 6).1 0 = 4
  · replace h := ip k4_ h
    refine lv_aload_n hx hb dX0_restore_0 rfl (lv_at hl 0 rfl) ?_
    refine lv_aload_n hx hb dX0_restore_1 rfl (lv_at hl 0 rfl) ?_
    refine va_get (D := D) (ci := 0) (v := .int ((Z0 6).1 0)) (C := RX0) (T := TX0) (N := 2) hx hb hts inX0_restore_0 hown hK.1 hP 1 rfl rfl 1 (by decide) (hts (.fieldLink RX0 18 "LyingScale$History" "count" "I") (List.mem_of_getElem? (i := 1) rfl)) (fun _ h9 => h9) rfl dX0_restore_2 ?_
    refine eqi (k4_) ?_
    refine lv_iconst (v := 1) hx hb dX0_restore_5 (by decide) ?_
    refine lv_isub hx hb dX0_restore_6 ?_
    refine eqi (show (4 : Int32) - 1 = 3 from by decide) ?_
    refine callRa (v := .ref (A0 4 0)) (va_runV (As := [.int 3]) (rest := []) ⟨hx, hb, hml, hown, hts⟩ (c_X0_stateAt l D T h0 A0 Z0 3 3 (by decide +kernel)) (cwV 1 hts gX0_restore_X0_stateAt rfl rfl rfl hdV_X0_stateAt ⟨Nat.le_of_ble_eq_true rfl, Nat.le_of_ble_eq_true rfl⟩) ⟨PB_blind, va_recv hK.1 hP (ci := 0) (q0 := 1) rfl rfl, PB_at hP hK⟩ rfl rfl hl.1 rfl (lv_room (Nat.le_of_ble_eq_true rfl)) dX0_restore_7 ⟨Nat.zero_le _, Nat.zero_le _⟩) ?_
    refine lv_astore_n (lv' := [(2, .ref (A0 4 0)), (0, .ref (A0 6 1)), (1, .ref (A0 0 0))]) hx hb dX0_restore_10 rfl hl (by decide) rfl (fun ls hl => ?_)
    refine lv_aload_n hx hb dX0_restore_11 rfl (lv_at hl 0 rfl) ?_
    refine lv_ifnull hx hb dX0_restore_12 ?_
    refine lv_aload_n hx hb dX0_restore_15 rfl (lv_at hl 2 rfl) ?_
    refine lv_aload_n hx hb dX0_restore_16 rfl (lv_at hl 0 rfl) ?_
    replace h := bd h
    obtain ⟨t7, et7, h⟩ := h
    refine callMv (wr := [(h0, .inr (4, [.ref (A0 0 0), .ref (A0 6 1), .ref (A0 5 0)])), (A0 6 1, .inr (0, [.ref (A0 6 2), .int ((Z0 6).1 0)])), (A0 6 2, .inl (T 3, 4, .inr (.inr (.inr (.inr (hsQ A0)))))), (A0 1 0, .inr (2, [.ref (A0 1 1), .ref (A0 1 2), .ref (A0 1 3), .ref (A0 1 4), .int ((Z0 1).1 0), .int ((Z0 1).1 1), .int ((Z0 1).1 2), .int ((Z0 1).1 3), .int ((Z0 1).1 4)])), (A0 1 1, .inr (3, [.ref (A0 1 5), .ref (A0 1 6), .ref (A0 1 7), .int ((Z0 1).1 5)])), (A0 1 2, .inr (3, [.ref (A0 1 8), .ref (A0 1 9), .ref (A0 1 10), .int ((Z0 1).1 6)])), (A0 1 3, .inl (T 0, 33, .inl ((Z0 1).2 6))), (A0 1 4, .inl (T 0, 33, .inl ((Z0 1).2 7))), (A0 1 5, .inl (T 0, 40, .inl ((Z0 1).2 0))), (A0 1 6, .inl (T 0, 40, .inl ((Z0 1).2 1))), (A0 1 7, .inl (T 0, 40, .inl ((Z0 1).2 2))), (A0 1 8, .inl (T 0, 8, .inl ((Z0 1).2 3))), (A0 1 9, .inl (T 0, 8, .inl ((Z0 1).2 4))), (A0 1 10, .inl (T 0, 8, .inl ((Z0 1).2 5))), (A0 2 0, .inr (2, [.ref (A0 2 1), .ref (A0 2 2), .ref (A0 2 3), .ref (A0 2 4), .int ((Z0 2).1 0), .int ((Z0 2).1 1), .int ((Z0 2).1 2), .int ((Z0 2).1 3), .int ((Z0 2).1 4)])), (A0 2 1, .inr (3, [.ref (A0 2 5), .ref (A0 2 6), .ref (A0 2 7), .int ((Z0 2).1 5)])), (A0 2 2, .inr (3, [.ref (A0 2 8), .ref (A0 2 9), .ref (A0 2 10), .int ((Z0 2).1 6)])), (A0 2 3, .inl (T 0, 33, .inl ((Z0 2).2 6))), (A0 2 4, .inl (T 0, 33, .inl ((Z0 2).2 7))), (A0 2 5, .inl (T 0, 40, .inl ((Z0 2).2 0))), (A0 2 6, .inl (T 0, 40, .inl ((Z0 2).2 1))), (A0 2 7, .inl (T 0, 40, .inl ((Z0 2).2 2))), (A0 2 8, .inl (T 0, 8, .inl ((Z0 2).2 3))), (A0 2 9, .inl (T 0, 8, .inl ((Z0 2).2 4))), (A0 2 10, .inl (T 0, 8, .inl ((Z0 2).2 5))), (A0 3 0, .inr (2, [.ref (A0 3 1), .ref (A0 3 2), .ref (A0 3 3), .ref (A0 3 4), .int ((Z0 3).1 0), .int ((Z0 3).1 1), .int ((Z0 3).1 2), .int ((Z0 3).1 3), .int ((Z0 3).1 4)])), (A0 3 1, .inr (3, [.ref (A0 3 5), .ref (A0 3 6), .ref (A0 3 7), .int ((Z0 3).1 5)])), (A0 3 2, .inr (3, [.ref (A0 3 8), .ref (A0 3 9), .ref (A0 3 10), .int ((Z0 3).1 6)])), (A0 3 3, .inl (T 0, 33, .inl ((Z0 3).2 6))), (A0 3 4, .inl (T 0, 33, .inl ((Z0 3).2 7))), (A0 3 5, .inl (T 0, 40, .inl ((Z0 3).2 0))), (A0 3 6, .inl (T 0, 40, .inl ((Z0 3).2 1))), (A0 3 7, .inl (T 0, 40, .inl ((Z0 3).2 2))), (A0 3 8, .inl (T 0, 8, .inl ((Z0 3).2 3))), (A0 3 9, .inl (T 0, 8, .inl ((Z0 3).2 4))), (A0 3 10, .inl (T 0, 8, .inl ((Z0 3).2 5))), (A0 5 0, .inr (1, [.ref (A0 5 1), .ref (A0 5 2), .ref (A0 5 3), .ref (A0 5 4), .int ((Z0 5).1 0), .int ((Z0 5).1 1), .int ((Z0 5).1 2), .int ((Z0 5).1 3), .int ((Z0 5).1 4)])), (A0 5 1, .inl (T 0, 100, .inl ((Z0 5).2 0))), (A0 5 2, .inl (T 0, 20, .inl ((Z0 5).2 1))), (A0 5 3, .inl (T 0, 20, .inl ((Z0 5).2 2))), (A0 5 4, .inl (T 0, 20, .inl ((Z0 5).2 3)))]) (ws' := scW T h0 A0 (zU Z0 0 t7)) (va_runV (As := [.ref (A0 4 0)]) (rest := []) ⟨hx, hb, hml, hown, hts⟩ (c_X2_copyFrom l D T (A0 0) (Z0 0) (A0 4) (Z0 4) _ t7 et7) (cwV 1 hts gX0_restore_X2_copyFrom rfl rfl rfl hdV_X2_copyFrom ⟨Nat.le_of_ble_eq_true rfl, Nat.le_of_ble_eq_true rfl⟩) ⟨PM_blind, va_recv hK.1 hP (ci := 2) (q0 := 3) rfl rfl, PM_at (hP.sub (ws' := stW T (A0 0) (Z0 0) ++ stW T (A0 4) (Z0 4)) [3, 4, 5, 6, 7, 8, 9, 10, 11, 12, 13, 47, 48, 49, 50, 51, 52, 53, 54, 55, 56, 57] rfl) (hD.sub (ws' := stW T (A0 0) (Z0 0) ++ stW T (A0 4) (Z0 4)) [3, 4, 5, 6, 7, 8, 9, 10, 11, 12, 13, 47, 48, 49, 50, 51, 52, 53, 54, 55, 56, 57] (by decide) rfl) hK⟩ rfl rfl hl.1 rfl (lv_room (Nat.le_of_ble_eq_true rfl)) dX0_restore_17 ⟨Nat.zero_le _, Nat.zero_le _⟩) hS hA hP hD [3, 4, 5, 6, 7, 8, 9, 10, 11, 12, 13, 47, 48, 49, 50, 51, 52, 53, 54, 55, 56, 57] [0, 1, 2, 14, 15, 16, 17, 18, 19, 20, 21, 22, 23, 24, 25, 26, 27, 28, 29, 30, 31, 32, 33, 34, 35, 36, 37, 38, 39, 40, 41, 42, 43, 44, 45, 46, 58, 59, 60, 61, 62] rfl rfl (by decide) (by decide) [0, 1, 2, 41, 42, 43, 44, 45, 46, 47, 48, 49, 50, 51, 3, 4, 5, 6, 7, 8, 9, 10, 11, 12, 13, 14, 15, 16, 17, 18, 19, 20, 21, 22, 23, 24, 25, 26, 27, 28, 29, 30, 31, 32, 33, 34, 35, 52, 53, 54, 55, 56, 57, 58, 59, 60, 61, 62, 36, 37, 38, 39, 40] (by decide) rfl (fun H locs hP hD hS => ?_)
    refine lv_aload_n hx hb dX0_restore_20 rfl (lv_at hl 1 rfl) ?_
    refine lv_dup hx hb dX0_restore_21 rfl ?_
    refine va_get (D := D) (ci := 0) (v := .int (((zU Z0 0 t7) 6).1 0)) (C := RX0) (T := TX0) (N := 2) hx hb hts inX0_restore_0 hown hK.1 hP 1 rfl rfl 1 (by decide) (hts (.fieldLink RX0 18 "LyingScale$History" "count" "I") (List.mem_of_getElem? (i := 1) rfl)) (fun _ h9 => h9) rfl dX0_restore_22 ?_
    refine lv_iconst (v := 1) hx hb dX0_restore_25 (by decide) ?_
    refine lv_isub hx hb dX0_restore_26 ?_
    refine va_put (D := D) (ci := 0) (v := .int ((((zU Z0 0 t7) 6).1 0) - 1)) (ty := .int) (C := RX0) (T := TX0) (N := 2) hx hb hts inX0_restore_0 tyX0 tyX0_ok nmX0 hown hK.1 hP hD hS 1 rfl rfl 1 (by decide) (hts (.fieldLink RX0 18 "LyingScale$History" "count" "I") (List.mem_of_getElem? (i := 1) rfl)) (fun _ h9 => h9) rfl (by decide +kernel) rfl rfl (Nat.le_of_ble_eq_true rfl) dX0_restore_27 (fun H locs hP hD hS => ?_)
    replace hP : va_P D vwCl (scW T h0 A0 (zU (zU Z0 0 t7) 6 (sI ((zU Z0 0 t7) 6) 0 ((((zU Z0 0 t7) 6).1 0) - 1)))) H := hP
    replace hD : va_D A (scW T h0 A0 (zU (zU Z0 0 t7) 6 (sI ((zU Z0 0 t7) 6) 0 ((((zU Z0 0 t7) 6).1 0) - 1)))) := hD
    replace h := bd h
    obtain ⟨y8, ey8, h⟩ := h
    rw [Option.some.inj ey8] at hP hD
    obtain rfl := Option.some.inj h
    exact W.vret hx hb hr (fun t ht hW => ⟨⟨A0, rfl, trivial, by rw [ht]; exact hP, hD⟩, hS.F ht⟩) hS.2.2 dX0_restore_30 hlocks
  replace h := im k4_ h
  cases h
end
section
def F_X4_begin (Z0 : Nat → St) (v1 : Int32) : Option (Int32 × (Nat → St)) :=
  if v1 < 2 then (none) else (if v1 ≤ 16 then ((F_X0_save Z0).bind fun t3 => (F_X2_start (t3 0) v1).bind fun t5 => some ((t3 0).1 5, zU t3 0 t5)) else (none))
def F_X4_setLimit (Z0 : Nat → St) (v1 : Int32) : Option (Int32 × (Nat → St)) :=
  if v1 < 0 then (none) else (if v1 ≤ 2 then ((F_X0_save Z0).bind fun t3 => (F_X2_countLeft ((zU t3 0 (sI (t3 0) 1 v1)) 0)).bind fun t5 => some (t5, zU t3 0 (sI (t3 0) 1 v1))) else (none))
def F_X4_forget (Z0 : Nat → St) : Option (Int32 × (Nat → St)) :=
  (F_X0_save Z0).bind fun t1 => (F_X2_forgetTold (t1 0)).bind fun t3 => some ((t1 0).1 5, zU t1 0 t3)
def F_X4_hide (Z0 : Nat → St) (v1 : Int32) (v2 : Int32) : Option (Int32 × (Nat → St)) :=
  (F_X2_isCase (Z0 0) v1).bind fun t1 => if t1 = 0 then (none) else (if v2 < 0 then (none) else (if v2 ≤ 1073741823 then ((F_X0_save Z0).bind fun t5 => (F_X2_hideCase (t5 0) v1 v2).bind fun t7 => some ((t5 0).1 2, zU t5 0 t7)) else (none)))
def F_X4_ask (Z0 : Nat → St) (v1 : Int32) (v2 : Int32) : Option (Int32 × (Nat → St)) :=
  (F_X2_isWeighing (Z0 0) v1 v2).bind fun t1 => if t1 = 0 then (none) else ((F_X2_canReply (Z0 0)).bind fun t3 => if t3 = 0 then (none) else ((F_X0_save Z0).bind fun t5 => (F_X2_reply (t5 0) v1 v2).bind fun t7 => some (t7.1, zU t5 0 t7.2)))
def F_X4_lies (Z0 : Nat → St) (v1 : Int32) : Option (Int32 × (Nat → St)) :=
  (F_X2_isCase (Z0 0) v1).bind fun t1 => if t1 = 0 then (none) else ((F_X4_at 33 ((Z0 0).2 6) v1).bind fun t3 => some (t3, Z0))
def F_X4_value (Z0 : Nat → St) (v1 : Int32) : Option (Int32 × (Nat → St)) :=
  if v1 < 0 then (none) else (if v1 < 9 then ((F_X2_number (Z0 0) v1).bind fun t3 => some (t3, Z0)) else (none))
def F_X4_weight (Z0 : Nat → St) (v1 : Int32) : Option (Int64 × (Nat → St)) :=
  (F_X4_isAhead v1).bind fun t1 => if t1 = 0 then (none) else ((F_X2_weightAhead (Z0 0) v1).bind fun t3 => some (t3, Z0))
def B_X4_bound_4 (Z0 : Nat → St) (k4 : Int64 → Int32 → Option (Int32 × (Nat → St))) (i1_4 : Int64) (i3_4 : Int32) : Option (Int32 × (Nat → St)) :=
  if 20 < i3_4 then (some ((-1), Z0)) else ((F_X2_weightAhead (Z0 0) i3_4).bind fun t2 => if 0 < (lg_cmp t2 i1_4) then (k4 (i1_4 * 3) (i3_4 + 1)) else (some (i3_4, Z0)))
def F_X4_bound (Z0 : Nat → St) : Option (Int32 × (Nat → St)) :=
  fx2 (B_X4_bound_4 Z0) 1000 1 0
def F_X4_weightBehind (Z0 : Nat → St) (v1 : Int32) (v2 : Int32) (v3 : Int32) (v4 : Int32) : Option (Int64 × (Nat → St)) :=
  (F_X2_isWeighing (Z0 0) v1 v2).bind fun t1 => if t1 = 0 then (none) else ((F_X4_isAnswer v3).bind fun t3 => if t3 = 0 then (none) else ((F_X4_isAhead v4).bind fun t5 => if t5 = 0 then (none) else ((F_X2_weightIfTold (Z0 0) v1 v2 v3 v4).bind fun t7 => some (t7, Z0))))
def F_X4_undo (Z0 : Nat → St) : Option (Int32 × (Nat → St)) :=
  if ((Z0 6).1 0) = 0 then (none) else ((F_X0_restore Z0).bind fun t2 => some ((t2 6).1 0, t2))
theorem inX4_begin_2 : ∀ w ∈ u_ws RX2 TX2 9, w ∈ wsX4_begin := by decide +kernel
theorem inX4_begin_3 : ∀ w ∈ u_ws RX3 TX3 4, w ∈ wsX4_begin := by decide +kernel
theorem inX4_begin_4 : ∀ w ∈ u_ws RX4 TX4 3, w ∈ wsX4_begin := by decide +kernel
theorem hdS_X4_begin : yX4_begin.cls ≠ "java/lang/invoke/MethodHandle" ∧ yX4_begin.cls ≠ "java/lang/invoke/VarHandle" ∧ (parseMethodDescriptor yX4_begin.desc).map (fun d => d.parameters.length) = some 1 := by decide +kernel
theorem hdV_X4_begin : yX4_begin.cls = RX4 ∧ yX4_begin.cls ≠ "java/lang/invoke/MethodHandle" ∧ yX4_begin.cls ≠ "java/lang/invoke/VarHandle" ∧ (parseMethodDescriptor yX4_begin.desc).map (fun d => d.parameters.length) = some 1 := by decide +kernel
theorem inX4_setLimit_2 : ∀ w ∈ u_ws RX2 TX2 9, w ∈ wsX4_setLimit := by decide +kernel
theorem inX4_setLimit_4 : ∀ w ∈ u_ws RX4 TX4 3, w ∈ wsX4_setLimit := by decide +kernel
theorem hdS_X4_setLimit : yX4_setLimit.cls ≠ "java/lang/invoke/MethodHandle" ∧ yX4_setLimit.cls ≠ "java/lang/invoke/VarHandle" ∧ (parseMethodDescriptor yX4_setLimit.desc).map (fun d => d.parameters.length) = some 1 := by decide +kernel
theorem hdV_X4_setLimit : yX4_setLimit.cls = RX4 ∧ yX4_setLimit.cls ≠ "java/lang/invoke/MethodHandle" ∧ yX4_setLimit.cls ≠ "java/lang/invoke/VarHandle" ∧ (parseMethodDescriptor yX4_setLimit.desc).map (fun d => d.parameters.length) = some 1 := by decide +kernel
theorem inX4_forget_2 : ∀ w ∈ u_ws RX2 TX2 9, w ∈ wsX4_forget := by decide +kernel
theorem inX4_forget_3 : ∀ w ∈ u_ws RX3 TX3 4, w ∈ wsX4_forget := by decide +kernel
theorem inX4_forget_4 : ∀ w ∈ u_ws RX4 TX4 3, w ∈ wsX4_forget := by decide +kernel
theorem hdS_X4_forget : yX4_forget.cls ≠ "java/lang/invoke/MethodHandle" ∧ yX4_forget.cls ≠ "java/lang/invoke/VarHandle" ∧ (parseMethodDescriptor yX4_forget.desc).map (fun d => d.parameters.length) = some 0 := by decide +kernel
theorem hdV_X4_forget : yX4_forget.cls = RX4 ∧ yX4_forget.cls ≠ "java/lang/invoke/MethodHandle" ∧ yX4_forget.cls ≠ "java/lang/invoke/VarHandle" ∧ (parseMethodDescriptor yX4_forget.desc).map (fun d => d.parameters.length) = some 0 := by decide +kernel
theorem inX4_hide_2 : ∀ w ∈ u_ws RX2 TX2 9, w ∈ wsX4_hide := by decide +kernel
theorem inX4_hide_4 : ∀ w ∈ u_ws RX4 TX4 3, w ∈ wsX4_hide := by decide +kernel
theorem hdS_X4_hide : yX4_hide.cls ≠ "java/lang/invoke/MethodHandle" ∧ yX4_hide.cls ≠ "java/lang/invoke/VarHandle" ∧ (parseMethodDescriptor yX4_hide.desc).map (fun d => d.parameters.length) = some 2 := by decide +kernel
theorem hdV_X4_hide : yX4_hide.cls = RX4 ∧ yX4_hide.cls ≠ "java/lang/invoke/MethodHandle" ∧ yX4_hide.cls ≠ "java/lang/invoke/VarHandle" ∧ (parseMethodDescriptor yX4_hide.desc).map (fun d => d.parameters.length) = some 2 := by decide +kernel
theorem inX4_ask_4 : ∀ w ∈ u_ws RX4 TX4 3, w ∈ wsX4_ask := by decide +kernel
theorem hdS_X4_ask : yX4_ask.cls ≠ "java/lang/invoke/MethodHandle" ∧ yX4_ask.cls ≠ "java/lang/invoke/VarHandle" ∧ (parseMethodDescriptor yX4_ask.desc).map (fun d => d.parameters.length) = some 2 := by decide +kernel
theorem hdV_X4_ask : yX4_ask.cls = RX4 ∧ yX4_ask.cls ≠ "java/lang/invoke/MethodHandle" ∧ yX4_ask.cls ≠ "java/lang/invoke/VarHandle" ∧ (parseMethodDescriptor yX4_ask.desc).map (fun d => d.parameters.length) = some 2 := by decide +kernel
theorem inX4_lies_2 : ∀ w ∈ u_ws RX2 TX2 9, w ∈ wsX4_lies := by decide +kernel
theorem inX4_lies_4 : ∀ w ∈ u_ws RX4 TX4 3, w ∈ wsX4_lies := by decide +kernel
theorem hdS_X4_lies : yX4_lies.cls ≠ "java/lang/invoke/MethodHandle" ∧ yX4_lies.cls ≠ "java/lang/invoke/VarHandle" ∧ (parseMethodDescriptor yX4_lies.desc).map (fun d => d.parameters.length) = some 1 := by decide +kernel
theorem hdV_X4_lies : yX4_lies.cls = RX4 ∧ yX4_lies.cls ≠ "java/lang/invoke/MethodHandle" ∧ yX4_lies.cls ≠ "java/lang/invoke/VarHandle" ∧ (parseMethodDescriptor yX4_lies.desc).map (fun d => d.parameters.length) = some 1 := by decide +kernel
theorem inX4_value_4 : ∀ w ∈ u_ws RX4 TX4 3, w ∈ wsX4_value := by decide +kernel
theorem hdS_X4_value : yX4_value.cls ≠ "java/lang/invoke/MethodHandle" ∧ yX4_value.cls ≠ "java/lang/invoke/VarHandle" ∧ (parseMethodDescriptor yX4_value.desc).map (fun d => d.parameters.length) = some 1 := by decide +kernel
theorem hdV_X4_value : yX4_value.cls = RX4 ∧ yX4_value.cls ≠ "java/lang/invoke/MethodHandle" ∧ yX4_value.cls ≠ "java/lang/invoke/VarHandle" ∧ (parseMethodDescriptor yX4_value.desc).map (fun d => d.parameters.length) = some 1 := by decide +kernel
theorem inX4_weight_4 : ∀ w ∈ u_ws RX4 TX4 3, w ∈ wsX4_weight := by decide +kernel
theorem hdS_X4_weight : yX4_weight.cls ≠ "java/lang/invoke/MethodHandle" ∧ yX4_weight.cls ≠ "java/lang/invoke/VarHandle" ∧ (parseMethodDescriptor yX4_weight.desc).map (fun d => d.parameters.length) = some 1 := by decide +kernel
theorem hdV_X4_weight : yX4_weight.cls = RX4 ∧ yX4_weight.cls ≠ "java/lang/invoke/MethodHandle" ∧ yX4_weight.cls ≠ "java/lang/invoke/VarHandle" ∧ (parseMethodDescriptor yX4_weight.desc).map (fun d => d.parameters.length) = some 1 := by decide +kernel
theorem inX4_bound_4 : ∀ w ∈ u_ws RX4 TX4 3, w ∈ wsX4_bound := by decide +kernel
theorem hdS_X4_bound : yX4_bound.cls ≠ "java/lang/invoke/MethodHandle" ∧ yX4_bound.cls ≠ "java/lang/invoke/VarHandle" ∧ (parseMethodDescriptor yX4_bound.desc).map (fun d => d.parameters.length) = some 0 := by decide +kernel
theorem hdV_X4_bound : yX4_bound.cls = RX4 ∧ yX4_bound.cls ≠ "java/lang/invoke/MethodHandle" ∧ yX4_bound.cls ≠ "java/lang/invoke/VarHandle" ∧ (parseMethodDescriptor yX4_bound.desc).map (fun d => d.parameters.length) = some 0 := by decide +kernel
theorem inX4_weightBehind_4 : ∀ w ∈ u_ws RX4 TX4 3, w ∈ wsX4_weightBehind := by decide +kernel
theorem hdS_X4_weightBehind : yX4_weightBehind.cls ≠ "java/lang/invoke/MethodHandle" ∧ yX4_weightBehind.cls ≠ "java/lang/invoke/VarHandle" ∧ (parseMethodDescriptor yX4_weightBehind.desc).map (fun d => d.parameters.length) = some 4 := by decide +kernel
theorem hdV_X4_weightBehind : yX4_weightBehind.cls = RX4 ∧ yX4_weightBehind.cls ≠ "java/lang/invoke/MethodHandle" ∧ yX4_weightBehind.cls ≠ "java/lang/invoke/VarHandle" ∧ (parseMethodDescriptor yX4_weightBehind.desc).map (fun d => d.parameters.length) = some 4 := by decide +kernel
theorem inX4_undo_0 : ∀ w ∈ u_ws RX0 TX0 2, w ∈ wsX4_undo := by decide +kernel
theorem inX4_undo_4 : ∀ w ∈ u_ws RX4 TX4 3, w ∈ wsX4_undo := by decide +kernel
theorem hdS_X4_undo : yX4_undo.cls ≠ "java/lang/invoke/MethodHandle" ∧ yX4_undo.cls ≠ "java/lang/invoke/VarHandle" ∧ (parseMethodDescriptor yX4_undo.desc).map (fun d => d.parameters.length) = some 0 := by decide +kernel
theorem hdV_X4_undo : yX4_undo.cls = RX4 ∧ yX4_undo.cls ≠ "java/lang/invoke/MethodHandle" ∧ yX4_undo.cls ≠ "java/lang/invoke/VarHandle" ∧ (parseMethodDescriptor yX4_undo.desc).map (fun d => d.parameters.length) = some 0 := by decide +kernel
set_option maxHeartbeats 4000000 in
set_option maxRecDepth 100000 in
theorem c_X4_begin (l : Launch) (D : va_G) (T : Nat → ClassId) (h0 : Nat) (A0 : Nat → Nat → Nat) (Z0 : Nat → St) (v1 : Int32) (sz : Nat) (r : Int32 × (Nat → St)) (h : F_X4_begin Z0 v1 = some r) : Met l yX4_begin wsX4_begin ({ frames := 6, cells := 0, slots := 0, locals := 108 } : Room) (va_Pc [.ref h0, .int v1] (PM D T (scW T h0 A0 (Z0)) sz)) (QEi D (scW T h0) r.1 r.2 (va_A (scW T h0 A0 (Z0)) sz)) 0 0 (va_A (scW T h0 A0 (Z0)) sz) := by
  refine met_of (cc := cX4_begin) (maxL := 3) (ret := (some .int)) (lv := [(0, .ref h0), (1, .int v1)]) (by decide) rfl (Nat.le_of_ble_eq_true rfl) rfl ?_
  intro p e s m args below meth c ls C0 hl hB
  obtain ⟨hx, hb, hr, hml, hown, hts, hlocks, hname⟩ := C0
  obtain ⟨hsz, hP, hK, hD0⟩ := hB
  subst hsz
  have hD := hD0.self (sz := s.heap.size)
  generalize hAe : va_A (scW T h0 A0 (Z0)) s.heap.size = A at hD ⊢
  have hA : ∀ q : Nat, s.heap.size ≤ q → A q := fun q h => by rw [← hAe]; exact Or.inr h
  have hS : va_S A s.heap s.heap [] := va_S.rf
  unfold F_X4_begin at h
  refine lv_iload_n hx hb dX4_begin_0 rfl (lv_at hl 1 rfl) ?_
  refine lv_iconst (v := 2) hx hb dX4_begin_1 (by decide) ?_
  refine lv_icmp_lt (tgt := 11) hx hb dX4_begin_2 (by decide) (fun c1 => ?_) (fun c1 => ?_)
  · replace h := ip c1 h
    cases h
  replace h := im c1 h
  refine lv_iload_n hx hb dX4_begin_5 rfl (lv_at hl 1 rfl) ?_
  refine lv_bipush (v := 16) hx hb dX4_begin_6 (by decide) ?_
  refine lv_icmp_le (tgt := 21) hx hb dX4_begin_8 (by decide) (fun c2 => ?_) (fun c2 => ?_)
  · replace h := ip c2 h
    refine lv_aload_n hx hb dX4_begin_21 rfl (lv_at hl 0 rfl) ?_
    refine va_get (D := D) (ci := 4) (v := .ref (A0 6 1)) (C := RX4) (T := TX4) (N := 3) hx hb hts inX4_begin_4 hown hK.1 hP 0 rfl rfl 1 (by decide) (hts (.fieldLink RX4 19 "LyingScale" "history" "LLyingScale$History;") (List.mem_of_getElem? (i := 3) rfl)) (fun _ h9 => h9) rfl dX4_begin_22 ?_
    refine lv_aload_n hx hb dX4_begin_25 rfl (lv_at hl 0 rfl) ?_
    refine va_get (D := D) (ci := 4) (v := .ref (A0 0 0)) (C := RX4) (T := TX4) (N := 3) hx hb hts inX4_begin_4 hown hK.1 hP 0 rfl rfl 0 (by decide) (hts (.fieldLink RX4 12 "LyingScale" "now" "LLyingScale$State;") (List.mem_of_getElem? (i := 4) rfl)) (fun _ h9 => h9) rfl dX4_begin_26 ?_
    replace h := bd h
    obtain ⟨t3, et3, h⟩ := h
    refine callEv (va_runV (As := [.ref (A0 0 0)]) (rest := []) ⟨hx, hb, hml, hown, hts⟩ (c_X0_save l D T h0 A0 Z0 _ t3 et3) (cwV 1 hts gX4_begin_X0_save rfl rfl rfl hdV_X0_save ⟨Nat.le_of_ble_eq_true rfl, Nat.le_of_ble_eq_true rfl⟩) ⟨PM_blind, va_recv hK.1 hP (ci := 0) (q0 := 1) rfl rfl, PM_at hP hD hK⟩ rfl rfl hl.1 rfl (lv_room (Nat.le_of_ble_eq_true rfl)) dX4_begin_29 ⟨Nat.zero_le _, Nat.zero_le _⟩) hS hA hP hD (fun u4 H locs hP hD hS => ?_)
    refine lv_aload_n hx hb dX4_begin_32 rfl (lv_at hl 0 rfl) ?_
    refine va_get (D := D) (ci := 4) (v := .ref (u4 0 0)) (C := RX4) (T := TX4) (N := 3) hx hb hts inX4_begin_4 hown hK.1 hP 0 rfl rfl 0 (by decide) (hts (.fieldLink RX4 12 "LyingScale" "now" "LLyingScale$State;") (List.mem_of_getElem? (i := 4) rfl)) (fun _ h9 => h9) rfl dX4_begin_33 ?_
    refine va_getN (D := D) (ci := 2) (v := .ref (u4 0 1)) (C := RX2) (T := TX2) (N := 9) hx hb hts inX4_begin_2 hown hK.1 hP 3 rfl rfl 0 (by decide) (va_Nw.use rfl (hK.2 (.fieldLinkNest RX4 41 "LyingScale$State" "told" "LLyingScale$Weighings;" "LyingScale") (List.mem_of_getElem? (i := 2) rfl))) (fun _ h9 => h9) rfl dX4_begin_36 ?_
    refine va_getN (D := D) (ci := 3) (v := .int ((t3 0).1 5)) (C := RX3) (T := TX3) (N := 4) hx hb hts inX4_begin_3 hown hK.1 hP 4 rfl rfl 3 (by decide) (va_Nw.use rfl (hK.2 (.fieldLinkNest RX4 45 "LyingScale$Weighings" "count" "I" "LyingScale") (List.mem_of_getElem? (i := 3) rfl))) (fun _ h9 => h9) rfl dX4_begin_39 ?_
    refine lv_istore_n (lv' := [(2, .int ((t3 0).1 5)), (0, .ref h0), (1, .int v1)]) hx hb dX4_begin_42 rfl hl (by decide) rfl (fun ls hl => ?_)
    refine lv_aload_n hx hb dX4_begin_43 rfl (lv_at hl 1 rfl) ?_
    refine va_get (D := D) (ci := 4) (v := .ref (u4 0 0)) (C := RX4) (T := TX4) (N := 3) hx hb hts inX4_begin_4 hown hK.1 hP 0 rfl rfl 0 (by decide) (hts (.fieldLink RX4 12 "LyingScale" "now" "LLyingScale$State;") (List.mem_of_getElem? (i := 4) rfl)) (fun _ h9 => h9) rfl dX4_begin_44 ?_
    refine lv_iload_n hx hb dX4_begin_47 rfl (lv_at hl 2 rfl) ?_
    replace h := bd h
    obtain ⟨t5, et5, h⟩ := h
    refine callMv (wr := [(h0, .inr (4, [.ref (u4 0 0), .ref (u4 6 1), .ref (u4 5 0)])), (u4 6 1, .inr (0, [.ref (u4 6 2), .int ((t3 6).1 0)])), (u4 6 2, .inl (T 3, 4, .inr (.inr (.inr (.inr (hsQ u4)))))), (u4 1 0, .inr (2, [.ref (u4 1 1), .ref (u4 1 2), .ref (u4 1 3), .ref (u4 1 4), .int ((t3 1).1 0), .int ((t3 1).1 1), .int ((t3 1).1 2), .int ((t3 1).1 3), .int ((t3 1).1 4)])), (u4 1 1, .inr (3, [.ref (u4 1 5), .ref (u4 1 6), .ref (u4 1 7), .int ((t3 1).1 5)])), (u4 1 2, .inr (3, [.ref (u4 1 8), .ref (u4 1 9), .ref (u4 1 10), .int ((t3 1).1 6)])), (u4 1 3, .inl (T 0, 33, .inl ((t3 1).2 6))), (u4 1 4, .inl (T 0, 33, .inl ((t3 1).2 7))), (u4 1 5, .inl (T 0, 40, .inl ((t3 1).2 0))), (u4 1 6, .inl (T 0, 40, .inl ((t3 1).2 1))), (u4 1 7, .inl (T 0, 40, .inl ((t3 1).2 2))), (u4 1 8, .inl (T 0, 8, .inl ((t3 1).2 3))), (u4 1 9, .inl (T 0, 8, .inl ((t3 1).2 4))), (u4 1 10, .inl (T 0, 8, .inl ((t3 1).2 5))), (u4 2 0, .inr (2, [.ref (u4 2 1), .ref (u4 2 2), .ref (u4 2 3), .ref (u4 2 4), .int ((t3 2).1 0), .int ((t3 2).1 1), .int ((t3 2).1 2), .int ((t3 2).1 3), .int ((t3 2).1 4)])), (u4 2 1, .inr (3, [.ref (u4 2 5), .ref (u4 2 6), .ref (u4 2 7), .int ((t3 2).1 5)])), (u4 2 2, .inr (3, [.ref (u4 2 8), .ref (u4 2 9), .ref (u4 2 10), .int ((t3 2).1 6)])), (u4 2 3, .inl (T 0, 33, .inl ((t3 2).2 6))), (u4 2 4, .inl (T 0, 33, .inl ((t3 2).2 7))), (u4 2 5, .inl (T 0, 40, .inl ((t3 2).2 0))), (u4 2 6, .inl (T 0, 40, .inl ((t3 2).2 1))), (u4 2 7, .inl (T 0, 40, .inl ((t3 2).2 2))), (u4 2 8, .inl (T 0, 8, .inl ((t3 2).2 3))), (u4 2 9, .inl (T 0, 8, .inl ((t3 2).2 4))), (u4 2 10, .inl (T 0, 8, .inl ((t3 2).2 5))), (u4 3 0, .inr (2, [.ref (u4 3 1), .ref (u4 3 2), .ref (u4 3 3), .ref (u4 3 4), .int ((t3 3).1 0), .int ((t3 3).1 1), .int ((t3 3).1 2), .int ((t3 3).1 3), .int ((t3 3).1 4)])), (u4 3 1, .inr (3, [.ref (u4 3 5), .ref (u4 3 6), .ref (u4 3 7), .int ((t3 3).1 5)])), (u4 3 2, .inr (3, [.ref (u4 3 8), .ref (u4 3 9), .ref (u4 3 10), .int ((t3 3).1 6)])), (u4 3 3, .inl (T 0, 33, .inl ((t3 3).2 6))), (u4 3 4, .inl (T 0, 33, .inl ((t3 3).2 7))), (u4 3 5, .inl (T 0, 40, .inl ((t3 3).2 0))), (u4 3 6, .inl (T 0, 40, .inl ((t3 3).2 1))), (u4 3 7, .inl (T 0, 40, .inl ((t3 3).2 2))), (u4 3 8, .inl (T 0, 8, .inl ((t3 3).2 3))), (u4 3 9, .inl (T 0, 8, .inl ((t3 3).2 4))), (u4 3 10, .inl (T 0, 8, .inl ((t3 3).2 5))), (u4 4 0, .inr (2, [.ref (u4 4 1), .ref (u4 4 2), .ref (u4 4 3), .ref (u4 4 4), .int ((t3 4).1 0), .int ((t3 4).1 1), .int ((t3 4).1 2), .int ((t3 4).1 3), .int ((t3 4).1 4)])), (u4 4 1, .inr (3, [.ref (u4 4 5), .ref (u4 4 6), .ref (u4 4 7), .int ((t3 4).1 5)])), (u4 4 2, .inr (3, [.ref (u4 4 8), .ref (u4 4 9), .ref (u4 4 10), .int ((t3 4).1 6)])), (u4 4 3, .inl (T 0, 33, .inl ((t3 4).2 6))), (u4 4 4, .inl (T 0, 33, .inl ((t3 4).2 7))), (u4 4 5, .inl (T 0, 40, .inl ((t3 4).2 0))), (u4 4 6, .inl (T 0, 40, .inl ((t3 4).2 1))), (u4 4 7, .inl (T 0, 40, .inl ((t3 4).2 2))), (u4 4 8, .inl (T 0, 8, .inl ((t3 4).2 3))), (u4 4 9, .inl (T 0, 8, .inl ((t3 4).2 4))), (u4 4 10, .inl (T 0, 8, .inl ((t3 4).2 5))), (u4 5 0, .inr (1, [.ref (u4 5 1), .ref (u4 5 2), .ref (u4 5 3), .ref (u4 5 4), .int ((t3 5).1 0), .int ((t3 5).1 1), .int ((t3 5).1 2), .int ((t3 5).1 3), .int ((t3 5).1 4)])), (u4 5 1, .inl (T 0, 100, .inl ((t3 5).2 0))), (u4 5 2, .inl (T 0, 20, .inl ((t3 5).2 1))), (u4 5 3, .inl (T 0, 20, .inl ((t3 5).2 2))), (u4 5 4, .inl (T 0, 20, .inl ((t3 5).2 3)))]) (ws' := scW T h0 u4 (zU t3 0 t5)) (va_runV (As := [.int v1]) (rest := []) ⟨hx, hb, hml, hown, hts⟩ (c_X2_start l D T (u4 0) (t3 0) v1 _ t5 et5) (cwV 1 hts gX4_begin_X2_start rfl rfl rfl hdV_X2_start ⟨Nat.le_of_ble_eq_true rfl, Nat.le_of_ble_eq_true rfl⟩) ⟨PM_blind, va_recv hK.1 hP (ci := 2) (q0 := 3) rfl rfl, PM_at (hP.sub (ws' := stW T (u4 0) (t3 0)) [3, 4, 5, 6, 7, 8, 9, 10, 11, 12, 13] rfl) (hD.sub (ws' := stW T (u4 0) (t3 0)) [3, 4, 5, 6, 7, 8, 9, 10, 11, 12, 13] (by decide) rfl) hK⟩ rfl rfl hl.1 rfl (lv_room (Nat.le_of_ble_eq_true rfl)) dX4_begin_48 ⟨Nat.zero_le _, Nat.zero_le _⟩) hS hA hP hD [3, 4, 5, 6, 7, 8, 9, 10, 11, 12, 13] [0, 1, 2, 14, 15, 16, 17, 18, 19, 20, 21, 22, 23, 24, 25, 26, 27, 28, 29, 30, 31, 32, 33, 34, 35, 36, 37, 38, 39, 40, 41, 42, 43, 44, 45, 46, 47, 48, 49, 50, 51, 52, 53, 54, 55, 56, 57, 58, 59, 60, 61, 62] rfl rfl (by decide) (by decide) [0, 1, 2, 52, 53, 54, 55, 56, 57, 58, 59, 60, 61, 62, 3, 4, 5, 6, 7, 8, 9, 10, 11, 12, 13, 14, 15, 16, 17, 18, 19, 20, 21, 22, 23, 24, 25, 26, 27, 28, 29, 30, 31, 32, 33, 34, 35, 36, 37, 38, 39, 40, 41, 42, 43, 44, 45, 46, 47, 48, 49, 50, 51] (by decide) rfl (fun H locs hP hD hS => ?_)
    refine lv_iload_n hx hb dX4_begin_51 rfl (lv_at hl 0 rfl) ?_
    obtain rfl := Option.some.inj h
    exact W.iret hx hb hr (fun t ht hW => ⟨⟨_, u4, rfl, rfl, by rw [ht]; exact hP, hD⟩, hS.F ht⟩) hS.2.2 dX4_begin_52 hlocks
  replace h := im c2 h
  cases h
set_option maxHeartbeats 4000000 in
set_option maxRecDepth 100000 in
theorem c_X4_setLimit (l : Launch) (D : va_G) (T : Nat → ClassId) (h0 : Nat) (A0 : Nat → Nat → Nat) (Z0 : Nat → St) (v1 : Int32) (sz : Nat) (r : Int32 × (Nat → St)) (h : F_X4_setLimit Z0 v1 = some r) : Met l yX4_setLimit wsX4_setLimit ({ frames := 6, cells := 0, slots := 0, locals := 108 } : Room) (va_Pc [.ref h0, .int v1] (PM D T (scW T h0 A0 (Z0)) sz)) (QEi D (scW T h0) r.1 r.2 (va_A (scW T h0 A0 (Z0)) sz)) 0 0 (va_A (scW T h0 A0 (Z0)) sz) := by
  refine met_of (cc := cX4_setLimit) (maxL := 2) (ret := (some .int)) (lv := [(0, .ref h0), (1, .int v1)]) (by decide) rfl (Nat.le_of_ble_eq_true rfl) rfl ?_
  intro p e s m args below meth c ls C0 hl hB
  obtain ⟨hx, hb, hr, hml, hown, hts, hlocks, hname⟩ := C0
  obtain ⟨hsz, hP, hK, hD0⟩ := hB
  subst hsz
  have hD := hD0.self (sz := s.heap.size)
  generalize hAe : va_A (scW T h0 A0 (Z0)) s.heap.size = A at hD ⊢
  have hA : ∀ q : Nat, s.heap.size ≤ q → A q := fun q h => by rw [← hAe]; exact Or.inr h
  have hS : va_S A s.heap s.heap [] := va_S.rf
  unfold F_X4_setLimit at h
  refine lv_iload_n hx hb dX4_setLimit_0 rfl (lv_at hl 1 rfl) ?_
  refine lv_if_lt (tgt := 9) hx hb dX4_setLimit_1 (by decide) (fun c1 => ?_) (fun c1 => ?_)
  · replace h := ip c1 h
    cases h
  replace h := im c1 h
  refine lv_iload_n hx hb dX4_setLimit_4 rfl (lv_at hl 1 rfl) ?_
  refine lv_iconst (v := 2) hx hb dX4_setLimit_5 (by decide) ?_
  refine lv_icmp_le (tgt := 19) hx hb dX4_setLimit_6 (by decide) (fun c2 => ?_) (fun c2 => ?_)
  · replace h := ip c2 h
    refine lv_aload_n hx hb dX4_setLimit_19 rfl (lv_at hl 0 rfl) ?_
    refine va_get (D := D) (ci := 4) (v := .ref (A0 6 1)) (C := RX4) (T := TX4) (N := 3) hx hb hts inX4_setLimit_4 hown hK.1 hP 0 rfl rfl 1 (by decide) (hts (.fieldLink RX4 19 "LyingScale" "history" "LLyingScale$History;") (List.mem_of_getElem? (i := 3) rfl)) (fun _ h9 => h9) rfl dX4_setLimit_20 ?_
    refine lv_aload_n hx hb dX4_setLimit_23 rfl (lv_at hl 0 rfl) ?_
    refine va_get (D := D) (ci := 4) (v := .ref (A0 0 0)) (C := RX4) (T := TX4) (N := 3) hx hb hts inX4_setLimit_4 hown hK.1 hP 0 rfl rfl 0 (by decide) (hts (.fieldLink RX4 12 "LyingScale" "now" "LLyingScale$State;") (List.mem_of_getElem? (i := 4) rfl)) (fun _ h9 => h9) rfl dX4_setLimit_24 ?_
    replace h := bd h
    obtain ⟨t3, et3, h⟩ := h
    refine callEv (va_runV (As := [.ref (A0 0 0)]) (rest := []) ⟨hx, hb, hml, hown, hts⟩ (c_X0_save l D T h0 A0 Z0 _ t3 et3) (cwV 1 hts gX4_setLimit_X0_save rfl rfl rfl hdV_X0_save ⟨Nat.le_of_ble_eq_true rfl, Nat.le_of_ble_eq_true rfl⟩) ⟨PM_blind, va_recv hK.1 hP (ci := 0) (q0 := 1) rfl rfl, PM_at hP hD hK⟩ rfl rfl hl.1 rfl (lv_room (Nat.le_of_ble_eq_true rfl)) dX4_setLimit_27 ⟨Nat.zero_le _, Nat.zero_le _⟩) hS hA hP hD (fun u4 H locs hP hD hS => ?_)
    refine lv_aload_n hx hb dX4_setLimit_30 rfl (lv_at hl 0 rfl) ?_
    refine va_get (D := D) (ci := 4) (v := .ref (u4 0 0)) (C := RX4) (T := TX4) (N := 3) hx hb hts inX4_setLimit_4 hown hK.1 hP 0 rfl rfl 0 (by decide) (hts (.fieldLink RX4 12 "LyingScale" "now" "LLyingScale$State;") (List.mem_of_getElem? (i := 4) rfl)) (fun _ h9 => h9) rfl dX4_setLimit_31 ?_
    refine lv_iload_n hx hb dX4_setLimit_34 rfl (lv_at hl 1 rfl) ?_
    refine va_putN (D := D) (ci := 2) (v := .int v1) (ty := .int) (C := RX2) (T := TX2) (N := 9) hx hb hts inX4_setLimit_2 tyX2 tyX2_ok nmX2 hown hK.1 hP hD hS 3 rfl rfl 5 (by decide) (va_Nw.use rfl (hK.2 (.fieldLinkNest RX4 57 "LyingScale$State" "limit" "I" "LyingScale") (List.mem_of_getElem? (i := 4) rfl))) (fun _ h9 => h9) rfl (by decide +kernel) rfl rfl (Nat.le_of_ble_eq_true rfl) dX4_setLimit_35 (fun H locs hP hD hS => ?_)
    replace hP : va_P D vwCl (scW T h0 u4 (zU t3 0 (sI (t3 0) 1 v1))) H := hP
    replace hD : va_D A (scW T h0 u4 (zU t3 0 (sI (t3 0) 1 v1))) := hD
    refine lv_aload_n hx hb dX4_setLimit_38 rfl (lv_at hl 0 rfl) ?_
    refine va_get (D := D) (ci := 4) (v := .ref (u4 0 0)) (C := RX4) (T := TX4) (N := 3) hx hb hts inX4_setLimit_4 hown hK.1 hP 0 rfl rfl 0 (by decide) (hts (.fieldLink RX4 12 "LyingScale" "now" "LLyingScale$State;") (List.mem_of_getElem? (i := 4) rfl)) (fun _ h9 => h9) rfl dX4_setLimit_39 ?_
    replace h := bd h
    obtain ⟨t5, et5, h⟩ := h
    refine callRi (v := t5) (va_runV (As := []) (rest := []) ⟨hx, hb, hml, hown, hts⟩ (c_X2_countLeft l D T (u4 0) ((zU t3 0 (sI (t3 0) 1 v1)) 0) t5 et5) (cwV 0 hts gX4_setLimit_X2_countLeft rfl rfl rfl hdV_X2_countLeft ⟨Nat.le_of_ble_eq_true rfl, Nat.le_of_ble_eq_true rfl⟩) ⟨PB_blind, va_recv hK.1 hP (ci := 2) (q0 := 3) rfl rfl, PB_at (hP.sub (ws' := stW T (u4 0) ((zU t3 0 (sI (t3 0) 1 v1)) 0)) [3, 4, 5, 6, 7, 8, 9, 10, 11, 12, 13] rfl) hK⟩ rfl rfl hl.1 rfl (lv_room (Nat.le_of_ble_eq_true rfl)) dX4_setLimit_42 ⟨Nat.zero_le _, Nat.zero_le _⟩) ?_
    obtain rfl := Option.some.inj h
    exact W.iret hx hb hr (fun t ht hW => ⟨⟨_, u4, rfl, rfl, by rw [ht]; exact hP, hD⟩, hS.F ht⟩) hS.2.2 dX4_setLimit_45 hlocks
  replace h := im c2 h
  cases h
set_option maxHeartbeats 4000000 in
set_option maxRecDepth 100000 in
theorem c_X4_forget (l : Launch) (D : va_G) (T : Nat → ClassId) (h0 : Nat) (A0 : Nat → Nat → Nat) (Z0 : Nat → St) (sz : Nat) (r : Int32 × (Nat → St)) (h : F_X4_forget Z0 = some r) : Met l yX4_forget wsX4_forget ({ frames := 5, cells := 0, slots := 0, locals := 108 } : Room) (va_Pc [.ref h0] (PM D T (scW T h0 A0 (Z0)) sz)) (QEi D (scW T h0) r.1 r.2 (va_A (scW T h0 A0 (Z0)) sz)) 0 0 (va_A (scW T h0 A0 (Z0)) sz) := by
  refine met_of (cc := cX4_forget) (maxL := 2) (ret := (some .int)) (lv := [(0, .ref h0)]) (by decide) rfl (Nat.le_of_ble_eq_true rfl) rfl ?_
  intro p e s m args below meth c ls C0 hl hB
  obtain ⟨hx, hb, hr, hml, hown, hts, hlocks, hname⟩ := C0
  obtain ⟨hsz, hP, hK, hD0⟩ := hB
  subst hsz
  have hD := hD0.self (sz := s.heap.size)
  generalize hAe : va_A (scW T h0 A0 (Z0)) s.heap.size = A at hD ⊢
  have hA : ∀ q : Nat, s.heap.size ≤ q → A q := fun q h => by rw [← hAe]; exact Or.inr h
  have hS : va_S A s.heap s.heap [] := va_S.rf
  unfold F_X4_forget at h
  refine lv_aload_n hx hb dX4_forget_0 rfl (lv_at hl 0 rfl) ?_
  refine va_get (D := D) (ci := 4) (v := .ref (A0 6 1)) (C := RX4) (T := TX4) (N := 3) hx hb hts inX4_forget_4 hown hK.1 hP 0 rfl rfl 1 (by decide) (hts (.fieldLink RX4 19 "LyingScale" "history" "LLyingScale$History;") (List.mem_of_getElem? (i := 1) rfl)) (fun _ h9 => h9) rfl dX4_forget_1 ?_
  refine lv_aload_n hx hb dX4_forget_4 rfl (lv_at hl 0 rfl) ?_
  refine va_get (D := D) (ci := 4) (v := .ref (A0 0 0)) (C := RX4) (T := TX4) (N := 3) hx hb hts inX4_forget_4 hown hK.1 hP 0 rfl rfl 0 (by decide) (hts (.fieldLink RX4 12 "LyingScale" "now" "LLyingScale$State;") (List.mem_of_getElem? (i := 2) rfl)) (fun _ h9 => h9) rfl dX4_forget_5 ?_
  replace h := bd h
  obtain ⟨t1, et1, h⟩ := h
  refine callEv (va_runV (As := [.ref (A0 0 0)]) (rest := []) ⟨hx, hb, hml, hown, hts⟩ (c_X0_save l D T h0 A0 Z0 _ t1 et1) (cwV 1 hts gX4_forget_X0_save rfl rfl rfl hdV_X0_save ⟨Nat.le_of_ble_eq_true rfl, Nat.le_of_ble_eq_true rfl⟩) ⟨PM_blind, va_recv hK.1 hP (ci := 0) (q0 := 1) rfl rfl, PM_at hP hD hK⟩ rfl rfl hl.1 rfl (lv_room (Nat.le_of_ble_eq_true rfl)) dX4_forget_8 ⟨Nat.zero_le _, Nat.zero_le _⟩) hS hA hP hD (fun u2 H locs hP hD hS => ?_)
  refine lv_aload_n hx hb dX4_forget_11 rfl (lv_at hl 0 rfl) ?_
  refine va_get (D := D) (ci := 4) (v := .ref (u2 0 0)) (C := RX4) (T := TX4) (N := 3) hx hb hts inX4_forget_4 hown hK.1 hP 0 rfl rfl 0 (by decide) (hts (.fieldLink RX4 12 "LyingScale" "now" "LLyingScale$State;") (List.mem_of_getElem? (i := 2) rfl)) (fun _ h9 => h9) rfl dX4_forget_12 ?_
  refine va_getN (D := D) (ci := 2) (v := .ref (u2 0 1)) (C := RX2) (T := TX2) (N := 9) hx hb hts inX4_forget_2 hown hK.1 hP 3 rfl rfl 0 (by decide) (va_Nw.use rfl (hK.2 (.fieldLinkNest RX4 41 "LyingScale$State" "told" "LLyingScale$Weighings;" "LyingScale") (List.mem_of_getElem? (i := 2) rfl))) (fun _ h9 => h9) rfl dX4_forget_15 ?_
  refine va_getN (D := D) (ci := 3) (v := .int ((t1 0).1 5)) (C := RX3) (T := TX3) (N := 4) hx hb hts inX4_forget_3 hown hK.1 hP 4 rfl rfl 3 (by decide) (va_Nw.use rfl (hK.2 (.fieldLinkNest RX4 45 "LyingScale$Weighings" "count" "I" "LyingScale") (List.mem_of_getElem? (i := 3) rfl))) (fun _ h9 => h9) rfl dX4_forget_18 ?_
  refine lv_istore_n (lv' := [(1, .int ((t1 0).1 5)), (0, .ref h0)]) hx hb dX4_forget_21 rfl hl (by decide) rfl (fun ls hl => ?_)
  refine lv_aload_n hx hb dX4_forget_22 rfl (lv_at hl 1 rfl) ?_
  refine va_get (D := D) (ci := 4) (v := .ref (u2 0 0)) (C := RX4) (T := TX4) (N := 3) hx hb hts inX4_forget_4 hown hK.1 hP 0 rfl rfl 0 (by decide) (hts (.fieldLink RX4 12 "LyingScale" "now" "LLyingScale$State;") (List.mem_of_getElem? (i := 2) rfl)) (fun _ h9 => h9) rfl dX4_forget_23 ?_
  replace h := bd h
  obtain ⟨t3, et3, h⟩ := h
  refine callMv (wr := [(h0, .inr (4, [.ref (u2 0 0), .ref (u2 6 1), .ref (u2 5 0)])), (u2 6 1, .inr (0, [.ref (u2 6 2), .int ((t1 6).1 0)])), (u2 6 2, .inl (T 3, 4, .inr (.inr (.inr (.inr (hsQ u2)))))), (u2 1 0, .inr (2, [.ref (u2 1 1), .ref (u2 1 2), .ref (u2 1 3), .ref (u2 1 4), .int ((t1 1).1 0), .int ((t1 1).1 1), .int ((t1 1).1 2), .int ((t1 1).1 3), .int ((t1 1).1 4)])), (u2 1 1, .inr (3, [.ref (u2 1 5), .ref (u2 1 6), .ref (u2 1 7), .int ((t1 1).1 5)])), (u2 1 2, .inr (3, [.ref (u2 1 8), .ref (u2 1 9), .ref (u2 1 10), .int ((t1 1).1 6)])), (u2 1 3, .inl (T 0, 33, .inl ((t1 1).2 6))), (u2 1 4, .inl (T 0, 33, .inl ((t1 1).2 7))), (u2 1 5, .inl (T 0, 40, .inl ((t1 1).2 0))), (u2 1 6, .inl (T 0, 40, .inl ((t1 1).2 1))), (u2 1 7, .inl (T 0, 40, .inl ((t1 1).2 2))), (u2 1 8, .inl (T 0, 8, .inl ((t1 1).2 3))), (u2 1 9, .inl (T 0, 8, .inl ((t1 1).2 4))), (u2 1 10, .inl (T 0, 8, .inl ((t1 1).2 5))), (u2 2 0, .inr (2, [.ref (u2 2 1), .ref (u2 2 2), .ref (u2 2 3), .ref (u2 2 4), .int ((t1 2).1 0), .int ((t1 2).1 1), .int ((t1 2).1 2), .int ((t1 2).1 3), .int ((t1 2).1 4)])), (u2 2 1, .inr (3, [.ref (u2 2 5), .ref (u2 2 6), .ref (u2 2 7), .int ((t1 2).1 5)])), (u2 2 2, .inr (3, [.ref (u2 2 8), .ref (u2 2 9), .ref (u2 2 10), .int ((t1 2).1 6)])), (u2 2 3, .inl (T 0, 33, .inl ((t1 2).2 6))), (u2 2 4, .inl (T 0, 33, .inl ((t1 2).2 7))), (u2 2 5, .inl (T 0, 40, .inl ((t1 2).2 0))), (u2 2 6, .inl (T 0, 40, .inl ((t1 2).2 1))), (u2 2 7, .inl (T 0, 40, .inl ((t1 2).2 2))), (u2 2 8, .inl (T 0, 8, .inl ((t1 2).2 3))), (u2 2 9, .inl (T 0, 8, .inl ((t1 2).2 4))), (u2 2 10, .inl (T 0, 8, .inl ((t1 2).2 5))), (u2 3 0, .inr (2, [.ref (u2 3 1), .ref (u2 3 2), .ref (u2 3 3), .ref (u2 3 4), .int ((t1 3).1 0), .int ((t1 3).1 1), .int ((t1 3).1 2), .int ((t1 3).1 3), .int ((t1 3).1 4)])), (u2 3 1, .inr (3, [.ref (u2 3 5), .ref (u2 3 6), .ref (u2 3 7), .int ((t1 3).1 5)])), (u2 3 2, .inr (3, [.ref (u2 3 8), .ref (u2 3 9), .ref (u2 3 10), .int ((t1 3).1 6)])), (u2 3 3, .inl (T 0, 33, .inl ((t1 3).2 6))), (u2 3 4, .inl (T 0, 33, .inl ((t1 3).2 7))), (u2 3 5, .inl (T 0, 40, .inl ((t1 3).2 0))), (u2 3 6, .inl (T 0, 40, .inl ((t1 3).2 1))), (u2 3 7, .inl (T 0, 40, .inl ((t1 3).2 2))), (u2 3 8, .inl (T 0, 8, .inl ((t1 3).2 3))), (u2 3 9, .inl (T 0, 8, .inl ((t1 3).2 4))), (u2 3 10, .inl (T 0, 8, .inl ((t1 3).2 5))), (u2 4 0, .inr (2, [.ref (u2 4 1), .ref (u2 4 2), .ref (u2 4 3), .ref (u2 4 4), .int ((t1 4).1 0), .int ((t1 4).1 1), .int ((t1 4).1 2), .int ((t1 4).1 3), .int ((t1 4).1 4)])), (u2 4 1, .inr (3, [.ref (u2 4 5), .ref (u2 4 6), .ref (u2 4 7), .int ((t1 4).1 5)])), (u2 4 2, .inr (3, [.ref (u2 4 8), .ref (u2 4 9), .ref (u2 4 10), .int ((t1 4).1 6)])), (u2 4 3, .inl (T 0, 33, .inl ((t1 4).2 6))), (u2 4 4, .inl (T 0, 33, .inl ((t1 4).2 7))), (u2 4 5, .inl (T 0, 40, .inl ((t1 4).2 0))), (u2 4 6, .inl (T 0, 40, .inl ((t1 4).2 1))), (u2 4 7, .inl (T 0, 40, .inl ((t1 4).2 2))), (u2 4 8, .inl (T 0, 8, .inl ((t1 4).2 3))), (u2 4 9, .inl (T 0, 8, .inl ((t1 4).2 4))), (u2 4 10, .inl (T 0, 8, .inl ((t1 4).2 5))), (u2 5 0, .inr (1, [.ref (u2 5 1), .ref (u2 5 2), .ref (u2 5 3), .ref (u2 5 4), .int ((t1 5).1 0), .int ((t1 5).1 1), .int ((t1 5).1 2), .int ((t1 5).1 3), .int ((t1 5).1 4)])), (u2 5 1, .inl (T 0, 100, .inl ((t1 5).2 0))), (u2 5 2, .inl (T 0, 20, .inl ((t1 5).2 1))), (u2 5 3, .inl (T 0, 20, .inl ((t1 5).2 2))), (u2 5 4, .inl (T 0, 20, .inl ((t1 5).2 3)))]) (ws' := scW T h0 u2 (zU t1 0 t3)) (va_runV (As := []) (rest := []) ⟨hx, hb, hml, hown, hts⟩ (c_X2_forgetTold l D T (u2 0) (t1 0) _ t3 et3) (cwV 0 hts gX4_forget_X2_forgetTold rfl rfl rfl hdV_X2_forgetTold ⟨Nat.le_of_ble_eq_true rfl, Nat.le_of_ble_eq_true rfl⟩) ⟨PM_blind, va_recv hK.1 hP (ci := 2) (q0 := 3) rfl rfl, PM_at (hP.sub (ws' := stW T (u2 0) (t1 0)) [3, 4, 5, 6, 7, 8, 9, 10, 11, 12, 13] rfl) (hD.sub (ws' := stW T (u2 0) (t1 0)) [3, 4, 5, 6, 7, 8, 9, 10, 11, 12, 13] (by decide) rfl) hK⟩ rfl rfl hl.1 rfl (lv_room (Nat.le_of_ble_eq_true rfl)) dX4_forget_26 ⟨Nat.zero_le _, Nat.zero_le _⟩) hS hA hP hD [3, 4, 5, 6, 7, 8, 9, 10, 11, 12, 13] [0, 1, 2, 14, 15, 16, 17, 18, 19, 20, 21, 22, 23, 24, 25, 26, 27, 28, 29, 30, 31, 32, 33, 34, 35, 36, 37, 38, 39, 40, 41, 42, 43, 44, 45, 46, 47, 48, 49, 50, 51, 52, 53, 54, 55, 56, 57, 58, 59, 60, 61, 62] rfl rfl (by decide) (by decide) [0, 1, 2, 52, 53, 54, 55, 56, 57, 58, 59, 60, 61, 62, 3, 4, 5, 6, 7, 8, 9, 10, 11, 12, 13, 14, 15, 16, 17, 18, 19, 20, 21, 22, 23, 24, 25, 26, 27, 28, 29, 30, 31, 32, 33, 34, 35, 36, 37, 38, 39, 40, 41, 42, 43, 44, 45, 46, 47, 48, 49, 50, 51] (by decide) rfl (fun H locs hP hD hS => ?_)
  refine lv_iload_n hx hb dX4_forget_29 rfl (lv_at hl 0 rfl) ?_
  obtain rfl := Option.some.inj h
  exact W.iret hx hb hr (fun t ht hW => ⟨⟨_, u2, rfl, rfl, by rw [ht]; exact hP, hD⟩, hS.F ht⟩) hS.2.2 dX4_forget_30 hlocks
set_option maxHeartbeats 4000000 in
set_option maxRecDepth 100000 in
theorem c_X4_hide (l : Launch) (D : va_G) (T : Nat → ClassId) (h0 : Nat) (A0 : Nat → Nat → Nat) (Z0 : Nat → St) (v1 : Int32) (v2 : Int32) (sz : Nat) (r : Int32 × (Nat → St)) (h : F_X4_hide Z0 v1 v2 = some r) : Met l yX4_hide wsX4_hide ({ frames := 6, cells := 0, slots := 0, locals := 108 } : Room) (va_Pc [.ref h0, .int v1, .int v2] (PM D T (scW T h0 A0 (Z0)) sz)) (QEi D (scW T h0) r.1 r.2 (va_A (scW T h0 A0 (Z0)) sz)) 0 0 (va_A (scW T h0 A0 (Z0)) sz) := by
  refine met_of (cc := cX4_hide) (maxL := 4) (ret := (some .int)) (lv := [(0, .ref h0), (1, .int v1), (2, .int v2)]) (by decide) rfl (Nat.le_of_ble_eq_true rfl) rfl ?_
  intro p e s m args below meth c ls C0 hl hB
  obtain ⟨hx, hb, hr, hml, hown, hts, hlocks, hname⟩ := C0
  obtain ⟨hsz, hP, hK, hD0⟩ := hB
  subst hsz
  have hD := hD0.self (sz := s.heap.size)
  generalize hAe : va_A (scW T h0 A0 (Z0)) s.heap.size = A at hD ⊢
  have hA : ∀ q : Nat, s.heap.size ≤ q → A q := fun q h => by rw [← hAe]; exact Or.inr h
  have hS : va_S A s.heap s.heap [] := va_S.rf
  unfold F_X4_hide at h
  refine lv_aload_n hx hb dX4_hide_0 rfl (lv_at hl 0 rfl) ?_
  refine va_get (D := D) (ci := 4) (v := .ref (A0 0 0)) (C := RX4) (T := TX4) (N := 3) hx hb hts inX4_hide_4 hown hK.1 hP 0 rfl rfl 0 (by decide) (hts (.fieldLink RX4 12 "LyingScale" "now" "LLyingScale$State;") (List.mem_of_getElem? (i := 5) rfl)) (fun _ h9 => h9) rfl dX4_hide_1 ?_
  refine lv_iload_n hx hb dX4_hide_4 rfl (lv_at hl 1 rfl) ?_
  replace h := bd h
  obtain ⟨t1, et1, h⟩ := h
  refine callRi (v := t1) (va_runV (As := [.int v1]) (rest := []) ⟨hx, hb, hml, hown, hts⟩ (c_X2_isCase l D T (A0 0) (Z0 0) v1 t1 et1) (cwV 1 hts gX4_hide_X2_isCase rfl rfl rfl hdV_X2_isCase ⟨Nat.le_of_ble_eq_true rfl, Nat.le_of_ble_eq_true rfl⟩) ⟨PB_blind, va_recv hK.1 hP (ci := 2) (q0 := 3) rfl rfl, PB_at (hP.sub (ws' := stW T (A0 0) (Z0 0)) [3, 4, 5, 6, 7, 8, 9, 10, 11, 12, 13] rfl) hK⟩ rfl rfl hl.1 rfl (lv_room (Nat.le_of_ble_eq_true rfl)) dX4_hide_5 ⟨Nat.zero_le _, Nat.zero_le _⟩) ?_
  refine lv_if_ne (tgt := 21) hx hb dX4_hide_8 (by decide) (fun c2 => ?_) (fun c2 => ?_)
  · replace h := im c2 h
    refine lv_iload_n hx hb dX4_hide_21 rfl (lv_at hl 2 rfl) ?_
    refine lv_if_lt (tgt := 31) hx hb dX4_hide_22 (by decide) (fun c3 => ?_) (fun c3 => ?_)
    · replace h := ip c3 h
      cases h
    replace h := im c3 h
    refine lv_iload_n hx hb dX4_hide_25 rfl (lv_at hl 2 rfl) ?_
    refine lv_ldc hx hb hown (hts (.constant RX4 98 (1073741823)) (List.mem_of_getElem? (i := 6) rfl)) dX4_hide_26 ?_
    refine lv_icmp_le (tgt := 41) hx hb dX4_hide_28 (by decide) (fun c4 => ?_) (fun c4 => ?_)
    · replace h := ip c4 h
      refine lv_aload_n hx hb dX4_hide_41 rfl (lv_at hl 0 rfl) ?_
      refine va_get (D := D) (ci := 4) (v := .ref (A0 6 1)) (C := RX4) (T := TX4) (N := 3) hx hb hts inX4_hide_4 hown hK.1 hP 0 rfl rfl 1 (by decide) (hts (.fieldLink RX4 19 "LyingScale" "history" "LLyingScale$History;") (List.mem_of_getElem? (i := 7) rfl)) (fun _ h9 => h9) rfl dX4_hide_42 ?_
      refine lv_aload_n hx hb dX4_hide_45 rfl (lv_at hl 0 rfl) ?_
      refine va_get (D := D) (ci := 4) (v := .ref (A0 0 0)) (C := RX4) (T := TX4) (N := 3) hx hb hts inX4_hide_4 hown hK.1 hP 0 rfl rfl 0 (by decide) (hts (.fieldLink RX4 12 "LyingScale" "now" "LLyingScale$State;") (List.mem_of_getElem? (i := 5) rfl)) (fun _ h9 => h9) rfl dX4_hide_46 ?_
      replace h := bd h
      obtain ⟨t5, et5, h⟩ := h
      refine callEv (va_runV (As := [.ref (A0 0 0)]) (rest := []) ⟨hx, hb, hml, hown, hts⟩ (c_X0_save l D T h0 A0 Z0 _ t5 et5) (cwV 1 hts gX4_hide_X0_save rfl rfl rfl hdV_X0_save ⟨Nat.le_of_ble_eq_true rfl, Nat.le_of_ble_eq_true rfl⟩) ⟨PM_blind, va_recv hK.1 hP (ci := 0) (q0 := 1) rfl rfl, PM_at hP hD hK⟩ rfl rfl hl.1 rfl (lv_room (Nat.le_of_ble_eq_true rfl)) dX4_hide_49 ⟨Nat.zero_le _, Nat.zero_le _⟩) hS hA hP hD (fun u6 H locs hP hD hS => ?_)
      refine lv_aload_n hx hb dX4_hide_52 rfl (lv_at hl 0 rfl) ?_
      refine va_get (D := D) (ci := 4) (v := .ref (u6 0 0)) (C := RX4) (T := TX4) (N := 3) hx hb hts inX4_hide_4 hown hK.1 hP 0 rfl rfl 0 (by decide) (hts (.fieldLink RX4 12 "LyingScale" "now" "LLyingScale$State;") (List.mem_of_getElem? (i := 5) rfl)) (fun _ h9 => h9) rfl dX4_hide_53 ?_
      refine va_getN (D := D) (ci := 2) (v := .int ((t5 0).1 2)) (C := RX2) (T := TX2) (N := 9) hx hb hts inX4_hide_2 hown hK.1 hP 3 rfl rfl 6 (by decide) (va_Nw.use rfl (hK.2 (.fieldLinkNest RX4 99 "LyingScale$State" "hidden" "I" "LyingScale") (List.mem_of_getElem? (i := 5) rfl))) (fun _ h9 => h9) rfl dX4_hide_56 ?_
      refine lv_istore_n (lv' := [(3, .int ((t5 0).1 2)), (0, .ref h0), (1, .int v1), (2, .int v2)]) hx hb dX4_hide_59 rfl hl (by decide) rfl (fun ls hl => ?_)
      refine lv_aload_n hx hb dX4_hide_60 rfl (lv_at hl 1 rfl) ?_
      refine va_get (D := D) (ci := 4) (v := .ref (u6 0 0)) (C := RX4) (T := TX4) (N := 3) hx hb hts inX4_hide_4 hown hK.1 hP 0 rfl rfl 0 (by decide) (hts (.fieldLink RX4 12 "LyingScale" "now" "LLyingScale$State;") (List.mem_of_getElem? (i := 5) rfl)) (fun _ h9 => h9) rfl dX4_hide_61 ?_
      refine lv_iload_n hx hb dX4_hide_64 rfl (lv_at hl 2 rfl) ?_
      refine lv_iload_n hx hb dX4_hide_65 rfl (lv_at hl 3 rfl) ?_
      replace h := bd h
      obtain ⟨t7, et7, h⟩ := h
      refine callMv (wr := [(h0, .inr (4, [.ref (u6 0 0), .ref (u6 6 1), .ref (u6 5 0)])), (u6 6 1, .inr (0, [.ref (u6 6 2), .int ((t5 6).1 0)])), (u6 6 2, .inl (T 3, 4, .inr (.inr (.inr (.inr (hsQ u6)))))), (u6 1 0, .inr (2, [.ref (u6 1 1), .ref (u6 1 2), .ref (u6 1 3), .ref (u6 1 4), .int ((t5 1).1 0), .int ((t5 1).1 1), .int ((t5 1).1 2), .int ((t5 1).1 3), .int ((t5 1).1 4)])), (u6 1 1, .inr (3, [.ref (u6 1 5), .ref (u6 1 6), .ref (u6 1 7), .int ((t5 1).1 5)])), (u6 1 2, .inr (3, [.ref (u6 1 8), .ref (u6 1 9), .ref (u6 1 10), .int ((t5 1).1 6)])), (u6 1 3, .inl (T 0, 33, .inl ((t5 1).2 6))), (u6 1 4, .inl (T 0, 33, .inl ((t5 1).2 7))), (u6 1 5, .inl (T 0, 40, .inl ((t5 1).2 0))), (u6 1 6, .inl (T 0, 40, .inl ((t5 1).2 1))), (u6 1 7, .inl (T 0, 40, .inl ((t5 1).2 2))), (u6 1 8, .inl (T 0, 8, .inl ((t5 1).2 3))), (u6 1 9, .inl (T 0, 8, .inl ((t5 1).2 4))), (u6 1 10, .inl (T 0, 8, .inl ((t5 1).2 5))), (u6 2 0, .inr (2, [.ref (u6 2 1), .ref (u6 2 2), .ref (u6 2 3), .ref (u6 2 4), .int ((t5 2).1 0), .int ((t5 2).1 1), .int ((t5 2).1 2), .int ((t5 2).1 3), .int ((t5 2).1 4)])), (u6 2 1, .inr (3, [.ref (u6 2 5), .ref (u6 2 6), .ref (u6 2 7), .int ((t5 2).1 5)])), (u6 2 2, .inr (3, [.ref (u6 2 8), .ref (u6 2 9), .ref (u6 2 10), .int ((t5 2).1 6)])), (u6 2 3, .inl (T 0, 33, .inl ((t5 2).2 6))), (u6 2 4, .inl (T 0, 33, .inl ((t5 2).2 7))), (u6 2 5, .inl (T 0, 40, .inl ((t5 2).2 0))), (u6 2 6, .inl (T 0, 40, .inl ((t5 2).2 1))), (u6 2 7, .inl (T 0, 40, .inl ((t5 2).2 2))), (u6 2 8, .inl (T 0, 8, .inl ((t5 2).2 3))), (u6 2 9, .inl (T 0, 8, .inl ((t5 2).2 4))), (u6 2 10, .inl (T 0, 8, .inl ((t5 2).2 5))), (u6 3 0, .inr (2, [.ref (u6 3 1), .ref (u6 3 2), .ref (u6 3 3), .ref (u6 3 4), .int ((t5 3).1 0), .int ((t5 3).1 1), .int ((t5 3).1 2), .int ((t5 3).1 3), .int ((t5 3).1 4)])), (u6 3 1, .inr (3, [.ref (u6 3 5), .ref (u6 3 6), .ref (u6 3 7), .int ((t5 3).1 5)])), (u6 3 2, .inr (3, [.ref (u6 3 8), .ref (u6 3 9), .ref (u6 3 10), .int ((t5 3).1 6)])), (u6 3 3, .inl (T 0, 33, .inl ((t5 3).2 6))), (u6 3 4, .inl (T 0, 33, .inl ((t5 3).2 7))), (u6 3 5, .inl (T 0, 40, .inl ((t5 3).2 0))), (u6 3 6, .inl (T 0, 40, .inl ((t5 3).2 1))), (u6 3 7, .inl (T 0, 40, .inl ((t5 3).2 2))), (u6 3 8, .inl (T 0, 8, .inl ((t5 3).2 3))), (u6 3 9, .inl (T 0, 8, .inl ((t5 3).2 4))), (u6 3 10, .inl (T 0, 8, .inl ((t5 3).2 5))), (u6 4 0, .inr (2, [.ref (u6 4 1), .ref (u6 4 2), .ref (u6 4 3), .ref (u6 4 4), .int ((t5 4).1 0), .int ((t5 4).1 1), .int ((t5 4).1 2), .int ((t5 4).1 3), .int ((t5 4).1 4)])), (u6 4 1, .inr (3, [.ref (u6 4 5), .ref (u6 4 6), .ref (u6 4 7), .int ((t5 4).1 5)])), (u6 4 2, .inr (3, [.ref (u6 4 8), .ref (u6 4 9), .ref (u6 4 10), .int ((t5 4).1 6)])), (u6 4 3, .inl (T 0, 33, .inl ((t5 4).2 6))), (u6 4 4, .inl (T 0, 33, .inl ((t5 4).2 7))), (u6 4 5, .inl (T 0, 40, .inl ((t5 4).2 0))), (u6 4 6, .inl (T 0, 40, .inl ((t5 4).2 1))), (u6 4 7, .inl (T 0, 40, .inl ((t5 4).2 2))), (u6 4 8, .inl (T 0, 8, .inl ((t5 4).2 3))), (u6 4 9, .inl (T 0, 8, .inl ((t5 4).2 4))), (u6 4 10, .inl (T 0, 8, .inl ((t5 4).2 5))), (u6 5 0, .inr (1, [.ref (u6 5 1), .ref (u6 5 2), .ref (u6 5 3), .ref (u6 5 4), .int ((t5 5).1 0), .int ((t5 5).1 1), .int ((t5 5).1 2), .int ((t5 5).1 3), .int ((t5 5).1 4)])), (u6 5 1, .inl (T 0, 100, .inl ((t5 5).2 0))), (u6 5 2, .inl (T 0, 20, .inl ((t5 5).2 1))), (u6 5 3, .inl (T 0, 20, .inl ((t5 5).2 2))), (u6 5 4, .inl (T 0, 20, .inl ((t5 5).2 3)))]) (ws' := scW T h0 u6 (zU t5 0 t7)) (va_runV (As := [.int v1, .int v2]) (rest := []) ⟨hx, hb, hml, hown, hts⟩ (c_X2_hideCase l D T (u6 0) (t5 0) v1 v2 _ t7 et7) (cwV 2 hts gX4_hide_X2_hideCase rfl rfl rfl hdV_X2_hideCase ⟨Nat.le_of_ble_eq_true rfl, Nat.le_of_ble_eq_true rfl⟩) ⟨PM_blind, va_recv hK.1 hP (ci := 2) (q0 := 3) rfl rfl, PM_at (hP.sub (ws' := stW T (u6 0) (t5 0)) [3, 4, 5, 6, 7, 8, 9, 10, 11, 12, 13] rfl) (hD.sub (ws' := stW T (u6 0) (t5 0)) [3, 4, 5, 6, 7, 8, 9, 10, 11, 12, 13] (by decide) rfl) hK⟩ rfl rfl hl.1 rfl (lv_room (Nat.le_of_ble_eq_true rfl)) dX4_hide_66 ⟨Nat.zero_le _, Nat.zero_le _⟩) hS hA hP hD [3, 4, 5, 6, 7, 8, 9, 10, 11, 12, 13] [0, 1, 2, 14, 15, 16, 17, 18, 19, 20, 21, 22, 23, 24, 25, 26, 27, 28, 29, 30, 31, 32, 33, 34, 35, 36, 37, 38, 39, 40, 41, 42, 43, 44, 45, 46, 47, 48, 49, 50, 51, 52, 53, 54, 55, 56, 57, 58, 59, 60, 61, 62] rfl rfl (by decide) (by decide) [0, 1, 2, 52, 53, 54, 55, 56, 57, 58, 59, 60, 61, 62, 3, 4, 5, 6, 7, 8, 9, 10, 11, 12, 13, 14, 15, 16, 17, 18, 19, 20, 21, 22, 23, 24, 25, 26, 27, 28, 29, 30, 31, 32, 33, 34, 35, 36, 37, 38, 39, 40, 41, 42, 43, 44, 45, 46, 47, 48, 49, 50, 51] (by decide) rfl (fun H locs hP hD hS => ?_)
      refine lv_iload_n hx hb dX4_hide_69 rfl (lv_at hl 0 rfl) ?_
      obtain rfl := Option.some.inj h
      exact W.iret hx hb hr (fun t ht hW => ⟨⟨_, u6, rfl, rfl, by rw [ht]; exact hP, hD⟩, hS.F ht⟩) hS.2.2 dX4_hide_70 hlocks
    replace h := im c4 h
    cases h
  replace h := ip c2 h
  cases h
set_option maxHeartbeats 4000000 in
set_option maxRecDepth 100000 in
theorem c_X4_ask (l : Launch) (D : va_G) (T : Nat → ClassId) (h0 : Nat) (A0 : Nat → Nat → Nat) (Z0 : Nat → St) (v1 : Int32) (v2 : Int32) (sz : Nat) (r : Int32 × (Nat → St)) (h : F_X4_ask Z0 v1 v2 = some r) : Met l yX4_ask wsX4_ask ({ frames := 6, cells := 0, slots := 0, locals := 116 } : Room) (va_Pc [.ref h0, .int v1, .int v2] (PM D T (scW T h0 A0 (Z0)) sz)) (QEi D (scW T h0) r.1 r.2 (va_A (scW T h0 A0 (Z0)) sz)) 0 0 (va_A (scW T h0 A0 (Z0)) sz) := by
  refine met_of (cc := cX4_ask) (maxL := 3) (ret := (some .int)) (lv := [(0, .ref h0), (1, .int v1), (2, .int v2)]) (by decide) rfl (Nat.le_of_ble_eq_true rfl) rfl ?_
  intro p e s m args below meth c ls C0 hl hB
  obtain ⟨hx, hb, hr, hml, hown, hts, hlocks, hname⟩ := C0
  obtain ⟨hsz, hP, hK, hD0⟩ := hB
  subst hsz
  have hD := hD0.self (sz := s.heap.size)
  generalize hAe : va_A (scW T h0 A0 (Z0)) s.heap.size = A at hD ⊢
  have hA : ∀ q : Nat, s.heap.size ≤ q → A q := fun q h => by rw [← hAe]; exact Or.inr h
  have hS : va_S A s.heap s.heap [] := va_S.rf
  unfold F_X4_ask at h
  refine lv_aload_n hx hb dX4_ask_0 rfl (lv_at hl 0 rfl) ?_
  refine va_get (D := D) (ci := 4) (v := .ref (A0 0 0)) (C := RX4) (T := TX4) (N := 3) hx hb hts inX4_ask_4 hown hK.1 hP 0 rfl rfl 0 (by decide) (hts (.fieldLink RX4 12 "LyingScale" "now" "LLyingScale$State;") (List.mem_of_getElem? (i := 5) rfl)) (fun _ h9 => h9) rfl dX4_ask_1 ?_
  refine lv_iload_n hx hb dX4_ask_4 rfl (lv_at hl 1 rfl) ?_
  refine lv_iload_n hx hb dX4_ask_5 rfl (lv_at hl 2 rfl) ?_
  replace h := bd h
  obtain ⟨t1, et1, h⟩ := h
  refine callRi (v := t1) (va_runV (As := [.int v1, .int v2]) (rest := []) ⟨hx, hb, hml, hown, hts⟩ (c_X2_isWeighing l D T (A0 0) (Z0 0) v1 v2 t1 et1) (cwV 2 hts gX4_ask_X2_isWeighing rfl rfl rfl hdV_X2_isWeighing ⟨Nat.le_of_ble_eq_true rfl, Nat.le_of_ble_eq_true rfl⟩) ⟨PB_blind, va_recv hK.1 hP (ci := 2) (q0 := 3) rfl rfl, PB_at (hP.sub (ws' := stW T (A0 0) (Z0 0)) [3, 4, 5, 6, 7, 8, 9, 10, 11, 12, 13] rfl) hK⟩ rfl rfl hl.1 rfl (lv_room (Nat.le_of_ble_eq_true rfl)) dX4_ask_6 ⟨Nat.zero_le _, Nat.zero_le _⟩) ?_
  refine lv_if_ne (tgt := 22) hx hb dX4_ask_9 (by decide) (fun c2 => ?_) (fun c2 => ?_)
  · replace h := im c2 h
    refine lv_aload_n hx hb dX4_ask_22 rfl (lv_at hl 0 rfl) ?_
    refine va_get (D := D) (ci := 4) (v := .ref (A0 0 0)) (C := RX4) (T := TX4) (N := 3) hx hb hts inX4_ask_4 hown hK.1 hP 0 rfl rfl 0 (by decide) (hts (.fieldLink RX4 12 "LyingScale" "now" "LLyingScale$State;") (List.mem_of_getElem? (i := 5) rfl)) (fun _ h9 => h9) rfl dX4_ask_23 ?_
    replace h := bd h
    obtain ⟨t3, et3, h⟩ := h
    refine callRi (v := t3) (va_runV (As := []) (rest := []) ⟨hx, hb, hml, hown, hts⟩ (c_X2_canReply l D T (A0 0) (Z0 0) t3 et3) (cwV 0 hts gX4_ask_X2_canReply rfl rfl rfl hdV_X2_canReply ⟨Nat.le_of_ble_eq_true rfl, Nat.le_of_ble_eq_true rfl⟩) ⟨PB_blind, va_recv hK.1 hP (ci := 2) (q0 := 3) rfl rfl, PB_at (hP.sub (ws' := stW T (A0 0) (Z0 0)) [3, 4, 5, 6, 7, 8, 9, 10, 11, 12, 13] rfl) hK⟩ rfl rfl hl.1 rfl (lv_room (Nat.le_of_ble_eq_true rfl)) dX4_ask_26 ⟨Nat.zero_le _, Nat.zero_le _⟩) ?_
    refine lv_if_ne (tgt := 42) hx hb dX4_ask_29 (by decide) (fun c4 => ?_) (fun c4 => ?_)
    · replace h := im c4 h
      refine lv_aload_n hx hb dX4_ask_42 rfl (lv_at hl 0 rfl) ?_
      refine va_get (D := D) (ci := 4) (v := .ref (A0 6 1)) (C := RX4) (T := TX4) (N := 3) hx hb hts inX4_ask_4 hown hK.1 hP 0 rfl rfl 1 (by decide) (hts (.fieldLink RX4 19 "LyingScale" "history" "LLyingScale$History;") (List.mem_of_getElem? (i := 6) rfl)) (fun _ h9 => h9) rfl dX4_ask_43 ?_
      refine lv_aload_n hx hb dX4_ask_46 rfl (lv_at hl 0 rfl) ?_
      refine va_get (D := D) (ci := 4) (v := .ref (A0 0 0)) (C := RX4) (T := TX4) (N := 3) hx hb hts inX4_ask_4 hown hK.1 hP 0 rfl rfl 0 (by decide) (hts (.fieldLink RX4 12 "LyingScale" "now" "LLyingScale$State;") (List.mem_of_getElem? (i := 5) rfl)) (fun _ h9 => h9) rfl dX4_ask_47 ?_
      replace h := bd h
      obtain ⟨t5, et5, h⟩ := h
      refine callEv (va_runV (As := [.ref (A0 0 0)]) (rest := []) ⟨hx, hb, hml, hown, hts⟩ (c_X0_save l D T h0 A0 Z0 _ t5 et5) (cwV 1 hts gX4_ask_X0_save rfl rfl rfl hdV_X0_save ⟨Nat.le_of_ble_eq_true rfl, Nat.le_of_ble_eq_true rfl⟩) ⟨PM_blind, va_recv hK.1 hP (ci := 0) (q0 := 1) rfl rfl, PM_at hP hD hK⟩ rfl rfl hl.1 rfl (lv_room (Nat.le_of_ble_eq_true rfl)) dX4_ask_50 ⟨Nat.zero_le _, Nat.zero_le _⟩) hS hA hP hD (fun u6 H locs hP hD hS => ?_)
      refine lv_aload_n hx hb dX4_ask_53 rfl (lv_at hl 0 rfl) ?_
      refine va_get (D := D) (ci := 4) (v := .ref (u6 0 0)) (C := RX4) (T := TX4) (N := 3) hx hb hts inX4_ask_4 hown hK.1 hP 0 rfl rfl 0 (by decide) (hts (.fieldLink RX4 12 "LyingScale" "now" "LLyingScale$State;") (List.mem_of_getElem? (i := 5) rfl)) (fun _ h9 => h9) rfl dX4_ask_54 ?_
      refine lv_iload_n hx hb dX4_ask_57 rfl (lv_at hl 1 rfl) ?_
      refine lv_iload_n hx hb dX4_ask_58 rfl (lv_at hl 2 rfl) ?_
      replace h := bd h
      obtain ⟨t7, et7, h⟩ := h
      refine callMi (wr := [(h0, .inr (4, [.ref (u6 0 0), .ref (u6 6 1), .ref (u6 5 0)])), (u6 6 1, .inr (0, [.ref (u6 6 2), .int ((t5 6).1 0)])), (u6 6 2, .inl (T 3, 4, .inr (.inr (.inr (.inr (hsQ u6)))))), (u6 1 0, .inr (2, [.ref (u6 1 1), .ref (u6 1 2), .ref (u6 1 3), .ref (u6 1 4), .int ((t5 1).1 0), .int ((t5 1).1 1), .int ((t5 1).1 2), .int ((t5 1).1 3), .int ((t5 1).1 4)])), (u6 1 1, .inr (3, [.ref (u6 1 5), .ref (u6 1 6), .ref (u6 1 7), .int ((t5 1).1 5)])), (u6 1 2, .inr (3, [.ref (u6 1 8), .ref (u6 1 9), .ref (u6 1 10), .int ((t5 1).1 6)])), (u6 1 3, .inl (T 0, 33, .inl ((t5 1).2 6))), (u6 1 4, .inl (T 0, 33, .inl ((t5 1).2 7))), (u6 1 5, .inl (T 0, 40, .inl ((t5 1).2 0))), (u6 1 6, .inl (T 0, 40, .inl ((t5 1).2 1))), (u6 1 7, .inl (T 0, 40, .inl ((t5 1).2 2))), (u6 1 8, .inl (T 0, 8, .inl ((t5 1).2 3))), (u6 1 9, .inl (T 0, 8, .inl ((t5 1).2 4))), (u6 1 10, .inl (T 0, 8, .inl ((t5 1).2 5))), (u6 2 0, .inr (2, [.ref (u6 2 1), .ref (u6 2 2), .ref (u6 2 3), .ref (u6 2 4), .int ((t5 2).1 0), .int ((t5 2).1 1), .int ((t5 2).1 2), .int ((t5 2).1 3), .int ((t5 2).1 4)])), (u6 2 1, .inr (3, [.ref (u6 2 5), .ref (u6 2 6), .ref (u6 2 7), .int ((t5 2).1 5)])), (u6 2 2, .inr (3, [.ref (u6 2 8), .ref (u6 2 9), .ref (u6 2 10), .int ((t5 2).1 6)])), (u6 2 3, .inl (T 0, 33, .inl ((t5 2).2 6))), (u6 2 4, .inl (T 0, 33, .inl ((t5 2).2 7))), (u6 2 5, .inl (T 0, 40, .inl ((t5 2).2 0))), (u6 2 6, .inl (T 0, 40, .inl ((t5 2).2 1))), (u6 2 7, .inl (T 0, 40, .inl ((t5 2).2 2))), (u6 2 8, .inl (T 0, 8, .inl ((t5 2).2 3))), (u6 2 9, .inl (T 0, 8, .inl ((t5 2).2 4))), (u6 2 10, .inl (T 0, 8, .inl ((t5 2).2 5))), (u6 3 0, .inr (2, [.ref (u6 3 1), .ref (u6 3 2), .ref (u6 3 3), .ref (u6 3 4), .int ((t5 3).1 0), .int ((t5 3).1 1), .int ((t5 3).1 2), .int ((t5 3).1 3), .int ((t5 3).1 4)])), (u6 3 1, .inr (3, [.ref (u6 3 5), .ref (u6 3 6), .ref (u6 3 7), .int ((t5 3).1 5)])), (u6 3 2, .inr (3, [.ref (u6 3 8), .ref (u6 3 9), .ref (u6 3 10), .int ((t5 3).1 6)])), (u6 3 3, .inl (T 0, 33, .inl ((t5 3).2 6))), (u6 3 4, .inl (T 0, 33, .inl ((t5 3).2 7))), (u6 3 5, .inl (T 0, 40, .inl ((t5 3).2 0))), (u6 3 6, .inl (T 0, 40, .inl ((t5 3).2 1))), (u6 3 7, .inl (T 0, 40, .inl ((t5 3).2 2))), (u6 3 8, .inl (T 0, 8, .inl ((t5 3).2 3))), (u6 3 9, .inl (T 0, 8, .inl ((t5 3).2 4))), (u6 3 10, .inl (T 0, 8, .inl ((t5 3).2 5))), (u6 4 0, .inr (2, [.ref (u6 4 1), .ref (u6 4 2), .ref (u6 4 3), .ref (u6 4 4), .int ((t5 4).1 0), .int ((t5 4).1 1), .int ((t5 4).1 2), .int ((t5 4).1 3), .int ((t5 4).1 4)])), (u6 4 1, .inr (3, [.ref (u6 4 5), .ref (u6 4 6), .ref (u6 4 7), .int ((t5 4).1 5)])), (u6 4 2, .inr (3, [.ref (u6 4 8), .ref (u6 4 9), .ref (u6 4 10), .int ((t5 4).1 6)])), (u6 4 3, .inl (T 0, 33, .inl ((t5 4).2 6))), (u6 4 4, .inl (T 0, 33, .inl ((t5 4).2 7))), (u6 4 5, .inl (T 0, 40, .inl ((t5 4).2 0))), (u6 4 6, .inl (T 0, 40, .inl ((t5 4).2 1))), (u6 4 7, .inl (T 0, 40, .inl ((t5 4).2 2))), (u6 4 8, .inl (T 0, 8, .inl ((t5 4).2 3))), (u6 4 9, .inl (T 0, 8, .inl ((t5 4).2 4))), (u6 4 10, .inl (T 0, 8, .inl ((t5 4).2 5))), (u6 5 0, .inr (1, [.ref (u6 5 1), .ref (u6 5 2), .ref (u6 5 3), .ref (u6 5 4), .int ((t5 5).1 0), .int ((t5 5).1 1), .int ((t5 5).1 2), .int ((t5 5).1 3), .int ((t5 5).1 4)])), (u6 5 1, .inl (T 0, 100, .inl ((t5 5).2 0))), (u6 5 2, .inl (T 0, 20, .inl ((t5 5).2 1))), (u6 5 3, .inl (T 0, 20, .inl ((t5 5).2 2))), (u6 5 4, .inl (T 0, 20, .inl ((t5 5).2 3)))]) (ws' := scW T h0 u6 (zU t5 0 t7.2)) (va_runV (As := [.int v1, .int v2]) (rest := []) ⟨hx, hb, hml, hown, hts⟩ (c_X2_reply l D T (u6 0) (t5 0) v1 v2 _ t7 et7) (cwV 2 hts gX4_ask_X2_reply rfl rfl rfl hdV_X2_reply ⟨Nat.le_of_ble_eq_true rfl, Nat.le_of_ble_eq_true rfl⟩) ⟨PM_blind, va_recv hK.1 hP (ci := 2) (q0 := 3) rfl rfl, PM_at (hP.sub (ws' := stW T (u6 0) (t5 0)) [3, 4, 5, 6, 7, 8, 9, 10, 11, 12, 13] rfl) (hD.sub (ws' := stW T (u6 0) (t5 0)) [3, 4, 5, 6, 7, 8, 9, 10, 11, 12, 13] (by decide) rfl) hK⟩ rfl rfl hl.1 rfl (lv_room (Nat.le_of_ble_eq_true rfl)) dX4_ask_59 ⟨Nat.zero_le _, Nat.zero_le _⟩) hS hA hP hD [3, 4, 5, 6, 7, 8, 9, 10, 11, 12, 13] [0, 1, 2, 14, 15, 16, 17, 18, 19, 20, 21, 22, 23, 24, 25, 26, 27, 28, 29, 30, 31, 32, 33, 34, 35, 36, 37, 38, 39, 40, 41, 42, 43, 44, 45, 46, 47, 48, 49, 50, 51, 52, 53, 54, 55, 56, 57, 58, 59, 60, 61, 62] rfl rfl (by decide) (by decide) [0, 1, 2, 52, 53, 54, 55, 56, 57, 58, 59, 60, 61, 62, 3, 4, 5, 6, 7, 8, 9, 10, 11, 12, 13, 14, 15, 16, 17, 18, 19, 20, 21, 22, 23, 24, 25, 26, 27, 28, 29, 30, 31, 32, 33, 34, 35, 36, 37, 38, 39, 40, 41, 42, 43, 44, 45, 46, 47, 48, 49, 50, 51] (by decide) rfl (fun H locs hP hD hS => ?_)
      obtain rfl := Option.some.inj h
      exact W.iret hx hb hr (fun t ht hW => ⟨⟨_, u6, rfl, rfl, by rw [ht]; exact hP, hD⟩, hS.F ht⟩) hS.2.2 dX4_ask_62 hlocks
    replace h := ip c4 h
    cases h
  replace h := ip c2 h
  cases h
set_option maxHeartbeats 4000000 in
set_option maxRecDepth 100000 in
theorem c_X4_lies (l : Launch) (D : va_G) (T : Nat → ClassId) (h0 : Nat) (A0 : Nat → Nat → Nat) (Z0 : Nat → St) (v1 : Int32) (sz : Nat) (r : Int32 × (Nat → St)) (h : F_X4_lies Z0 v1 = some r) : Met l yX4_lies wsX4_lies ({ frames := 6, cells := 0, slots := 0, locals := 82 } : Room) (va_Pc [.ref h0, .int v1] (PM D T (scW T h0 A0 (Z0)) sz)) (QEi D (scW T h0) r.1 r.2 (va_A (scW T h0 A0 (Z0)) sz)) 0 0 (va_A (scW T h0 A0 (Z0)) sz) := by
  refine met_of (cc := cX4_lies) (maxL := 2) (ret := (some .int)) (lv := [(0, .ref h0), (1, .int v1)]) (by decide) rfl (Nat.le_of_ble_eq_true rfl) rfl ?_
  intro p e s m args below meth c ls C0 hl hB
  obtain ⟨hx, hb, hr, hml, hown, hts, hlocks, hname⟩ := C0
  obtain ⟨hsz, hP, hK, hD0⟩ := hB
  subst hsz
  have hD := hD0.self (sz := s.heap.size)
  generalize hAe : va_A (scW T h0 A0 (Z0)) s.heap.size = A at hD ⊢
  have hA : ∀ q : Nat, s.heap.size ≤ q → A q := fun q h => by rw [← hAe]; exact Or.inr h
  have hS : va_S A s.heap s.heap [] := va_S.rf
  unfold F_X4_lies at h
  refine lv_aload_n hx hb dX4_lies_0 rfl (lv_at hl 0 rfl) ?_
  refine va_get (D := D) (ci := 4) (v := .ref (A0 0 0)) (C := RX4) (T := TX4) (N := 3) hx hb hts inX4_lies_4 hown hK.1 hP 0 rfl rfl 0 (by decide) (hts (.fieldLink RX4 12 "LyingScale" "now" "LLyingScale$State;") (List.mem_of_getElem? (i := 3) rfl)) (fun _ h9 => h9) rfl dX4_lies_1 ?_
  refine lv_iload_n hx hb dX4_lies_4 rfl (lv_at hl 1 rfl) ?_
  replace h := bd h
  obtain ⟨t1, et1, h⟩ := h
  refine callRi (v := t1) (va_runV (As := [.int v1]) (rest := []) ⟨hx, hb, hml, hown, hts⟩ (c_X2_isCase l D T (A0 0) (Z0 0) v1 t1 et1) (cwV 1 hts gX4_lies_X2_isCase rfl rfl rfl hdV_X2_isCase ⟨Nat.le_of_ble_eq_true rfl, Nat.le_of_ble_eq_true rfl⟩) ⟨PB_blind, va_recv hK.1 hP (ci := 2) (q0 := 3) rfl rfl, PB_at (hP.sub (ws' := stW T (A0 0) (Z0 0)) [3, 4, 5, 6, 7, 8, 9, 10, 11, 12, 13] rfl) hK⟩ rfl rfl hl.1 rfl (lv_room (Nat.le_of_ble_eq_true rfl)) dX4_lies_5 ⟨Nat.zero_le _, Nat.zero_le _⟩) ?_
  refine lv_if_ne (tgt := 21) hx hb dX4_lies_8 (by decide) (fun c2 => ?_) (fun c2 => ?_)
  · replace h := im c2 h
    refine lv_aload_n hx hb dX4_lies_21 rfl (lv_at hl 0 rfl) ?_
    refine va_get (D := D) (ci := 4) (v := .ref (A0 0 0)) (C := RX4) (T := TX4) (N := 3) hx hb hts inX4_lies_4 hown hK.1 hP 0 rfl rfl 0 (by decide) (hts (.fieldLink RX4 12 "LyingScale" "now" "LLyingScale$State;") (List.mem_of_getElem? (i := 3) rfl)) (fun _ h9 => h9) rfl dX4_lies_22 ?_
    refine va_getN (D := D) (ci := 2) (v := .ref (A0 0 3)) (C := RX2) (T := TX2) (N := 9) hx hb hts inX4_lies_2 hown hK.1 hP 3 rfl rfl 2 (by decide) (va_Nw.use rfl (hK.2 (.fieldLinkNest RX4 133 "LyingScale$State" "liesOf" "[I" "LyingScale") (List.mem_of_getElem? (i := 0) rfl))) (fun _ h9 => h9) rfl dX4_lies_25 ?_
    refine lv_iload_n hx hb dX4_lies_28 rfl (lv_at hl 1 rfl) ?_
    replace h := bd h
    obtain ⟨t3, et3, h⟩ := h
    refine callRi (v := t3) (va_runS (As := [.ref (A0 0 3), .int v1]) (rest := []) ⟨hx, hb, hml, hown, hts⟩ (c_X4_at l D T (A0 0 3) 33 ((Z0 0).2 6) v1 (Nat.le_of_ble_eq_true rfl) t3 et3) (va_cwS 2 hts gX4_lies_X4_at rfl rfl rfl hdS_X4_at ⟨Nat.le_of_ble_eq_true rfl, Nat.le_of_ble_eq_true rfl⟩) ⟨PB_blind, PB_at (hP.sub (ws' := ([(A0 0 3, .inl (T 0, 33, .inl ((Z0 0).2 6)))] : va_W)) [6] rfl) hK⟩ rfl rfl hl.1 rfl (lv_room (Nat.le_of_ble_eq_true rfl)) dX4_lies_29 ⟨Nat.zero_le _, Nat.zero_le _⟩) ?_
    obtain rfl := Option.some.inj h
    exact W.iret hx hb hr (fun t ht hW => ⟨⟨_, A0, rfl, rfl, by rw [ht]; exact hP, hD⟩, hS.F ht⟩) hS.2.2 dX4_lies_32 hlocks
  replace h := ip c2 h
  cases h
set_option maxHeartbeats 4000000 in
set_option maxRecDepth 100000 in
theorem c_X4_value (l : Launch) (D : va_G) (T : Nat → ClassId) (h0 : Nat) (A0 : Nat → Nat → Nat) (Z0 : Nat → St) (v1 : Int32) (sz : Nat) (r : Int32 × (Nat → St)) (h : F_X4_value Z0 v1 = some r) : Met l yX4_value wsX4_value ({ frames := 6, cells := 0, slots := 0, locals := 85 } : Room) (va_Pc [.ref h0, .int v1] (PM D T (scW T h0 A0 (Z0)) sz)) (QEi D (scW T h0) r.1 r.2 (va_A (scW T h0 A0 (Z0)) sz)) 0 0 (va_A (scW T h0 A0 (Z0)) sz) := by
  refine met_of (cc := cX4_value) (maxL := 2) (ret := (some .int)) (lv := [(0, .ref h0), (1, .int v1)]) (by decide) rfl (Nat.le_of_ble_eq_true rfl) rfl ?_
  intro p e s m args below meth c ls C0 hl hB
  obtain ⟨hx, hb, hr, hml, hown, hts, hlocks, hname⟩ := C0
  obtain ⟨hsz, hP, hK, hD0⟩ := hB
  subst hsz
  have hD := hD0.self (sz := s.heap.size)
  generalize hAe : va_A (scW T h0 A0 (Z0)) s.heap.size = A at hD ⊢
  have hA : ∀ q : Nat, s.heap.size ≤ q → A q := fun q h => by rw [← hAe]; exact Or.inr h
  have hS : va_S A s.heap s.heap [] := va_S.rf
  unfold F_X4_value at h
  refine lv_iload_n hx hb dX4_value_0 rfl (lv_at hl 1 rfl) ?_
  refine lv_if_lt (tgt := 10) hx hb dX4_value_1 (by decide) (fun c1 => ?_) (fun c1 => ?_)
  · replace h := ip c1 h
    cases h
  replace h := im c1 h
  refine lv_iload_n hx hb dX4_value_4 rfl (lv_at hl 1 rfl) ?_
  refine lv_bipush (v := 9) hx hb dX4_value_5 (by decide) ?_
  refine lv_icmp_lt (tgt := 20) hx hb dX4_value_7 (by decide) (fun c2 => ?_) (fun c2 => ?_)
  · replace h := ip c2 h
    refine lv_aload_n hx hb dX4_value_20 rfl (lv_at hl 0 rfl) ?_
    refine va_get (D := D) (ci := 4) (v := .ref (A0 0 0)) (C := RX4) (T := TX4) (N := 3) hx hb hts inX4_value_4 hown hK.1 hP 0 rfl rfl 0 (by decide) (hts (.fieldLink RX4 12 "LyingScale" "now" "LLyingScale$State;") (List.mem_of_getElem? (i := 3) rfl)) (fun _ h9 => h9) rfl dX4_value_21 ?_
    refine lv_iload_n hx hb dX4_value_24 rfl (lv_at hl 1 rfl) ?_
    replace h := bd h
    obtain ⟨t3, et3, h⟩ := h
    refine callRi (v := t3) (va_runV (As := [.int v1]) (rest := []) ⟨hx, hb, hml, hown, hts⟩ (c_X2_number l D T (A0 0) (Z0 0) v1 t3 et3) (cwV 1 hts gX4_value_X2_number rfl rfl rfl hdV_X2_number ⟨Nat.le_of_ble_eq_true rfl, Nat.le_of_ble_eq_true rfl⟩) ⟨PB_blind, va_recv hK.1 hP (ci := 2) (q0 := 3) rfl rfl, PB_at (hP.sub (ws' := stW T (A0 0) (Z0 0)) [3, 4, 5, 6, 7, 8, 9, 10, 11, 12, 13] rfl) hK⟩ rfl rfl hl.1 rfl (lv_room (Nat.le_of_ble_eq_true rfl)) dX4_value_25 ⟨Nat.zero_le _, Nat.zero_le _⟩) ?_
    obtain rfl := Option.some.inj h
    exact W.iret hx hb hr (fun t ht hW => ⟨⟨_, A0, rfl, rfl, by rw [ht]; exact hP, hD⟩, hS.F ht⟩) hS.2.2 dX4_value_28 hlocks
  replace h := im c2 h
  cases h
set_option maxHeartbeats 4000000 in
set_option maxRecDepth 100000 in
theorem c_X4_weight (l : Launch) (D : va_G) (T : Nat → ClassId) (h0 : Nat) (A0 : Nat → Nat → Nat) (Z0 : Nat → St) (v1 : Int32) (sz : Nat) (r : Int64 × (Nat → St)) (h : F_X4_weight Z0 v1 = some r) : Met l yX4_weight wsX4_weight ({ frames := 6, cells := 0, slots := 0, locals := 96 } : Room) (va_Pc [.ref h0, .int v1] (PM D T (scW T h0 A0 (Z0)) sz)) (QEl D (scW T h0) r.1 r.2 (va_A (scW T h0 A0 (Z0)) sz)) 0 0 (va_A (scW T h0 A0 (Z0)) sz) := by
  refine met_of (cc := cX4_weight) (maxL := 2) (ret := (some .long)) (lv := [(0, .ref h0), (1, .int v1)]) (by decide) rfl (Nat.le_of_ble_eq_true rfl) rfl ?_
  intro p e s m args below meth c ls C0 hl hB
  obtain ⟨hx, hb, hr, hml, hown, hts, hlocks, hname⟩ := C0
  obtain ⟨hsz, hP, hK, hD0⟩ := hB
  subst hsz
  have hD := hD0.self (sz := s.heap.size)
  generalize hAe : va_A (scW T h0 A0 (Z0)) s.heap.size = A at hD ⊢
  have hA : ∀ q : Nat, s.heap.size ≤ q → A q := fun q h => by rw [← hAe]; exact Or.inr h
  have hS : va_S A s.heap s.heap [] := va_S.rf
  unfold F_X4_weight at h
  refine lv_iload_n hx hb dX4_weight_0 rfl (lv_at hl 1 rfl) ?_
  replace h := bd h
  obtain ⟨t1, et1, h⟩ := h
  refine callRi (v := t1) (va_runS (As := [.int v1]) (rest := []) ⟨hx, hb, hml, hown, hts⟩ (c_X4_isAhead l D T v1 t1 et1) (va_cwS 1 hts gX4_weight_X4_isAhead rfl rfl rfl hdS_X4_isAhead ⟨Nat.le_of_ble_eq_true rfl, Nat.le_of_ble_eq_true rfl⟩) ⟨PB_blind, PB_at (hP.sub (ws' := ([] : va_W)) [] rfl) hK⟩ rfl rfl hl.1 rfl (lv_room (Nat.le_of_ble_eq_true rfl)) dX4_weight_1 ⟨Nat.zero_le _, Nat.zero_le _⟩) ?_
  refine lv_if_ne (tgt := 17) hx hb dX4_weight_4 (by decide) (fun c2 => ?_) (fun c2 => ?_)
  · replace h := im c2 h
    refine lv_aload_n hx hb dX4_weight_17 rfl (lv_at hl 0 rfl) ?_
    refine va_get (D := D) (ci := 4) (v := .ref (A0 0 0)) (C := RX4) (T := TX4) (N := 3) hx hb hts inX4_weight_4 hown hK.1 hP 0 rfl rfl 0 (by decide) (hts (.fieldLink RX4 12 "LyingScale" "now" "LLyingScale$State;") (List.mem_of_getElem? (i := 3) rfl)) (fun _ h9 => h9) rfl dX4_weight_18 ?_
    refine lv_iload_n hx hb dX4_weight_21 rfl (lv_at hl 1 rfl) ?_
    replace h := bd h
    obtain ⟨t3, et3, h⟩ := h
    refine callRl (v := t3) (va_runV (As := [.int v1]) (rest := []) ⟨hx, hb, hml, hown, hts⟩ (c_X2_weightAhead l D T (A0 0) (Z0 0) v1 t3 et3) (cwV 1 hts gX4_weight_X2_weightAhead rfl rfl rfl hdV_X2_weightAhead ⟨Nat.le_of_ble_eq_true rfl, Nat.le_of_ble_eq_true rfl⟩) ⟨PB_blind, va_recv hK.1 hP (ci := 2) (q0 := 3) rfl rfl, PB_at (hP.sub (ws' := stW T (A0 0) (Z0 0)) [3, 4, 5, 6, 7, 8, 9, 10, 11, 12, 13] rfl) hK⟩ rfl rfl hl.1 rfl (lv_room (Nat.le_of_ble_eq_true rfl)) dX4_weight_22 ⟨Nat.zero_le _, Nat.zero_le _⟩) ?_
    obtain rfl := Option.some.inj h
    exact W.lret hx hb hr (fun t ht hW => ⟨⟨_, A0, rfl, rfl, by rw [ht]; exact hP, hD⟩, hS.F ht⟩) hS.2.2 dX4_weight_25 hlocks
  replace h := ip c2 h
  cases h
set_option maxHeartbeats 4000000 in
set_option maxRecDepth 100000 in
theorem c_X4_bound (l : Launch) (D : va_G) (T : Nat → ClassId) (h0 : Nat) (A0 : Nat → Nat → Nat) (Z0 : Nat → St) (sz : Nat) (r : Int32 × (Nat → St)) (h : F_X4_bound Z0 = some r) : Met l yX4_bound wsX4_bound ({ frames := 4, cells := 0, slots := 0, locals := 96 } : Room) (va_Pc [.ref h0] (PM D T (scW T h0 A0 (Z0)) sz)) (QEi D (scW T h0) r.1 r.2 (va_A (scW T h0 A0 (Z0)) sz)) 0 0 (va_A (scW T h0 A0 (Z0)) sz) := by
  refine met_of (cc := cX4_bound) (maxL := 4) (ret := (some .int)) (lv := [(0, .ref h0)]) (by decide) rfl (Nat.le_of_ble_eq_true rfl) rfl ?_
  intro p e s m args below meth c ls C0 hl hB
  obtain ⟨hx, hb, hr, hml, hown, hts, hlocks, hname⟩ := C0
  obtain ⟨hsz, hP, hK, hD0⟩ := hB
  subst hsz
  have hD := hD0.self (sz := s.heap.size)
  generalize hAe : va_A (scW T h0 A0 (Z0)) s.heap.size = A at hD ⊢
  have hA : ∀ q : Nat, s.heap.size ≤ q → A q := fun q h => by rw [← hAe]; exact Or.inr h
  have hS : va_S A s.heap s.heap [] := va_S.rf
  unfold F_X4_bound at h
  refine lv_lconst (v := 1) hx hb dX4_bound_0 (by decide) ?_
  refine lv_lstore_n (lv' := [(1, .long 1), (0, .ref h0)]) hx hb dX4_bound_1 rfl hl (by decide) rfl (fun ls hl => ?_)
  refine lv_iconst (v := 0) hx hb dX4_bound_2 (by decide) ?_
  refine lv_istore_n (lv' := [(3, .int 0), (1, .long 1), (0, .ref h0)]) hx hb dX4_bound_3 rfl hl (by decide) rfl (fun ls hl => ?_)
  have K4 : ∀ (n4 : Nat) (i1_4 : Int64) (i3_4 : Int32) (H : Heap) (locs : List Loc) (ls : Array Slot), fx2 (B_X4_bound_4 Z0) n4 i1_4 i3_4 = some r → va_P D vwCl (scW T h0 A0 (Z0)) H → va_D A (scW T h0 A0 (Z0)) → va_S A s.heap H locs → lv_has ls 4 [(0, .ref h0), (1, .long i1_4), (3, .int i3_4)] → W p l e ({ frames := 4, cells := 0, slots := 0, locals := 96 } : Room) s m args below meth c H locs 0 0 (MQ below (QEi D (scW T h0) r.1 r.2 A) args s 0 0 A) (F0 m 4 ls []) := by
    intro n4
    induction n4 with
    | zero =>
        intro i1_4 i3_4 H locs ls h
        cases h
    | succ n4 ih4 =>
        intro i1_4 i3_4 H locs ls h hP hD hS hl
        replace h : B_X4_bound_4 Z0 (fx2 (B_X4_bound_4 Z0) n4) i1_4 i3_4 = some r := h
        unfold B_X4_bound_4 at h
        refine lv_iload_n hx hb dX4_bound_4 rfl (lv_at hl 2 rfl) ?_
        refine lv_bipush (v := 20) hx hb dX4_bound_5 (by decide) ?_
        refine lv_icmp_gt (tgt := 37) hx hb dX4_bound_7 (by decide) (fun c1 => ?_) (fun c1 => ?_)
        · replace h := ip c1 h
          refine lv_iconst (v := (-1)) hx hb dX4_bound_37 (by decide) ?_
          obtain rfl := Option.some.inj h
          exact W.iret hx hb hr (fun t ht hW => ⟨⟨_, A0, rfl, rfl, by rw [ht]; exact hP, hD⟩, hS.F ht⟩) hS.2.2 dX4_bound_38 hlocks
        replace h := im c1 h
        refine lv_aload_n hx hb dX4_bound_10 rfl (lv_at hl 0 rfl) ?_
        refine va_get (D := D) (ci := 4) (v := .ref (A0 0 0)) (C := RX4) (T := TX4) (N := 3) hx hb hts inX4_bound_4 hown hK.1 hP 0 rfl rfl 0 (by decide) (hts (.fieldLink RX4 12 "LyingScale" "now" "LLyingScale$State;") (List.mem_of_getElem? (i := 1) rfl)) (fun _ h9 => h9) rfl dX4_bound_11 ?_
        refine lv_iload_n hx hb dX4_bound_14 rfl (lv_at hl 2 rfl) ?_
        replace h := bd h
        obtain ⟨t2, et2, h⟩ := h
        refine callRl (v := t2) (va_runV (As := [.int i3_4]) (rest := []) ⟨hx, hb, hml, hown, hts⟩ (c_X2_weightAhead l D T (A0 0) (Z0 0) i3_4 t2 et2) (cwV 1 hts gX4_bound_X2_weightAhead rfl rfl rfl hdV_X2_weightAhead ⟨Nat.le_of_ble_eq_true rfl, Nat.le_of_ble_eq_true rfl⟩) ⟨PB_blind, va_recv hK.1 hP (ci := 2) (q0 := 3) rfl rfl, PB_at (hP.sub (ws' := stW T (A0 0) (Z0 0)) [3, 4, 5, 6, 7, 8, 9, 10, 11, 12, 13] rfl) hK⟩ rfl rfl hl.1 rfl (lv_room (Nat.le_of_ble_eq_true rfl)) dX4_bound_15 ⟨Nat.zero_le _, Nat.zero_le _⟩) ?_
        refine lv_lload_n hx hb dX4_bound_18 rfl (lv_at hl 1 rfl) ?_
        refine W.lcmp hx hb dX4_bound_19 ?_
        refine lv_if_gt (tgt := 25) hx hb dX4_bound_20 (by decide) (fun c3 => ?_) (fun c3 => ?_)
        · replace h := ip c3 h
          refine lv_lload_n hx hb dX4_bound_25 rfl (lv_at hl 1 rfl) ?_
          refine lv_ldc2 hx hb hown (hts (.constantLong RX4 170 (3)) (List.mem_of_getElem? (i := 2) rfl)) dX4_bound_26 ?_
          refine lv_lmul hx hb dX4_bound_29 ?_
          refine lv_lstore_n (lv' := [(1, .long (i1_4 * 3)), (0, .ref h0), (3, .int i3_4)]) hx hb dX4_bound_30 rfl hl (by decide) rfl (fun ls hl => ?_)
          refine lv_iinc (v := i3_4 + 1) (lv' := [(3, .int (i3_4 + 1)), (1, .long (i1_4 * 3)), (0, .ref h0)]) hx hb dX4_bound_31 hl (k := 2) rfl rfl (by decide) rfl (fun ls hl => ?_)
          refine lv_goto (tgt := 4) hx hb dX4_bound_34 (by decide) ?_
          exact ih4 (i1_4 * 3) (i3_4 + 1) _ _ ls h hP hD hS (lv_sub hl [2, 1, 0] rfl)
        replace h := im c3 h
        refine lv_iload_n hx hb dX4_bound_23 rfl (lv_at hl 2 rfl) ?_
        obtain rfl := Option.some.inj h
        exact W.iret hx hb hr (fun t ht hW => ⟨⟨_, A0, rfl, rfl, by rw [ht]; exact hP, hD⟩, hS.F ht⟩) hS.2.2 dX4_bound_24 hlocks
  exact K4 1000 1 0 _ _ ls h hP hD hS (lv_sub hl [2, 1, 0] rfl)
set_option maxHeartbeats 4000000 in
set_option maxRecDepth 100000 in
theorem c_X4_weightBehind (l : Launch) (D : va_G) (T : Nat → ClassId) (h0 : Nat) (A0 : Nat → Nat → Nat) (Z0 : Nat → St) (v1 : Int32) (v2 : Int32) (v3 : Int32) (v4 : Int32) (sz : Nat) (r : Int64 × (Nat → St)) (h : F_X4_weightBehind Z0 v1 v2 v3 v4 = some r) : Met l yX4_weightBehind wsX4_weightBehind ({ frames := 6, cells := 0, slots := 0, locals := 99 } : Room) (va_Pc [.ref h0, .int v1, .int v2, .int v3, .int v4] (PM D T (scW T h0 A0 (Z0)) sz)) (QEl D (scW T h0) r.1 r.2 (va_A (scW T h0 A0 (Z0)) sz)) 0 0 (va_A (scW T h0 A0 (Z0)) sz) := by
  refine met_of (cc := cX4_weightBehind) (maxL := 5) (ret := (some .long)) (lv := [(0, .ref h0), (1, .int v1), (2, .int v2), (3, .int v3), (4, .int v4)]) (by decide) rfl (Nat.le_of_ble_eq_true rfl) rfl ?_
  intro p e s m args below meth c ls C0 hl hB
  obtain ⟨hx, hb, hr, hml, hown, hts, hlocks, hname⟩ := C0
  obtain ⟨hsz, hP, hK, hD0⟩ := hB
  subst hsz
  have hD := hD0.self (sz := s.heap.size)
  generalize hAe : va_A (scW T h0 A0 (Z0)) s.heap.size = A at hD ⊢
  have hA : ∀ q : Nat, s.heap.size ≤ q → A q := fun q h => by rw [← hAe]; exact Or.inr h
  have hS : va_S A s.heap s.heap [] := va_S.rf
  unfold F_X4_weightBehind at h
  refine lv_aload_n hx hb dX4_weightBehind_0 rfl (lv_at hl 0 rfl) ?_
  refine va_get (D := D) (ci := 4) (v := .ref (A0 0 0)) (C := RX4) (T := TX4) (N := 3) hx hb hts inX4_weightBehind_4 hown hK.1 hP 0 rfl rfl 0 (by decide) (hts (.fieldLink RX4 12 "LyingScale" "now" "LLyingScale$State;") (List.mem_of_getElem? (i := 3) rfl)) (fun _ h9 => h9) rfl dX4_weightBehind_1 ?_
  refine lv_iload_n hx hb dX4_weightBehind_4 rfl (lv_at hl 1 rfl) ?_
  refine lv_iload_n hx hb dX4_weightBehind_5 rfl (lv_at hl 2 rfl) ?_
  replace h := bd h
  obtain ⟨t1, et1, h⟩ := h
  refine callRi (v := t1) (va_runV (As := [.int v1, .int v2]) (rest := []) ⟨hx, hb, hml, hown, hts⟩ (c_X2_isWeighing l D T (A0 0) (Z0 0) v1 v2 t1 et1) (cwV 2 hts gX4_weightBehind_X2_isWeighing rfl rfl rfl hdV_X2_isWeighing ⟨Nat.le_of_ble_eq_true rfl, Nat.le_of_ble_eq_true rfl⟩) ⟨PB_blind, va_recv hK.1 hP (ci := 2) (q0 := 3) rfl rfl, PB_at (hP.sub (ws' := stW T (A0 0) (Z0 0)) [3, 4, 5, 6, 7, 8, 9, 10, 11, 12, 13] rfl) hK⟩ rfl rfl hl.1 rfl (lv_room (Nat.le_of_ble_eq_true rfl)) dX4_weightBehind_6 ⟨Nat.zero_le _, Nat.zero_le _⟩) ?_
  refine lv_if_eq (tgt := 27) hx hb dX4_weightBehind_9 (by decide) (fun c2 => ?_) (fun c2 => ?_)
  · replace h := ip c2 h
    cases h
  replace h := im c2 h
  refine lv_iload_n hx hb dX4_weightBehind_12 rfl (lv_at hl 3 rfl) ?_
  replace h := bd h
  obtain ⟨t3, et3, h⟩ := h
  refine callRi (v := t3) (va_runS (As := [.int v3]) (rest := []) ⟨hx, hb, hml, hown, hts⟩ (c_X4_isAnswer l D T v3 t3 et3) (va_cwS 1 hts gX4_weightBehind_X4_isAnswer rfl rfl rfl hdS_X4_isAnswer ⟨Nat.le_of_ble_eq_true rfl, Nat.le_of_ble_eq_true rfl⟩) ⟨PB_blind, PB_at (hP.sub (ws' := ([] : va_W)) [] rfl) hK⟩ rfl rfl hl.1 rfl (lv_room (Nat.le_of_ble_eq_true rfl)) dX4_weightBehind_13 ⟨Nat.zero_le _, Nat.zero_le _⟩) ?_
  refine lv_if_eq (tgt := 27) hx hb dX4_weightBehind_16 (by decide) (fun c4 => ?_) (fun c4 => ?_)
  · replace h := ip c4 h
    cases h
  replace h := im c4 h
  refine lv_iload hx hb dX4_weightBehind_19 (lv_at hl 4 rfl) ?_
  replace h := bd h
  obtain ⟨t5, et5, h⟩ := h
  refine callRi (v := t5) (va_runS (As := [.int v4]) (rest := []) ⟨hx, hb, hml, hown, hts⟩ (c_X4_isAhead l D T v4 t5 et5) (va_cwS 1 hts gX4_weightBehind_X4_isAhead rfl rfl rfl hdS_X4_isAhead ⟨Nat.le_of_ble_eq_true rfl, Nat.le_of_ble_eq_true rfl⟩) ⟨PB_blind, PB_at (hP.sub (ws' := ([] : va_W)) [] rfl) hK⟩ rfl rfl hl.1 rfl (lv_room (Nat.le_of_ble_eq_true rfl)) dX4_weightBehind_21 ⟨Nat.zero_le _, Nat.zero_le _⟩) ?_
  refine lv_if_ne (tgt := 37) hx hb dX4_weightBehind_24 (by decide) (fun c6 => ?_) (fun c6 => ?_)
  · replace h := im c6 h
    refine lv_aload_n hx hb dX4_weightBehind_37 rfl (lv_at hl 0 rfl) ?_
    refine va_get (D := D) (ci := 4) (v := .ref (A0 0 0)) (C := RX4) (T := TX4) (N := 3) hx hb hts inX4_weightBehind_4 hown hK.1 hP 0 rfl rfl 0 (by decide) (hts (.fieldLink RX4 12 "LyingScale" "now" "LLyingScale$State;") (List.mem_of_getElem? (i := 3) rfl)) (fun _ h9 => h9) rfl dX4_weightBehind_38 ?_
    refine lv_iload_n hx hb dX4_weightBehind_41 rfl (lv_at hl 1 rfl) ?_
    refine lv_iload_n hx hb dX4_weightBehind_42 rfl (lv_at hl 2 rfl) ?_
    refine lv_iload_n hx hb dX4_weightBehind_43 rfl (lv_at hl 3 rfl) ?_
    refine lv_iload hx hb dX4_weightBehind_44 (lv_at hl 4 rfl) ?_
    replace h := bd h
    obtain ⟨t7, et7, h⟩ := h
    refine callRl (v := t7) (va_runV (As := [.int v1, .int v2, .int v3, .int v4]) (rest := []) ⟨hx, hb, hml, hown, hts⟩ (c_X2_weightIfTold l D T (A0 0) (Z0 0) v1 v2 v3 v4 t7 et7) (cwV 4 hts gX4_weightBehind_X2_weightIfTold rfl rfl rfl hdV_X2_weightIfTold ⟨Nat.le_of_ble_eq_true rfl, Nat.le_of_ble_eq_true rfl⟩) ⟨PB_blind, va_recv hK.1 hP (ci := 2) (q0 := 3) rfl rfl, PB_at (hP.sub (ws' := stW T (A0 0) (Z0 0)) [3, 4, 5, 6, 7, 8, 9, 10, 11, 12, 13] rfl) hK⟩ rfl rfl hl.1 rfl (lv_room (Nat.le_of_ble_eq_true rfl)) dX4_weightBehind_46 ⟨Nat.zero_le _, Nat.zero_le _⟩) ?_
    obtain rfl := Option.some.inj h
    exact W.lret hx hb hr (fun t ht hW => ⟨⟨_, A0, rfl, rfl, by rw [ht]; exact hP, hD⟩, hS.F ht⟩) hS.2.2 dX4_weightBehind_49 hlocks
  replace h := ip c6 h
  cases h
set_option maxHeartbeats 4000000 in
set_option maxRecDepth 100000 in
theorem c_X4_undo (l : Launch) (D : va_G) (T : Nat → ClassId) (h0 : Nat) (A0 : Nat → Nat → Nat) (Z0 : Nat → St) (sz : Nat) (r : Int32 × (Nat → St)) (h : F_X4_undo Z0 = some r) : Met l yX4_undo wsX4_undo ({ frames := 6, cells := 0, slots := 0, locals := 108 } : Room) (va_Pc [.ref h0] (PM D T (scW T h0 A0 (Z0)) sz)) (QEi D (scW T h0) r.1 r.2 (va_A (scW T h0 A0 (Z0)) sz)) 0 0 (va_A (scW T h0 A0 (Z0)) sz) := by
  refine met_of (cc := cX4_undo) (maxL := 1) (ret := (some .int)) (lv := [(0, .ref h0)]) (by decide) rfl (Nat.le_of_ble_eq_true rfl) rfl ?_
  intro p e s m args below meth c ls C0 hl hB
  obtain ⟨hx, hb, hr, hml, hown, hts, hlocks, hname⟩ := C0
  obtain ⟨hsz, hP, hK, hD0⟩ := hB
  subst hsz
  have hD := hD0.self (sz := s.heap.size)
  generalize hAe : va_A (scW T h0 A0 (Z0)) s.heap.size = A at hD ⊢
  have hA : ∀ q : Nat, s.heap.size ≤ q → A q := fun q h => by rw [← hAe]; exact Or.inr h
  have hS : va_S A s.heap s.heap [] := va_S.rf
  unfold F_X4_undo at h
  refine lv_aload_n hx hb dX4_undo_0 rfl (lv_at hl 0 rfl) ?_
  refine va_get (D := D) (ci := 4) (v := .ref (A0 6 1)) (C := RX4) (T := TX4) (N := 3) hx hb hts inX4_undo_4 hown hK.1 hP 0 rfl rfl 1 (by decide) (hts (.fieldLink RX4 19 "LyingScale" "history" "LLyingScale$History;") (List.mem_of_getElem? (i := 3) rfl)) (fun _ h9 => h9) rfl dX4_undo_1 ?_
  refine va_getN (D := D) (ci := 0) (v := .int ((Z0 6).1 0)) (C := RX0) (T := TX0) (N := 2) hx hb hts inX4_undo_0 hown hK.1 hP 1 rfl rfl 1 (by decide) (va_Nw.use rfl (hK.2 (.fieldLinkNest RX4 234 "LyingScale$History" "count" "I" "LyingScale") (List.mem_of_getElem? (i := 1) rfl))) (fun _ h9 => h9) rfl dX4_undo_4 ?_
  refine lv_if_ne (tgt := 20) hx hb dX4_undo_7 (by decide) (fun c1 => ?_) (fun c1 => ?_)
  · replace h := im c1 h
    refine lv_aload_n hx hb dX4_undo_20 rfl (lv_at hl 0 rfl) ?_
    refine va_get (D := D) (ci := 4) (v := .ref (A0 6 1)) (C := RX4) (T := TX4) (N := 3) hx hb hts inX4_undo_4 hown hK.1 hP 0 rfl rfl 1 (by decide) (hts (.fieldLink RX4 19 "LyingScale" "history" "LLyingScale$History;") (List.mem_of_getElem? (i := 3) rfl)) (fun _ h9 => h9) rfl dX4_undo_21 ?_
    refine lv_aload_n hx hb dX4_undo_24 rfl (lv_at hl 0 rfl) ?_
    refine va_get (D := D) (ci := 4) (v := .ref (A0 0 0)) (C := RX4) (T := TX4) (N := 3) hx hb hts inX4_undo_4 hown hK.1 hP 0 rfl rfl 0 (by decide) (hts (.fieldLink RX4 12 "LyingScale" "now" "LLyingScale$State;") (List.mem_of_getElem? (i := 4) rfl)) (fun _ h9 => h9) rfl dX4_undo_25 ?_
    replace h := bd h
    obtain ⟨t2, et2, h⟩ := h
    refine callEv (va_runV (As := [.ref (A0 0 0)]) (rest := []) ⟨hx, hb, hml, hown, hts⟩ (c_X0_restore l D T h0 A0 Z0 _ t2 et2) (cwV 1 hts gX4_undo_X0_restore rfl rfl rfl hdV_X0_restore ⟨Nat.le_of_ble_eq_true rfl, Nat.le_of_ble_eq_true rfl⟩) ⟨PM_blind, va_recv hK.1 hP (ci := 0) (q0 := 1) rfl rfl, PM_at hP hD hK⟩ rfl rfl hl.1 rfl (lv_room (Nat.le_of_ble_eq_true rfl)) dX4_undo_28 ⟨Nat.zero_le _, Nat.zero_le _⟩) hS hA hP hD (fun u3 H locs hP hD hS => ?_)
    refine lv_aload_n hx hb dX4_undo_31 rfl (lv_at hl 0 rfl) ?_
    refine va_get (D := D) (ci := 4) (v := .ref (u3 6 1)) (C := RX4) (T := TX4) (N := 3) hx hb hts inX4_undo_4 hown hK.1 hP 0 rfl rfl 1 (by decide) (hts (.fieldLink RX4 19 "LyingScale" "history" "LLyingScale$History;") (List.mem_of_getElem? (i := 3) rfl)) (fun _ h9 => h9) rfl dX4_undo_32 ?_
    refine va_getN (D := D) (ci := 0) (v := .int ((t2 6).1 0)) (C := RX0) (T := TX0) (N := 2) hx hb hts inX4_undo_0 hown hK.1 hP 1 rfl rfl 1 (by decide) (va_Nw.use rfl (hK.2 (.fieldLinkNest RX4 234 "LyingScale$History" "count" "I" "LyingScale") (List.mem_of_getElem? (i := 1) rfl))) (fun _ h9 => h9) rfl dX4_undo_35 ?_
    obtain rfl := Option.some.inj h
    exact W.iret hx hb hr (fun t ht hW => ⟨⟨_, u3, rfl, rfl, by rw [ht]; exact hP, hD⟩, hS.F ht⟩) hS.2.2 dX4_undo_38 hlocks
  replace h := ip c1 h
  cases h
end
section
/-! methods with a table, a call that throws -/
def NC (U : State) : Prop := ∀ a ∈ exCls, ∀ b ∈ exCls, a ≠ b → va_Nc a b U
theorem NC.warm {s U : State} (hW : s.WarmedH U.vm) (h : NC s) : NC U := fun a ha b hb n => va_Nc.moved hW.alike (h a ha b hb n)
theorem NC.calling {U : State} {g : JFrame} {mk : MethodId} {a : Array Value} (h : NC U) : NC (U.calling g mk a) := fun x hx y hy n => va_Nc.moved (u := U) (U := U.calling g mk a) (Vm.Alike.refl U.vm) (h x hx y hy n)
def PW (D : va_G) (T : Nat → ClassId) (wc : va_W) (sz : Nat) (U : State) : Prop := PM D T wc sz U ∧ EXF (va_A wc sz) U ∧ NC U
theorem PW_blind {D : va_G} {T : Nat → ClassId} {wc : va_W} {sz : Nat} {av : List Value} : FrameBlind (va_Pc av (PW D T wc sz)) := fun _ _ _ _ q => ⟨q.1, ⟨q.2.1.1, q.2.1.2.1, q.2.1.2.2.1.calling, q.2.1.2.2.2⟩, q.2.2.1.calling, q.2.2.2.calling⟩
theorem PW_at {D : va_G} {T : Nat → ClassId} {wc : va_W} {av : List Value} {s : State} {H : Heap} {locs : List Loc} {A A0 : Nat → Prop} (hP : va_P D vwCl wc H) (hD : va_D A wc) (hK : KK D T s) (hE : EXF A0 s) (hN : NC s) (hS : va_S A0 s.heap H locs) (hAB : ∀ q, va_A wc H.size q → A0 q) : ∀ U : State, U.heap = H → s.WarmedH U.vm → va_Pc av (PW D T wc H.size) av.toArray U := fun U hU hW => ⟨rfl, ⟨by rw [hU], by rw [hU]; exact hP, hK.warm hW, hD.weaken (fun _ _ _ _ => trivial)⟩, hE.at hS hAB hU hW, hN.warm hW⟩
theorem met_ofH {l : Launch} {y : MethodName} {ws ws' : List Cond} {rm : Room} {av : List Value} {B : State → Prop} {Qc : Array Value → State → Outcome → State → Prop} {mc ms : Nat} {free : Addr → Prop} {cc : ByteArray} {maxL : Nat} {ret : Option FieldType} {hh : List (Nat × Nat × Nat × Nat)} {lv : List (Nat × Value)}
    (hy : plainName y.cls = true) (hw : ws = Cond.codeWith y cc maxL ret hh :: ws') (hn : (lg_sl av).length ≤ maxL) (hlv : lv_args 0 av = lv)
    (body : ∀ (p : Program) (e : Env) (s : State) (m : MethodId) (args : Array Value) (below : List Frame) (meth : Method) (c : Code) (ls : Array Slot), CX p s m args meth c cc maxL ret ws y → c.exceptionTable.toList = tableOf hh → lv_has ls maxL lv → B s →
      W p l e rm s m args below meth c s.heap [] 0 0 (MQ below Qc args s mc ms free) (F0 m 0 ls [])) : Met l y ws rm (va_Pc av B) Qc mc ms free := by
  refine MetFree.of_bodyS (code := cc) (maxLocals := maxL) (ret := ret) hy ?_ ?_
  · intro args s m h hn
    obtain ⟨m9, meth, c, hn9, h1, h2, h3, h4, -, h5, h6, -⟩ := Cond.codeWith_spec (atoms_spec (ws := ws) h _ (by rw [hw]; exact List.mem_cons_self))
    cases hn.symm.trans hn9
    exact ⟨meth, c, h1, h2, h3, h4, h5, h6⟩
  · intro p e s m args below meth c s₁ C0 hml hv _
    have hh0 : s₁.heap = s.heap := by rw [C0.state]; rfl
    obtain ⟨rfl, hB⟩ := hv
    have hl := lv_entry av (n := maxL) hn
    rw [hlv] at hl
    have K := body p e s m _ below meth c _ ⟨C0.exec, C0.bytes, C0.returns, hml, findClass_of_methodNamed C0.named, atoms_spec (ws := ws) C0.pre, C0.notSynchronized, (name_of_methodNamed C0.named C0.method).1⟩ (vx_table (x := y) C0 (atoms_spec (ws := ws) C0.pre _ (by rw [hw]; exact List.mem_cons_self))) hl hB
    rw [← lg_entry_eq] at K
    obtain ⟨t, a1, o, b1, b2, b3⟩ := K s₁ hh0 (Stand.of_body C0)
    exact ⟨t, o, a1, b1, b2, ⟨b3.1, b3.2⟩⟩
def F_T4_ask (Z0 : Nat → St) (v1 : Int32) (v2 : Int32) : Option (Sum String (Int32 × (Nat → St))) :=
  (F_X2_isWeighing (Z0 0) v1 v2).bind fun t1 => if t1 = 0 then (some (.inl "java/lang/IllegalArgumentException")) else ((F_X2_canReply (Z0 0)).bind fun t3 => if t3 = 0 then (some (.inl "java/lang/IllegalStateException")) else ((F_X0_save Z0).bind fun t5 => (F_X2_reply (t5 0) v1 v2).bind fun t7 => some (.inr (t7.1, zU t5 0 t7.2))))
theorem atmX4_ask_34 : ∀ w ∈ (vx_atS RX4 34 "java/lang/IllegalArgumentException" ["java/lang/RuntimeException", "java/lang/Exception"]).filter goodWord, w ∈ wsX4_ask := fun w h => by
  unfold wsX4_ask
  refine List.mem_cons_of_mem _ ?_
  first | exact List.mem_append_right _ h | exact List.mem_append_left _ (List.mem_append_right _ h) | exact List.mem_append_left _ (List.mem_append_left _ (List.mem_append_right _ h))
theorem atmX4_ask_82 : ∀ w ∈ (vx_atS RX4 82 "java/lang/IllegalStateException" ["java/lang/RuntimeException", "java/lang/Exception"]).filter goodWord, w ∈ wsX4_ask := fun w h => by
  unfold wsX4_ask
  refine List.mem_cons_of_mem _ ?_
  first | exact List.mem_append_right _ h | exact List.mem_append_left _ (List.mem_append_right _ h) | exact List.mem_append_left _ (List.mem_append_left _ (List.mem_append_right _ h))
set_option maxHeartbeats 4000000 in
set_option maxRecDepth 100000 in
theorem cx_X4_ask (l : Launch) (hfl : l.stackTraces = false) (D : va_G) (T : Nat → ClassId) (h0 : Nat) (A0 : Nat → Nat → Nat) (Z0 : Nat → St) (v1 : Int32) (v2 : Int32) (sz : Nat) (r : Sum String (Int32 × (Nat → St))) (h : F_T4_ask Z0 v1 v2 = some r) : vx_Met l yX4_ask wsX4_ask ({ frames := 6, cells := 1, slots := 6, locals := 116 } : Room) (va_Pc [.ref h0, .int v1, .int v2] (PX D T (scW T h0 A0 (Z0)) sz)) (QXi D (scW T h0) r (va_A (scW T h0 A0 (Z0)) sz)) (XXq r) 1 6 (va_A (scW T h0 A0 (Z0)) sz) := by
  refine met_ofX (cc := cX4_ask) (maxL := 3) (ret := (some .int)) (lv := [(0, .ref h0), (1, .int v1), (2, .int v2)]) (by decide) rfl (Nat.le_of_ble_eq_true rfl) rfl ?_
  intro p e s m args below meth c ls C0 hno hl hB
  obtain ⟨hx, hb, hr, hml, hown, hts, hlocks, hname⟩ := C0
  obtain ⟨⟨hsz, hP, hK, hD0⟩, hE⟩ := hB
  subst hsz
  have hD := hD0.self (sz := s.heap.size)
  generalize hAe : va_A (scW T h0 A0 (Z0)) s.heap.size = A at hD hE ⊢
  have hA : ∀ q : Nat, s.heap.size ≤ q → A q := fun q h => by rw [← hAe]; exact Or.inr h
  have hS : va_S A s.heap s.heap [] := va_S.rf
  unfold F_T4_ask at h
  refine lv_aload_n hx hb dX4_ask_0 rfl (lv_at hl 0 rfl) ?_
  refine va_get (D := D) (ci := 4) (v := .ref (A0 0 0)) (C := RX4) (T := TX4) (N := 3) hx hb hts inX4_ask_4 hown hK.1 hP 0 rfl rfl 0 (by decide) (hts (.fieldLink RX4 12 "LyingScale" "now" "LLyingScale$State;") (List.mem_of_getElem? (i := 5) rfl)) (fun _ h9 => h9) rfl dX4_ask_1 ?_
  refine lv_iload_n hx hb dX4_ask_4 rfl (lv_at hl 1 rfl) ?_
  refine lv_iload_n hx hb dX4_ask_5 rfl (lv_at hl 2 rfl) ?_
  replace h := bd h
  obtain ⟨t1, et1, h⟩ := h
  refine callRi (v := t1) (va_runV (As := [.int v1, .int v2]) (rest := []) ⟨hx, hb, hml, hown, hts⟩ (c_X2_isWeighing l D T (A0 0) (Z0 0) v1 v2 t1 et1) (cwV 2 hts gX4_ask_X2_isWeighing rfl rfl rfl hdV_X2_isWeighing ⟨Nat.le_of_ble_eq_true rfl, Nat.le_of_ble_eq_true rfl⟩) ⟨PB_blind, va_recv hK.1 hP (ci := 2) (q0 := 3) rfl rfl, PB_at (hP.sub (ws' := stW T (A0 0) (Z0 0)) [3, 4, 5, 6, 7, 8, 9, 10, 11, 12, 13] rfl) hK⟩ rfl rfl hl.1 rfl (lv_room (Nat.le_of_ble_eq_true rfl)) dX4_ask_6 ⟨Nat.zero_le _, Nat.zero_le _⟩) ?_
  refine lv_if_ne (tgt := 22) hx hb dX4_ask_9 (by decide) (fun c2 => ?_) (fun c2 => ?_)
  · replace h := im c2 h
    refine lv_aload_n hx hb dX4_ask_22 rfl (lv_at hl 0 rfl) ?_
    refine va_get (D := D) (ci := 4) (v := .ref (A0 0 0)) (C := RX4) (T := TX4) (N := 3) hx hb hts inX4_ask_4 hown hK.1 hP 0 rfl rfl 0 (by decide) (hts (.fieldLink RX4 12 "LyingScale" "now" "LLyingScale$State;") (List.mem_of_getElem? (i := 5) rfl)) (fun _ h9 => h9) rfl dX4_ask_23 ?_
    replace h := bd h
    obtain ⟨t3, et3, h⟩ := h
    refine callRi (v := t3) (va_runV (As := []) (rest := []) ⟨hx, hb, hml, hown, hts⟩ (c_X2_canReply l D T (A0 0) (Z0 0) t3 et3) (cwV 0 hts gX4_ask_X2_canReply rfl rfl rfl hdV_X2_canReply ⟨Nat.le_of_ble_eq_true rfl, Nat.le_of_ble_eq_true rfl⟩) ⟨PB_blind, va_recv hK.1 hP (ci := 2) (q0 := 3) rfl rfl, PB_at (hP.sub (ws' := stW T (A0 0) (Z0 0)) [3, 4, 5, 6, 7, 8, 9, 10, 11, 12, 13] rfl) hK⟩ rfl rfl hl.1 rfl (lv_room (Nat.le_of_ble_eq_true rfl)) dX4_ask_26 ⟨Nat.zero_le _, Nat.zero_le _⟩) ?_
    refine lv_if_ne (tgt := 42) hx hb dX4_ask_29 (by decide) (fun c4 => ?_) (fun c4 => ?_)
    · replace h := im c4 h
      refine lv_aload_n hx hb dX4_ask_42 rfl (lv_at hl 0 rfl) ?_
      refine va_get (D := D) (ci := 4) (v := .ref (A0 6 1)) (C := RX4) (T := TX4) (N := 3) hx hb hts inX4_ask_4 hown hK.1 hP 0 rfl rfl 1 (by decide) (hts (.fieldLink RX4 19 "LyingScale" "history" "LLyingScale$History;") (List.mem_of_getElem? (i := 6) rfl)) (fun _ h9 => h9) rfl dX4_ask_43 ?_
      refine lv_aload_n hx hb dX4_ask_46 rfl (lv_at hl 0 rfl) ?_
      refine va_get (D := D) (ci := 4) (v := .ref (A0 0 0)) (C := RX4) (T := TX4) (N := 3) hx hb hts inX4_ask_4 hown hK.1 hP 0 rfl rfl 0 (by decide) (hts (.fieldLink RX4 12 "LyingScale" "now" "LLyingScale$State;") (List.mem_of_getElem? (i := 5) rfl)) (fun _ h9 => h9) rfl dX4_ask_47 ?_
      replace h := bd h
      obtain ⟨t5, et5, h⟩ := h
      refine callEv (va_runV (As := [.ref (A0 0 0)]) (rest := []) ⟨hx, hb, hml, hown, hts⟩ (c_X0_save l D T h0 A0 Z0 _ t5 et5) (cwV 1 hts gX4_ask_X0_save rfl rfl rfl hdV_X0_save ⟨Nat.le_of_ble_eq_true rfl, Nat.le_of_ble_eq_true rfl⟩) ⟨PM_blind, va_recv hK.1 hP (ci := 0) (q0 := 1) rfl rfl, PM_at hP hD hK⟩ rfl rfl hl.1 rfl (lv_room (Nat.le_of_ble_eq_true rfl)) dX4_ask_50 ⟨Nat.zero_le _, Nat.zero_le _⟩) hS hA hP hD (fun u6 H locs hP hD hS => ?_)
      refine lv_aload_n hx hb dX4_ask_53 rfl (lv_at hl 0 rfl) ?_
      refine va_get (D := D) (ci := 4) (v := .ref (u6 0 0)) (C := RX4) (T := TX4) (N := 3) hx hb hts inX4_ask_4 hown hK.1 hP 0 rfl rfl 0 (by decide) (hts (.fieldLink RX4 12 "LyingScale" "now" "LLyingScale$State;") (List.mem_of_getElem? (i := 5) rfl)) (fun _ h9 => h9) rfl dX4_ask_54 ?_
      refine lv_iload_n hx hb dX4_ask_57 rfl (lv_at hl 1 rfl) ?_
      refine lv_iload_n hx hb dX4_ask_58 rfl (lv_at hl 2 rfl) ?_
      replace h := bd h
      obtain ⟨t7, et7, h⟩ := h
      refine callMi (wr := [(h0, .inr (4, [.ref (u6 0 0), .ref (u6 6 1), .ref (u6 5 0)])), (u6 6 1, .inr (0, [.ref (u6 6 2), .int ((t5 6).1 0)])), (u6 6 2, .inl (T 3, 4, .inr (.inr (.inr (.inr (hsQ u6)))))), (u6 1 0, .inr (2, [.ref (u6 1 1), .ref (u6 1 2), .ref (u6 1 3), .ref (u6 1 4), .int ((t5 1).1 0), .int ((t5 1).1 1), .int ((t5 1).1 2), .int ((t5 1).1 3), .int ((t5 1).1 4)])), (u6 1 1, .inr (3, [.ref (u6 1 5), .ref (u6 1 6), .ref (u6 1 7), .int ((t5 1).1 5)])), (u6 1 2, .inr (3, [.ref (u6 1 8), .ref (u6 1 9), .ref (u6 1 10), .int ((t5 1).1 6)])), (u6 1 3, .inl (T 0, 33, .inl ((t5 1).2 6))), (u6 1 4, .inl (T 0, 33, .inl ((t5 1).2 7))), (u6 1 5, .inl (T 0, 40, .inl ((t5 1).2 0))), (u6 1 6, .inl (T 0, 40, .inl ((t5 1).2 1))), (u6 1 7, .inl (T 0, 40, .inl ((t5 1).2 2))), (u6 1 8, .inl (T 0, 8, .inl ((t5 1).2 3))), (u6 1 9, .inl (T 0, 8, .inl ((t5 1).2 4))), (u6 1 10, .inl (T 0, 8, .inl ((t5 1).2 5))), (u6 2 0, .inr (2, [.ref (u6 2 1), .ref (u6 2 2), .ref (u6 2 3), .ref (u6 2 4), .int ((t5 2).1 0), .int ((t5 2).1 1), .int ((t5 2).1 2), .int ((t5 2).1 3), .int ((t5 2).1 4)])), (u6 2 1, .inr (3, [.ref (u6 2 5), .ref (u6 2 6), .ref (u6 2 7), .int ((t5 2).1 5)])), (u6 2 2, .inr (3, [.ref (u6 2 8), .ref (u6 2 9), .ref (u6 2 10), .int ((t5 2).1 6)])), (u6 2 3, .inl (T 0, 33, .inl ((t5 2).2 6))), (u6 2 4, .inl (T 0, 33, .inl ((t5 2).2 7))), (u6 2 5, .inl (T 0, 40, .inl ((t5 2).2 0))), (u6 2 6, .inl (T 0, 40, .inl ((t5 2).2 1))), (u6 2 7, .inl (T 0, 40, .inl ((t5 2).2 2))), (u6 2 8, .inl (T 0, 8, .inl ((t5 2).2 3))), (u6 2 9, .inl (T 0, 8, .inl ((t5 2).2 4))), (u6 2 10, .inl (T 0, 8, .inl ((t5 2).2 5))), (u6 3 0, .inr (2, [.ref (u6 3 1), .ref (u6 3 2), .ref (u6 3 3), .ref (u6 3 4), .int ((t5 3).1 0), .int ((t5 3).1 1), .int ((t5 3).1 2), .int ((t5 3).1 3), .int ((t5 3).1 4)])), (u6 3 1, .inr (3, [.ref (u6 3 5), .ref (u6 3 6), .ref (u6 3 7), .int ((t5 3).1 5)])), (u6 3 2, .inr (3, [.ref (u6 3 8), .ref (u6 3 9), .ref (u6 3 10), .int ((t5 3).1 6)])), (u6 3 3, .inl (T 0, 33, .inl ((t5 3).2 6))), (u6 3 4, .inl (T 0, 33, .inl ((t5 3).2 7))), (u6 3 5, .inl (T 0, 40, .inl ((t5 3).2 0))), (u6 3 6, .inl (T 0, 40, .inl ((t5 3).2 1))), (u6 3 7, .inl (T 0, 40, .inl ((t5 3).2 2))), (u6 3 8, .inl (T 0, 8, .inl ((t5 3).2 3))), (u6 3 9, .inl (T 0, 8, .inl ((t5 3).2 4))), (u6 3 10, .inl (T 0, 8, .inl ((t5 3).2 5))), (u6 4 0, .inr (2, [.ref (u6 4 1), .ref (u6 4 2), .ref (u6 4 3), .ref (u6 4 4), .int ((t5 4).1 0), .int ((t5 4).1 1), .int ((t5 4).1 2), .int ((t5 4).1 3), .int ((t5 4).1 4)])), (u6 4 1, .inr (3, [.ref (u6 4 5), .ref (u6 4 6), .ref (u6 4 7), .int ((t5 4).1 5)])), (u6 4 2, .inr (3, [.ref (u6 4 8), .ref (u6 4 9), .ref (u6 4 10), .int ((t5 4).1 6)])), (u6 4 3, .inl (T 0, 33, .inl ((t5 4).2 6))), (u6 4 4, .inl (T 0, 33, .inl ((t5 4).2 7))), (u6 4 5, .inl (T 0, 40, .inl ((t5 4).2 0))), (u6 4 6, .inl (T 0, 40, .inl ((t5 4).2 1))), (u6 4 7, .inl (T 0, 40, .inl ((t5 4).2 2))), (u6 4 8, .inl (T 0, 8, .inl ((t5 4).2 3))), (u6 4 9, .inl (T 0, 8, .inl ((t5 4).2 4))), (u6 4 10, .inl (T 0, 8, .inl ((t5 4).2 5))), (u6 5 0, .inr (1, [.ref (u6 5 1), .ref (u6 5 2), .ref (u6 5 3), .ref (u6 5 4), .int ((t5 5).1 0), .int ((t5 5).1 1), .int ((t5 5).1 2), .int ((t5 5).1 3), .int ((t5 5).1 4)])), (u6 5 1, .inl (T 0, 100, .inl ((t5 5).2 0))), (u6 5 2, .inl (T 0, 20, .inl ((t5 5).2 1))), (u6 5 3, .inl (T 0, 20, .inl ((t5 5).2 2))), (u6 5 4, .inl (T 0, 20, .inl ((t5 5).2 3)))]) (ws' := scW T h0 u6 (zU t5 0 t7.2)) (va_runV (As := [.int v1, .int v2]) (rest := []) ⟨hx, hb, hml, hown, hts⟩ (c_X2_reply l D T (u6 0) (t5 0) v1 v2 _ t7 et7) (cwV 2 hts gX4_ask_X2_reply rfl rfl rfl hdV_X2_reply ⟨Nat.le_of_ble_eq_true rfl, Nat.le_of_ble_eq_true rfl⟩) ⟨PM_blind, va_recv hK.1 hP (ci := 2) (q0 := 3) rfl rfl, PM_at (hP.sub (ws' := stW T (u6 0) (t5 0)) [3, 4, 5, 6, 7, 8, 9, 10, 11, 12, 13] rfl) (hD.sub (ws' := stW T (u6 0) (t5 0)) [3, 4, 5, 6, 7, 8, 9, 10, 11, 12, 13] (by decide) rfl) hK⟩ rfl rfl hl.1 rfl (lv_room (Nat.le_of_ble_eq_true rfl)) dX4_ask_59 ⟨Nat.zero_le _, Nat.zero_le _⟩) hS hA hP hD [3, 4, 5, 6, 7, 8, 9, 10, 11, 12, 13] [0, 1, 2, 14, 15, 16, 17, 18, 19, 20, 21, 22, 23, 24, 25, 26, 27, 28, 29, 30, 31, 32, 33, 34, 35, 36, 37, 38, 39, 40, 41, 42, 43, 44, 45, 46, 47, 48, 49, 50, 51, 52, 53, 54, 55, 56, 57, 58, 59, 60, 61, 62] rfl rfl (by decide) (by decide) [0, 1, 2, 52, 53, 54, 55, 56, 57, 58, 59, 60, 61, 62, 3, 4, 5, 6, 7, 8, 9, 10, 11, 12, 13, 14, 15, 16, 17, 18, 19, 20, 21, 22, 23, 24, 25, 26, 27, 28, 29, 30, 31, 32, 33, 34, 35, 36, 37, 38, 39, 40, 41, 42, 43, 44, 45, 46, 47, 48, 49, 50, 51] (by decide) rfl (fun H locs hP hD hS => ?_)
      obtain rfl := Option.some.inj h
      refine vx_ret ?_
      refine W.widen (k := 1) (n := 6) (Nat.zero_le _) (Nat.zero_le _) ?_
      exact W.iret hx hb hr (fun t ht hW => ⟨⟨_, (u6, zU t5 0 t7.2), rfl, rfl, by rw [ht]; exact hP, hD⟩, hS.F ht⟩) hS.2.2 dX4_ask_62 hlocks
    replace h := ip c4 h
    obtain rfl := Option.some.inj h
    obtain ⟨sa, hsa⟩ := hE.2.2.1 (111, "the scale cannot answer") (List.mem_of_getElem? (i := 4) rfl)
    exact vx_throwS (A := A) (names := exNm) (ik := 78) (is := 111) (ic := 82) (sa := sa) hx hb hfl hown (by decide +kernel) exFit (hts (.classLink RX4 78 "java/lang/IllegalStateException") (List.mem_of_getElem? (i := 3) rfl)) (hts (.initialized "java/lang/IllegalStateException") (List.mem_of_getElem? (i := 4) rfl)) hsa (vx_hat (fun w hw => hts w (atmX4_ask_82 w hw)) bad_82 (exB82 hE.2.2.2)) ot_82 hE.1 hE.2.1 hS (hl.1.trans hml.symm) dX4_ask_32 dX4_ask_35 dX4_ask_36 dX4_ask_38 dX4_ask_41 (fun x hx => (hno x hx).elim) (Nat.le_of_ble_eq_true rfl) (Nat.le_of_ble_eq_true rfl) (Nat.le_of_ble_eq_true rfl) (Nat.le_of_ble_eq_true rfl) hlocks (fun t hv hz hk => ⟨(), trivial, rfl, hz, fun q hq _ => hk q hq⟩) hS.2.2 (Nat.le_of_ble_eq_true rfl) (Nat.le_of_ble_eq_true rfl)
  replace h := ip c2 h
  obtain rfl := Option.some.inj h
  obtain ⟨sa, hsa⟩ := hE.2.2.1 (106, "no weighing") (List.mem_of_getElem? (i := 3) rfl)
  exact vx_throwS (A := A) (names := exNm) (ik := 30) (is := 106) (ic := 34) (sa := sa) hx hb hfl hown (by decide +kernel) exFit (hts (.classLink RX4 30 "java/lang/IllegalArgumentException") (List.mem_of_getElem? (i := 1) rfl)) (hts (.initialized "java/lang/IllegalArgumentException") (List.mem_of_getElem? (i := 2) rfl)) hsa (vx_hat (fun w hw => hts w (atmX4_ask_34 w hw)) bad_34 (exB34 hE.2.2.2)) ot_34 hE.1 hE.2.1 hS (hl.1.trans hml.symm) dX4_ask_12 dX4_ask_15 dX4_ask_16 dX4_ask_18 dX4_ask_21 (fun x hx => (hno x hx).elim) (Nat.le_of_ble_eq_true rfl) (Nat.le_of_ble_eq_true rfl) (Nat.le_of_ble_eq_true rfl) (Nat.le_of_ble_eq_true rfl) hlocks (fun t hv hz hk => ⟨(), trivial, rfl, hz, fun q hq _ => hk q hq⟩) hS.2.2 (Nat.le_of_ble_eq_true rfl) (Nat.le_of_ble_eq_true rfl)
def T_L_asks (Z0 : ZT) (v1 v2 : Int32) : Option Int32 :=
  (F_T4_ask Z0 v1 v2).bind fun t => match t with
    | .inl E => if E = "java/lang/IllegalArgumentException" then some (-2000001) else if E = "java/lang/IllegalStateException" then some (-2000002) else none
    | .inr _ => none
set_option maxHeartbeats 4000000 in
set_option maxRecDepth 100000 in
theorem cx_L_asks (l : Launch) (hfl : l.stackTraces = false) (D : va_G) (T : Nat → ClassId) (h0 : Nat) (A0 : AT) (Z0 : ZT) (v1 v2 : Int32) (sz : Nat) (r : Int32) (h : T_L_asks Z0 v1 v2 = some r) : Met l yL_asks wsL_asks ({ frames := 7, cells := 1, slots := 6, locals := 138 } : Room) (va_Pc [.ref h0, .int v1, .int v2] (PW D T (scW T h0 A0 Z0) sz)) (QEi D (scW T h0) r Z0 (va_A (scW T h0 A0 Z0) sz)) 1 6 (va_A (scW T h0 A0 Z0) sz) := by
  refine met_ofH (cc := cL_asks) (maxL := 4) (ret := (some .int)) (hh := [(0, 6, 7, 15), (0, 6, 11, 18)]) (lv := [(0, .ref h0), (1, .int v1), (2, .int v2)]) (by decide) rfl (Nat.le_of_ble_eq_true rfl) rfl ?_
  intro p e s m args below meth c ls C0 htab hl hB
  obtain ⟨hx, hb, hr, hml, hown, hts, hlocks, hname⟩ := C0
  obtain ⟨⟨hsz, hP, hK, hD0⟩, hE, hNC⟩ := hB
  subst hsz
  have hD := hD0.self (sz := s.heap.size)
  generalize hAe : va_A (scW T h0 A0 Z0) s.heap.size = A at hD hE ⊢
  have hA : ∀ q : Nat, s.heap.size ≤ q → A q := fun q h => by rw [← hAe]; exact Or.inr h
  have hS : va_S A s.heap s.heap [] := va_S.rf
  unfold T_L_asks at h
  refine lv_aload_n hx hb dL_asks_0 rfl (lv_at hl 0 rfl) ?_
  refine lv_iload_n hx hb dL_asks_1 rfl (lv_at hl 1 rfl) ?_
  refine lv_iload_n hx hb dL_asks_2 rfl (lv_at hl 2 rfl) ?_
  replace h := bd h
  obtain ⟨t, et, h⟩ := h
  have hF : ∀ q, va_A (scW T h0 A0 Z0) s.heap.size q → A q := va_self hD hS hA
  refine vx_calli (vx_runV (As := [.int v1, .int v2]) (rest := []) ⟨hx, hb, hml, hown, hts⟩ (cx_X4_ask l hfl D T h0 A0 Z0 v1 v2 _ t et) (cwV 2 hts gL_asks_X4_ask rfl rfl rfl hdV_X4_ask ⟨Nat.le_of_ble_eq_true rfl, Nat.le_of_ble_eq_true rfl⟩) ⟨PX_blind, va_recv hK.1 hP (ci := 4) (q0 := 0) rfl rfl, PX_at hP hD hK hE hS hF⟩ rfl rfl hl.1 rfl (lv_room (Nat.le_of_ble_eq_true rfl)) dL_asks_3 ⟨Nat.le_of_ble_eq_true rfl, Nat.le_of_ble_eq_true rfl⟩) hS (fun q _ h => hF q h) hF (fun q _ h => h.elim) (fun E ce q9 u t9 H locs ht hvm hu hBX hz hk hS hce hcv hcl => ?_) (fun r9 u t9 H locs ht hvm hw hB hz hk hS => ?_)
  · have hP : va_P D vwCl (scW T h0 A0 Z0) H := hP.kept (fun k q hq => hk q.1 (hP k q hq).lt not_false)
    subst hBX
    replace h : (if E = "java/lang/IllegalArgumentException" then some (-2000001) else if E = "java/lang/IllegalStateException" then some (-2000002) else none) = some r := h
    by_cases c0 : E = "java/lang/IllegalArgumentException"
    · subst c0
      replace h := ip rfl h
      obtain rfl := Option.some.inj h
      refine vx_catch (own := RL) (name := "java/lang/IllegalArgumentException") hown [] ⟨0, 6, 7, 15⟩ [⟨0, 6, 11, 18⟩] (by rw [htab]; rfl) (fun z hz => absurd hz List.not_mem_nil) (by decide) (by decide) (hts (.classLink RL 15 "java/lang/IllegalArgumentException") (List.mem_of_getElem? (i := 1) rfl)) (va_Nw.use rfl (hE.2.2.2 (.castable "java/lang/IllegalArgumentException" "java/lang/IllegalArgumentException") (List.mem_of_getElem? (i := 3) rfl))) hce hcv hcl ?_
      refine lv_astore_n (lv' := [(3, .ref q9), (0, .ref h0), (1, .int v1), (2, .int v2)]) hx hb dL_asks_7 rfl hl (by decide) rfl (fun ls hl => ?_)
      refine lv_ldc hx hb hown (hts (.constant RL 17 (-2000001)) (List.mem_of_getElem? (i := 3) rfl)) dL_asks_8 ?_
      exact W.iret hx hb hr (fun t ht2 hW => ⟨⟨_, A0, rfl, rfl, by rw [ht2]; exact hP, hD⟩, hS.F ht2⟩) hS.2.2 dL_asks_10 hlocks
    replace h := im c0 h
    by_cases c1 : E = "java/lang/IllegalStateException"
    · subst c1
      replace h := ip rfl h
      obtain rfl := Option.some.inj h
      refine vx_catch (own := RL) (name := "java/lang/IllegalStateException") hown [⟨0, 6, 7, 15⟩] ⟨0, 6, 11, 18⟩ [] (by rw [htab]; rfl) (fun z hz => by rcases List.mem_singleton.mp hz with rfl; exact Or.inr ⟨by decide, _, (hts (.classLink RL 15 "java/lang/IllegalArgumentException") (List.mem_of_getElem? (i := 1) rfl)), hNC "java/lang/IllegalStateException" (List.mem_of_getElem? (i := 1) rfl) "java/lang/IllegalArgumentException" (List.mem_of_getElem? (i := 0) rfl) (by decide)⟩) (by decide) (by decide) (hts (.classLink RL 18 "java/lang/IllegalStateException") (List.mem_of_getElem? (i := 2) rfl)) (va_Nw.use rfl (hE.2.2.2 (.castable "java/lang/IllegalStateException" "java/lang/IllegalStateException") (List.mem_of_getElem? (i := 4) rfl))) hce hcv hcl ?_
      refine lv_astore_n (lv' := [(3, .ref q9), (0, .ref h0), (1, .int v1), (2, .int v2)]) hx hb dL_asks_11 rfl hl (by decide) rfl (fun ls hl => ?_)
      refine lv_ldc hx hb hown (hts (.constant RL 20 (-2000002)) (List.mem_of_getElem? (i := 4) rfl)) dL_asks_12 ?_
      exact W.iret hx hb hr (fun t ht2 hW => ⟨⟨_, A0, rfl, rfl, by rw [ht2]; exact hP, hD⟩, hS.F ht2⟩) hS.2.2 dL_asks_14 hlocks
    replace h := im c1 h
    cases h
  subst hw
  cases h
end
section
def F_L_asks (Z0 : Nat → St) (v1 : Int32) (v2 : Int32) : Option (Int32 × (Nat → St)) :=
  (F_X4_ask Z0 v1 v2).bind fun t1 => some (t1.1, t1.2)
def F_L_hides (Z0 : Nat → St) (v1 : Int32) (v2 : Int32) : Option (Int32 × (Nat → St)) :=
  (F_X4_hide Z0 v1 v2).bind fun t1 => some (t1.1, t1.2)
def F_L_begins (Z0 : Nat → St) (v1 : Int32) : Option (Int32 × (Nat → St)) :=
  (F_X4_begin Z0 v1).bind fun t1 => some (t1.1, t1.2)
def F_L_limits (Z0 : Nat → St) (v1 : Int32) : Option (Int32 × (Nat → St)) :=
  (F_X4_setLimit Z0 v1).bind fun t1 => some (t1.1, t1.2)
def F_L_undoes (Z0 : Nat → St) : Option (Int32 × (Nat → St)) :=
  (F_X4_undo Z0).bind fun t1 => some (t1.1, t1.2)
def F_L_liesOf (Z0 : Nat → St) (v1 : Int32) : Option (Int32 × (Nat → St)) :=
  (F_X4_lies Z0 v1).bind fun t1 => some (t1.1, t1.2)
def F_L_value (Z0 : Nat → St) (v1 : Int32) : Option (Int32 × (Nat → St)) :=
  (F_X4_value Z0 v1).bind fun t1 => some (t1.1, t1.2)
def F_L_weighs (Z0 : Nat → St) (v1 : Int32) : Option (Int64 × (Nat → St)) :=
  (F_X4_weight Z0 v1).bind fun t1 => some (t1.1, t1.2)
def F_L_behind (Z0 : Nat → St) (v1 : Int32) (v2 : Int32) (v3 : Int32) (v4 : Int32) : Option (Int64 × (Nat → St)) :=
  (F_X4_weightBehind Z0 v1 v2 v3 v4).bind fun t1 => some (t1.1, t1.2)
theorem hdS_L_asks : yL_asks.cls ≠ "java/lang/invoke/MethodHandle" ∧ yL_asks.cls ≠ "java/lang/invoke/VarHandle" ∧ (parseMethodDescriptor yL_asks.desc).map (fun d => d.parameters.length) = some 3 := by decide +kernel
theorem hdV_L_asks : yL_asks.cls = RL ∧ yL_asks.cls ≠ "java/lang/invoke/MethodHandle" ∧ yL_asks.cls ≠ "java/lang/invoke/VarHandle" ∧ (parseMethodDescriptor yL_asks.desc).map (fun d => d.parameters.length) = some 3 := by decide +kernel
theorem hdS_L_hides : yL_hides.cls ≠ "java/lang/invoke/MethodHandle" ∧ yL_hides.cls ≠ "java/lang/invoke/VarHandle" ∧ (parseMethodDescriptor yL_hides.desc).map (fun d => d.parameters.length) = some 3 := by decide +kernel
theorem hdV_L_hides : yL_hides.cls = RL ∧ yL_hides.cls ≠ "java/lang/invoke/MethodHandle" ∧ yL_hides.cls ≠ "java/lang/invoke/VarHandle" ∧ (parseMethodDescriptor yL_hides.desc).map (fun d => d.parameters.length) = some 3 := by decide +kernel
theorem hdS_L_begins : yL_begins.cls ≠ "java/lang/invoke/MethodHandle" ∧ yL_begins.cls ≠ "java/lang/invoke/VarHandle" ∧ (parseMethodDescriptor yL_begins.desc).map (fun d => d.parameters.length) = some 2 := by decide +kernel
theorem hdV_L_begins : yL_begins.cls = RL ∧ yL_begins.cls ≠ "java/lang/invoke/MethodHandle" ∧ yL_begins.cls ≠ "java/lang/invoke/VarHandle" ∧ (parseMethodDescriptor yL_begins.desc).map (fun d => d.parameters.length) = some 2 := by decide +kernel
theorem hdS_L_limits : yL_limits.cls ≠ "java/lang/invoke/MethodHandle" ∧ yL_limits.cls ≠ "java/lang/invoke/VarHandle" ∧ (parseMethodDescriptor yL_limits.desc).map (fun d => d.parameters.length) = some 2 := by decide +kernel
theorem hdV_L_limits : yL_limits.cls = RL ∧ yL_limits.cls ≠ "java/lang/invoke/MethodHandle" ∧ yL_limits.cls ≠ "java/lang/invoke/VarHandle" ∧ (parseMethodDescriptor yL_limits.desc).map (fun d => d.parameters.length) = some 2 := by decide +kernel
theorem hdS_L_undoes : yL_undoes.cls ≠ "java/lang/invoke/MethodHandle" ∧ yL_undoes.cls ≠ "java/lang/invoke/VarHandle" ∧ (parseMethodDescriptor yL_undoes.desc).map (fun d => d.parameters.length) = some 1 := by decide +kernel
theorem hdV_L_undoes : yL_undoes.cls = RL ∧ yL_undoes.cls ≠ "java/lang/invoke/MethodHandle" ∧ yL_undoes.cls ≠ "java/lang/invoke/VarHandle" ∧ (parseMethodDescriptor yL_undoes.desc).map (fun d => d.parameters.length) = some 1 := by decide +kernel
theorem hdS_L_liesOf : yL_liesOf.cls ≠ "java/lang/invoke/MethodHandle" ∧ yL_liesOf.cls ≠ "java/lang/invoke/VarHandle" ∧ (parseMethodDescriptor yL_liesOf.desc).map (fun d => d.parameters.length) = some 2 := by decide +kernel
theorem hdV_L_liesOf : yL_liesOf.cls = RL ∧ yL_liesOf.cls ≠ "java/lang/invoke/MethodHandle" ∧ yL_liesOf.cls ≠ "java/lang/invoke/VarHandle" ∧ (parseMethodDescriptor yL_liesOf.desc).map (fun d => d.parameters.length) = some 2 := by decide +kernel
theorem hdS_L_value : yL_value.cls ≠ "java/lang/invoke/MethodHandle" ∧ yL_value.cls ≠ "java/lang/invoke/VarHandle" ∧ (parseMethodDescriptor yL_value.desc).map (fun d => d.parameters.length) = some 2 := by decide +kernel
theorem hdV_L_value : yL_value.cls = RL ∧ yL_value.cls ≠ "java/lang/invoke/MethodHandle" ∧ yL_value.cls ≠ "java/lang/invoke/VarHandle" ∧ (parseMethodDescriptor yL_value.desc).map (fun d => d.parameters.length) = some 2 := by decide +kernel
theorem hdS_L_weighs : yL_weighs.cls ≠ "java/lang/invoke/MethodHandle" ∧ yL_weighs.cls ≠ "java/lang/invoke/VarHandle" ∧ (parseMethodDescriptor yL_weighs.desc).map (fun d => d.parameters.length) = some 2 := by decide +kernel
theorem hdV_L_weighs : yL_weighs.cls = RL ∧ yL_weighs.cls ≠ "java/lang/invoke/MethodHandle" ∧ yL_weighs.cls ≠ "java/lang/invoke/VarHandle" ∧ (parseMethodDescriptor yL_weighs.desc).map (fun d => d.parameters.length) = some 2 := by decide +kernel
theorem hdS_L_behind : yL_behind.cls ≠ "java/lang/invoke/MethodHandle" ∧ yL_behind.cls ≠ "java/lang/invoke/VarHandle" ∧ (parseMethodDescriptor yL_behind.desc).map (fun d => d.parameters.length) = some 5 := by decide +kernel
theorem hdV_L_behind : yL_behind.cls = RL ∧ yL_behind.cls ≠ "java/lang/invoke/MethodHandle" ∧ yL_behind.cls ≠ "java/lang/invoke/VarHandle" ∧ (parseMethodDescriptor yL_behind.desc).map (fun d => d.parameters.length) = some 5 := by decide +kernel
set_option maxHeartbeats 4000000 in
set_option maxRecDepth 100000 in
theorem c_L_asks (l : Launch) (D : va_G) (T : Nat → ClassId) (h0 : Nat) (A0 : Nat → Nat → Nat) (Z0 : Nat → St) (v1 : Int32) (v2 : Int32) (sz : Nat) (r : Int32 × (Nat → St)) (h : F_L_asks Z0 v1 v2 = some r) : Met l yL_asks wsL_asks ({ frames := 7, cells := 0, slots := 0, locals := 138 } : Room) (va_Pc [.ref h0, .int v1, .int v2] (PM D T (scW T h0 A0 (Z0)) sz)) (QEi D (scW T h0) r.1 r.2 (va_A (scW T h0 A0 (Z0)) sz)) 0 0 (va_A (scW T h0 A0 (Z0)) sz) := by
  refine met_ofH (cc := cL_asks) (maxL := 4) (ret := (some .int)) (hh := [(0, 6, 7, 15), (0, 6, 11, 18)]) (lv := [(0, .ref h0), (1, .int v1), (2, .int v2)]) (by decide) rfl (Nat.le_of_ble_eq_true rfl) rfl ?_
  intro p e s m args below meth c ls C0 htab hl hB
  obtain ⟨hx, hb, hr, hml, hown, hts, hlocks, hname⟩ := C0
  obtain ⟨hsz, hP, hK, hD0⟩ := hB
  subst hsz
  have hD := hD0.self (sz := s.heap.size)
  generalize hAe : va_A (scW T h0 A0 (Z0)) s.heap.size = A at hD ⊢
  have hA : ∀ q : Nat, s.heap.size ≤ q → A q := fun q h => by rw [← hAe]; exact Or.inr h
  have hS : va_S A s.heap s.heap [] := va_S.rf
  unfold F_L_asks at h
  refine lv_aload_n hx hb dL_asks_0 rfl (lv_at hl 0 rfl) ?_
  refine lv_iload_n hx hb dL_asks_1 rfl (lv_at hl 1 rfl) ?_
  refine lv_iload_n hx hb dL_asks_2 rfl (lv_at hl 2 rfl) ?_
  replace h := bd h
  obtain ⟨t1, et1, h⟩ := h
  refine callEi (va_runV (As := [.int v1, .int v2]) (rest := []) ⟨hx, hb, hml, hown, hts⟩ (c_X4_ask l D T h0 A0 Z0 v1 v2 _ t1 et1) (cwV 2 hts gL_asks_X4_ask rfl rfl rfl hdV_X4_ask ⟨Nat.le_of_ble_eq_true rfl, Nat.le_of_ble_eq_true rfl⟩) ⟨PM_blind, va_recv hK.1 hP (ci := 4) (q0 := 0) rfl rfl, PM_at hP hD hK⟩ rfl rfl hl.1 rfl (lv_room (Nat.le_of_ble_eq_true rfl)) dL_asks_3 ⟨Nat.zero_le _, Nat.zero_le _⟩) hS hA hP hD (fun u2 H locs hP hD hS => ?_)
  obtain rfl := Option.some.inj h
  exact W.iret hx hb hr (fun t ht hW => ⟨⟨_, u2, rfl, rfl, by rw [ht]; exact hP, hD⟩, hS.F ht⟩) hS.2.2 dL_asks_6 hlocks
set_option maxHeartbeats 4000000 in
set_option maxRecDepth 100000 in
theorem c_L_hides (l : Launch) (D : va_G) (T : Nat → ClassId) (h0 : Nat) (A0 : Nat → Nat → Nat) (Z0 : Nat → St) (v1 : Int32) (v2 : Int32) (sz : Nat) (r : Int32 × (Nat → St)) (h : F_L_hides Z0 v1 v2 = some r) : Met l yL_hides wsL_hides ({ frames := 7, cells := 0, slots := 0, locals := 131 } : Room) (va_Pc [.ref h0, .int v1, .int v2] (PM D T (scW T h0 A0 (Z0)) sz)) (QEi D (scW T h0) r.1 r.2 (va_A (scW T h0 A0 (Z0)) sz)) 0 0 (va_A (scW T h0 A0 (Z0)) sz) := by
  refine met_ofH (cc := cL_hides) (maxL := 4) (ret := (some .int)) (hh := [(0, 6, 7, 24), (0, 6, 11, 15)]) (lv := [(0, .ref h0), (1, .int v1), (2, .int v2)]) (by decide) rfl (Nat.le_of_ble_eq_true rfl) rfl ?_
  intro p e s m args below meth c ls C0 htab hl hB
  obtain ⟨hx, hb, hr, hml, hown, hts, hlocks, hname⟩ := C0
  obtain ⟨hsz, hP, hK, hD0⟩ := hB
  subst hsz
  have hD := hD0.self (sz := s.heap.size)
  generalize hAe : va_A (scW T h0 A0 (Z0)) s.heap.size = A at hD ⊢
  have hA : ∀ q : Nat, s.heap.size ≤ q → A q := fun q h => by rw [← hAe]; exact Or.inr h
  have hS : va_S A s.heap s.heap [] := va_S.rf
  unfold F_L_hides at h
  refine lv_aload_n hx hb dL_hides_0 rfl (lv_at hl 0 rfl) ?_
  refine lv_iload_n hx hb dL_hides_1 rfl (lv_at hl 1 rfl) ?_
  refine lv_iload_n hx hb dL_hides_2 rfl (lv_at hl 2 rfl) ?_
  replace h := bd h
  obtain ⟨t1, et1, h⟩ := h
  refine callEi (va_runV (As := [.int v1, .int v2]) (rest := []) ⟨hx, hb, hml, hown, hts⟩ (c_X4_hide l D T h0 A0 Z0 v1 v2 _ t1 et1) (cwV 2 hts gL_hides_X4_hide rfl rfl rfl hdV_X4_hide ⟨Nat.le_of_ble_eq_true rfl, Nat.le_of_ble_eq_true rfl⟩) ⟨PM_blind, va_recv hK.1 hP (ci := 4) (q0 := 0) rfl rfl, PM_at hP hD hK⟩ rfl rfl hl.1 rfl (lv_room (Nat.le_of_ble_eq_true rfl)) dL_hides_3 ⟨Nat.zero_le _, Nat.zero_le _⟩) hS hA hP hD (fun u2 H locs hP hD hS => ?_)
  obtain rfl := Option.some.inj h
  exact W.iret hx hb hr (fun t ht hW => ⟨⟨_, u2, rfl, rfl, by rw [ht]; exact hP, hD⟩, hS.F ht⟩) hS.2.2 dL_hides_6 hlocks
set_option maxHeartbeats 4000000 in
set_option maxRecDepth 100000 in
theorem c_L_begins (l : Launch) (D : va_G) (T : Nat → ClassId) (h0 : Nat) (A0 : Nat → Nat → Nat) (Z0 : Nat → St) (v1 : Int32) (sz : Nat) (r : Int32 × (Nat → St)) (h : F_L_begins Z0 v1 = some r) : Met l yL_begins wsL_begins ({ frames := 7, cells := 0, slots := 0, locals := 130 } : Room) (va_Pc [.ref h0, .int v1] (PM D T (scW T h0 A0 (Z0)) sz)) (QEi D (scW T h0) r.1 r.2 (va_A (scW T h0 A0 (Z0)) sz)) 0 0 (va_A (scW T h0 A0 (Z0)) sz) := by
  refine met_ofH (cc := cL_begins) (maxL := 3) (ret := (some .int)) (hh := [(0, 5, 6, 15)]) (lv := [(0, .ref h0), (1, .int v1)]) (by decide) rfl (Nat.le_of_ble_eq_true rfl) rfl ?_
  intro p e s m args below meth c ls C0 htab hl hB
  obtain ⟨hx, hb, hr, hml, hown, hts, hlocks, hname⟩ := C0
  obtain ⟨hsz, hP, hK, hD0⟩ := hB
  subst hsz
  have hD := hD0.self (sz := s.heap.size)
  generalize hAe : va_A (scW T h0 A0 (Z0)) s.heap.size = A at hD ⊢
  have hA : ∀ q : Nat, s.heap.size ≤ q → A q := fun q h => by rw [← hAe]; exact Or.inr h
  have hS : va_S A s.heap s.heap [] := va_S.rf
  unfold F_L_begins at h
  refine lv_aload_n hx hb dL_begins_0 rfl (lv_at hl 0 rfl) ?_
  refine lv_iload_n hx hb dL_begins_1 rfl (lv_at hl 1 rfl) ?_
  replace h := bd h
  obtain ⟨t1, et1, h⟩ := h
  refine callEi (va_runV (As := [.int v1]) (rest := []) ⟨hx, hb, hml, hown, hts⟩ (c_X4_begin l D T h0 A0 Z0 v1 _ t1 et1) (cwV 1 hts gL_begins_X4_begin rfl rfl rfl hdV_X4_begin ⟨Nat.le_of_ble_eq_true rfl, Nat.le_of_ble_eq_true rfl⟩) ⟨PM_blind, va_recv hK.1 hP (ci := 4) (q0 := 0) rfl rfl, PM_at hP hD hK⟩ rfl rfl hl.1 rfl (lv_room (Nat.le_of_ble_eq_true rfl)) dL_begins_2 ⟨Nat.zero_le _, Nat.zero_le _⟩) hS hA hP hD (fun u2 H locs hP hD hS => ?_)
  obtain rfl := Option.some.inj h
  exact W.iret hx hb hr (fun t ht hW => ⟨⟨_, u2, rfl, rfl, by rw [ht]; exact hP, hD⟩, hS.F ht⟩) hS.2.2 dL_begins_5 hlocks
set_option maxHeartbeats 4000000 in
set_option maxRecDepth 100000 in
theorem c_L_limits (l : Launch) (D : va_G) (T : Nat → ClassId) (h0 : Nat) (A0 : Nat → Nat → Nat) (Z0 : Nat → St) (v1 : Int32) (sz : Nat) (r : Int32 × (Nat → St)) (h : F_L_limits Z0 v1 = some r) : Met l yL_limits wsL_limits ({ frames := 7, cells := 0, slots := 0, locals := 129 } : Room) (va_Pc [.ref h0, .int v1] (PM D T (scW T h0 A0 (Z0)) sz)) (QEi D (scW T h0) r.1 r.2 (va_A (scW T h0 A0 (Z0)) sz)) 0 0 (va_A (scW T h0 A0 (Z0)) sz) := by
  refine met_ofH (cc := cL_limits) (maxL := 3) (ret := (some .int)) (hh := [(0, 5, 6, 15)]) (lv := [(0, .ref h0), (1, .int v1)]) (by decide) rfl (Nat.le_of_ble_eq_true rfl) rfl ?_
  intro p e s m args below meth c ls C0 htab hl hB
  obtain ⟨hx, hb, hr, hml, hown, hts, hlocks, hname⟩ := C0
  obtain ⟨hsz, hP, hK, hD0⟩ := hB
  subst hsz
  have hD := hD0.self (sz := s.heap.size)
  generalize hAe : va_A (scW T h0 A0 (Z0)) s.heap.size = A at hD ⊢
  have hA : ∀ q : Nat, s.heap.size ≤ q → A q := fun q h => by rw [← hAe]; exact Or.inr h
  have hS : va_S A s.heap s.heap [] := va_S.rf
  unfold F_L_limits at h
  refine lv_aload_n hx hb dL_limits_0 rfl (lv_at hl 0 rfl) ?_
  refine lv_iload_n hx hb dL_limits_1 rfl (lv_at hl 1 rfl) ?_
  replace h := bd h
  obtain ⟨t1, et1, h⟩ := h
  refine callEi (va_runV (As := [.int v1]) (rest := []) ⟨hx, hb, hml, hown, hts⟩ (c_X4_setLimit l D T h0 A0 Z0 v1 _ t1 et1) (cwV 1 hts gL_limits_X4_setLimit rfl rfl rfl hdV_X4_setLimit ⟨Nat.le_of_ble_eq_true rfl, Nat.le_of_ble_eq_true rfl⟩) ⟨PM_blind, va_recv hK.1 hP (ci := 4) (q0 := 0) rfl rfl, PM_at hP hD hK⟩ rfl rfl hl.1 rfl (lv_room (Nat.le_of_ble_eq_true rfl)) dL_limits_2 ⟨Nat.zero_le _, Nat.zero_le _⟩) hS hA hP hD (fun u2 H locs hP hD hS => ?_)
  obtain rfl := Option.some.inj h
  exact W.iret hx hb hr (fun t ht hW => ⟨⟨_, u2, rfl, rfl, by rw [ht]; exact hP, hD⟩, hS.F ht⟩) hS.2.2 dL_limits_5 hlocks
set_option maxHeartbeats 4000000 in
set_option maxRecDepth 100000 in
theorem c_L_undoes (l : Launch) (D : va_G) (T : Nat → ClassId) (h0 : Nat) (A0 : Nat → Nat → Nat) (Z0 : Nat → St) (sz : Nat) (r : Int32 × (Nat → St)) (h : F_L_undoes Z0 = some r) : Met l yL_undoes wsL_undoes ({ frames := 7, cells := 0, slots := 0, locals := 128 } : Room) (va_Pc [.ref h0] (PM D T (scW T h0 A0 (Z0)) sz)) (QEi D (scW T h0) r.1 r.2 (va_A (scW T h0 A0 (Z0)) sz)) 0 0 (va_A (scW T h0 A0 (Z0)) sz) := by
  refine met_ofH (cc := cL_undoes) (maxL := 2) (ret := (some .int)) (hh := [(0, 4, 5, 18)]) (lv := [(0, .ref h0)]) (by decide) rfl (Nat.le_of_ble_eq_true rfl) rfl ?_
  intro p e s m args below meth c ls C0 htab hl hB
  obtain ⟨hx, hb, hr, hml, hown, hts, hlocks, hname⟩ := C0
  obtain ⟨hsz, hP, hK, hD0⟩ := hB
  subst hsz
  have hD := hD0.self (sz := s.heap.size)
  generalize hAe : va_A (scW T h0 A0 (Z0)) s.heap.size = A at hD ⊢
  have hA : ∀ q : Nat, s.heap.size ≤ q → A q := fun q h => by rw [← hAe]; exact Or.inr h
  have hS : va_S A s.heap s.heap [] := va_S.rf
  unfold F_L_undoes at h
  refine lv_aload_n hx hb dL_undoes_0 rfl (lv_at hl 0 rfl) ?_
  replace h := bd h
  obtain ⟨t1, et1, h⟩ := h
  refine callEi (va_runV (As := []) (rest := []) ⟨hx, hb, hml, hown, hts⟩ (c_X4_undo l D T h0 A0 Z0 _ t1 et1) (cwV 0 hts gL_undoes_X4_undo rfl rfl rfl hdV_X4_undo ⟨Nat.le_of_ble_eq_true rfl, Nat.le_of_ble_eq_true rfl⟩) ⟨PM_blind, va_recv hK.1 hP (ci := 4) (q0 := 0) rfl rfl, PM_at hP hD hK⟩ rfl rfl hl.1 rfl (lv_room (Nat.le_of_ble_eq_true rfl)) dL_undoes_1 ⟨Nat.zero_le _, Nat.zero_le _⟩) hS hA hP hD (fun u2 H locs hP hD hS => ?_)
  obtain rfl := Option.some.inj h
  exact W.iret hx hb hr (fun t ht hW => ⟨⟨_, u2, rfl, rfl, by rw [ht]; exact hP, hD⟩, hS.F ht⟩) hS.2.2 dL_undoes_4 hlocks
set_option maxHeartbeats 4000000 in
set_option maxRecDepth 100000 in
theorem c_L_liesOf (l : Launch) (D : va_G) (T : Nat → ClassId) (h0 : Nat) (A0 : Nat → Nat → Nat) (Z0 : Nat → St) (v1 : Int32) (sz : Nat) (r : Int32 × (Nat → St)) (h : F_L_liesOf Z0 v1 = some r) : Met l yL_liesOf wsL_liesOf ({ frames := 7, cells := 0, slots := 0, locals := 103 } : Room) (va_Pc [.ref h0, .int v1] (PM D T (scW T h0 A0 (Z0)) sz)) (QEi D (scW T h0) r.1 r.2 (va_A (scW T h0 A0 (Z0)) sz)) 0 0 (va_A (scW T h0 A0 (Z0)) sz) := by
  refine met_ofH (cc := cL_liesOf) (maxL := 3) (ret := (some .int)) (hh := [(0, 5, 6, 24)]) (lv := [(0, .ref h0), (1, .int v1)]) (by decide) rfl (Nat.le_of_ble_eq_true rfl) rfl ?_
  intro p e s m args below meth c ls C0 htab hl hB
  obtain ⟨hx, hb, hr, hml, hown, hts, hlocks, hname⟩ := C0
  obtain ⟨hsz, hP, hK, hD0⟩ := hB
  subst hsz
  have hD := hD0.self (sz := s.heap.size)
  generalize hAe : va_A (scW T h0 A0 (Z0)) s.heap.size = A at hD ⊢
  have hA : ∀ q : Nat, s.heap.size ≤ q → A q := fun q h => by rw [← hAe]; exact Or.inr h
  have hS : va_S A s.heap s.heap [] := va_S.rf
  unfold F_L_liesOf at h
  refine lv_aload_n hx hb dL_liesOf_0 rfl (lv_at hl 0 rfl) ?_
  refine lv_iload_n hx hb dL_liesOf_1 rfl (lv_at hl 1 rfl) ?_
  replace h := bd h
  obtain ⟨t1, et1, h⟩ := h
  refine callEi (va_runV (As := [.int v1]) (rest := []) ⟨hx, hb, hml, hown, hts⟩ (c_X4_lies l D T h0 A0 Z0 v1 _ t1 et1) (cwV 1 hts gL_liesOf_X4_lies rfl rfl rfl hdV_X4_lies ⟨Nat.le_of_ble_eq_true rfl, Nat.le_of_ble_eq_true rfl⟩) ⟨PM_blind, va_recv hK.1 hP (ci := 4) (q0 := 0) rfl rfl, PM_at hP hD hK⟩ rfl rfl hl.1 rfl (lv_room (Nat.le_of_ble_eq_true rfl)) dL_liesOf_2 ⟨Nat.zero_le _, Nat.zero_le _⟩) hS hA hP hD (fun u2 H locs hP hD hS => ?_)
  obtain rfl := Option.some.inj h
  exact W.iret hx hb hr (fun t ht hW => ⟨⟨_, u2, rfl, rfl, by rw [ht]; exact hP, hD⟩, hS.F ht⟩) hS.2.2 dL_liesOf_5 hlocks
set_option maxHeartbeats 4000000 in
set_option maxRecDepth 100000 in
theorem c_L_value (l : Launch) (D : va_G) (T : Nat → ClassId) (h0 : Nat) (A0 : Nat → Nat → Nat) (Z0 : Nat → St) (v1 : Int32) (sz : Nat) (r : Int32 × (Nat → St)) (h : F_L_value Z0 v1 = some r) : Met l yL_value wsL_value ({ frames := 7, cells := 0, slots := 0, locals := 106 } : Room) (va_Pc [.ref h0, .int v1] (PM D T (scW T h0 A0 (Z0)) sz)) (QEi D (scW T h0) r.1 r.2 (va_A (scW T h0 A0 (Z0)) sz)) 0 0 (va_A (scW T h0 A0 (Z0)) sz) := by
  refine met_ofH (cc := cL_value) (maxL := 3) (ret := (some .int)) (hh := [(0, 5, 6, 15)]) (lv := [(0, .ref h0), (1, .int v1)]) (by decide) rfl (Nat.le_of_ble_eq_true rfl) rfl ?_
  intro p e s m args below meth c ls C0 htab hl hB
  obtain ⟨hx, hb, hr, hml, hown, hts, hlocks, hname⟩ := C0
  obtain ⟨hsz, hP, hK, hD0⟩ := hB
  subst hsz
  have hD := hD0.self (sz := s.heap.size)
  generalize hAe : va_A (scW T h0 A0 (Z0)) s.heap.size = A at hD ⊢
  have hA : ∀ q : Nat, s.heap.size ≤ q → A q := fun q h => by rw [← hAe]; exact Or.inr h
  have hS : va_S A s.heap s.heap [] := va_S.rf
  unfold F_L_value at h
  refine lv_aload_n hx hb dL_value_0 rfl (lv_at hl 0 rfl) ?_
  refine lv_iload_n hx hb dL_value_1 rfl (lv_at hl 1 rfl) ?_
  replace h := bd h
  obtain ⟨t1, et1, h⟩ := h
  refine callEi (va_runV (As := [.int v1]) (rest := []) ⟨hx, hb, hml, hown, hts⟩ (c_X4_value l D T h0 A0 Z0 v1 _ t1 et1) (cwV 1 hts gL_value_X4_value rfl rfl rfl hdV_X4_value ⟨Nat.le_of_ble_eq_true rfl, Nat.le_of_ble_eq_true rfl⟩) ⟨PM_blind, va_recv hK.1 hP (ci := 4) (q0 := 0) rfl rfl, PM_at hP hD hK⟩ rfl rfl hl.1 rfl (lv_room (Nat.le_of_ble_eq_true rfl)) dL_value_2 ⟨Nat.zero_le _, Nat.zero_le _⟩) hS hA hP hD (fun u2 H locs hP hD hS => ?_)
  obtain rfl := Option.some.inj h
  exact W.iret hx hb hr (fun t ht hW => ⟨⟨_, u2, rfl, rfl, by rw [ht]; exact hP, hD⟩, hS.F ht⟩) hS.2.2 dL_value_5 hlocks
set_option maxHeartbeats 4000000 in
set_option maxRecDepth 100000 in
theorem c_L_weighs (l : Launch) (D : va_G) (T : Nat → ClassId) (h0 : Nat) (A0 : Nat → Nat → Nat) (Z0 : Nat → St) (v1 : Int32) (sz : Nat) (r : Int64 × (Nat → St)) (h : F_L_weighs Z0 v1 = some r) : Met l yL_weighs wsL_weighs ({ frames := 7, cells := 0, slots := 0, locals := 117 } : Room) (va_Pc [.ref h0, .int v1] (PM D T (scW T h0 A0 (Z0)) sz)) (QEl D (scW T h0) r.1 r.2 (va_A (scW T h0 A0 (Z0)) sz)) 0 0 (va_A (scW T h0 A0 (Z0)) sz) := by
  refine met_ofH (cc := cL_weighs) (maxL := 3) (ret := (some .long)) (hh := [(0, 5, 6, 15)]) (lv := [(0, .ref h0), (1, .int v1)]) (by decide) rfl (Nat.le_of_ble_eq_true rfl) rfl ?_
  intro p e s m args below meth c ls C0 htab hl hB
  obtain ⟨hx, hb, hr, hml, hown, hts, hlocks, hname⟩ := C0
  obtain ⟨hsz, hP, hK, hD0⟩ := hB
  subst hsz
  have hD := hD0.self (sz := s.heap.size)
  generalize hAe : va_A (scW T h0 A0 (Z0)) s.heap.size = A at hD ⊢
  have hA : ∀ q : Nat, s.heap.size ≤ q → A q := fun q h => by rw [← hAe]; exact Or.inr h
  have hS : va_S A s.heap s.heap [] := va_S.rf
  unfold F_L_weighs at h
  refine lv_aload_n hx hb dL_weighs_0 rfl (lv_at hl 0 rfl) ?_
  refine lv_iload_n hx hb dL_weighs_1 rfl (lv_at hl 1 rfl) ?_
  replace h := bd h
  obtain ⟨t1, et1, h⟩ := h
  refine callEl (va_runV (As := [.int v1]) (rest := []) ⟨hx, hb, hml, hown, hts⟩ (c_X4_weight l D T h0 A0 Z0 v1 _ t1 et1) (cwV 1 hts gL_weighs_X4_weight rfl rfl rfl hdV_X4_weight ⟨Nat.le_of_ble_eq_true rfl, Nat.le_of_ble_eq_true rfl⟩) ⟨PM_blind, va_recv hK.1 hP (ci := 4) (q0 := 0) rfl rfl, PM_at hP hD hK⟩ rfl rfl hl.1 rfl (lv_room (Nat.le_of_ble_eq_true rfl)) dL_weighs_2 ⟨Nat.zero_le _, Nat.zero_le _⟩) hS hA hP hD (fun u2 H locs hP hD hS => ?_)
  obtain rfl := Option.some.inj h
  exact W.lret hx hb hr (fun t ht hW => ⟨⟨_, u2, rfl, rfl, by rw [ht]; exact hP, hD⟩, hS.F ht⟩) hS.2.2 dL_weighs_5 hlocks
set_option maxHeartbeats 4000000 in
set_option maxRecDepth 100000 in
theorem c_L_behind (l : Launch) (D : va_G) (T : Nat → ClassId) (h0 : Nat) (A0 : Nat → Nat → Nat) (Z0 : Nat → St) (v1 : Int32) (v2 : Int32) (v3 : Int32) (v4 : Int32) (sz : Nat) (r : Int64 × (Nat → St)) (h : F_L_behind Z0 v1 v2 v3 v4 = some r) : Met l yL_behind wsL_behind ({ frames := 7, cells := 0, slots := 0, locals := 123 } : Room) (va_Pc [.ref h0, .int v1, .int v2, .int v3, .int v4] (PM D T (scW T h0 A0 (Z0)) sz)) (QEl D (scW T h0) r.1 r.2 (va_A (scW T h0 A0 (Z0)) sz)) 0 0 (va_A (scW T h0 A0 (Z0)) sz) := by
  refine met_ofH (cc := cL_behind) (maxL := 6) (ret := (some .long)) (hh := [(0, 9, 10, 15)]) (lv := [(0, .ref h0), (1, .int v1), (2, .int v2), (3, .int v3), (4, .int v4)]) (by decide) rfl (Nat.le_of_ble_eq_true rfl) rfl ?_
  intro p e s m args below meth c ls C0 htab hl hB
  obtain ⟨hx, hb, hr, hml, hown, hts, hlocks, hname⟩ := C0
  obtain ⟨hsz, hP, hK, hD0⟩ := hB
  subst hsz
  have hD := hD0.self (sz := s.heap.size)
  generalize hAe : va_A (scW T h0 A0 (Z0)) s.heap.size = A at hD ⊢
  have hA : ∀ q : Nat, s.heap.size ≤ q → A q := fun q h => by rw [← hAe]; exact Or.inr h
  have hS : va_S A s.heap s.heap [] := va_S.rf
  unfold F_L_behind at h
  refine lv_aload_n hx hb dL_behind_0 rfl (lv_at hl 0 rfl) ?_
  refine lv_iload_n hx hb dL_behind_1 rfl (lv_at hl 1 rfl) ?_
  refine lv_iload_n hx hb dL_behind_2 rfl (lv_at hl 2 rfl) ?_
  refine lv_iload_n hx hb dL_behind_3 rfl (lv_at hl 3 rfl) ?_
  refine lv_iload hx hb dL_behind_4 (lv_at hl 4 rfl) ?_
  replace h := bd h
  obtain ⟨t1, et1, h⟩ := h
  refine callEl (va_runV (As := [.int v1, .int v2, .int v3, .int v4]) (rest := []) ⟨hx, hb, hml, hown, hts⟩ (c_X4_weightBehind l D T h0 A0 Z0 v1 v2 v3 v4 _ t1 et1) (cwV 4 hts gL_behind_X4_weightBehind rfl rfl rfl hdV_X4_weightBehind ⟨Nat.le_of_ble_eq_true rfl, Nat.le_of_ble_eq_true rfl⟩) ⟨PM_blind, va_recv hK.1 hP (ci := 4) (q0 := 0) rfl rfl, PM_at hP hD hK⟩ rfl rfl hl.1 rfl (lv_room (Nat.le_of_ble_eq_true rfl)) dL_behind_6 ⟨Nat.zero_le _, Nat.zero_le _⟩) hS hA hP hD (fun u2 H locs hP hD hS => ?_)
  obtain rfl := Option.some.inj h
  exact W.lret hx hb hr (fun t ht hW => ⟨⟨_, u2, rfl, rfl, by rw [ht]; exact hP, hD⟩, hS.F ht⟩) hS.2.2 dL_behind_9 hlocks
end
section
def B_L_holds_49 (v1 : Int32) (t1 : Int32 × (Nat → St)) (t3 : Int32 × (Nat → St)) (t5 : Int32 × (Nat → St)) (k49 : Int32 → Int32 → Int32 → (Nat → St) → Option (Int32 × (Nat → St))) (i5_49 : Int32) (i6_49 : Int32) (i7_49 : Int32) (x0_49 : Nat → St) : Option (Int32 × (Nat → St)) :=
  if ((2 * t5.1) + 1) ≤ i7_49 then (if i6_49 = 0 then none else (if i5_49 = t3.1 then ((F_L_value x0_49 1).bind fun t14 => if t14.1 < v1 then ((F_L_weighs t14.2 0).bind fun t17 => if (lg_cmp t17.1 t3.1.toInt64) = 0 then ((F_L_value t17.2 3).bind fun t20 => if 0 < t20.1 then (some (1, t20.2)) else ((F_X4_bound t20.2).bind fun t23 => if t23.1 = 0 then (some (1, t23.2)) else none)) else none) else (if t1.1 < 0 then none else (if t3.1 ≤ 0 then none else ((F_L_weighs t14.2 0).bind fun t28 => if (lg_cmp t28.1 t3.1.toInt64) = 0 then ((F_L_value t28.2 3).bind fun t31 => if 0 < t31.1 then (some (1, t31.2)) else ((F_X4_bound t31.2).bind fun t34 => if t34.1 = 0 then (some (1, t34.2)) else none)) else none)))) else none)) else (if i6_49 = 0 then none else ((F_L_liesOf x0_49 i7_49).bind fun t38 => (F_L_value t38.2 1).bind fun t40 => if t40.1 < t38.1 then (if t38.1 < 0 then none else ((F_L_value t40.2 2).bind fun t44 => if t44.1 < t38.1 then none else (k49 (i5_49 + 0) 1 (i7_49 + 1) t44.2))) else (if t38.1 < 0 then none else ((F_L_value t40.2 2).bind fun t48 => if t48.1 < t38.1 then none else (k49 (i5_49 + 1) 1 (i7_49 + 1) t48.2)))))
def F_L_holds (Z0 : Nat → St) (v1 : Int32) : Option (Int32 × (Nat → St)) :=
  (F_L_value Z0 5).bind fun t1 => (F_L_value t1.2 3).bind fun t3 => (F_L_value t3.2 0).bind fun t5 => if t1.1 < 0 then none else ((F_L_liesOf t5.2 t1.1).bind fun t8 => if t8.1 = v1 then (fx4 (B_L_holds_49 v1 t1 t3 t5) 1000 0 1 0 t8.2) else none)
def F_L_splits (Z0 : Nat → St) (v1 : Int32) (v2 : Int32) (v3 : Int32) : Option (Int32 × (Nat → St)) :=
  (F_L_behind Z0 v1 v2 0 v3).bind fun t1 => (F_L_behind t1.2 v1 v2 1 v3).bind fun t3 => (F_L_behind t3.2 v1 v2 2 v3).bind fun t5 => (F_L_weighs t5.2 (v3 + 1)).bind fun t7 => if (lg_cmp ((t1.1 + t3.1) + t5.1) t7.1) = 0 then (some (1, t7.2)) else none
theorem hdS_L_holds : yL_holds.cls ≠ "java/lang/invoke/MethodHandle" ∧ yL_holds.cls ≠ "java/lang/invoke/VarHandle" ∧ (parseMethodDescriptor yL_holds.desc).map (fun d => d.parameters.length) = some 2 := by decide +kernel
theorem hdV_L_holds : yL_holds.cls = RL ∧ yL_holds.cls ≠ "java/lang/invoke/MethodHandle" ∧ yL_holds.cls ≠ "java/lang/invoke/VarHandle" ∧ (parseMethodDescriptor yL_holds.desc).map (fun d => d.parameters.length) = some 2 := by decide +kernel
theorem hdS_L_splits : yL_splits.cls ≠ "java/lang/invoke/MethodHandle" ∧ yL_splits.cls ≠ "java/lang/invoke/VarHandle" ∧ (parseMethodDescriptor yL_splits.desc).map (fun d => d.parameters.length) = some 4 := by decide +kernel
theorem hdV_L_splits : yL_splits.cls = RL ∧ yL_splits.cls ≠ "java/lang/invoke/MethodHandle" ∧ yL_splits.cls ≠ "java/lang/invoke/VarHandle" ∧ (parseMethodDescriptor yL_splits.desc).map (fun d => d.parameters.length) = some 4 := by decide +kernel
set_option maxHeartbeats 4000000 in
set_option maxRecDepth 100000 in
theorem c_L_holds (l : Launch) (D : va_G) (T : Nat → ClassId) (h0 : Nat) (A0 : Nat → Nat → Nat) (Z0 : Nat → St) (v1 : Int32) (sz : Nat) (r : Int32 × (Nat → St)) (h : F_L_holds Z0 v1 = some r) : Met l yL_holds wsL_holds ({ frames := 8, cells := 0, slots := 0, locals := 139 } : Room) (va_Pc [.ref h0, .int v1] (PM D T (scW T h0 A0 (Z0)) sz)) (QEi D (scW T h0) r.1 r.2 (va_A (scW T h0 A0 (Z0)) sz)) 0 0 (va_A (scW T h0 A0 (Z0)) sz) := by
  refine met_of (cc := cL_holds) (maxL := 9) (ret := (some .boolean)) (lv := [(0, .ref h0), (1, .int v1)]) (by decide) rfl (Nat.le_of_ble_eq_true rfl) rfl ?_
  intro p e s m args below meth c ls C0 hl hB
  obtain ⟨hx, hb, hr, hml, hown, hts, hlocks, hname⟩ := C0
  obtain ⟨hsz, hP, hK, hD0⟩ := hB
  subst hsz
  have hD := hD0.self (sz := s.heap.size)
  generalize hAe : va_A (scW T h0 A0 (Z0)) s.heap.size = A at hD ⊢
  have hA : ∀ q : Nat, s.heap.size ≤ q → A q := fun q h => by rw [← hAe]; exact Or.inr h
  have hS : va_S A s.heap s.heap [] := va_S.rf
  unfold F_L_holds at h
  refine lv_aload_n hx hb dL_holds_0 rfl (lv_at hl 0 rfl) ?_
  refine lv_iconst (v := 5) hx hb dL_holds_1 (by decide) ?_
  replace h := bd h
  obtain ⟨t1, et1, h⟩ := h
  refine callEi (vx_runSW (As := [.ref h0, .int 5]) (rest := []) ⟨hx, hb, hml, hown, hts⟩ (c_L_value l D T h0 A0 Z0 5 _ t1 et1) (vx_cwSW 2 hts gL_holds_L_value rfl rfl rfl hdS_L_value ⟨Nat.le_of_ble_eq_true rfl, Nat.le_of_ble_eq_true rfl⟩) ⟨PM_blind, PM_at hP hD hK⟩ rfl rfl hl.1 rfl (lv_room (Nat.le_of_ble_eq_true rfl)) dL_holds_2 ⟨Nat.zero_le _, Nat.zero_le _⟩) hS hA hP hD (fun u2 H locs hP hD hS => ?_)
  refine lv_istore_n (lv' := [(2, .int t1.1), (0, .ref h0), (1, .int v1)]) hx hb dL_holds_5 rfl hl (by decide) rfl (fun ls hl => ?_)
  refine lv_aload_n hx hb dL_holds_6 rfl (lv_at hl 1 rfl) ?_
  refine lv_iconst (v := 3) hx hb dL_holds_7 (by decide) ?_
  replace h := bd h
  obtain ⟨t3, et3, h⟩ := h
  refine callEi (vx_runSW (As := [.ref h0, .int 3]) (rest := []) ⟨hx, hb, hml, hown, hts⟩ (c_L_value l D T h0 u2 t1.2 3 _ t3 et3) (vx_cwSW 2 hts gL_holds_L_value rfl rfl rfl hdS_L_value ⟨Nat.le_of_ble_eq_true rfl, Nat.le_of_ble_eq_true rfl⟩) ⟨PM_blind, PM_at hP hD hK⟩ rfl rfl hl.1 rfl (lv_room (Nat.le_of_ble_eq_true rfl)) dL_holds_8 ⟨Nat.zero_le _, Nat.zero_le _⟩) hS hA hP hD (fun u4 H locs hP hD hS => ?_)
  refine lv_istore_n (lv' := [(3, .int t3.1), (2, .int t1.1), (0, .ref h0), (1, .int v1)]) hx hb dL_holds_11 rfl hl (by decide) rfl (fun ls hl => ?_)
  refine lv_iconst (v := 2) hx hb dL_holds_12 (by decide) ?_
  refine lv_aload_n hx hb dL_holds_13 rfl (lv_at hl 2 rfl) ?_
  refine lv_iconst (v := 0) hx hb dL_holds_14 (by decide) ?_
  replace h := bd h
  obtain ⟨t5, et5, h⟩ := h
  refine callEi (vx_runSW (As := [.ref h0, .int 0]) (rest := [.int 2]) ⟨hx, hb, hml, hown, hts⟩ (c_L_value l D T h0 u4 t3.2 0 _ t5 et5) (vx_cwSW 2 hts gL_holds_L_value rfl rfl rfl hdS_L_value ⟨Nat.le_of_ble_eq_true rfl, Nat.le_of_ble_eq_true rfl⟩) ⟨PM_blind, PM_at hP hD hK⟩ rfl rfl hl.1 rfl (lv_room (Nat.le_of_ble_eq_true rfl)) dL_holds_15 ⟨Nat.zero_le _, Nat.zero_le _⟩) hS hA hP hD (fun u6 H locs hP hD hS => ?_)
  refine lv_imul hx hb dL_holds_18 ?_
  refine lv_iconst (v := 1) hx hb dL_holds_19 (by decide) ?_
  refine lv_iadd hx hb dL_holds_20 ?_
  refine lv_istore (lv' := [(4, .int ((2 * t5.1) + 1)), (3, .int t3.1), (2, .int t1.1), (0, .ref h0), (1, .int v1)]) hx hb dL_holds_21 hl (by decide) rfl (fun ls hl => ?_)
  refine lv_iconst (v := 0) hx hb dL_holds_23 (by decide) ?_
  refine lv_istore (lv' := [(5, .int 0), (4, .int ((2 * t5.1) + 1)), (3, .int t3.1), (2, .int t1.1), (0, .ref h0), (1, .int v1)]) hx hb dL_holds_24 hl (by decide) rfl (fun ls hl => ?_)
  refine lv_iload_n hx hb dL_holds_26 rfl (lv_at hl 3 rfl) ?_
  refine lv_if_lt (tgt := 39) hx hb dL_holds_27 (by decide) (fun c7 => ?_) (fun c7 => ?_)
  · replace h := ip c7 h
    cases h
  replace h := im c7 h
  refine lv_aload_n hx hb dL_holds_30 rfl (lv_at hl 4 rfl) ?_
  refine lv_iload_n hx hb dL_holds_31 rfl (lv_at hl 3 rfl) ?_
  replace h := bd h
  obtain ⟨t8, et8, h⟩ := h
  refine callEi (vx_runSW (As := [.ref h0, .int t1.1]) (rest := []) ⟨hx, hb, hml, hown, hts⟩ (c_L_liesOf l D T h0 u6 t5.2 t1.1 _ t8 et8) (vx_cwSW 2 hts gL_holds_L_liesOf rfl rfl rfl hdS_L_liesOf ⟨Nat.le_of_ble_eq_true rfl, Nat.le_of_ble_eq_true rfl⟩) ⟨PM_blind, PM_at hP hD hK⟩ rfl rfl hl.1 rfl (lv_room (Nat.le_of_ble_eq_true rfl)) dL_holds_32 ⟨Nat.zero_le _, Nat.zero_le _⟩) hS hA hP hD (fun u9 H locs hP hD hS => ?_)
  refine lv_iload_n hx hb dL_holds_35 rfl (lv_at hl 5 rfl) ?_
  refine lv_icmp_ne (tgt := 43) hx hb dL_holds_36 (by decide) (fun c10 => ?_) (fun c10 => ?_)
  · replace h := im c10 h
    cases h
  replace h := ip c10 h
  refine lv_iconst (v := 1) hx hb dL_holds_39 (by decide) ?_
  refine lv_goto (tgt := 44) hx hb dL_holds_40 (by decide) ?_
  refine lv_istore (lv' := [(6, .int 1), (5, .int 0), (4, .int ((2 * t5.1) + 1)), (3, .int t3.1), (2, .int t1.1), (0, .ref h0), (1, .int v1)]) hx hb dL_holds_44 hl (by decide) rfl (fun ls hl => ?_)
  refine lv_iconst (v := 0) hx hb dL_holds_46 (by decide) ?_
  refine lv_istore (lv' := [(7, .int 0), (6, .int 1), (5, .int 0), (4, .int ((2 * t5.1) + 1)), (3, .int t3.1), (2, .int t1.1), (0, .ref h0), (1, .int v1)]) hx hb dL_holds_47 hl (by decide) rfl (fun ls hl => ?_)
  have K49 : ∀ (n49 : Nat) (i5_49 : Int32) (i6_49 : Int32) (i7_49 : Int32) (x0_49 : Nat → St) (A9_49 : Nat → Nat → Nat) (H : Heap) (locs : List Loc) (ls : Array Slot), fx4 (B_L_holds_49 v1 t1 t3 t5) n49 i5_49 i6_49 i7_49 x0_49 = some r → va_P D vwCl (scW T h0 A9_49 (x0_49)) H → va_D A (scW T h0 A9_49 (x0_49)) → va_S A s.heap H locs → lv_has ls 9 [(0, .ref h0), (1, .int v1), (2, .int t1.1), (3, .int t3.1), (4, .int ((2 * t5.1) + 1)), (5, .int i5_49), (6, .int i6_49), (7, .int i7_49)] → W p l e ({ frames := 8, cells := 0, slots := 0, locals := 139 } : Room) s m args below meth c H locs 0 0 (MQ below (QEi D (scW T h0) r.1 r.2 A) args s 0 0 A) (F0 m 49 ls []) := by
    intro n49
    induction n49 with
    | zero =>
        intro i5_49 i6_49 i7_49 x0_49 A9_49 H locs ls h
        cases h
    | succ n49 ih49 =>
        intro i5_49 i6_49 i7_49 x0_49 A9_49 H locs ls h hP hD hS hl
        replace h : B_L_holds_49 v1 t1 t3 t5 (fx4 (B_L_holds_49 v1 t1 t3 t5) n49) i5_49 i6_49 i7_49 x0_49 = some r := h
        unfold B_L_holds_49 at h
        refine lv_iload hx hb dL_holds_49 (lv_at hl 7 rfl) ?_
        refine lv_iload hx hb dL_holds_51 (lv_at hl 4 rfl) ?_
        refine lv_icmp_ge (tgt := 117) hx hb dL_holds_53 (by decide) (fun c11 => ?_) (fun c11 => ?_)
        · replace h := ip c11 h
          refine lv_iload hx hb dL_holds_117 (lv_at hl 6 rfl) ?_
          refine lv_if_eq (tgt := 175) hx hb dL_holds_119 (by decide) (fun c12 => ?_) (fun c12 => ?_)
          · replace h := ip c12 h
            cases h
          replace h := im c12 h
          refine lv_iload hx hb dL_holds_122 (lv_at hl 5 rfl) ?_
          refine lv_iload_n hx hb dL_holds_124 rfl (lv_at hl 3 rfl) ?_
          refine lv_icmp_ne (tgt := 175) hx hb dL_holds_125 (by decide) (fun c13 => ?_) (fun c13 => ?_)
          · replace h := im c13 h
            cases h
          replace h := ip c13 h
          refine lv_iload_n hx hb dL_holds_128 rfl (lv_at hl 1 rfl) ?_
          refine lv_aload_n hx hb dL_holds_129 rfl (lv_at hl 0 rfl) ?_
          refine lv_iconst (v := 1) hx hb dL_holds_130 (by decide) ?_
          replace h := bd h
          obtain ⟨t14, et14, h⟩ := h
          refine callEi (vx_runSW (As := [.ref h0, .int 1]) (rest := [.int v1]) ⟨hx, hb, hml, hown, hts⟩ (c_L_value l D T h0 A9_49 x0_49 1 _ t14 et14) (vx_cwSW 2 hts gL_holds_L_value rfl rfl rfl hdS_L_value ⟨Nat.le_of_ble_eq_true rfl, Nat.le_of_ble_eq_true rfl⟩) ⟨PM_blind, PM_at hP hD hK⟩ rfl rfl hl.1 rfl (lv_room (Nat.le_of_ble_eq_true rfl)) dL_holds_131 ⟨Nat.zero_le _, Nat.zero_le _⟩) hS hA hP hD (fun u15 H locs hP hD hS => ?_)
          refine lv_icmp_gt (tgt := 145) hx hb dL_holds_134 (by decide) (fun c16 => ?_) (fun c16 => ?_)
          · replace h := ip c16 h
            refine lv_aload_n hx hb dL_holds_145 rfl (lv_at hl 0 rfl) ?_
            refine lv_iconst (v := 0) hx hb dL_holds_146 (by decide) ?_
            replace h := bd h
            obtain ⟨t17, et17, h⟩ := h
            refine callEl (vx_runSW (As := [.ref h0, .int 0]) (rest := []) ⟨hx, hb, hml, hown, hts⟩ (c_L_weighs l D T h0 u15 t14.2 0 _ t17 et17) (vx_cwSW 2 hts gL_holds_L_weighs rfl rfl rfl hdS_L_weighs ⟨Nat.le_of_ble_eq_true rfl, Nat.le_of_ble_eq_true rfl⟩) ⟨PM_blind, PM_at hP hD hK⟩ rfl rfl hl.1 rfl (lv_room (Nat.le_of_ble_eq_true rfl)) dL_holds_147 ⟨Nat.zero_le _, Nat.zero_le _⟩) hS hA hP hD (fun u18 H locs hP hD hS => ?_)
            refine lv_iload_n hx hb dL_holds_150 rfl (lv_at hl 3 rfl) ?_
            refine lv_i2l (v := t3.1.toInt64) hx hb dL_holds_151 rfl ?_
            refine W.lcmp hx hb dL_holds_152 ?_
            refine lv_if_ne (tgt := 175) hx hb dL_holds_153 (by decide) (fun c19 => ?_) (fun c19 => ?_)
            · replace h := im c19 h
              cases h
            replace h := ip c19 h
            refine lv_aload_n hx hb dL_holds_156 rfl (lv_at hl 0 rfl) ?_
            refine lv_iconst (v := 3) hx hb dL_holds_157 (by decide) ?_
            replace h := bd h
            obtain ⟨t20, et20, h⟩ := h
            refine callEi (vx_runSW (As := [.ref h0, .int 3]) (rest := []) ⟨hx, hb, hml, hown, hts⟩ (c_L_value l D T h0 u18 t17.2 3 _ t20 et20) (vx_cwSW 2 hts gL_holds_L_value rfl rfl rfl hdS_L_value ⟨Nat.le_of_ble_eq_true rfl, Nat.le_of_ble_eq_true rfl⟩) ⟨PM_blind, PM_at hP hD hK⟩ rfl rfl hl.1 rfl (lv_room (Nat.le_of_ble_eq_true rfl)) dL_holds_158 ⟨Nat.zero_le _, Nat.zero_le _⟩) hS hA hP hD (fun u21 H locs hP hD hS => ?_)
            refine lv_if_gt (tgt := 171) hx hb dL_holds_161 (by decide) (fun c22 => ?_) (fun c22 => ?_)
            · replace h := ip c22 h
              refine lv_iconst (v := 1) hx hb dL_holds_171 (by decide) ?_
              refine lv_goto (tgt := 176) hx hb dL_holds_172 (by decide) ?_
              obtain rfl := Option.some.inj h
              exact W.zret hx hb hr rfl (fun t ht hW => ⟨⟨_, u21, rfl, rfl, by rw [ht]; exact hP, hD⟩, hS.F ht⟩) hS.2.2 dL_holds_176 hlocks
            replace h := im c22 h
            refine lv_aload_n hx hb dL_holds_164 rfl (lv_at hl 0 rfl) ?_
            replace h := bd h
            obtain ⟨t23, et23, h⟩ := h
            refine callEi (va_runV (As := []) (rest := []) ⟨hx, hb, hml, hown, hts⟩ (c_X4_bound l D T h0 u21 t20.2 _ t23 et23) (cwV 0 hts gL_holds_X4_bound rfl rfl rfl hdV_X4_bound ⟨Nat.le_of_ble_eq_true rfl, Nat.le_of_ble_eq_true rfl⟩) ⟨PM_blind, va_recv hK.1 hP (ci := 4) (q0 := 0) rfl rfl, PM_at hP hD hK⟩ rfl rfl hl.1 rfl (lv_room (Nat.le_of_ble_eq_true rfl)) dL_holds_165 ⟨Nat.zero_le _, Nat.zero_le _⟩) hS hA hP hD (fun u24 H locs hP hD hS => ?_)
            refine lv_if_ne (tgt := 175) hx hb dL_holds_168 (by decide) (fun c25 => ?_) (fun c25 => ?_)
            · replace h := im c25 h
              cases h
            replace h := ip c25 h
            refine lv_iconst (v := 1) hx hb dL_holds_171 (by decide) ?_
            refine lv_goto (tgt := 176) hx hb dL_holds_172 (by decide) ?_
            obtain rfl := Option.some.inj h
            exact W.zret hx hb hr rfl (fun t ht hW => ⟨⟨_, u24, rfl, rfl, by rw [ht]; exact hP, hD⟩, hS.F ht⟩) hS.2.2 dL_holds_176 hlocks
          replace h := im c16 h
          refine lv_iload_n hx hb dL_holds_137 rfl (lv_at hl 2 rfl) ?_
          refine lv_if_lt (tgt := 145) hx hb dL_holds_138 (by decide) (fun c26 => ?_) (fun c26 => ?_)
          · replace h := ip c26 h
            cases h
          replace h := im c26 h
          refine lv_iload_n hx hb dL_holds_141 rfl (lv_at hl 3 rfl) ?_
          refine lv_if_le (tgt := 175) hx hb dL_holds_142 (by decide) (fun c27 => ?_) (fun c27 => ?_)
          · replace h := ip c27 h
            cases h
          replace h := im c27 h
          refine lv_aload_n hx hb dL_holds_145 rfl (lv_at hl 0 rfl) ?_
          refine lv_iconst (v := 0) hx hb dL_holds_146 (by decide) ?_
          replace h := bd h
          obtain ⟨t28, et28, h⟩ := h
          refine callEl (vx_runSW (As := [.ref h0, .int 0]) (rest := []) ⟨hx, hb, hml, hown, hts⟩ (c_L_weighs l D T h0 u15 t14.2 0 _ t28 et28) (vx_cwSW 2 hts gL_holds_L_weighs rfl rfl rfl hdS_L_weighs ⟨Nat.le_of_ble_eq_true rfl, Nat.le_of_ble_eq_true rfl⟩) ⟨PM_blind, PM_at hP hD hK⟩ rfl rfl hl.1 rfl (lv_room (Nat.le_of_ble_eq_true rfl)) dL_holds_147 ⟨Nat.zero_le _, Nat.zero_le _⟩) hS hA hP hD (fun u29 H locs hP hD hS => ?_)
          refine lv_iload_n hx hb dL_holds_150 rfl (lv_at hl 3 rfl) ?_
          refine lv_i2l (v := t3.1.toInt64) hx hb dL_holds_151 rfl ?_
          refine W.lcmp hx hb dL_holds_152 ?_
          refine lv_if_ne (tgt := 175) hx hb dL_holds_153 (by decide) (fun c30 => ?_) (fun c30 => ?_)
          · replace h := im c30 h
            cases h
          replace h := ip c30 h
          refine lv_aload_n hx hb dL_holds_156 rfl (lv_at hl 0 rfl) ?_
          refine lv_iconst (v := 3) hx hb dL_holds_157 (by decide) ?_
          replace h := bd h
          obtain ⟨t31, et31, h⟩ := h
          refine callEi (vx_runSW (As := [.ref h0, .int 3]) (rest := []) ⟨hx, hb, hml, hown, hts⟩ (c_L_value l D T h0 u29 t28.2 3 _ t31 et31) (vx_cwSW 2 hts gL_holds_L_value rfl rfl rfl hdS_L_value ⟨Nat.le_of_ble_eq_true rfl, Nat.le_of_ble_eq_true rfl⟩) ⟨PM_blind, PM_at hP hD hK⟩ rfl rfl hl.1 rfl (lv_room (Nat.le_of_ble_eq_true rfl)) dL_holds_158 ⟨Nat.zero_le _, Nat.zero_le _⟩) hS hA hP hD (fun u32 H locs hP hD hS => ?_)
          refine lv_if_gt (tgt := 171) hx hb dL_holds_161 (by decide) (fun c33 => ?_) (fun c33 => ?_)
          · replace h := ip c33 h
            refine lv_iconst (v := 1) hx hb dL_holds_171 (by decide) ?_
            refine lv_goto (tgt := 176) hx hb dL_holds_172 (by decide) ?_
            obtain rfl := Option.some.inj h
            exact W.zret hx hb hr rfl (fun t ht hW => ⟨⟨_, u32, rfl, rfl, by rw [ht]; exact hP, hD⟩, hS.F ht⟩) hS.2.2 dL_holds_176 hlocks
          replace h := im c33 h
          refine lv_aload_n hx hb dL_holds_164 rfl (lv_at hl 0 rfl) ?_
          replace h := bd h
          obtain ⟨t34, et34, h⟩ := h
          refine callEi (va_runV (As := []) (rest := []) ⟨hx, hb, hml, hown, hts⟩ (c_X4_bound l D T h0 u32 t31.2 _ t34 et34) (cwV 0 hts gL_holds_X4_bound rfl rfl rfl hdV_X4_bound ⟨Nat.le_of_ble_eq_true rfl, Nat.le_of_ble_eq_true rfl⟩) ⟨PM_blind, va_recv hK.1 hP (ci := 4) (q0 := 0) rfl rfl, PM_at hP hD hK⟩ rfl rfl hl.1 rfl (lv_room (Nat.le_of_ble_eq_true rfl)) dL_holds_165 ⟨Nat.zero_le _, Nat.zero_le _⟩) hS hA hP hD (fun u35 H locs hP hD hS => ?_)
          refine lv_if_ne (tgt := 175) hx hb dL_holds_168 (by decide) (fun c36 => ?_) (fun c36 => ?_)
          · replace h := im c36 h
            cases h
          replace h := ip c36 h
          refine lv_iconst (v := 1) hx hb dL_holds_171 (by decide) ?_
          refine lv_goto (tgt := 176) hx hb dL_holds_172 (by decide) ?_
          obtain rfl := Option.some.inj h
          exact W.zret hx hb hr rfl (fun t ht hW => ⟨⟨_, u35, rfl, rfl, by rw [ht]; exact hP, hD⟩, hS.F ht⟩) hS.2.2 dL_holds_176 hlocks
        replace h := im c11 h
        refine lv_iload hx hb dL_holds_56 (lv_at hl 6 rfl) ?_
        refine lv_if_eq (tgt := 117) hx hb dL_holds_58 (by decide) (fun c37 => ?_) (fun c37 => ?_)
        · replace h := ip c37 h
          cases h
        replace h := im c37 h
        refine lv_aload_n hx hb dL_holds_61 rfl (lv_at hl 0 rfl) ?_
        refine lv_iload hx hb dL_holds_62 (lv_at hl 7 rfl) ?_
        replace h := bd h
        obtain ⟨t38, et38, h⟩ := h
        refine callEi (vx_runSW (As := [.ref h0, .int i7_49]) (rest := []) ⟨hx, hb, hml, hown, hts⟩ (c_L_liesOf l D T h0 A9_49 x0_49 i7_49 _ t38 et38) (vx_cwSW 2 hts gL_holds_L_liesOf rfl rfl rfl hdS_L_liesOf ⟨Nat.le_of_ble_eq_true rfl, Nat.le_of_ble_eq_true rfl⟩) ⟨PM_blind, PM_at hP hD hK⟩ rfl rfl hl.1 rfl (lv_room (Nat.le_of_ble_eq_true rfl)) dL_holds_64 ⟨Nat.zero_le _, Nat.zero_le _⟩) hS hA hP hD (fun u39 H locs hP hD hS => ?_)
        refine lv_istore (lv' := [(8, .int t38.1), (0, .ref h0), (1, .int v1), (2, .int t1.1), (3, .int t3.1), (4, .int ((2 * t5.1) + 1)), (5, .int i5_49), (6, .int i6_49), (7, .int i7_49)]) hx hb dL_holds_67 hl (by decide) rfl (fun ls hl => ?_)
        refine lv_iload hx hb dL_holds_69 (lv_at hl 6 rfl) ?_
        refine lv_iload hx hb dL_holds_71 (lv_at hl 0 rfl) ?_
        refine lv_aload_n hx hb dL_holds_73 rfl (lv_at hl 1 rfl) ?_
        refine lv_iconst (v := 1) hx hb dL_holds_74 (by decide) ?_
        replace h := bd h
        obtain ⟨t40, et40, h⟩ := h
        refine callEi (vx_runSW (As := [.ref h0, .int 1]) (rest := [.int t38.1, .int i5_49]) ⟨hx, hb, hml, hown, hts⟩ (c_L_value l D T h0 u39 t38.2 1 _ t40 et40) (vx_cwSW 2 hts gL_holds_L_value rfl rfl rfl hdS_L_value ⟨Nat.le_of_ble_eq_true rfl, Nat.le_of_ble_eq_true rfl⟩) ⟨PM_blind, PM_at hP hD hK⟩ rfl rfl hl.1 rfl (lv_room (Nat.le_of_ble_eq_true rfl)) dL_holds_75 ⟨Nat.zero_le _, Nat.zero_le _⟩) hS hA hP hD (fun u41 H locs hP hD hS => ?_)
        refine lv_icmp_gt (tgt := 85) hx hb dL_holds_78 (by decide) (fun c42 => ?_) (fun c42 => ?_)
        · replace h := ip c42 h
          refine lv_iconst (v := 0) hx hb dL_holds_85 (by decide) ?_
          refine lv_iadd hx hb dL_holds_86 ?_
          refine lv_istore (lv' := [(5, .int (i5_49 + 0)), (8, .int t38.1), (0, .ref h0), (1, .int v1), (2, .int t1.1), (3, .int t3.1), (4, .int ((2 * t5.1) + 1)), (6, .int i6_49), (7, .int i7_49)]) hx hb dL_holds_87 hl (by decide) rfl (fun ls hl => ?_)
          refine lv_iload hx hb dL_holds_89 (lv_at hl 1 rfl) ?_
          refine lv_if_lt (tgt := 108) hx hb dL_holds_91 (by decide) (fun c43 => ?_) (fun c43 => ?_)
          · replace h := ip c43 h
            cases h
          replace h := im c43 h
          refine lv_iload hx hb dL_holds_94 (lv_at hl 1 rfl) ?_
          refine lv_aload_n hx hb dL_holds_96 rfl (lv_at hl 2 rfl) ?_
          refine lv_iconst (v := 2) hx hb dL_holds_97 (by decide) ?_
          replace h := bd h
          obtain ⟨t44, et44, h⟩ := h
          refine callEi (vx_runSW (As := [.ref h0, .int 2]) (rest := [.int t38.1]) ⟨hx, hb, hml, hown, hts⟩ (c_L_value l D T h0 u41 t40.2 2 _ t44 et44) (vx_cwSW 2 hts gL_holds_L_value rfl rfl rfl hdS_L_value ⟨Nat.le_of_ble_eq_true rfl, Nat.le_of_ble_eq_true rfl⟩) ⟨PM_blind, PM_at hP hD hK⟩ rfl rfl hl.1 rfl (lv_room (Nat.le_of_ble_eq_true rfl)) dL_holds_98 ⟨Nat.zero_le _, Nat.zero_le _⟩) hS hA hP hD (fun u45 H locs hP hD hS => ?_)
          refine lv_icmp_gt (tgt := 108) hx hb dL_holds_101 (by decide) (fun c46 => ?_) (fun c46 => ?_)
          · replace h := ip c46 h
            cases h
          replace h := im c46 h
          refine lv_iconst (v := 1) hx hb dL_holds_104 (by decide) ?_
          refine lv_goto (tgt := 109) hx hb dL_holds_105 (by decide) ?_
          refine lv_istore (lv' := [(6, .int 1), (5, .int (i5_49 + 0)), (8, .int t38.1), (0, .ref h0), (1, .int v1), (2, .int t1.1), (3, .int t3.1), (4, .int ((2 * t5.1) + 1)), (7, .int i7_49)]) hx hb dL_holds_109 hl (by decide) rfl (fun ls hl => ?_)
          refine lv_iinc (v := i7_49 + 1) (lv' := [(7, .int (i7_49 + 1)), (6, .int 1), (5, .int (i5_49 + 0)), (8, .int t38.1), (0, .ref h0), (1, .int v1), (2, .int t1.1), (3, .int t3.1), (4, .int ((2 * t5.1) + 1))]) hx hb dL_holds_111 hl (k := 8) rfl rfl (by decide) rfl (fun ls hl => ?_)
          refine lv_goto (tgt := 49) hx hb dL_holds_114 (by decide) ?_
          exact ih49 (i5_49 + 0) 1 (i7_49 + 1) t44.2 _ _ _ ls h hP hD hS (lv_sub hl [4, 5, 6, 7, 8, 2, 1, 0] rfl)
        replace h := im c42 h
        refine lv_iconst (v := 1) hx hb dL_holds_81 (by decide) ?_
        refine lv_goto (tgt := 86) hx hb dL_holds_82 (by decide) ?_
        refine lv_iadd hx hb dL_holds_86 ?_
        refine lv_istore (lv' := [(5, .int (i5_49 + 1)), (8, .int t38.1), (0, .ref h0), (1, .int v1), (2, .int t1.1), (3, .int t3.1), (4, .int ((2 * t5.1) + 1)), (6, .int i6_49), (7, .int i7_49)]) hx hb dL_holds_87 hl (by decide) rfl (fun ls hl => ?_)
        refine lv_iload hx hb dL_holds_89 (lv_at hl 1 rfl) ?_
        refine lv_if_lt (tgt := 108) hx hb dL_holds_91 (by decide) (fun c47 => ?_) (fun c47 => ?_)
        · replace h := ip c47 h
          cases h
        replace h := im c47 h
        refine lv_iload hx hb dL_holds_94 (lv_at hl 1 rfl) ?_
        refine lv_aload_n hx hb dL_holds_96 rfl (lv_at hl 2 rfl) ?_
        refine lv_iconst (v := 2) hx hb dL_holds_97 (by decide) ?_
        replace h := bd h
        obtain ⟨t48, et48, h⟩ := h
        refine callEi (vx_runSW (As := [.ref h0, .int 2]) (rest := [.int t38.1]) ⟨hx, hb, hml, hown, hts⟩ (c_L_value l D T h0 u41 t40.2 2 _ t48 et48) (vx_cwSW 2 hts gL_holds_L_value rfl rfl rfl hdS_L_value ⟨Nat.le_of_ble_eq_true rfl, Nat.le_of_ble_eq_true rfl⟩) ⟨PM_blind, PM_at hP hD hK⟩ rfl rfl hl.1 rfl (lv_room (Nat.le_of_ble_eq_true rfl)) dL_holds_98 ⟨Nat.zero_le _, Nat.zero_le _⟩) hS hA hP hD (fun u49 H locs hP hD hS => ?_)
        refine lv_icmp_gt (tgt := 108) hx hb dL_holds_101 (by decide) (fun c50 => ?_) (fun c50 => ?_)
        · replace h := ip c50 h
          cases h
        replace h := im c50 h
        refine lv_iconst (v := 1) hx hb dL_holds_104 (by decide) ?_
        refine lv_goto (tgt := 109) hx hb dL_holds_105 (by decide) ?_
        refine lv_istore (lv' := [(6, .int 1), (5, .int (i5_49 + 1)), (8, .int t38.1), (0, .ref h0), (1, .int v1), (2, .int t1.1), (3, .int t3.1), (4, .int ((2 * t5.1) + 1)), (7, .int i7_49)]) hx hb dL_holds_109 hl (by decide) rfl (fun ls hl => ?_)
        refine lv_iinc (v := i7_49 + 1) (lv' := [(7, .int (i7_49 + 1)), (6, .int 1), (5, .int (i5_49 + 1)), (8, .int t38.1), (0, .ref h0), (1, .int v1), (2, .int t1.1), (3, .int t3.1), (4, .int ((2 * t5.1) + 1))]) hx hb dL_holds_111 hl (k := 8) rfl rfl (by decide) rfl (fun ls hl => ?_)
        refine lv_goto (tgt := 49) hx hb dL_holds_114 (by decide) ?_
        exact ih49 (i5_49 + 1) 1 (i7_49 + 1) t48.2 _ _ _ ls h hP hD hS (lv_sub hl [4, 5, 6, 7, 8, 2, 1, 0] rfl)
  exact K49 1000 0 1 0 t8.2 _ _ _ ls h hP hD hS (lv_sub hl [6, 7, 5, 4, 3, 2, 1, 0] rfl)
set_option maxHeartbeats 4000000 in
set_option maxRecDepth 100000 in
theorem c_L_splits (l : Launch) (D : va_G) (T : Nat → ClassId) (h0 : Nat) (A0 : Nat → Nat → Nat) (Z0 : Nat → St) (v1 : Int32) (v2 : Int32) (v3 : Int32) (sz : Nat) (r : Int32 × (Nat → St)) (h : F_L_splits Z0 v1 v2 v3 = some r) : Met l yL_splits wsL_splits ({ frames := 8, cells := 0, slots := 0, locals := 148 } : Room) (va_Pc [.ref h0, .int v1, .int v2, .int v3] (PM D T (scW T h0 A0 (Z0)) sz)) (QEi D (scW T h0) r.1 r.2 (va_A (scW T h0 A0 (Z0)) sz)) 0 0 (va_A (scW T h0 A0 (Z0)) sz) := by
  refine met_of (cc := cL_splits) (maxL := 6) (ret := (some .boolean)) (lv := [(0, .ref h0), (1, .int v1), (2, .int v2), (3, .int v3)]) (by decide) rfl (Nat.le_of_ble_eq_true rfl) rfl ?_
  intro p e s m args below meth c ls C0 hl hB
  obtain ⟨hx, hb, hr, hml, hown, hts, hlocks, hname⟩ := C0
  obtain ⟨hsz, hP, hK, hD0⟩ := hB
  subst hsz
  have hD := hD0.self (sz := s.heap.size)
  generalize hAe : va_A (scW T h0 A0 (Z0)) s.heap.size = A at hD ⊢
  have hA : ∀ q : Nat, s.heap.size ≤ q → A q := fun q h => by rw [← hAe]; exact Or.inr h
  have hS : va_S A s.heap s.heap [] := va_S.rf
  unfold F_L_splits at h
  refine lv_aload_n hx hb dL_splits_0 rfl (lv_at hl 0 rfl) ?_
  refine lv_iload_n hx hb dL_splits_1 rfl (lv_at hl 1 rfl) ?_
  refine lv_iload_n hx hb dL_splits_2 rfl (lv_at hl 2 rfl) ?_
  refine lv_iconst (v := 0) hx hb dL_splits_3 (by decide) ?_
  refine lv_iload_n hx hb dL_splits_4 rfl (lv_at hl 3 rfl) ?_
  replace h := bd h
  obtain ⟨t1, et1, h⟩ := h
  refine callEl (vx_runSW (As := [.ref h0, .int v1, .int v2, .int 0, .int v3]) (rest := []) ⟨hx, hb, hml, hown, hts⟩ (c_L_behind l D T h0 A0 Z0 v1 v2 0 v3 _ t1 et1) (vx_cwSW 5 hts gL_splits_L_behind rfl rfl rfl hdS_L_behind ⟨Nat.le_of_ble_eq_true rfl, Nat.le_of_ble_eq_true rfl⟩) ⟨PM_blind, PM_at hP hD hK⟩ rfl rfl hl.1 rfl (lv_room (Nat.le_of_ble_eq_true rfl)) dL_splits_5 ⟨Nat.zero_le _, Nat.zero_le _⟩) hS hA hP hD (fun u2 H locs hP hD hS => ?_)
  refine lv_aload_n hx hb dL_splits_8 rfl (lv_at hl 0 rfl) ?_
  refine lv_iload_n hx hb dL_splits_9 rfl (lv_at hl 1 rfl) ?_
  refine lv_iload_n hx hb dL_splits_10 rfl (lv_at hl 2 rfl) ?_
  refine lv_iconst (v := 1) hx hb dL_splits_11 (by decide) ?_
  refine lv_iload_n hx hb dL_splits_12 rfl (lv_at hl 3 rfl) ?_
  replace h := bd h
  obtain ⟨t3, et3, h⟩ := h
  refine callEl (vx_runSW (As := [.ref h0, .int v1, .int v2, .int 1, .int v3]) (rest := [.long t1.1]) ⟨hx, hb, hml, hown, hts⟩ (c_L_behind l D T h0 u2 t1.2 v1 v2 1 v3 _ t3 et3) (vx_cwSW 5 hts gL_splits_L_behind rfl rfl rfl hdS_L_behind ⟨Nat.le_of_ble_eq_true rfl, Nat.le_of_ble_eq_true rfl⟩) ⟨PM_blind, PM_at hP hD hK⟩ rfl rfl hl.1 rfl (lv_room (Nat.le_of_ble_eq_true rfl)) dL_splits_13 ⟨Nat.zero_le _, Nat.zero_le _⟩) hS hA hP hD (fun u4 H locs hP hD hS => ?_)
  refine lv_ladd hx hb dL_splits_16 ?_
  refine lv_aload_n hx hb dL_splits_17 rfl (lv_at hl 0 rfl) ?_
  refine lv_iload_n hx hb dL_splits_18 rfl (lv_at hl 1 rfl) ?_
  refine lv_iload_n hx hb dL_splits_19 rfl (lv_at hl 2 rfl) ?_
  refine lv_iconst (v := 2) hx hb dL_splits_20 (by decide) ?_
  refine lv_iload_n hx hb dL_splits_21 rfl (lv_at hl 3 rfl) ?_
  replace h := bd h
  obtain ⟨t5, et5, h⟩ := h
  refine callEl (vx_runSW (As := [.ref h0, .int v1, .int v2, .int 2, .int v3]) (rest := [.long (t1.1 + t3.1)]) ⟨hx, hb, hml, hown, hts⟩ (c_L_behind l D T h0 u4 t3.2 v1 v2 2 v3 _ t5 et5) (vx_cwSW 5 hts gL_splits_L_behind rfl rfl rfl hdS_L_behind ⟨Nat.le_of_ble_eq_true rfl, Nat.le_of_ble_eq_true rfl⟩) ⟨PM_blind, PM_at hP hD hK⟩ rfl rfl hl.1 rfl (lv_room (Nat.le_of_ble_eq_true rfl)) dL_splits_22 ⟨Nat.zero_le _, Nat.zero_le _⟩) hS hA hP hD (fun u6 H locs hP hD hS => ?_)
  refine lv_ladd hx hb dL_splits_25 ?_
  refine lv_lstore (lv' := [(4, .long ((t1.1 + t3.1) + t5.1)), (0, .ref h0), (1, .int v1), (2, .int v2), (3, .int v3)]) hx hb dL_splits_26 hl (by decide) rfl (fun ls hl => ?_)
  refine lv_lload hx hb dL_splits_28 (lv_at hl 0 rfl) ?_
  refine lv_aload_n hx hb dL_splits_30 rfl (lv_at hl 1 rfl) ?_
  refine lv_iload_n hx hb dL_splits_31 rfl (lv_at hl 4 rfl) ?_
  refine lv_iconst (v := 1) hx hb dL_splits_32 (by decide) ?_
  refine lv_iadd hx hb dL_splits_33 ?_
  replace h := bd h
  obtain ⟨t7, et7, h⟩ := h
  refine callEl (vx_runSW (As := [.ref h0, .int (v3 + 1)]) (rest := [.long ((t1.1 + t3.1) + t5.1)]) ⟨hx, hb, hml, hown, hts⟩ (c_L_weighs l D T h0 u6 t5.2 (v3 + 1) _ t7 et7) (vx_cwSW 2 hts gL_splits_L_weighs rfl rfl rfl hdS_L_weighs ⟨Nat.le_of_ble_eq_true rfl, Nat.le_of_ble_eq_true rfl⟩) ⟨PM_blind, PM_at hP hD hK⟩ rfl rfl hl.1 rfl (lv_room (Nat.le_of_ble_eq_true rfl)) dL_splits_34 ⟨Nat.zero_le _, Nat.zero_le _⟩) hS hA hP hD (fun u8 H locs hP hD hS => ?_)
  refine W.lcmp hx hb dL_splits_37 ?_
  refine lv_if_ne (tgt := 45) hx hb dL_splits_38 (by decide) (fun c9 => ?_) (fun c9 => ?_)
  · replace h := im c9 h
    cases h
  replace h := ip c9 h
  refine lv_iconst (v := 1) hx hb dL_splits_41 (by decide) ?_
  refine lv_goto (tgt := 46) hx hb dL_splits_42 (by decide) ?_
  obtain rfl := Option.some.inj h
  exact W.zret hx hb hr rfl (fun t ht hW => ⟨⟨_, u8, rfl, rfl, by rw [ht]; exact hP, hD⟩, hS.F ht⟩) hS.2.2 dL_splits_46 hlocks
end
section
/-! the law's script, a number of it -/
def F_L_cell (L : Nat) (xs : Nat → Int32) (v1 : Int32) : Option Int32 := if nI L ≤ v1 then some ((214013 * (v1 + 43)) &&& 2147483647) else if v1 < 0 ∨ L ≤ v1.toNatClampNeg then none else some (xs v1.toNatClampNeg &&& 2147483647)
def PS (b L : Nat) (xs : Nat → Int32) (U : State) : Prop := va_X b L xs U U.heap ∧ b < U.heap.size
theorem PS_blind {b L : Nat} {xs : Nat → Int32} {av : List Value} : FrameBlind (va_Pc av (PS b L xs)) := fun _ U g mk q => ⟨q.1, va_X.moved (u := U) (U := U.calling g mk _) (Vm.Alike.refl U.vm) q.2.1, q.2.2⟩
theorem PS_at {b L : Nat} {xs : Nat → Int32} {av : List Value} {s : State} {H : Heap} {locs : List Loc} {A : Nat → Prop} (hX : va_X b L xs s s.heap) (hbl : b < s.heap.size) (hbA : ¬ A b) (hS : va_S A s.heap H locs) : ∀ U : State, U.heap = H → s.WarmedH U.vm → va_Pc av (PS b L xs) av.toArray U := fun U hU hW => ⟨rfl, va_X.moved hW.alike (hX.kept (by rw [hU]; exact hS.2.1 b hbl hbA)), by rw [hU]; exact Nat.lt_of_lt_of_le hbl hS.1⟩
theorem hdS_L_cell : yL_cell.cls ≠ "java/lang/invoke/MethodHandle" ∧ yL_cell.cls ≠ "java/lang/invoke/VarHandle" ∧ (parseMethodDescriptor yL_cell.desc).map (fun d => d.parameters.length) = some 2 := by decide +kernel
set_option maxHeartbeats 4000000 in
set_option maxRecDepth 100000 in
theorem c_L_cell (l : Launch) (b L : Nat) (xs : Nat → Int32) (v1 : Int32) (r : Int32) (h : F_L_cell L xs v1 = some r) : Met l yL_cell wsL_cell ({ frames := 0, cells := 0, slots := 0, locals := 0 } : Room) (va_Pc [.ref b, .int v1] (PS b L xs)) (QRi r) 0 0 (fun _ => False) := by
  refine met_of (cc := cL_cell) (maxL := 2) (ret := (some .int)) (lv := [(0, .ref b), (1, .int v1)]) (by decide) rfl (Nat.le_of_ble_eq_true rfl) rfl ?_
  intro p e s m args below meth c ls C0 hl hB
  obtain ⟨hx, hb, hr, hml, hown, hts, hlocks, hname⟩ := C0
  obtain ⟨hX, hbl⟩ := hB
  have hS : va_S (fun q => s.heap.size ≤ q) s.heap s.heap [] := va_S.rf
  have hbA : ¬ (fun q => s.heap.size ≤ q) b := Nat.not_le.mpr hbl
  unfold F_L_cell at h
  refine lv_iload_n hx hb dL_cell_0 rfl (lv_at hl 1 rfl) ?_
  refine lv_aload_n hx hb dL_cell_1 rfl (lv_at hl 0 rfl) ?_
  refine va_slen hx hb hX hbl hbA hS dL_cell_2 ?_
  refine lv_icmp_ge (tgt := 12) hx hb dL_cell_3 (by decide) (fun c1 => ?_) (fun c1 => ?_)
  · replace h := ip c1 h
    refine lv_ldc hx hb hown (hts (.constant RL 7 (214013)) (List.mem_of_getElem? (i := 1) rfl)) dL_cell_12 ?_
    refine lv_iload_n hx hb dL_cell_14 rfl (lv_at hl 1 rfl) ?_
    refine lv_bipush (v := 43) hx hb dL_cell_15 (by decide) ?_
    refine lv_iadd hx hb dL_cell_17 ?_
    refine lv_imul hx hb dL_cell_18 ?_
    refine lv_ldc hx hb hown (hts (.constant RL 8 (2147483647)) (List.mem_of_getElem? (i := 2) rfl)) dL_cell_19 ?_
    refine lv_iand hx hb dL_cell_21 ?_
    exact W.iret hx hb hr (fun t ht hW => ⟨_, rfl, Option.some.inj h, ht⟩) (fun q hq => absurd hq List.not_mem_nil) dL_cell_22 hlocks
  replace h := im c1 h
  replace h := gd h
  obtain ⟨g1, h⟩ := h
  refine lv_aload_n hx hb dL_cell_6 rfl (lv_at hl 0 rfl) ?_
  refine lv_iload_n hx hb dL_cell_7 rfl (lv_at hl 1 rfl) ?_
  refine va_sld hx hb hX hbl hbA hS g1 dL_cell_8 ?_
  refine lv_goto (tgt := 19) hx hb dL_cell_9 (by decide) ?_
  refine lv_ldc hx hb hown (hts (.constant RL 8 (2147483647)) (List.mem_of_getElem? (i := 2) rfl)) dL_cell_19 ?_
  refine lv_iand hx hb dL_cell_21 ?_
  exact W.iret hx hb hr (fun t ht hW => ⟨_, rfl, Option.some.inj h, ht⟩) (fun q hq => absurd hq List.not_mem_nil) dL_cell_22 hlocks
def B_L_law_123 (L : Nat) (xs : Nat → Int32) (t1 : Int32) (t5 : Int32) (t6 : Int32) (t7 : Int32) (k123 : Int32 → Int32 → Int32 → (Nat → St) → Option (Int32 × (Nat → St))) (i5_123 : Int32) (i6_123 : Int32) (i7_123 : Int32) (x0_123 : Nat → St) : Option (Int32 × (Nat → St)) :=
  if 24 ≤ i7_123 then ((F_L_value x0_123 3).bind fun t25 => if i5_123 = 0 then none else ((F_X4_forget t25.2).bind fun t28 => if t28.1 = 24 then ((F_L_value t28.2 3).bind fun t31 => if t31.1 = ((2 * (2 + (t1 - t1 / 15 * 15))) + 1) then ((F_L_value t31.2 2).bind fun t34 => if t34.1 = 0 then ((F_L_undoes t34.2).bind fun t37 => if t37.1 < 0 then none else ((F_L_value t37.2 3).bind fun t40 => if t40.1 = t25.1 then ((F_L_value t40.2 2).bind fun t43 => if t43.1 = 24 then ((T_L_asks t43.2 0 1).bind fun t46 => if t46 = ((-2000001)) then ((T_L_asks t43.2 1 1).bind fun t49 => if t49 = ((-2000001)) then ((F_L_holds t43.2 i6_123).bind fun t52 => if t52.1 = 0 then none else (some (1, t52.2))) else none) else none) else none) else none)) else none) else none) else none)) else (if i5_123 = 0 then none else ((F_L_cell L xs (6 + i7_123)).bind fun t56 => if (2 + (t1 - t1 / 15 * 15)) / 2 = 0 then none else (some (1 + (t56 - t56 / ((2 + (t1 - t1 / 15 * 15)) / 2) * ((2 + (t1 - t1 / 15 * 15)) / 2)))).bind fun t58 => if ((2 + (t1 - t1 / 15 * 15)) - (2 * t58)) + 1 = 0 then none else (some ((t56 / 32) - (t56 / 32) / (((2 + (t1 - t1 / 15 * 15)) - (2 * t58)) + 1) * (((2 + (t1 - t1 / 15 * 15)) - (2 * t58)) + 1))).bind fun t60 => (some ((((1 <<< (t58 &&& 31)) - 1) <<< (t60 &&& 31)) <<< (t58 &&& 31))).bind fun t61 => (F_L_value x0_123 3).bind fun t62 => (F_L_splits t62.2 (((1 <<< (t58 &&& 31)) - 1) <<< (t60 &&& 31)) t61 ((t56 / 1024) - (t56 / 1024) / 20 * 20)).bind fun t64 => (some (i6_123 + (((((t5 &&& t6) &&& t7) &&& 1073741823) >>> (i7_123 &&& 31)) &&& 1))).bind fun t66 => (F_L_asks t64.2 (((1 <<< (t58 &&& 31)) - 1) <<< (t60 &&& 31)) t61).bind fun t67 => if t64.1 = 0 then none else (if t67.1 < 0 then none else (if 2 < t67.1 then none else ((F_L_value t67.2 2).bind fun t72 => if t72.1 = (i7_123 + 1) then ((F_L_value t72.2 6).bind fun t75 => if t75.1 = (i7_123 + 1) then ((F_L_value t75.2 3).bind fun t78 => if t62.1 < t78.1 then none else ((F_L_holds t78.2 t66).bind fun t81 => if t81.1 = 0 then none else (k123 1 t66 (i7_123 + 1) t81.2))) else none) else none)))))
def F_L_law (L : Nat) (xs : Nat → Int32) (Z0 : Nat → St) : Option (Int32 × (Nat → St)) :=
  (F_L_cell L xs 0).bind fun t1 => (F_L_cell L xs 1).bind fun t2 => if (2 * (2 + (t1 - t1 / 15 * 15))) + 1 = 0 then none else (some (t2 - t2 / ((2 * (2 + (t1 - t1 / 15 * 15))) + 1) * ((2 * (2 + (t1 - t1 / 15 * 15))) + 1))).bind fun t4 => (F_L_cell L xs 2).bind fun t5 => (F_L_cell L xs 3).bind fun t6 => (F_L_cell L xs 4).bind fun t7 => (F_L_begins Z0 (2 + (t1 - t1 / 15 * 15))).bind fun t8 => if t8.1 = 0 then ((T_L_asks t8.2 1 2).bind fun t11 => if t11 = ((-2000002)) then ((F_L_cell L xs 5).bind fun t14 => (F_L_limits t8.2 (t14 - t14 / 3 * 3)).bind fun t15 => if t15.1 = ((2 * (2 + (t1 - t1 / 15 * 15))) + 1) then ((F_L_hides t15.2 t4 (((t5 &&& t6) &&& t7) &&& 1073741823)).bind fun t18 => if t18.1 = ((-1)) then ((F_L_holds t18.2 0).bind fun t21 => if t21.1 = 0 then none else (fx4 (B_L_law_123 L xs t1 t5 t6 t7) 1000 1 0 0 t21.2)) else none) else none) else none) else none
end
section
/-! bits and numbers: starting texts of the kit, families Int32 by its bits, bits of a number (NOTES.md) -/
def bt (x : Int32) (i : Nat) : Bool := x.toBitVec.getLsbD i
theorem b_ext {x y : Int32} (h : ∀ i, i < 32 → bt x i = bt y i) : x = y := Int32.toBitVec_inj.mp (BitVec.eq_of_getLsbD_eq (fun i hi => h i hi))
theorem b_or (x y : Int32) (i : Nat) : bt (x ||| y) i = (bt x i || bt y i) := by unfold bt; rw [Int32.toBitVec_or, BitVec.getLsbD_or]
theorem b_and (x y : Int32) (i : Nat) : bt (x &&& y) i = (bt x i && bt y i) := by unfold bt; rw [Int32.toBitVec_and, BitVec.getLsbD_and]
theorem b_xor (x y : Int32) (i : Nat) : bt (x ^^^ y) i = (bt x i ^^ bt y i) := by unfold bt; rw [Int32.toBitVec_xor, BitVec.getLsbD_xor]
theorem b_big {x : Int32} {i : Nat} (h : 32 ≤ i) : bt x i = false := BitVec.getLsbD_of_ge _ _ h
theorem b_255 (i : Nat) : bt 255 i = decide (i < 8) := by
  rcases Nat.lt_or_ge i 32 with h | h
  · exact (by decide +kernel : ∀ i, i < 32 → bt 255 i = decide (i < 8)) i h
  · rw [b_big h, decide_eq_false (by omega)]
theorem b_65535 (i : Nat) : bt 65535 i = decide (i < 16) := by
  rcases Nat.lt_or_ge i 32 with h | h
  · exact (by decide +kernel : ∀ i, i < 32 → bt 65535 i = decide (i < 16)) i h
  · rw [b_big h, decide_eq_false (by omega)]
theorem b_m1 : ∀ i, i < 32 → bt (-1) i = true := by decide +kernel
theorem b_0 (i : Nat) : bt 0 i = false := BitVec.getLsbD_zero
theorem s_l : ∀ n, n < 32 → ((nI n &&& 31).toBitVec.smod 32).toNat = n := by decide +kernel
theorem s_u : ∀ n, n < 32 → (((nI n).toUInt32 &&& Int32.toUInt32 31).toBitVec % 32).toNat = n := by decide +kernel
theorem b_shl (n : Nat) (hn : n < 32) (x : Int32) {i : Nat} (hi : i < 32) : bt (x <<< (nI n &&& 31)) i = (decide (n ≤ i) && bt x (i - n)) := by
  unfold bt
  rw [Int32.toBitVec_shiftLeft]
  show (x.toBitVec <<< ((nI n &&& 31).toBitVec.smod 32).toNat).getLsbD i = _
  rw [s_l n hn, BitVec.getLsbD_shiftLeft]
  rcases Nat.lt_or_ge i n with h | h
  · simp [h, Nat.not_le.mpr h]
  · simp [hi, h, Nat.not_lt.mpr h]
theorem b_ushr (n : Nat) (hn : n < 32) (x : Int32) (i : Nat) : bt ((x.toUInt32 >>> ((nI n).toUInt32 &&& Int32.toUInt32 31)).toInt32) i = bt x (n + i) := by
  show (x.toUInt32 >>> ((nI n).toUInt32 &&& Int32.toUInt32 31)).toBitVec.getLsbD i = x.toUInt32.toBitVec.getLsbD (n + i)
  rw [UInt32.toBitVec_shiftRight]
  show (x.toUInt32.toBitVec >>> (((nI n).toUInt32 &&& Int32.toUInt32 31).toBitVec % 32).toNat).getLsbD i = _
  rw [s_u n hn, BitVec.getLsbD_ushiftRight]
theorem b_sshr (n : Nat) (hn : n < 32) (x : Int32) {i : Nat} (hi : i < 32) : bt (x >>> (nI n &&& 31)) i = if n + i < 32 then bt x (n + i) else bt x 31 := by
  unfold bt
  rw [Int32.toBitVec_shiftRight]
  show (x.toBitVec.sshiftRight ((nI n &&& 31).toBitVec.smod 32).toNat).getLsbD i = _
  rw [s_l n hn, BitVec.getLsbD_sshiftRight, BitVec.msb_eq_getLsbD_last]
  simp [hi]
theorem b_shl8 (x : Int32) {i : Nat} (hi : i < 32) : bt (x <<< ((8 : Int32) &&& 31)) i = (decide (8 ≤ i) && bt x (i - 8)) := b_shl 8 (by omega) x hi
theorem b_shl16 (x : Int32) {i : Nat} (hi : i < 32) : bt (x <<< ((16 : Int32) &&& 31)) i = (decide (16 ≤ i) && bt x (i - 16)) := b_shl 16 (by omega) x hi
theorem b_shl24 (x : Int32) {i : Nat} (hi : i < 32) : bt (x <<< ((24 : Int32) &&& 31)) i = (decide (24 ≤ i) && bt x (i - 24)) := b_shl 24 (by omega) x hi
theorem b_sshr8 (x : Int32) {i : Nat} (hi : i < 32) : bt (x >>> ((8 : Int32) &&& 31)) i = if 8 + i < 32 then bt x (8 + i) else bt x 31 := b_sshr 8 (by omega) x hi
theorem fa_lt (a b : Int32) : a < b ↔ a.toInt < b.toInt := Int32.lt_iff_toInt_lt
theorem fa_le (a b : Int32) : a ≤ b ↔ a.toInt ≤ b.toInt := Int32.le_iff_toInt_le
theorem fa_eq (a b : Int32) : a = b ↔ a.toInt = b.toInt := Int32.toInt_inj.symm
theorem fa_lt64 (a b : Int64) : a < b ↔ a.toInt < b.toInt := Int64.lt_iff_toInt_lt
theorem fa_le64 (a b : Int64) : a ≤ b ↔ a.toInt ≤ b.toInt := Int64.le_iff_toInt_le
theorem fa_eq64 (a b : Int64) : a = b ↔ a.toInt = b.toInt := Int64.toInt_inj.symm
/-- a comparison of two ints taken as longs -/
theorem fa_wide_lt (a b : Int32) : a.toInt64 < b.toInt64 ↔ a < b := by rw [fa_lt64, fa_lt, Int32.toInt_toInt64, Int32.toInt_toInt64]
theorem fa_wide_le (a b : Int32) : a.toInt64 ≤ b.toInt64 ↔ a ≤ b := by rw [fa_le64, fa_le, Int32.toInt_toInt64, Int32.toInt_toInt64]
theorem fa_wide_eq (a b : Int32) : a.toInt64 = b.toInt64 ↔ a = b := by rw [fa_eq64, fa_eq, Int32.toInt_toInt64, Int32.toInt_toInt64]
/-- one strict comparison gives all the others -/
theorem fa_of_lt {a b : Int32} (h : a < b) : a ≤ b ∧ ¬ b ≤ a ∧ ¬ b < a ∧ a ≠ b ∧ b ≠ a := by
  rw [fa_lt] at h
  refine ⟨?_, ?_, ?_, ?_, ?_⟩
  · rw [fa_le]; omega
  · rw [fa_le]; omega
  · rw [fa_lt]; omega
  · intro e; rw [fa_eq] at e; omega
  · intro e; rw [fa_eq] at e; omega
theorem fa_of_nlt {a b : Int32} (h : ¬ a < b) : b ≤ a := by
  rw [fa_lt] at h
  rw [fa_le]
  omega
theorem fa_of_nle {a b : Int32} (h : ¬ a ≤ b) : b < a := by
  rw [fa_le] at h
  rw [fa_lt]
  omega
theorem fa_le_ne {a b : Int32} (h : a ≤ b) (h2 : a ≠ b) : a < b := by
  rw [fa_le] at h
  rw [fa_lt]
  have h3 : a.toInt ≠ b.toInt := fun e => h2 ((fa_eq a b).mpr e)
  omega
theorem fa_three (a b : Int32) : a < b ∨ a = b ∨ b < a := by
  rw [fa_lt, fa_lt, fa_eq]
  omega
theorem fa_trans {a b c : Int32} (h : a < b) (h2 : b ≤ c) : a < c := by
  rw [fa_lt] at *
  rw [fa_le] at h2
  omega
/-! ===== small literals as numbers ===== -/
theorem fa_lit (n : Nat) : (OfNat.ofNat n : Int32) = nI n := rfl
theorem fa_litL (n : Nat) : (OfNat.ofNat n : Int64) = lN n := rfl
/-! ===== bits of a number: 'or', masks, one bit ===== -/
theorem fa_and (a b : Nat) : nI a &&& nI b = nI (a &&& b) := by
  apply Int32.toBitVec_inj.1
  show BitVec.ofNat 32 a &&& BitVec.ofNat 32 b = BitVec.ofNat 32 (a &&& b)
  apply BitVec.eq_of_getLsbD_eq
  intro i hi
  simp [hi]
theorem fa_or (a b : Nat) : nI a ||| nI b = nI (a ||| b) := by
  apply Int32.toBitVec_inj.1
  show BitVec.ofNat 32 a ||| BitVec.ofNat 32 b = BitVec.ofNat 32 (a ||| b)
  apply BitVec.eq_of_getLsbD_eq
  intro i hi
  simp [hi]
/-- a remainder by a power of two, as a mask -/
theorem fa_mask (n k : Nat) : nI n &&& nI (2 ^ k - 1) = nI (n % 2 ^ k) := by rw [fa_and, Nat.and_two_pow_sub_one_eq_mod]
/-- 'or' of a high part and a low one that don't meet is their sum -/
theorem fa_or_sum {a k : Nat} (b : Nat) (h : a < 2 ^ k) : nI (2 ^ k * b) ||| nI a = nI (2 ^ k * b + a) := by rw [fa_or, Nat.two_pow_add_eq_or_of_lt h]
/-- one bit, by 'and' with a power of two -/
theorem fa_bit {n j : Nat} (hj : j < 31) : nI n &&& nI (2 ^ j) = 0 ↔ n.testBit j = false := by
  have h2 : (2 : Nat) ^ j < 2 ^ 31 := Nat.pow_lt_pow_right (by decide) hj
  have hle : n &&& 2 ^ j ≤ 2 ^ j := Nat.and_le_right
  have e : n &&& 2 ^ j = 0 ↔ n.testBit j = false := by
    constructor
    · intro h
      have h1 : (n &&& 2 ^ j).testBit j = false := by rw [h]; simp
      rw [Nat.testBit_and] at h1
      first | simpa using h1 | simpa [Nat.testBit_two_pow_self] using h1 | simpa [Nat.testBit_two_pow] using h1
    · intro h
      apply Nat.eq_of_testBit_eq
      intro i
      rw [Nat.testBit_and]
      by_cases hi : j = i
      · subst hi; simp [h]
      · first | (simp [Nat.testBit_two_pow, hi]; done) | (simp [Nat.testBit_two_pow_of_ne hi]; done)
  rw [fa_and]
  constructor
  · intro h
    apply e.mp
    rcases Nat.eq_zero_or_pos (n &&& 2 ^ j) with z | z
    · exact z
    · exact absurd h (nI_ne0 z (Nat.lt_of_le_of_lt hle h2))
  · intro h
    rw [e.mpr h]; exact nI_0
/-- a remainder by a power of two of a number that isn't negative, as Java divides -/
theorem fa_rem {a k : Nat} (ha : a < 2 ^ 31) (hk : k < 31) : nI a - nI a / nI (2 ^ k) * nI (2 ^ k) = nI (a % 2 ^ k) := pk_rem ha (Nat.two_pow_pos k) (Nat.pow_lt_pow_right (by decide) hk)
theorem fb_xorI (a b : Nat) : nI a ^^^ nI b = nI (a ^^^ b) := by
  apply Int32.toBitVec_inj.1
  show BitVec.ofNat 32 a ^^^ BitVec.ofNat 32 b = BitVec.ofNat 32 (a ^^^ b)
  apply BitVec.eq_of_getLsbD_eq
  intro i hi
  simp [hi]
end
section
/-! the pure layer: loops, numbers, the true answer (as in whole) -/
theorem be {α β : Type} {o : Option α} {a : α} {f : α → Option β} (h : o = some a) : o.bind f = f a := by rw [h]; rfl
theorem sb {α β : Type} {a : α} {f : α → Option β} : (some a).bind f = f a := rfl
theorem ind {α : Type} {m : Nat} {Q : Nat → Nat → α → Prop} (R : Nat → α → Prop) (h : ∀ N i s, i ≤ m → R i s → (∀ s', i < m → R (i + 1) s' → Q N (i + 1) s') → Q (N + 1) i s) : ∀ d i s N, d + i = m → d < N → R i s → Q N i s
  | d, _, _, 0, _, hN, _ => absurd hN (Nat.not_lt_zero d)
  | 0, i, s, N + 1, he, _, hR => h N i s (by omega) hR (fun _ hi _ => absurd hi (by omega))
  | d + 1, i, s, N + 1, he, hN, hR => h N i s (by omega) hR (fun s' _ hR' => ind R h d (i + 1) s' N (by omega) (by omega) hR')
theorem ux_at (f : Nat → Int32) (k : Nat) (x : Int32) : upd f k x k = x := if_pos rfl
theorem ux_ne (f : Nat → Int32) {k : Nat} (x : Int32) {j : Nat} (h : j ≠ k) : upd f k x j = f j := if_neg h
theorem and0 (x : Int32) : x &&& 0 = 0 := b_ext (by intro i _; rw [b_and, b_0, Bool.and_false])
theorem b_1 (i : Nat) : bt 1 i = decide (i = 0) := by
  rcases Nat.lt_or_ge i 32 with h | h
  · exact (by decide +kernel : ∀ i, i < 32 → bt 1 i = decide (i = 0)) i h
  · rw [b_big h, decide_eq_false (by omega)]
theorem b_one {k : Nat} (hk : k < 32) {i : Nat} (hi : i < 32) : bt ((1 : Int32) <<< (nI k &&& 31)) i = decide (i = k) := by
  rw [b_shl k hk _ hi, b_1]
  rcases Nat.lt_trichotomy i k with h | h | h
  · rw [decide_eq_false (show ¬ k ≤ i by omega), decide_eq_false (show ¬ i = k by omega), Bool.false_and]
  · subst h; simp
  · rw [decide_eq_false (show ¬ i - k = 0 by omega), decide_eq_false (show ¬ i = k by omega), Bool.and_false]
theorem bit_and {x : Int32} {k : Nat} (hk : k < 32) : x &&& ((1 : Int32) <<< (nI k &&& 31)) = 0 ↔ bt x k = false := by
  constructor
  · intro h
    have e := congrArg (fun z => bt z k) h
    simp only [b_and, b_0] at e
    rw [b_one hk hk, decide_eq_true rfl, Bool.and_true] at e
    exact e
  · intro h
    refine b_ext (fun i hi => ?_)
    rw [b_and, b_0, b_one hk hi]
    by_cases e : i = k
    · subst e; rw [h, Bool.false_and]
    · rw [decide_eq_false e, Bool.and_false]
theorem q_at {n i : Nat} {f : Nat → Int32} (h : i < n) (hn : n < 2 ^ 31) : F_X4_at n f (nI i) = some (f i) := by
  unfold F_X4_at
  rw [if_neg (nI_pos (by omega)), if_neg (nI_ge h hn), nI_clamp (by omega)]
theorem q_put {n i : Nat} {f : Nat → Int32} {v : Int32} (h : i < n) (hn : n < 2 ^ 31) : F_X4_put n f (nI i) v = some (upd f i v) := by
  unfold F_X4_put
  rw [if_neg (nI_pos (by omega)), if_neg (nI_ge h hn), nI_clamp (by omega)]
def tr (c : Nat) (l r : Int32) : Nat := if c = 0 then 2 else if bt l ((c - 1) / 2) = true then (c - 1) % 2 else if bt r ((c - 1) / 2) = true then 1 - (c - 1) % 2 else 2
theorem tr_le (c : Nat) (l r : Int32) : tr c l r ≤ 2 := by unfold tr; (repeat' split) <;> omega
theorem tr_num : ∀ c, c < 33 → c ≠ 0 → 0 < nI c ∧ ((nI c - 1) / 2) &&& 31 = nI ((c - 1) / 2) &&& 31 ∧ (nI c &&& 1 = 1 ↔ (c - 1) % 2 = 0) ∧ (nI c - 1) - (nI c - 1) / 2 * 2 = nI ((c - 1) % 2) ∧ nI c ≠ 0 := by decide +kernel
theorem q_coin {c : Nat} (h : c < 33) (h0 : c ≠ 0) : F_X4_coinBit (nI c) = some ((1 : Int32) <<< (nI ((c - 1) / 2) &&& 31)) := by
  obtain ⟨h1, h2, -⟩ := tr_num c h h0
  unfold F_X4_coinBit
  rw [if_pos h1, h2]
theorem q_ta {c : Nat} (h : c < 33) (l r : Int32) : F_X4_trueAnswer (nI c) l r = some (nI (tr c l r)) := by
  unfold F_X4_trueAnswer tr
  by_cases h0 : c = 0
  · subst h0
    rw [show F_X4_coinBit (nI 0) = some 0 from rfl, sb, if_neg (show ¬ nI 0 &&& 1 = 1 by decide), if_pos (and0 l), if_pos (and0 r), if_pos rfl]
    rfl
  · obtain ⟨h1, h2, h3, h4, h5⟩ := tr_num c h h0
    have hk : (c - 1) / 2 < 32 := by omega
    have p : (c - 1) % 2 = 0 ∨ (c - 1) % 2 = 1 := by omega
    rw [q_coin h h0, sb, if_neg h0]
    by_cases bl : bt l ((c - 1) / 2) = true
    · have n1 : ¬ l &&& ((1 : Int32) <<< (nI ((c - 1) / 2) &&& 31)) = 0 := fun q => by rw [(bit_and hk).mp q] at bl; cases bl
      rw [if_pos bl, if_neg n1, if_neg n1]
      rcases p with p | p
      · rw [if_pos (h3.mpr p), p]; rfl
      · rw [if_neg (fun q => by have := h3.mp q; omega), p]; rfl
    · have n1 : l &&& ((1 : Int32) <<< (nI ((c - 1) / 2) &&& 31)) = 0 := (bit_and hk).mpr (Bool.eq_false_iff.mpr bl)
      rw [if_neg bl, if_pos n1, if_pos n1]
      by_cases br : bt r ((c - 1) / 2) = true
      · have n2 : ¬ r &&& ((1 : Int32) <<< (nI ((c - 1) / 2) &&& 31)) = 0 := fun q => by rw [(bit_and hk).mp q] at br; cases br
        rw [if_pos br, if_neg n2, if_neg n2]
        rcases p with p | p
        · rw [if_pos (h3.mpr p), p]; rfl
        · rw [if_neg (fun q => by have := h3.mp q; omega), p]; rfl
      · have n2 : r &&& ((1 : Int32) <<< (nI ((c - 1) / 2) &&& 31)) = 0 := (bit_and hk).mpr (Bool.eq_false_iff.mpr br)
        rw [if_neg br, if_pos n2, if_pos n2]
        split <;> rfl
end
section
/-! the pure layer: what the class counts (as in whole) -/
/-- both sides hold n coins, the limit e, the lies lo -/
def CYy (n e : Nat) (lo : Nat → Nat) (y : St) : Prop := y.1 0 = nI n ∧ y.1 1 = nI e ∧ ∀ c, c < 33 → y.2 6 c = nI (lo c)
def SZ (n e : Nat) (lo : Nat → Nat) : Prop := 2 ≤ n ∧ n ≤ 16 ∧ e ≤ 2 ∧ ∀ c, c < 33 → lo c ≤ 40
section L1
variable {n e : Nat} {lo : Nat → Nat} {x y : St}
theorem y_cases (h : CYy n e lo y) : F_X2_cases y = some (nI (2 * n + 1)) := by
  unfold F_X2_cases
  rw [h.1]
  show some (nI 2 * nI n + nI 1) = _
  rw [pk_mul, nI_add]
theorem y_isLeft (h : CYy n e lo y) (hz : SZ n e lo) {c : Nat} (hc : c < 33) : F_X2_isLeft y (nI c) = some (if lo c ≤ e then 1 else 0) := by
  unfold F_X2_isLeft
  have := hz.2.2.2 c hc; have := hz.2.2.1
  rw [q_at hc (by omega), sb, h.2.2 c hc, h.2.1]
  by_cases q : lo c ≤ e
  · rw [if_pos q, if_neg (nI_nlt q (by omega))]
  · rw [if_neg q, if_pos (nI_lt (by omega) (by omega))]
theorem one0 : ¬ (1 : Int32) = 0 := by decide
/-- how many are left -/
def nl (e : Nat) (lo : Nat → Nat) : Nat → Nat
  | 0 => 0
  | m + 1 => nl e lo m + if lo m ≤ e then 1 else 0
theorem nl_le (e : Nat) (lo : Nat → Nat) : ∀ m, nl e lo m ≤ m
  | 0 => Nat.le_refl 0
  | m + 1 => by
    have := nl_le e lo m
    show nl e lo m + _ ≤ _
    split <;> omega
theorem y_count (h : CYy n e lo y) (hz : SZ n e lo) : F_X2_countLeft y = some (nI (nl e lo (2 * n + 1))) := by
  unfold F_X2_countLeft
  have hn := hz.2.1
  refine ind (m := 2 * n + 1) (Q := fun N i (_ : Unit) => fx2 (B_X2_countLeft_4 y) N (nI (nl e lo i)) (nI i) = some (nI (nl e lo (2 * n + 1)))) (fun _ _ => True) ?_ (2 * n + 1) 0 () 1000 rfl (by omega) trivial
  intro N i s hi _ ih
  show B_X2_countLeft_4 y (fx2 (B_X2_countLeft_4 y) N) _ _ = _
  obtain ⟨K0, hK0⟩ : ∃ K, K = fx2 (B_X2_countLeft_4 y) N := ⟨_, rfl⟩
  rw [← hK0]
  unfold B_X2_countLeft_4
  rw [y_cases h, sb]
  rcases Nat.lt_or_ge i (2 * n + 1) with q | q
  · have ih' := ih () q trivial
    have e1 : nl e lo (i + 1) = nl e lo i + if lo i ≤ e then 1 else 0 := rfl
    rw [if_neg (nI_ge q (by omega)), y_isLeft h hz (by omega), sb, nI_1]
    by_cases hl : lo i ≤ e
    · rw [if_pos hl, if_neg one0, nI_1]; rw [e1, if_pos hl] at ih'; subst hK0; exact ih'
    · rw [if_neg hl, if_pos rfl]; rw [e1, if_neg hl] at ih'; subst hK0; exact ih'
  · rw [show i = 2 * n + 1 by omega, if_pos (nI_le (Nat.le_refl _) (by omega))]
/-- volumes -/
def vE (w d : Nat) : Option Int64 := F_X4_volume (nI w) (nI d)
theorem q_vol31 : ∀ w, w < 21 → ∀ d, d < 3 → (vE w d).isSome = true ∧ vE 0 d = some 1 ∧ (w < 20 → vE (w + 1) d = some ((vE w d).getD 0 + (if d = 0 then 0 else (vE w (d - 1)).getD 0 + (vE w (d - 1)).getD 0))) := by decide +kernel
def vl (w e l : Nat) : Int64 := if l ≤ e then (vE w (e - l)).getD 0 else 0
theorem vl_some {w e l : Nat} (hw : w < 21) (he : e ≤ 2) (h : l ≤ e) : F_X4_volume (nI w) (nI (e - l)) = some (vl w e l) := by
  obtain ⟨v, hv⟩ := Option.isSome_iff_exists.mp (q_vol31 w hw (e - l) (by omega)).1
  unfold vl
  rw [if_pos h, hv]
  exact hv

theorem y_vol (h : CYy n e lo y) (hz : SZ n e lo) {w l : Nat} (hw : w < 21) (hl : l ≤ 41) : F_X2_volumeLeft y (nI l) (nI w) = some (vl w e l) := by
  unfold F_X2_volumeLeft
  have he := hz.2.2.1
  rw [h.2.1]
  by_cases q : l ≤ e
  · rw [if_pos (nI_le q (by omega)), pk_sub q, (vl_some hw he q), sb]
  · rw [if_neg (nI_ge (by omega) (by omega))]
    unfold vl
    rw [if_neg q]
def wa (w e : Nat) (lo : Nat → Nat) : Nat → Int64
  | 0 => 0
  | m + 1 => wa w e lo m + vl w e (lo m)
def lt1 (lo : Nat → Nat) (l r a : Int32) (c : Nat) : Nat := if nI (tr c l r) = a then lo c else lo c + 1
theorem y_lit (h : CYy n e lo y) {c : Nat} (hc : c < 33) (l r a : Int32) : F_X2_liesIfTold y (nI c) l r a = some (nI (lt1 lo l r a c)) := by
  unfold F_X2_liesIfTold lt1
  rw [q_at hc (by omega), sb, q_ta hc, sb, h.2.2 c hc]
  split
  · rfl
  · rw [nI_1]
theorem lt1_le (hz : SZ n e lo) {c : Nat} (hc : c < 33) (l r a : Int32) : lt1 lo l r a c ≤ 41 := by
  have := hz.2.2.2 c hc
  unfold lt1; split <;> omega
theorem y_ahead (h : CYy n e lo y) (hz : SZ n e lo) {w : Nat} (hw : w < 21) : F_X2_weightAhead y (nI w) = some (wa w e lo (2 * n + 1)) := by
  unfold F_X2_weightAhead
  have hn := hz.2.1
  refine ind (m := 2 * n + 1) (Q := fun N i (_ : Unit) => fx2 (B_X2_weightAhead_5 y (nI w)) N (wa w e lo i) (nI i) = some (wa w e lo (2 * n + 1))) (fun _ _ => True) ?_ (2 * n + 1) 0 () 1000 rfl (by omega) trivial
  intro N i s hi _ ih
  show B_X2_weightAhead_5 y (nI w) (fx2 (B_X2_weightAhead_5 y (nI w)) N) _ _ = _
  obtain ⟨K0, hK0⟩ : ∃ K, K = fx2 (B_X2_weightAhead_5 y (nI w)) N := ⟨_, rfl⟩
  rw [← hK0]
  unfold B_X2_weightAhead_5
  rw [y_cases h, sb]
  rcases Nat.lt_or_ge i (2 * n + 1) with q | q
  · rw [if_neg (nI_ge q (by omega)), q_at (by omega) (by omega), sb, h.2.2 i (by omega), y_vol h hz hw (Nat.le_succ_of_le (hz.2.2.2 i (by omega))), sb, nI_1]
    subst hK0; exact ih () q trivial
  · rw [show i = 2 * n + 1 by omega, if_pos (nI_le (Nat.le_refl _) (by omega))]
theorem y_behind (h : CYy n e lo y) (hz : SZ n e lo) {w : Nat} (hw : w < 21) (l r a : Int32) : F_X2_weightIfTold y l r a (nI w) = some (wa w e (lt1 lo l r a) (2 * n + 1)) := by
  unfold F_X2_weightIfTold
  have hn := hz.2.1
  refine ind (m := 2 * n + 1) (Q := fun N i (_ : Unit) => fx2 (B_X2_weightIfTold_6 y l r a (nI w)) N (wa w e (lt1 lo l r a) i) (nI i) = some (wa w e (lt1 lo l r a) (2 * n + 1))) (fun _ _ => True) ?_ (2 * n + 1) 0 () 1000 rfl (by omega) trivial
  intro N i s hi _ ih
  show B_X2_weightIfTold_6 y l r a (nI w) (fx2 (B_X2_weightIfTold_6 y l r a (nI w)) N) _ _ = _
  obtain ⟨K0, hK0⟩ : ∃ K, K = fx2 (B_X2_weightIfTold_6 y l r a (nI w)) N := ⟨_, rfl⟩
  rw [← hK0]
  unfold B_X2_weightIfTold_6
  rw [y_cases h, sb]
  rcases Nat.lt_or_ge i (2 * n + 1) with q | q
  · rw [if_neg (nI_ge q (by omega)), y_lit h (by omega), sb, y_vol h hz hw (lt1_le hz (by omega) l r a), sb, nI_1]
    subst hK0; exact ih () q trivial
  · rw [show i = 2 * n + 1 by omega, if_pos (nI_le (Nat.le_refl _) (by omega))]
end L1
end
section
/-! the pure layer: states (as in whole) -/
def OKs (n e T P a : Nat) (lo : Nat → Nat) (y : St) : Prop :=
  (2 ≤ n ∧ n ≤ 16 ∧ e ≤ 2 ∧ T ≤ 40 ∧ P ≤ 8 ∧ a ≤ 30) ∧ (y.1 0 = nI n ∧ y.1 1 = nI e ∧ y.1 5 = nI T ∧ y.1 6 = nI P ∧ y.1 4 = nI a) ∧ (∀ c, c < 33 → y.2 6 c = nI (lo c) ∧ lo c ≤ T) ∧ (y.1 2 = -1 ∨ ∃ h, y.1 2 = nI h ∧ h < 2 * n + 1) ∧ (∃ s, y.1 3 = nI s ∧ s ≤ 1073741823)
/-- two states of the class that hold the same -/
def AGs (y y' : St) : Prop := (∀ k, k < 7 → y'.1 k = y.1 k) ∧ (∀ c, c < 33 → y'.2 6 c = y.2 6 c) ∧ (∀ i, i < 40 → y'.2 0 i = y.2 0 i ∧ y'.2 1 i = y.2 1 i ∧ y'.2 2 i = y.2 2 i) ∧ (∀ i, i < 8 → y'.2 3 i = y.2 3 i ∧ y'.2 4 i = y.2 4 i)
theorem AGs.rfl' (y : St) : AGs y y := ⟨fun _ _ => rfl, fun _ _ => rfl, fun _ _ => ⟨rfl, rfl, rfl⟩, fun _ _ => ⟨rfl, rfl⟩⟩
theorem cpy_at {f g : Nat → Int32} {n i : Nat} (h : i < n) : va_cpy f g 0 0 n i = f i := by
  rw [pk_cpy_in (Nat.zero_le i) (by omega), Nat.zero_add, Nat.sub_zero]
theorem y_copy (y0 y1 : St) : ∃ y', F_X2_copyFrom y0 y1 = some y' ∧ AGs y1 y' := by
  refine ⟨_, rfl, ⟨fun k hk => ?_, fun c hc => ?_, fun i hi => ?_, fun i hi => ?_⟩⟩
  · rcases (show k = 0 ∨ k = 1 ∨ k = 2 ∨ k = 3 ∨ k = 4 ∨ k = 5 ∨ k = 6 by omega) with q | q | q | q | q | q | q <;> subst q <;> rfl
  · exact cpy_at hc
  · exact ⟨cpy_at hi, cpy_at hi, cpy_at hi⟩
  · exact ⟨cpy_at hi, cpy_at hi⟩
theorem z_save {Z : ZT} {k : Nat} (hk : k ≤ 4) (h6 : (Z 6).1 0 = nI k) : ∃ Z' y', F_X0_save Z = some Z' ∧ AGs (Z 0) y' ∧ Z' 0 = Z 0 ∧ Z' 5 = Z 5 ∧ ((k < 4 ∧ (Z' 6).1 0 = nI (k + 1) ∧ Z' (1 + k) = y' ∧ ∀ j, j < k → Z' (1 + j) = Z (1 + j)) ∨ (k = 4 ∧ (Z' 6).1 0 = nI 4 ∧ Z' 4 = y' ∧ ∀ j, j < 3 → Z' (1 + j) = Z (2 + j))) := by
  unfold F_X0_save
  rcases (show k = 0 ∨ k = 1 ∨ k = 2 ∨ k = 3 ∨ k = 4 by omega) with q | q | q | q | q <;> subst q
  · obtain ⟨y', e, h⟩ := y_copy (Z 1) (Z 0)
    rw [if_pos (by rw [h6]; rfl), e]
    exact ⟨_, y', rfl, h, rfl, rfl, .inl ⟨by omega, by show (Z 6).1 0 + 1 = _; rw [h6, nI_1], rfl, fun j hj => absurd hj (Nat.not_lt_zero j)⟩⟩
  · obtain ⟨y', e, h⟩ := y_copy (Z 2) (Z 0)
    rw [if_neg (by rw [h6]; decide), if_pos (by rw [h6]; rfl), e]
    exact ⟨_, y', rfl, h, rfl, rfl, .inl ⟨by omega, by show (Z 6).1 0 + 1 = _; rw [h6, nI_1], rfl, fun j hj => by rw [show j = 0 by omega]; rfl⟩⟩
  · obtain ⟨y', e, h⟩ := y_copy (Z 3) (Z 0)
    rw [if_neg (by rw [h6]; decide), if_neg (by rw [h6]; decide), if_pos (by rw [h6]; rfl), e]
    exact ⟨_, y', rfl, h, rfl, rfl, .inl ⟨by omega, by show (Z 6).1 0 + 1 = _; rw [h6, nI_1], rfl, fun j hj => by rcases (show j = 0 ∨ j = 1 by omega) with q | q <;> subst q <;> rfl⟩⟩
  · obtain ⟨y', e, h⟩ := y_copy (Z 4) (Z 0)
    rw [if_neg (by rw [h6]; decide), if_neg (by rw [h6]; decide), if_neg (by rw [h6]; decide), if_pos (by rw [h6]; rfl), e]
    exact ⟨_, y', rfl, h, rfl, rfl, .inl ⟨by omega, by show (Z 6).1 0 + 1 = _; rw [h6, nI_1], rfl, fun j hj => by rcases (show j = 0 ∨ j = 1 ∨ j = 2 by omega) with q | q | q <;> subst q <;> rfl⟩⟩
  · obtain ⟨y', e, h⟩ := y_copy (rotZ (zU Z 6 (sI (Z 6) 0 3)) 4) (rotZ (zU Z 6 (sI (Z 6) 0 3)) 0)
    rw [if_neg (by rw [h6]; decide), if_neg (by rw [h6]; decide), if_neg (by rw [h6]; decide), if_neg (by rw [h6]; decide), if_pos (by rw [h6]; rfl), e]
    exact ⟨_, y', rfl, h, rfl, rfl, .inr ⟨rfl, rfl, rfl, fun j hj => by rcases (show j = 0 ∨ j = 1 ∨ j = 2 by omega) with q | q | q <;> subst q <;> rfl⟩⟩
theorem z_restore {Z : ZT} {k : Nat} (hk : k < 4) (h6 : (Z 6).1 0 = nI (k + 1)) : ∃ Z', F_X0_restore Z = some Z' ∧ AGs (Z (1 + k)) (Z' 0) ∧ Z' 5 = Z 5 ∧ (Z' 6).1 0 = nI k ∧ ∀ j, j < k → Z' (1 + j) = Z (1 + j) := by
  unfold F_X0_restore
  rcases (show k = 0 ∨ k = 1 ∨ k = 2 ∨ k = 3 by omega) with q | q | q | q <;> subst q
  · obtain ⟨y', e, h⟩ := y_copy (Z 0) (Z 1)
    rw [if_pos (by rw [h6]; rfl), e]
    exact ⟨_, rfl, h, rfl, by show (Z 6).1 0 - 1 = _; rw [h6, nI_pred], fun j hj => absurd hj (Nat.not_lt_zero j)⟩
  · obtain ⟨y', e, h⟩ := y_copy (Z 0) (Z 2)
    rw [if_neg (by rw [h6]; decide), if_pos (by rw [h6]; rfl), e]
    exact ⟨_, rfl, h, rfl, by show (Z 6).1 0 - 1 = _; rw [h6, nI_pred], fun j hj => by rw [show j = 0 by omega]; rfl⟩
  · obtain ⟨y', e, h⟩ := y_copy (Z 0) (Z 3)
    rw [if_neg (by rw [h6]; decide), if_neg (by rw [h6]; decide), if_pos (by rw [h6]; rfl), e]
    exact ⟨_, rfl, h, rfl, by show (Z 6).1 0 - 1 = _; rw [h6, nI_pred], fun j hj => by rcases (show j = 0 ∨ j = 1 by omega) with q | q <;> subst q <;> rfl⟩
  · obtain ⟨y', e, h⟩ := y_copy (Z 0) (Z 4)
    rw [if_neg (by rw [h6]; decide), if_neg (by rw [h6]; decide), if_neg (by rw [h6]; decide), if_pos (by rw [h6]; rfl), e]
    exact ⟨_, rfl, h, rfl, by show (Z 6).1 0 - 1 = _; rw [h6, nI_pred], fun j hj => by rcases (show j = 0 ∨ j = 1 ∨ j = 2 by omega) with q | q | q <;> subst q <;> rfl⟩
theorem y_cases0 {n : Nat} {y : St} (h : y.1 0 = nI n) : F_X2_cases y = some (nI (2 * n + 1)) := by
  unfold F_X2_cases
  rw [h]
  show some (nI 2 * nI n + nI 1) = _
  rw [pk_mul, nI_add]
theorem w_write {m T : Nat} {w : St} (hT : T < m) (hm : m < 2 ^ 31) (h : w.1 0 = nI T) (l r a : Int32) : ∃ w', F_X3_write m w l r a = some w' ∧ w'.1 0 = nI (T + 1) ∧ w'.2 0 = upd (w.2 0) T l ∧ w'.2 1 = upd (w.2 1) T r ∧ w'.2 2 = upd (w.2 2) T a := by
  unfold F_X3_write
  have e1 : F_X4_put m (w.2 0) (w.1 0) l = some (upd (w.2 0) T l) := by rw [h, q_put hT hm]
  rw [if_neg (by rw [h]; exact nI_ge hT hm), e1, sb]
  have e2 : F_X4_put m ((sA w 0 (upd (w.2 0) T l)).2 1) ((sA w 0 (upd (w.2 0) T l)).1 0) r = some (upd (w.2 1) T r) := by
    show F_X4_put m (w.2 1) (w.1 0) r = _
    rw [h, q_put hT hm]
  rw [e2, sb]
  have e3 : F_X4_put m ((sA (sA w 0 (upd (w.2 0) T l)) 1 (upd (w.2 1) T r)).2 2) ((sA (sA w 0 (upd (w.2 0) T l)) 1 (upd (w.2 1) T r)).1 0) a = some (upd (w.2 2) T a) := by
    show F_X4_put m (w.2 2) (w.1 0) a = _
    rw [h, q_put hT hm]
  rw [e3, sb]
  refine ⟨_, rfl, ?_, rfl, rfl, rfl⟩
  show w.1 0 + 1 = _
  rw [h, nI_1]
theorem y_learn {n T : Nat} {lo : Nat → Nat} {y : St} (hn : n ≤ 16) (h0 : y.1 0 = nI n) (h5 : y.1 5 = nI T) (hT : T < 40) (hc : ∀ c, c < 33 → y.2 6 c = nI (lo c)) (l r a : Int32) :
    ∃ y', F_X2_learn y l r a = some y' ∧ (∀ k, k ≠ 5 → y'.1 k = y.1 k) ∧ y'.1 5 = nI (T + 1) ∧ y'.2 0 = upd (y.2 0) T l ∧ y'.2 1 = upd (y.2 1) T r ∧ y'.2 2 = upd (y.2 2) T a ∧ (∀ k, k = 3 ∨ k = 4 ∨ k = 5 → y'.2 k = y.2 k) ∧ (∀ c, c < 2 * n + 1 → y'.2 6 c = nI (lt1 lo l r a c)) ∧ (∀ c, 2 * n + 1 ≤ c → y'.2 6 c = y.2 6 c) := by
  unfold F_X2_learn
  obtain ⟨w, e1, w0, w1, w2, w3⟩ := w_write (w := tdS y) hT (by omega) h5 l r a
  rw [e1, sb]
  have k := ind (m := 2 * n + 1) (Q := fun N i (s : St) => ∃ y', fx2 (B_X2_learn_13 l r a) N (nI i) s = some y' ∧ (y'.1 = (tdU y w).1 ∧ (∀ k, k ≠ 6 → y'.2 k = (tdU y w).2 k) ∧ (∀ c, c < 2 * n + 1 → y'.2 6 c = nI (lt1 lo l r a c)) ∧ (∀ c, 2 * n + 1 ≤ c → y'.2 6 c = y.2 6 c))) (fun i s => s.1 = (tdU y w).1 ∧ (∀ k, k ≠ 6 → s.2 k = (tdU y w).2 k) ∧ (∀ c, c < i → s.2 6 c = nI (lt1 lo l r a c)) ∧ (∀ c, i ≤ c → s.2 6 c = y.2 6 c)) (by
    intro N i s hi hs ih
    show ∃ y', B_X2_learn_13 l r a (fx2 (B_X2_learn_13 l r a) N) (nI i) s = some y' ∧ _
    unfold B_X2_learn_13
    rw [y_cases0 (n := n) (by rw [hs.1]; exact h0), sb]
    rcases Nat.lt_or_ge i (2 * n + 1) with q | q
    · have e2 : F_X2_liesIfTold s (nI i) l r a = some (nI (lt1 lo l r a i)) := by
        unfold F_X2_liesIfTold lt1
        rw [q_at (by omega) (by omega), sb, q_ta (by omega), sb, hs.2.2.2 i (Nat.le_refl i), hc i (by omega)]
        split
        · rfl
        · rw [nI_1]
      rw [if_neg (nI_ge q (by omega)), e2, sb, q_put (by omega) (by omega), sb, nI_1]
      refine ih _ q ⟨hs.1, fun k hk => ?_, fun c hc => ?_, fun c hc => ?_⟩
      · show (if k = 6 then _ else s.2 k) = _
        rw [if_neg hk]; exact hs.2.1 k hk
      · show upd (s.2 6) i _ c = _
        by_cases g : c = i
        · subst g; exact ux_at _ _ _
        · rw [ux_ne _ _ g]; exact hs.2.2.1 c (by omega)
      · show upd (s.2 6) i _ c = _
        rw [ux_ne _ _ (by omega)]; exact hs.2.2.2 c (by omega)
    · rw [show i = 2 * n + 1 by omega] at hs ⊢
      rw [if_pos (nI_le (Nat.le_refl _) (by omega))]
      exact ⟨s, rfl, hs⟩) (2 * n + 1) 0 (tdU y w) 1000 rfl (by omega) ⟨rfl, fun _ _ => rfl, fun c hc => absurd hc (Nat.not_lt_zero c), fun c _ => rfl⟩
  obtain ⟨y', k1, k2, k3, k4, k5⟩ := k
  refine ⟨y', k1, fun k hk => ?_, ?_, ?_, ?_, ?_, fun k hk => ?_, k4, k5⟩
  · rw [k2]; exact if_neg hk
  · rw [k2]; exact w0
  · rw [k3 0 (by omega)]; exact w1
  · rw [k3 1 (by omega)]; exact w2
  · rw [k3 2 (by omega)]; exact w3
  · rcases hk with q | q | q <;> subst q <;> exact k3 _ (by omega)
section S1
variable {n e T P a : Nat} {lo : Nat → Nat} {x y : St}
theorem OKs.cy (g : OKs n e T P a lo y) : CYy n e lo y := ⟨g.2.1.1, g.2.1.2.1, fun c hc => (g.2.2.1 c hc).1⟩
theorem OKs.sz (g : OKs n e T P a lo y) : SZ n e lo := ⟨g.1.1, g.1.2.1, g.1.2.2.1, fun c hc => by have := (g.2.2.1 c hc).2; have := g.1.2.2.2.1; omega⟩
/-- the hidden case answers on both sides -/
theorem lie_bit {s a : Nat} (hs : s ≤ 1073741823) (ha : a < 30) : ((nI s).toUInt32 >>> ((nI a).toUInt32 &&& Int32.toUInt32 31)).toInt32 &&& 1 = nI (s / 2 ^ a % 2) ∧ (nI s >>> (nI a &&& 31)) &&& 1 = nI (s / 2 ^ a % 2) := by
  rw [pk_ushrN (by omega) (nI a) a (s_u a (by omega)), pk_shrN (by omega) _ a (s_l a (by omega))]
  have : nI (s / 2 ^ a) &&& 1 = nI (s / 2 ^ a % 2) := fa_mask _ 1
  exact ⟨this, this⟩
/-- why not -/
theorem y_learnable (h5 : y.1 5 = nI T) (hT : T ≤ 40) : F_X2_canLearn y = some (if T < 40 then 1 else 0) := by
  unfold F_X2_canLearn
  rw [h5]
  by_cases q : T < 40
  · rw [if_pos q, if_neg (show ¬ (40 : Int32) ≤ nI T from nI_ge (b := 40) q (by omega))]
  · rw [if_neg q, if_pos (show (40 : Int32) ≤ nI T from nI_le (a := 40) (by omega) (by omega))]
theorem y_replies (g : OKs n e T P a lo y) : F_X2_canReply y = some (if y.1 2 = -1 then 0 else if T < 40 then (if a < 30 then 1 else 0) else 0) := by
  unfold F_X2_canReply
  by_cases q : y.1 2 = -1
  · rw [if_pos q, if_pos q]
  · rw [if_neg q, if_neg q, y_learnable g.2.1.2.2.1 g.1.2.2.2.1, sb]
    have ha := g.1.2.2.2.2.2
    by_cases q2 : T < 40
    · rw [if_pos q2, if_pos q2, if_neg one0, g.2.1.2.2.2.2]
      by_cases q3 : a < 30
      · rw [if_pos q3, if_neg (show ¬ (30 : Int32) ≤ nI a from nI_ge (b := 30) q3 (by omega))]
      · rw [if_neg q3, if_pos (show (30 : Int32) ≤ nI a from nI_le (a := 30) (by omega) (by omega))]
    · rw [if_neg q2, if_neg q2, if_pos rfl]
end S1
theorem y_forget (y : St) : ∃ y', F_X2_forgetTold y = some y' ∧ (∀ k, k ≠ 5 → y'.1 k = y.1 k) ∧ y'.1 5 = 0 ∧ (∀ k, k ≠ 6 → y'.2 k = y.2 k) ∧ ∀ c, c < 33 → y'.2 6 c = 0 := by
  unfold F_X2_forgetTold
  have k := ind (m := 33) (Q := fun N i (s : St) => ∃ y', fx2 B_X2_forgetTold_10 N (nI i) s = some y' ∧ y'.1 = (sI y 5 0).1 ∧ (∀ k, k ≠ 6 → y'.2 k = y.2 k) ∧ ∀ c, c < 33 → y'.2 6 c = 0) (fun i s => s.1 = (sI y 5 0).1 ∧ (∀ k, k ≠ 6 → s.2 k = y.2 k) ∧ ∀ c, c < i → s.2 6 c = 0) (by
    intro N i s hi hs ih
    show ∃ y', B_X2_forgetTold_10 (fx2 B_X2_forgetTold_10 N) (nI i) s = some y' ∧ _
    unfold B_X2_forgetTold_10
    rcases Nat.lt_or_ge i 33 with q | q
    · rw [if_neg (show ¬ (33 : Int32) ≤ nI i from nI_ge (b := 33) q (by omega)), q_put q (by omega), sb, nI_1]
      refine ih _ q ⟨hs.1, fun k hk => ?_, fun c hc => ?_⟩
      · show (if k = 6 then _ else s.2 k) = _
        rw [if_neg hk]; exact hs.2.1 k hk
      · show upd (s.2 6) i 0 c = 0
        by_cases g : c = i
        · subst g; exact ux_at _ _ _
        · rw [ux_ne _ _ g]; exact hs.2.2 c (by omega)
    · rw [show i = 33 by omega] at hs ⊢
      exact ⟨s, rfl, hs⟩) 33 0 (sI y 5 0) 1000 rfl (by omega) ⟨rfl, fun _ _ => rfl, fun c hc => absurd hc (Nat.not_lt_zero c)⟩
  obtain ⟨y', k1, k2, k3, k4⟩ := k
  exact ⟨y', k1, fun k hk => by rw [k2]; exact if_neg hk, by rw [k2]; rfl, k3, k4⟩
theorem y_start {n : Nat} (h1 : 2 ≤ n) (h2 : n ≤ 16) (y : St) : ∃ y', F_X2_start y (nI n) = some y' ∧ OKs n 1 0 0 0 (fun _ => 0) y' ∧ y'.1 2 = -1 ∧ y'.1 3 = 0 := by
  unfold F_X2_start
  obtain ⟨y', e, k1, k2, k3, k4⟩ := y_forget (sI (sI (sI (sI (sI (sI y 0 (nI n)) 1 1) 6 0) 2 (-1)) 3 0) 4 0)
  have a2 : y'.1 2 = -1 := by rw [k1 2 (by omega)]; rfl
  have a3 : y'.1 3 = 0 := by rw [k1 3 (by omega)]; rfl
  refine ⟨y', (be (show F_X2_hideCase _ _ _ = some _ from rfl)).trans ((be e).trans rfl), ⟨⟨h1, h2, by omega, by omega, by omega, by omega⟩, ⟨?_, ?_, k2, ?_, ?_⟩, fun c hc => ⟨k4 c hc, Nat.le_refl 0⟩, .inl a2, 0, a3, by omega⟩, a2, a3⟩
  · rw [k1 0 (by omega)]; rfl
  · rw [k1 1 (by omega)]; rfl
  · rw [k1 6 (by omega)]; rfl
  · rw [k1 4 (by omega)]; rfl
end
section
/-! the pure layer of the property: what the law's helpers answer -/
def HC (Z : ZT) : Prop := ∃ c, c ≤ 4 ∧ (Z 6).1 0 = nI c
theorem add0 (x : Int32) : x + 0 = x := Int32.add_zero x
theorem lg_same (x : Int64) : lg_cmp x x = 0 := by
  unfold lg_cmp
  rw [if_neg (show ¬ x > x from Int64.lt_irrefl), if_pos rfl]
theorem OKs.ag {n e T P a : Nat} {lo : Nat → Nat} {y y' : St} (g : OKs n e T P a lo y) (h : AGs y y') : OKs n e T P a lo y' := by
  obtain ⟨b, ⟨q0, q1, q5, q6, q4⟩, hl, hh, hs3⟩ := g
  obtain ⟨h1, h2, h3, h4⟩ := h
  refine ⟨b, ⟨?_, ?_, ?_, ?_, ?_⟩, fun c hc => ?_, ?_, ?_⟩
  · rw [h1 0 (by omega), q0]
  · rw [h1 1 (by omega), q1]
  · rw [h1 5 (by omega), q5]
  · rw [h1 6 (by omega), q6]
  · rw [h1 4 (by omega), q4]
  · rw [h2 c hc]; exact hl c hc
  · rw [h1 2 (by omega)]; exact hh
  · rw [h1 3 (by omega)]; exact hs3
theorem AGs.trans {a b c : St} (h : AGs a b) (k : AGs b c) : AGs a c := ⟨fun i hi => (k.1 i hi).trans (h.1 i hi), fun i hi => (k.2.1 i hi).trans (h.2.1 i hi), fun i hi => ⟨(k.2.2.1 i hi).1.trans (h.2.2.1 i hi).1, (k.2.2.1 i hi).2.1.trans (h.2.2.1 i hi).2.1, (k.2.2.1 i hi).2.2.trans (h.2.2.1 i hi).2.2⟩, fun i hi => ⟨(k.2.2.2 i hi).1.trans (h.2.2.2 i hi).1, (k.2.2.2 i hi).2.trans (h.2.2.2 i hi).2⟩⟩
/-! numbers -/
theorem vl0 {e l : Nat} (he : e ≤ 2) : vl 0 e l = if l ≤ e then 1 else 0 := by
  unfold vl
  by_cases q : l ≤ e
  · rw [if_pos q, if_pos q, (q_vol31 0 (by omega) (e - l) (by omega)).2.1]; rfl
  · rw [if_neg q, if_neg q]
theorem wa0 {e : Nat} (he : e ≤ 2) (lo : Nat → Nat) : ∀ m, wa 0 e lo m = lN (nl e lo m)
  | 0 => rfl
  | m + 1 => by
    show wa 0 e lo m + vl 0 e (lo m) = lN (nl e lo m + if lo m ≤ e then 1 else 0)
    rw [wa0 he lo m, vl0 he]
    by_cases q : lo m ≤ e
    · rw [if_pos q, if_pos q, lN_1]
    · rw [if_neg q, if_neg q, Int64.add_zero, Nat.add_zero]
theorem vl_step {w e l : Nat} (hw : w < 20) (he : e ≤ 2) : vl (w + 1) e l = vl w e l + (vl w e (l + 1) + vl w e (l + 1)) := by
  unfold vl
  by_cases q : l ≤ e
  · obtain ⟨-, -, h⟩ := q_vol31 w (by omega) (e - l) (by omega)
    rw [if_pos q, if_pos q, h hw]
    by_cases q2 : l + 1 ≤ e
    · rw [if_pos q2, if_neg (show ¬ e - l = 0 by omega), show e - (l + 1) = e - l - 1 by omega]; rfl
    · rw [if_neg q2, if_pos (show e - l = 0 by omega)]
      show (vE w (e - l)).getD 0 + (0 : Int64) = _ + ((0 : Int64) + 0)
      rw [Int64.add_zero (0 : Int64)]
  · rw [if_neg q, if_neg q, if_neg (show ¬ l + 1 ≤ e by omega), Int64.add_zero, Int64.add_zero]
theorem lt_sum {w e : Nat} (hw : w < 20) (he : e ≤ 2) (lo : Nat → Nat) (l r : Int32) (c : Nat) : vl w e (lt1 lo l r (nI 0) c) + vl w e (lt1 lo l r (nI 1) c) + vl w e (lt1 lo l r (nI 2) c) = vl (w + 1) e (lo c) := by
  rw [vl_step hw he]
  unfold lt1
  have ht := tr_le c l r
  generalize tr c l r = t at ht
  rcases (show t = 0 ∨ t = 1 ∨ t = 2 by omega) with q | q | q <;> subst q
  · rw [if_pos (show nI 0 = nI 0 from rfl), if_neg (show ¬ nI 0 = nI 1 by decide), if_neg (show ¬ nI 0 = nI 2 by decide), Int64.add_assoc]
  · rw [if_pos (show nI 1 = nI 1 from rfl), if_neg (show ¬ nI 1 = nI 0 by decide), if_neg (show ¬ nI 1 = nI 2 by decide)]
    generalize vl w e (lo c + 1) = p
    generalize vl w e (lo c) = q0
    rw [Int64.add_comm p q0, Int64.add_assoc]
  · rw [if_pos (show nI 2 = nI 2 from rfl), if_neg (show ¬ nI 2 = nI 0 by decide), if_neg (show ¬ nI 2 = nI 1 by decide), Int64.add_comm]
theorem six (a b c x y z : Int64) : (a + x) + (b + y) + (c + z) = (a + b + c) + (x + y + z) := by ac_rfl
theorem wa_sum {w e : Nat} (hw : w < 20) (he : e ≤ 2) (lo : Nat → Nat) (l r : Int32) : ∀ m, wa w e (lt1 lo l r (nI 0)) m + wa w e (lt1 lo l r (nI 1)) m + wa w e (lt1 lo l r (nI 2)) m = wa (w + 1) e lo m
  | 0 => rfl
  | m + 1 => by
    show (wa w e (lt1 lo l r (nI 0)) m + vl w e (lt1 lo l r (nI 0) m)) + (wa w e (lt1 lo l r (nI 1)) m + vl w e (lt1 lo l r (nI 1) m)) + (wa w e (lt1 lo l r (nI 2)) m + vl w e (lt1 lo l r (nI 2) m)) = wa (w + 1) e lo m + vl (w + 1) e (lo m)
    rw [← wa_sum hw he lo l r m, ← lt_sum hw he lo l r m, six]
theorem nl_pos {e : Nat} {lo : Nat → Nat} {c : Nat} : ∀ m, c < m → lo c ≤ e → 0 < nl e lo m
  | 0, h, _ => absurd h (Nat.not_lt_zero c)
  | m + 1, h, q => by
    show 0 < nl e lo m + if lo m ≤ e then 1 else 0
    rcases Nat.lt_or_ge c m with z | z
    · have := nl_pos m z q; omega
    · rw [show m = c by omega, if_pos q]; omega
theorem nl_mono {e : Nat} {lo lo' : Nat → Nat} : ∀ m, (∀ c, c < m → lo c ≤ lo' c) → nl e lo' m ≤ nl e lo m
  | 0, _ => Nat.le_refl 0
  | m + 1, h => by
    have h1 := nl_mono (e := e) (lo := lo) (lo' := lo') m (fun c hc => h c (by omega))
    have h2 := h m (by omega)
    show (nl e lo' m + if lo' m ≤ e then 1 else 0) ≤ nl e lo m + if lo m ≤ e then 1 else 0
    by_cases q : lo' m ≤ e
    · rw [if_pos q, if_pos (show lo m ≤ e by omega)]; omega
    · rw [if_neg q]; omega
theorem nl_all (e : Nat) : ∀ m, nl e (fun _ => 0) m = m
  | 0 => rfl
  | m + 1 => by
    show nl e (fun _ => 0) m + (if 0 ≤ e then 1 else 0) = _
    rw [nl_all e m, if_pos (Nat.zero_le e)]
/-! the numbers that the helpers ask for -/
section O1
variable {n e T P a : Nat} {lo : Nat → Nat} {Z : ZT}
theorem l_v0 (Z : ZT) : F_L_value Z 0 = some ((Z 0).1 0, Z) := rfl
theorem l_v1 (Z : ZT) : F_L_value Z 1 = some ((Z 0).1 1, Z) := rfl
theorem l_v2 (Z : ZT) : F_L_value Z 2 = some ((Z 0).1 5, Z) := rfl
theorem l_v5 (Z : ZT) : F_L_value Z 5 = some ((Z 0).1 2, Z) := rfl
theorem l_v6 (Z : ZT) : F_L_value Z 6 = some ((Z 0).1 4, Z) := rfl
theorem l_v3 (g : OKs n e T P a lo (Z 0)) : F_L_value Z 3 = some (nI (nl e lo (2 * n + 1)), Z) := by
  have h1 : F_X2_number (Z 0) 3 = some (nI (nl e lo (2 * n + 1))) := (be (y_count g.cy g.sz)).trans rfl
  have h2 : F_X4_value Z 3 = some (nI (nl e lo (2 * n + 1)), Z) := by
    unfold F_X4_value
    rw [if_neg (show ¬ (3 : Int32) < 0 by decide), if_pos (show (3 : Int32) < 9 by decide), h1]; rfl
  exact (be h2).trans rfl
theorem l_case {y : St} (h0 : y.1 0 = nI n) (hn : n ≤ 16) {c : Nat} (hc : c < 2 * n + 1) : F_X2_isCase y (nI c) = some 1 := by
  unfold F_X2_isCase
  rw [if_neg (nI_pos (by omega)), y_cases0 h0, sb, if_neg (nI_ge hc (by omega))]
theorem l_lies (g : OKs n e T P a lo (Z 0)) {c : Nat} (hc : c < 2 * n + 1) : F_L_liesOf Z (nI c) = some (nI (lo c), Z) := by
  have hn := g.1.2.1
  have h2 : F_X4_lies Z (nI c) = some (nI (lo c), Z) := by
    unfold F_X4_lies
    rw [l_case g.2.1.1 hn hc, sb, if_neg one0, q_at (by omega) (by omega), (g.2.2.1 c (by omega)).1]; rfl
  exact (be h2).trans rfl
theorem l_far {w : Nat} (hw : w < 21) : F_X4_isAhead (nI w) = some 1 := by
  unfold F_X4_isAhead
  rw [if_neg (nI_pos (by omega)), if_neg (show ¬ (20 : Int32) < nI w from nI_nlt (a := 20) (by omega) (by omega))]
theorem l_ans {w : Nat} (hw : w ≤ 2) : F_X4_isAnswer (nI w) = some 1 := by
  unfold F_X4_isAnswer
  rw [if_neg (nI_pos (by omega)), if_neg (show ¬ (3 : Int32) ≤ nI w from nI_ge (b := 3) (by omega) (by omega))]
theorem l_weighs (g : OKs n e T P a lo (Z 0)) {w : Nat} (hw : w < 21) : F_L_weighs Z (nI w) = some (wa w e lo (2 * n + 1), Z) := by
  have h2 : F_X4_weight Z (nI w) = some (wa w e lo (2 * n + 1), Z) := by
    unfold F_X4_weight
    rw [l_far hw, sb, if_neg one0, y_ahead g.cy g.sz hw]; rfl
  exact (be h2).trans rfl
theorem l_behind (g : OKs n e T P a lo (Z 0)) {l r : Int32} (hs : F_X2_isWeighing (Z 0) l r = some 1) {c : Nat} (hc : c ≤ 2) {w : Nat} (hw : w < 21) : F_L_behind Z l r (nI c) (nI w) = some (wa w e (lt1 lo l r (nI c)) (2 * n + 1), Z) := by
  have h2 : F_X4_weightBehind Z l r (nI c) (nI w) = some (wa w e (lt1 lo l r (nI c)) (2 * n + 1), Z) := by
    unfold F_X4_weightBehind
    rw [hs, sb, if_neg one0, l_ans hc, sb, if_neg one0, l_far hw, sb, if_neg one0, y_behind g.cy g.sz hw]; rfl
  exact (be h2).trans rfl
theorem l_bound (g : OKs n e T P a lo (Z 0)) (h : nl e lo (2 * n + 1) = 0) : F_X4_bound Z = some (0, Z) := by
  have h1 : F_X2_weightAhead (Z 0) 0 = some (lN 0) := by
    have := y_ahead g.cy g.sz (w := 0) (by omega)
    rw [wa0 g.1.2.2.1, h] at this
    exact this
  unfold F_X4_bound
  show B_X4_bound_4 Z (fx2 (B_X4_bound_4 Z) 999) 1 0 = _
  obtain ⟨K0, hK0⟩ : ∃ K, K = fx2 (B_X4_bound_4 Z) 999 := ⟨_, rfl⟩
  rw [← hK0]
  unfold B_X4_bound_4
  rw [if_neg (show ¬ (20 : Int32) < 0 by decide), h1, sb, if_neg (show ¬ 0 < lg_cmp (lN 0) 1 by decide)]
theorem l_splits (g : OKs n e T P a lo (Z 0)) {l r : Int32} (hs : F_X2_isWeighing (Z 0) l r = some 1) {w : Nat} (hw : w < 20) : F_L_splits Z l r (nI w) = some (1, Z) := by
  have b := fun (c : Nat) (hc : c ≤ 2) => l_behind g hs hc (w := w) (by omega)
  have b0 : F_L_behind Z l r 0 (nI w) = some (wa w e (lt1 lo l r (nI 0)) (2 * n + 1), Z) := b 0 (by omega)
  have b1 : F_L_behind Z l r 1 (nI w) = some (wa w e (lt1 lo l r (nI 1)) (2 * n + 1), Z) := b 1 (by omega)
  have b2 : F_L_behind Z l r 2 (nI w) = some (wa w e (lt1 lo l r (nI 2)) (2 * n + 1), Z) := b 2 (by omega)
  unfold F_L_splits
  rw [b0, sb]; dsimp only
  rw [b1, sb]; dsimp only
  rw [b2, sb]; dsimp only
  rw [nI_1, l_weighs g (show w + 1 < 21 by omega), sb]; dsimp only
  rw [wa_sum hw g.1.2.2.1, lg_same, if_pos rfl]
/-- the hidden case's count, the cases left, their lies, the weight for 0, the bound -/
theorem gl_holds (g : OKs n e T P a lo (Z 0)) {h : Nat} (hh : (Z 0).1 2 = nI h) (hh2 : h < 2 * n + 1) : F_L_holds Z (nI (lo h)) = some (1, Z) := by
  have hn := g.1.2.1; have he := g.1.2.2.1; have hk := g.1.2.2.2.1
  have hnl := nl_le e lo (2 * n + 1)
  have hlh := (g.2.2.1 h (by omega)).2
  have e0 : (2 : Int32) * nI n + 1 = nI (2 * n + 1) := by
    show nI 2 * nI n + nI 1 = _
    rw [pk_mul, nI_add]
  have hv1 : F_L_value Z 1 = some (nI e, Z) := by rw [l_v1, g.2.1.2.1]
  have hv2 : F_L_value Z 2 = some (nI T, Z) := by rw [l_v2, g.2.1.2.2.1]
  have hv5 : F_L_value Z 5 = some (nI h, Z) := by rw [l_v5, hh]
  have hv0 : F_L_value Z 0 = some (nI n, Z) := by rw [l_v0, g.2.1.1]
  have hv3 := l_v3 g
  have hw0 : F_L_weighs Z 0 = some (lN (nl e lo (2 * n + 1)), Z) := by
    have := l_weighs g (w := 0) (by omega)
    rw [wa0 he] at this
    exact this
  obtain ⟨NL, hNL⟩ : ∃ NL, NL = nl e lo (2 * n + 1) := ⟨_, rfl⟩
  have hb0 : NL = 0 → F_X4_bound Z = some (0, Z) := fun q => l_bound g (by rw [← hNL]; exact q)
  rw [← hNL] at hv3 hw0 hnl
  have htail : ((F_L_weighs Z 0).bind fun t17 => if (lg_cmp t17.1 (nI NL).toInt64) = 0 then ((F_L_value t17.2 3).bind fun t20 => if 0 < t20.1 then (some (1, t20.2)) else ((F_X4_bound t20.2).bind fun t23 => if t23.1 = 0 then (some (1, t23.2)) else none)) else none) = some ((1 : Int32), Z) := by
    rw [hw0, sb]; dsimp only
    rw [nI_l (by omega), lg_same, if_pos rfl, hv3, sb]; dsimp only
    rcases Nat.eq_zero_or_pos NL with q | q
    · rw [hb0 q, q, if_neg (show ¬ (0 : Int32) < nI 0 by decide), sb]; dsimp only
      rw [if_pos rfl]
    · rw [if_pos (show (0 : Int32) < nI NL from nI_lt (a := 0) q (by omega))]
  unfold F_L_holds
  rw [hv5, sb]; dsimp only
  rw [hv3, sb]; dsimp only
  rw [hv0, sb]; dsimp only
  rw [if_neg (nI_pos (by omega)), l_lies g hh2, sb]; dsimp only
  rw [if_pos rfl]
  refine ind (m := 2 * n + 1) (Q := fun N i (_ : Unit) => fx4 (B_L_holds_49 (nI (lo h)) (nI h, Z) (nI NL, Z) (nI n, Z)) N (nI (nl e lo i)) 1 (nI i) Z = some (1, Z)) (fun _ _ => True) ?_ (2 * n + 1) 0 () 1000 rfl (by omega) trivial
  intro N i s hi _ ih
  show B_L_holds_49 (nI (lo h)) (nI h, Z) (nI NL, Z) (nI n, Z) (fx4 (B_L_holds_49 (nI (lo h)) (nI h, Z) (nI NL, Z) (nI n, Z)) N) (nI (nl e lo i)) 1 (nI i) Z = _
  obtain ⟨K0, hK0⟩ : ∃ K, K = fx4 (B_L_holds_49 (nI (lo h)) (nI h, Z) (nI NL, Z) (nI n, Z)) N := ⟨_, rfl⟩
  rw [← hK0]
  unfold B_L_holds_49
  dsimp only
  rw [e0]
  rcases Nat.lt_or_ge i (2 * n + 1) with q | q
  · have ih' := ih () q trivial
    have e1 : nl e lo (i + 1) = nl e lo i + if lo i ≤ e then 1 else 0 := rfl
    have hb := (g.2.2.1 i (by omega)).2
    rw [if_neg (nI_ge q (by omega)), if_neg one0, l_lies g q, sb]; dsimp only
    rw [hv1, sb]; dsimp only
    by_cases hl : lo i ≤ e
    · rw [if_neg (nI_nlt hl (by omega)), if_neg (nI_pos (by omega)), hv2, sb]; dsimp only
      rw [if_neg (nI_nlt hb (by omega)), nI_1, nI_1]
      rw [e1, if_pos hl] at ih'; subst hK0; exact ih'
    · rw [if_pos (nI_lt (by omega) (by omega)), if_neg (nI_pos (by omega)), hv2, sb]; dsimp only
      rw [if_neg (nI_nlt hb (by omega)), nI_1, add0]
      rw [e1, if_neg hl] at ih'; subst hK0; exact ih'
  · obtain rfl : i = 2 * n + 1 := by omega
    rw [if_pos (nI_le (Nat.le_refl _) (by omega)), if_neg one0, ← hNL, if_pos rfl, hv1, sb]; dsimp only
    by_cases hl : lo h ≤ e
    · have hpos : 0 < NL := by rw [hNL]; exact nl_pos (2 * n + 1) hh2 hl
      rw [if_neg (nI_nlt hl (by omega)), if_neg (nI_pos (by omega)), if_neg (nI_nle hpos (by omega))]
      exact htail
    · rw [if_pos (nI_lt (by omega) (by omega))]
      exact htail
end O1
end
section
/-! the pure layer of the property: the calls that change the scale -/
section O2
variable {n e T P a : Nat} {lo : Nat → Nat} {Z : ZT}
/-- the sides of the law's weighings are sides -/
def gA (h s : Nat) : Int32 := (((1 : Int32) <<< (nI h &&& 31)) - 1) <<< (nI s &&& 31)
def gB (h s : Nat) : Int32 := gA h s <<< (nI h &&& 31)
def sOk (n h s : Nat) : Bool := decide (F_X2_isWeighing (fun _ => nI n, fun _ _ => 0) (gA h s) (gB h s) = some 1)
theorem sides_all : ∀ n, n < 17 → ∀ h, h < 9 → ∀ s, s < 15 → (!(Nat.ble 1 h && Nat.ble (2 * h + s) n) || sOk n h s) = true := by decide +kernel
theorem l_sides {y : St} (h0 : y.1 0 = nI n) (hn : n ≤ 16) {h s : Nat} (h1 : 1 ≤ h) (h2 : 2 * h + s ≤ n) : F_X2_isWeighing y (gA h s) (gB h s) = some 1 := by
  have k0 := sides_all n (by omega) h (by omega) s (by omega)
  rw [show Nat.ble 1 h = true from Nat.ble_eq.mpr h1, show Nat.ble (2 * h + s) n = true from Nat.ble_eq.mpr h2] at k0
  have k : F_X2_isWeighing (fun _ => nI n, fun _ _ => 0) (gA h s) (gB h s) = some 1 := of_decide_eq_true k0
  unfold F_X2_isWeighing at k ⊢
  rw [h0]
  exact k
theorem sides_12 : ∀ n, n < 17 → 2 ≤ n → F_X2_isWeighing (fun _ => nI n, fun _ _ => 0) 1 2 = some 1 := by decide +kernel
theorem l_sides12 {y : St} (h0 : y.1 0 = nI n) (hn : n ≤ 16) (h1 : 2 ≤ n) : F_X2_isWeighing y 1 2 = some 1 := by
  have k := sides_12 n (by omega) h1
  unfold F_X2_isWeighing at k ⊢
  rw [h0]
  exact k
/-- the hidden case answers -/
theorem l_reply {y : St} (g : OKs n e T P a lo y) (hT : T < 40) (ha : a < 30) {h S : Nat} (hh : y.1 2 = nI h) (hh2 : h < 2 * n + 1) (hS : y.1 3 = nI S) (hS2 : S ≤ 1073741823) (l r : Int32) :
    ∃ v y' lo', F_X2_reply y l r = some (nI v, y') ∧ v ≤ 2 ∧ OKs n e (T + 1) P (a + 1) lo' y' ∧ y'.1 2 = nI h ∧ y'.1 3 = nI S ∧ lo' h = lo h + S / 2 ^ a % 2 ∧ ∀ c, c < 2 * n + 1 → lo c ≤ lo' c := by
  obtain ⟨b, ⟨q0, q1, q5, q6, q4⟩, hl, hid, hs3⟩ := g
  have hh3 : h < 33 := by have := b.2.1; omega
  have key : ∀ v : Nat, ∃ y', F_X2_learn (sI y 4 (y.1 4 + 1)) l r (nI v) = some y' ∧ OKs n e (T + 1) P (a + 1) (fun c => if c < 2 * n + 1 then lt1 lo l r (nI v) c else lo c) y' ∧ y'.1 2 = nI h ∧ y'.1 3 = nI S := fun v => by
    obtain ⟨y', k1, k2, k3, -, -, -, -, k7, k8⟩ := y_learn (n := n) (T := T) (lo := lo) (y := sI y 4 (y.1 4 + 1)) b.2.1 q0 q5 hT (fun c hc => (hl c hc).1) l r (nI v)
    have k20 : y'.1 2 = y.1 2 := k2 2 (by omega)
    have k30 : y'.1 3 = y.1 3 := k2 3 (by omega)
    refine ⟨y', k1, ⟨⟨b.1, b.2.1, b.2.2.1, by omega, b.2.2.2.2.1, by omega⟩, ⟨(k2 0 (by omega)).trans q0, (k2 1 (by omega)).trans q1, k3, (k2 6 (by omega)).trans q6, ?_⟩, fun c hc => ?_, ?_, ?_⟩, k20.trans hh, k30.trans hS⟩
    · rw [k2 4 (by omega)]
      show y.1 4 + 1 = _
      rw [q4, nI_1]
    · have hc1 := (hl c hc).2
      show y'.2 6 c = nI (if c < 2 * n + 1 then lt1 lo l r (nI v) c else lo c) ∧ (if c < 2 * n + 1 then lt1 lo l r (nI v) c else lo c) ≤ T + 1
      by_cases z : c < 2 * n + 1
      · rw [k7 c z, if_pos z]
        refine ⟨rfl, ?_⟩
        unfold lt1; split <;> omega
      · rw [k8 c (by omega), if_neg z]
        exact ⟨(hl c hc).1, by omega⟩
    · rw [k20]; exact hid
    · rw [k30]; exact hs3
  have mono : ∀ (v : Nat) (c : Nat), c < 2 * n + 1 → lo c ≤ (fun c => if c < 2 * n + 1 then lt1 lo l r (nI v) c else lo c) c := fun v c hc => by
    show lo c ≤ if c < 2 * n + 1 then lt1 lo l r (nI v) c else lo c
    rw [if_pos hc]
    unfold lt1; split <;> omega
  obtain ⟨lb1, lb2⟩ := lie_bit hS2 ha
  have ht := tr_le h l r
  have e1 : F_X4_trueAnswer (y.1 2) l r = some (nI (tr h l r)) := by rw [hh, q_ta hh3]
  have e4 : ((y.1 3).toUInt32 >>> ((y.1 4).toUInt32 &&& Int32.toUInt32 31)).toInt32 &&& 1 = nI (S / 2 ^ a % 2) := by rw [hS, q4]; exact lb1
  have hb : S / 2 ^ a % 2 = 0 ∨ S / 2 ^ a % 2 = 1 := by omega
  have same : ∀ v : Nat, nI (tr h l r) = nI v → (if h < 2 * n + 1 then lt1 lo l r (nI v) h else lo h) = lo h := fun v q => by
    rw [if_pos hh2]; unfold lt1; rw [if_pos q]
  have other : ∀ v : Nat, ¬ nI (tr h l r) = nI v → (if h < 2 * n + 1 then lt1 lo l r (nI v) h else lo h) = lo h + 1 := fun v q => by
    rw [if_pos hh2]; unfold lt1; rw [if_neg q]
  unfold F_X2_reply
  rw [e1, sb, e4]
  rcases hb with hb | hb
  · rw [hb, if_neg (show ¬ nI 0 = 1 by decide)]
    obtain ⟨y', k1, k2, k3, k4⟩ := key (tr h l r)
    exact ⟨tr h l r, y', _, (be k1).trans rfl, ht, k2, k3, k4, same _ rfl, mono _⟩
  · rw [hb, if_pos (show nI 1 = 1 from rfl)]
    by_cases t2 : tr h l r = 2
    · rw [t2, if_pos (show nI 2 = 2 from rfl)]
      obtain ⟨y', k1, k2, k3, k4⟩ := key 0
      have k1' : F_X2_learn (sI y 4 (y.1 4 + 1)) l r 0 = some y' := k1
      exact ⟨0, y', _, (be k1').trans rfl, by omega, k2, k3, k4, other 0 (by rw [t2]; decide), mono 0⟩
    · rw [if_neg (show ¬ nI (tr h l r) = 2 from fun z => t2 ((nI_eq (b := 2) (by omega) (by omega)).mp z)), nI_1]
      obtain ⟨y', k1, k2, k3, k4⟩ := key (tr h l r + 1)
      exact ⟨tr h l r + 1, y', _, (be k1).trans rfl, by omega, k2, k3, k4, other _ (fun z => by have := (nI_eq (by omega) (by omega)).mp z; omega), mono _⟩
theorem l_save (hc : HC Z) : ∃ Z' c, F_X0_save Z = some Z' ∧ Z' 0 = Z 0 ∧ c < 4 ∧ (Z' 6).1 0 = nI (c + 1) ∧ AGs (Z 0) (Z' (1 + c)) := by
  obtain ⟨c, c1, c2⟩ := hc
  obtain ⟨Z', y', k1, k2, k3, -, k5⟩ := z_save c1 c2
  rcases k5 with ⟨h1, h2, h3, -⟩ | ⟨h1, h2, h3, -⟩
  · exact ⟨Z', c, k1, k3, h1, h2, by rw [h3]; exact k2⟩
  · exact ⟨Z', 3, k1, k3, by omega, h2, by rw [show 1 + 3 = 4 from rfl, h3]; exact k2⟩
theorem HC.of {Z Z' : ZT} {c : Nat} (hc : c < 4) (h : (Z 6).1 0 = nI (c + 1)) (e : Z' 6 = Z 6) : HC Z' := ⟨c + 1, by omega, by rw [e]; exact h⟩
theorem l_ask (g : OKs n e T P a lo (Z 0)) (hT : T < 40) (ha : a < 30) {h S : Nat} (hh : (Z 0).1 2 = nI h) (hh2 : h < 2 * n + 1) (hS : (Z 0).1 3 = nI S) (hS2 : S ≤ 1073741823) (hc : HC Z) {l r : Int32} (hs : F_X2_isWeighing (Z 0) l r = some 1) :
    ∃ v Z' lo', F_L_asks Z l r = some (nI v, Z') ∧ v ≤ 2 ∧ OKs n e (T + 1) P (a + 1) lo' (Z' 0) ∧ (Z' 0).1 2 = nI h ∧ (Z' 0).1 3 = nI S ∧ lo' h = lo h + S / 2 ^ a % 2 ∧ (∀ c, c < 2 * n + 1 → lo c ≤ lo' c) ∧ HC Z' := by
  have hn := g.1.2.1
  obtain ⟨Z1, c, k1, k2, k3, k4, -⟩ := l_save hc
  obtain ⟨v, y', lo', r1, r2, r3, r4, r5, r6, r7⟩ := l_reply g hT ha hh hh2 hS hS2 l r
  have hr : F_X2_canReply (Z 0) = some 1 := by
    rw [y_replies g, hh, if_neg (show ¬ nI h = -1 from fun z => nI_pos (show h < 2 ^ 31 by omega) (by rw [z]; decide)), if_pos hT, if_pos ha]
  have h2 : F_X4_ask Z l r = some (nI v, zU Z1 0 y') := by
    unfold F_X4_ask
    rw [hs, sb, if_neg one0, hr, sb, if_neg one0, k1, sb, k2, r1]; rfl
  exact ⟨v, zU Z1 0 y', lo', (be h2).trans rfl, r2, r3, r4, r5, r6, r7, HC.of k3 k4 rfl⟩
theorem l_begin (hT : (Z 0).1 5 = 0) (hc : HC Z) (h1 : 2 ≤ n) (h2 : n ≤ 16) : ∃ Z', F_L_begins Z (nI n) = some (0, Z') ∧ OKs n 1 0 0 0 (fun _ => 0) (Z' 0) ∧ (Z' 0).1 2 = -1 ∧ HC Z' := by
  obtain ⟨Z1, c, k1, k2, k3, k4, -⟩ := l_save hc
  obtain ⟨y', s1, s2, s3, -⟩ := y_start h1 h2 (Z 0)
  have e2 : F_X4_begin Z (nI n) = some (0, zU Z1 0 y') := by
    unfold F_X4_begin
    rw [if_neg (show ¬ nI n < 2 from nI_nlt (b := 2) h1 (by omega)), if_pos (show nI n ≤ 16 from nI_le (b := 16) h2 (by omega)), k1, sb, k2, s1, sb, hT]
  exact ⟨zU Z1 0 y', (be e2).trans rfl, s2, s3, HC.of k3 k4 rfl⟩
theorem l_limit (g : OKs n e T P a lo (Z 0)) (hc : HC Z) {f : Nat} (hf : f ≤ 2) : ∃ Z', F_L_limits Z (nI f) = some (nI (nl f lo (2 * n + 1)), Z') ∧ OKs n f T P a lo (Z' 0) ∧ (Z' 0).1 2 = (Z 0).1 2 ∧ HC Z' := by
  obtain ⟨Z1, c, k1, k2, k3, k4, -⟩ := l_save hc
  obtain ⟨b, ⟨q0, q1, q5, q6, q4⟩, hl, hid, hs3⟩ := g
  have o : OKs n f T P a lo (sI (Z 0) 1 (nI f)) := ⟨⟨b.1, b.2.1, hf, b.2.2.2⟩, ⟨q0, rfl, q5, q6, q4⟩, hl, hid, hs3⟩
  have e1 : F_X2_countLeft ((zU Z1 0 (sI (Z1 0) 1 (nI f))) 0) = some (nI (nl f lo (2 * n + 1))) := by
    rw [k2]
    exact y_count o.cy o.sz
  have e2 : F_X4_setLimit Z (nI f) = some (nI (nl f lo (2 * n + 1)), zU Z1 0 (sI (Z1 0) 1 (nI f))) := by
    unfold F_X4_setLimit
    rw [if_neg (nI_pos (by omega)), if_pos (show nI f ≤ 2 from nI_le (b := 2) hf (by omega)), k1, sb, e1, sb]
  refine ⟨_, (be e2).trans rfl, ?_, ?_, HC.of k3 k4 rfl⟩
  · show OKs n f T P a lo (sI (Z1 0) 1 (nI f))
    rw [k2]; exact o
  · show (sI (Z1 0) 1 (nI f)).1 2 = _
    rw [k2]; rfl
theorem l_hide (g : OKs n e T P a lo (Z 0)) (hh : (Z 0).1 2 = -1) (hc : HC Z) {h S : Nat} (h1 : h < 2 * n + 1) (h2 : S ≤ 1073741823) : ∃ Z', F_L_hides Z (nI h) (nI S) = some (-1, Z') ∧ OKs n e T P 0 lo (Z' 0) ∧ (Z' 0).1 2 = nI h ∧ (Z' 0).1 3 = nI S ∧ HC Z' := by
  obtain ⟨Z1, c, k1, k2, k3, k4, -⟩ := l_save hc
  have hcs := l_case g.2.1.1 g.1.2.1 h1
  obtain ⟨b, ⟨q0, q1, q5, q6, q4⟩, hl, hid, hs3⟩ := g
  have o : OKs n e T P 0 lo (sI (sI (sI (Z 0) 2 (nI h)) 3 (nI S)) 4 0) := ⟨⟨b.1, b.2.1, b.2.2.1, b.2.2.2.1, b.2.2.2.2.1, by omega⟩, ⟨q0, q1, q5, q6, rfl⟩, hl, .inr ⟨h, rfl, h1⟩, ⟨S, rfl, h2⟩⟩
  have e2 : F_X4_hide Z (nI h) (nI S) = some (-1, zU Z1 0 (sI (sI (sI (Z 0) 2 (nI h)) 3 (nI S)) 4 0)) := by
    unfold F_X4_hide
    rw [hcs, sb, if_neg one0, if_neg (nI_pos (by omega)), if_pos (show nI S ≤ 1073741823 from nI_le (b := 1073741823) h2 (by omega)), k1, sb, k2, hh]; rfl
  exact ⟨_, (be e2).trans rfl, o, rfl, rfl, HC.of k3 k4 rfl⟩
/-- what is forgotten comes back by undo -/
theorem l_forget (g : OKs n e T P a lo (Z 0)) (hc : HC Z) : ∃ Z' c, F_X4_forget Z = some (nI T, Z') ∧ OKs n e 0 P a (fun _ => 0) (Z' 0) ∧ c < 4 ∧ (Z' 6).1 0 = nI (c + 1) ∧ AGs (Z 0) (Z' (1 + c)) := by
  obtain ⟨Z1, c, k1, k2, k3, k4, k5⟩ := l_save hc
  obtain ⟨b, ⟨q0, q1, q5, q6, q4⟩, hl, hid, hs3⟩ := g
  obtain ⟨y', f1, f2, f3, f4, f5⟩ := y_forget (Z 0)
  have e2 : F_X4_forget Z = some (nI T, zU Z1 0 y') := by
    unfold F_X4_forget
    rw [k1, sb, k2, f1, sb, q5]
  refine ⟨zU Z1 0 y', c, e2, ⟨⟨b.1, b.2.1, b.2.2.1, by omega, b.2.2.2.2⟩, ⟨(f2 0 (by omega)).trans q0, (f2 1 (by omega)).trans q1, f3, (f2 6 (by omega)).trans q6, (f2 4 (by omega)).trans q4⟩, fun i hi => ⟨f5 i hi, Nat.le_refl 0⟩, ?_, ?_⟩, k3, k4, ?_⟩
  · show y'.1 2 = -1 ∨ ∃ h, y'.1 2 = nI h ∧ _
    rw [f2 2 (by omega)]; exact hid
  · show ∃ s, y'.1 3 = nI s ∧ _
    rw [f2 3 (by omega)]; exact hs3
  · show AGs (Z 0) (if 1 + c = 0 then y' else Z1 (1 + c))
    rw [if_neg (by omega)]; exact k5
theorem l_undo {c : Nat} (hc : c < 4) (h6 : (Z 6).1 0 = nI (c + 1)) : ∃ Z', F_L_undoes Z = some (nI c, Z') ∧ AGs (Z (1 + c)) (Z' 0) := by
  obtain ⟨Z', r1, r2, -, r4, -⟩ := z_restore hc h6
  have e2 : F_X4_undo Z = some (nI c, Z') := by
    unfold F_X4_undo
    rw [if_neg (show ¬ (Z 6).1 0 = 0 by rw [h6]; exact nI_ne0 (by omega) (by omega)), r1, sb, r4]
  exact ⟨Z', (be e2).trans rfl, r2⟩
/-- calls that are refused -/
theorem l_refuse {l r : Int32} (hs : F_X2_isWeighing (Z 0) l r = some 0) : T_L_asks Z l r = some (-2000001) := by
  have e2 : F_T4_ask Z l r = some (.inl "java/lang/IllegalArgumentException") := by
    unfold F_T4_ask
    rw [hs, sb, if_pos rfl]
  unfold T_L_asks
  rw [e2, sb]; dsimp only
  rw [if_pos rfl]
theorem l_refuse2 (g : OKs n e T P a lo (Z 0)) (hh : (Z 0).1 2 = -1) : T_L_asks Z 1 2 = some (-2000002) := by
  have hr : F_X2_canReply (Z 0) = some 0 := by rw [y_replies g, if_pos hh]
  have e2 : F_T4_ask Z 1 2 = some (.inl "java/lang/IllegalStateException") := by
    unfold F_T4_ask
    rw [l_sides12 g.2.1.1 g.1.2.1 g.1.1, sb, if_neg one0, hr, sb, if_pos rfl]
  unfold T_L_asks
  rw [e2, sb]; dsimp only
  rw [if_neg (by decide), if_pos rfl]
end O2
end
