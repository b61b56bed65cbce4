/-! base: my own words for worlds, contracts and calls -/
abbrev vwCl : List vw_C := [(RX0, TX0, 2), (RX1, TX1, 9), (RX2, TX2, 9), (RX3, TX3, 4), (RX4, TX4, 3)]
abbrev St : Type := (Nat → Int32) × (Nat → Nat → Int32)
def sI (x : St) (k : Nat) (v : Int32) : St := (fun j => if j = k then v else x.1 j, x.2)
def sA (x : St) (k : Nat) (f : Nat → Int32) : St := (x.1, fun j => if j = k then f else x.2 j)
abbrev TY (T : Nat → ClassId) : List (ClassId × FieldType) := [(T 0, .int), (T 1, .byte), (T 0, .int), (T 3, .object RX2)]
def nestW : List Cond := [
  .fieldLinkNest RX4 133 "LyingScale$State" "liesOf" "[I" "LyingScale",
  .fieldLinkNest RX4 234 "LyingScale$History" "count" "I" "LyingScale",
  .fieldLinkNest RX4 41 "LyingScale$State" "told" "LLyingScale$Weighings;" "LyingScale",
  .fieldLinkNest RX4 45 "LyingScale$Weighings" "count" "I" "LyingScale",
  .fieldLinkNest RX4 57 "LyingScale$State" "limit" "I" "LyingScale",
  .fieldLinkNest RX4 99 "LyingScale$State" "hidden" "I" "LyingScale",
  .fieldLinkNest RX2 40 "LyingScale$Weighings" "count" "I" "LyingScale",
  .methodLinkNest RX2 128 yX4_coinBit "LyingScale",
  .methodLinkNest RX2 141 yX4_volume "LyingScale",
  .methodLinkNest RX2 54 yX4_copyRow "LyingScale",
  .methodLinkNest RX2 85 yX4_put "LyingScale",
  .methodLinkNest RX2 89 yX4_at "LyingScale",
  .methodLinkNest RX2 93 yX4_trueAnswer "LyingScale",
  .methodLinkNest RX3 27 yX4_copyRow "LyingScale",
  .methodLinkNest RX3 35 yX4_put "LyingScale"]
def NN (U : State) : Prop := ∀ w ∈ nestW, va_Nw w U
theorem NN_tabs : ∀ w ∈ nestW, w.onTables = true := by decide +kernel
theorem NN.same {u U : State} (h : u.vm = U.vm) (hN : NN u) : NN U := fun w hw => va_Nw.same (NN_tabs w hw) h (hN w hw)
def nestOk : Cond → Bool
  | .fieldLinkNest _ _ _ _ _ _ => true
  | .methodLinkNest _ _ _ _ => true
  | _ => false
theorem nest_all : nestW.all nestOk = true := by decide +kernel
theorem NN.warm {s U : State} (hW : s.WarmedH U.vm) (hN : NN s) : NN U := by
  intro w hw
  have h1 := hN w hw
  have h2 := List.all_eq_true.mp nest_all w hw
  cases w <;> first | exact va_Nw.warmF hW h1 | exact va_Nw.warmM hW h1 | (exfalso; revert h2; simp [nestOk]; done)
def KK (D : va_G) (T : Nat → ClassId) (U : State) : Prop := va_K D vwCl (TY T) U ∧ NN U
theorem KK.warm {D : va_G} {T : Nat → ClassId} {s U : State} (hW : s.WarmedH U.vm) (h : KK D T s) : KK D T U := ⟨va_K.moved hW.alike h.1, h.2.warm hW⟩
theorem KK.calling {D : va_G} {T : Nat → ClassId} {U : State} {g : JFrame} {mk : MethodId} {a : Array Value} (h : KK D T U) : KK D T (U.calling g mk a) := ⟨va_K.moved (u := U) (U := U.calling g mk a) (Vm.Alike.refl U.vm) h.1, NN.same (u := U) (U := U.calling g mk a) rfl h.2⟩
/-- the method's frame at its start -/
def CX (p : Program) (s : State) (m : MethodId) (args : Array Value) (meth : Method) (c : Code) (cc : ByteArray) (maxL : Nat) (ret : Option FieldType) (ws : List Cond) (y : MethodName) : Prop :=
  p.tables.exec = Jvm.exec ∧ c.code = cc ∧ meth.sig.returnType = ret ∧ c.maxLocals = maxL ∧ s.vm.findClass y.cls = some m.cls ∧ (∀ w ∈ ws, w.before args s = true) ∧ meth.locks = false ∧ meth.name = y.name
theorem met_of {l : Launch} {y : MethodName} {ws ws' : List Cond} {rm : Room} {av : List Value} {B : State → Prop} {Qc : Array Value → State → Outcome → State → Prop} {mc ms : Nat} {free : Addr → Prop} {cc : ByteArray} {maxL : Nat} {ret : Option FieldType} {lv : List (Nat × Value)}
    (hy : plainName y.cls = true) (hw : ws = Cond.code y cc maxL ret :: ws') (hn : (lg_sl av).length ≤ maxL) (hlv : lv_args 0 av = lv)
    (body : ∀ (p : Program) (e : Env) (s : State) (m : MethodId) (args : Array Value) (below : List Frame) (meth : Method) (c : Code) (ls : Array Slot), CX p s m args meth c cc maxL ret ws y → lv_has ls maxL lv → B s →
      W p l e rm s m args below meth c s.heap [] 0 0 (MQ below Qc args s mc ms free) (F0 m 0 ls [])) : Met l y ws rm (va_Pc av B) Qc mc ms free := by
  refine Met.ofW (cc := cc) (maxL := maxL) (ret := ret) hy hw ?_
  intro p e s m args below meth c s₁ C0 hml hv
  obtain ⟨rfl, hB⟩ := hv
  have hl := lv_entry av (n := maxL) hn
  rw [lg_entry_eq]
  rw [hlv] at hl
  exact body p e s m _ below meth c _ ⟨C0.exec, C0.bytes, C0.returns, hml, findClass_of_methodNamed C0.named, atoms_spec (ws := ws) C0.pre, C0.notSynchronized, (name_of_methodNamed C0.named C0.method).1⟩ hl hB
/-- a start that reads a world -/
def PB (D : va_G) (T : Nat → ClassId) (wc : va_W) (U : State) : Prop := va_P D vwCl wc U.heap ∧ KK D T U
/-- a start that may write a world -/
def PM (D : va_G) (T : Nat → ClassId) (wc : va_W) (sz : Nat) (U : State) : Prop := U.heap.size = sz ∧ va_P D vwCl wc U.heap ∧ KK D T U ∧ va_D (fun _ => True) wc
theorem PB_blind {D : va_G} {T : Nat → ClassId} {wc : va_W} {av : List Value} : FrameBlind (va_Pc av (PB D T wc)) := fun _ _ _ _ q => ⟨q.1, q.2.1, q.2.2.calling⟩
theorem PM_blind {D : va_G} {T : Nat → ClassId} {wc : va_W} {sz : Nat} {av : List Value} : FrameBlind (va_Pc av (PM D T wc sz)) := fun _ _ _ _ q => ⟨q.1, q.2.1, q.2.2.1, q.2.2.2.1.calling, q.2.2.2.2⟩
theorem PB_at {D : va_G} {T : Nat → ClassId} {wc : va_W} {av : List Value} {s : State} {H : Heap} (hP : va_P D vwCl wc H) (hK : KK D T s) : ∀ U : State, U.heap = H → s.WarmedH U.vm → va_Pc av (PB D T wc) av.toArray U := fun U hU hW => ⟨rfl, by rw [hU]; exact hP, hK.warm hW⟩
theorem PM_at {D : va_G} {T : Nat → ClassId} {wc : va_W} {av : List Value} {s : State} {H : Heap} {A : Nat → Prop} (hP : va_P D vwCl wc H) (hD : va_D A wc) (hK : KK D T s) : ∀ U : State, U.heap = H → s.WarmedH U.vm → va_Pc av (PM D T wc H.size) av.toArray U := fun U hU hW => ⟨rfl, by rw [hU], by rw [hU]; exact hP, hK.warm hW, hD.weaken (fun _ _ _ _ => trivial)⟩
/-- ends of a method that writes: the answer v, the world w1 -/
def QMi (D : va_G) (w1 : va_W) (v : Int32) (A : Nat → Prop) : Array Value → State → Outcome → State → Prop := va_Qi (fun (r : Int32) (_ : Unit) => r = v) (fun _ t => va_P D vwCl w1 t.heap ∧ va_D A w1) A
def QMl (D : va_G) (w1 : va_W) (v : Int64) (A : Nat → Prop) : Array Value → State → Outcome → State → Prop := va_Ql (fun (r : Int64) (_ : Unit) => r = v) (fun _ t => va_P D vwCl w1 t.heap ∧ va_D A w1) A
def QMv (D : va_G) (w1 : va_W) (A : Nat → Prop) : Array Value → State → Outcome → State → Prop := va_Qv (fun (_ : Unit) => True) (fun _ t => va_P D vwCl w1 t.heap ∧ va_D A w1) A
theorem reord {D : va_G} {A0 : Nat → Prop} {ws wc wr w1 ws' : va_W} {H H1 : Heap} (hP : va_P D vwCl ws H) (hD : va_D A0 ws) (isC isR : List Nat) (hC : isC.map (fun i => ws[i]?) = wc.map some) (hR : isR.map (fun i => ws[i]?) = wr.map some) (hn : va_nd isR = true) (hdis : ∀ i ∈ isR, i ∉ isC)
    (hk : ∀ q : Nat, q < H.size → ¬ va_A wc H.size q → H1[q]? = H[q]?) (hF : ∀ q, va_A wc H.size q → A0 q) (hP1 : va_P D vwCl w1 H1) (hD1 : va_D (va_A wc H.size) w1) (pi : List Nat) (hp : va_nd pi = true) (hpi : pi.map (fun i => (wr ++ w1)[i]?) = ws'.map some) : va_P D vwCl ws' H1 ∧ va_D A0 ws' := by
  obtain ⟨h1, h2⟩ := va_join hP hD isC isR hC hR hn hdis hk hF hP1 hD1
  refine ⟨fun k q hq => ?_, h2.sub pi hp hpi⟩
  have h3 : (pi.map (fun i => (wr ++ w1)[i]?))[k]? = some (some q) := by rw [hpi, List.getElem?_map, hq]; rfl
  rw [List.getElem?_map] at h3
  cases hi : pi[k]? with
  | none => rw [hi] at h3; cases h3
  | some i => rw [hi] at h3; exact h1 i q (Option.some.inj h3)
section BC
variable {p : Program} {l : Launch} {e : Env} {R : Room} {s : State} {m : MethodId} {args : Array Value} {below : List Frame} {meth : Method} {c : Code} {H : Heap} {locs : List Loc} {cells slots : Nat} {Q : State → Prop}
variable {pc : Nat} {ls : Array Slot} {rest st0 : List Value} {a : Array Value} {A0 : Nat → Prop} {H0 : Heap} {mc ms : Nat} {D : va_G} {wc wr w1 ws ws' : va_W}
theorem callMi {v : Int32} (hr : va_Run p l e R s m args below meth c H locs cells slots mc ms (F0 m pc ls st0) rest (QMi D w1 v (va_A wc H.size) a) (va_A wc H.size)) (hS : va_S A0 H0 H locs) (hA : ∀ q, H0.size ≤ q → A0 q) (hP : va_P D vwCl ws H) (hD : va_D A0 ws)
    (isC isR : List Nat) (hC : isC.map (fun i => ws[i]?) = wc.map some) (hR : isR.map (fun i => ws[i]?) = wr.map some) (hn : va_nd isR = true) (hdis : ∀ i ∈ isR, i ∉ isC) (pi : List Nat) (hp : va_nd pi = true) (hpi : pi.map (fun i => (wr ++ w1)[i]?) = ws'.map some)
    (kk : ∀ (H1 : Heap) (locs1 : List Loc), va_P D vwCl ws' H1 → va_D A0 ws' → va_S A0 H0 H1 locs1 → W p l e R s m args below meth c H1 locs1 (cells + mc) (slots + ms) Q (F0 m (pc + 3) ls (.int v :: rest))) : W p l e R s m args below meth c H locs cells slots Q (F0 m pc ls st0) := by
  have hF := va_free hD hS hA isC hC
  refine va_calli hr hS (fun q _ h => hF q h) hF (fun r u t H1 locs ht hvm hw hB hz1 hk1 hS => ?_)
  subst hw
  obtain ⟨hP1, hD1⟩ := hB
  rw [ht] at hP1
  obtain ⟨g1, g2⟩ := reord hP hD isC isR hC hR hn hdis hk1 hF hP1 hD1 pi hp hpi
  exact kk H1 locs g1 g2 hS
theorem callMl {v : Int64} (hr : va_Run p l e R s m args below meth c H locs cells slots mc ms (F0 m pc ls st0) rest (QMl D w1 v (va_A wc H.size) a) (va_A wc H.size)) (hS : va_S A0 H0 H locs) (hA : ∀ q, H0.size ≤ q → A0 q) (hP : va_P D vwCl ws H) (hD : va_D A0 ws)
    (isC isR : List Nat) (hC : isC.map (fun i => ws[i]?) = wc.map some) (hR : isR.map (fun i => ws[i]?) = wr.map some) (hn : va_nd isR = true) (hdis : ∀ i ∈ isR, i ∉ isC) (pi : List Nat) (hp : va_nd pi = true) (hpi : pi.map (fun i => (wr ++ w1)[i]?) = ws'.map some)
    (kk : ∀ (H1 : Heap) (locs1 : List Loc), va_P D vwCl ws' H1 → va_D A0 ws' → va_S A0 H0 H1 locs1 → W p l e R s m args below meth c H1 locs1 (cells + mc) (slots + ms) Q (F0 m (pc + 3) ls (.long v :: rest))) : W p l e R s m args below meth c H locs cells slots Q (F0 m pc ls st0) := by
  have hF := va_free hD hS hA isC hC
  refine va_calll hr hS (fun q _ h => hF q h) hF (fun r u t H1 locs ht hvm hw hB hz1 hk1 hS => ?_)
  subst hw
  obtain ⟨hP1, hD1⟩ := hB
  rw [ht] at hP1
  obtain ⟨g1, g2⟩ := reord hP hD isC isR hC hR hn hdis hk1 hF hP1 hD1 pi hp hpi
  exact kk H1 locs g1 g2 hS
theorem callMv (hr : va_Run p l e R s m args below meth c H locs cells slots mc ms (F0 m pc ls st0) rest (QMv D w1 (va_A wc H.size) a) (va_A wc H.size)) (hS : va_S A0 H0 H locs) (hA : ∀ q, H0.size ≤ q → A0 q) (hP : va_P D vwCl ws H) (hD : va_D A0 ws)
    (isC isR : List Nat) (hC : isC.map (fun i => ws[i]?) = wc.map some) (hR : isR.map (fun i => ws[i]?) = wr.map some) (hn : va_nd isR = true) (hdis : ∀ i ∈ isR, i ∉ isC) (pi : List Nat) (hp : va_nd pi = true) (hpi : pi.map (fun i => (wr ++ w1)[i]?) = ws'.map some)
    (kk : ∀ (H1 : Heap) (locs1 : List Loc), va_P D vwCl ws' H1 → va_D A0 ws' → va_S A0 H0 H1 locs1 → W p l e R s m args below meth c H1 locs1 (cells + mc) (slots + ms) Q (F0 m (pc + 3) ls rest)) : W p l e R s m args below meth c H locs cells slots Q (F0 m pc ls st0) := by
  have hF := va_free hD hS hA isC hC
  refine va_callv hr hS (fun q _ h => hF q h) hF (fun u t H1 locs ht hvm hw hB hz1 hk1 hS => ?_)
  obtain ⟨hP1, hD1⟩ := hB
  rw [ht] at hP1
  obtain ⟨g1, g2⟩ := reord hP hD isC isR hC hR hn hdis hk1 hF hP1 hD1 pi hp hpi
  exact kk H1 locs g1 g2 hS
/-- calls that write nothing, by any way of calling -/
theorem callRi0 {post : Int32 → Prop} (hr : va_Run p l e R s m args below meth c H locs cells slots 0 0 (F0 m pc ls st0) rest (vp_Si post a) (fun _ => False))
    (kk : ∀ r : Int32, post r → W p l e R s m args below meth c H locs cells slots Q (F0 m (pc + 3) ls (.int r :: rest))) : W p l e R s m args below meth c H locs cells slots Q (F0 m pc ls st0) := by
  intro T hT X
  obtain ⟨v, st₀, t, T', L, h0, X', hL, e1, -, ⟨r, hv, hp, hh⟩, st⟩ := hr T hT X
  cases hv
  obtain ⟨t2, a1, b1⟩ := kk r hp T' (by rw [e1, hh, h0]) (Stand.forget X' (fun q h => (hL q h).elim))
  exact ⟨t2, st t2 a1, b1⟩
theorem callRl0 {post : Int64 → Prop} (hr : va_Run p l e R s m args below meth c H locs cells slots 0 0 (F0 m pc ls st0) rest (vp_Sl post a) (fun _ => False))
    (kk : ∀ r : Int64, post r → W p l e R s m args below meth c H locs cells slots Q (F0 m (pc + 3) ls (.long r :: rest))) : W p l e R s m args below meth c H locs cells slots Q (F0 m pc ls st0) := by
  intro T hT X
  obtain ⟨v, st₀, t, T', L, h0, X', hL, e1, -, ⟨r, hv, hp, hh⟩, st⟩ := hr T hT X
  cases hv
  obtain ⟨t2, a1, b1⟩ := kk r hp T' (by rw [e1, hh, h0]) (Stand.forget X' (fun q h => (hL q h).elim))
  exact ⟨t2, st t2 a1, b1⟩
def QRi (v : Int32) : Array Value → State → Outcome → State → Prop := vp_Si (fun r => r = v)
def QRl (v : Int64) : Array Value → State → Outcome → State → Prop := vp_Sl (fun r => r = v)
theorem callRi {v : Int32} (hr : va_Run p l e R s m args below meth c H locs cells slots 0 0 (F0 m pc ls st0) rest (QRi v a) (fun _ => False))
    (kk : W p l e R s m args below meth c H locs cells slots Q (F0 m (pc + 3) ls (.int v :: rest))) : W p l e R s m args below meth c H locs cells slots Q (F0 m pc ls st0) := callRi0 hr (fun r h => by subst h; exact kk)
theorem callRl {v : Int64} (hr : va_Run p l e R s m args below meth c H locs cells slots 0 0 (F0 m pc ls st0) rest (QRl v a) (fun _ => False))
    (kk : W p l e R s m args below meth c H locs cells slots Q (F0 m (pc + 3) ls (.long v :: rest))) : W p l e R s m args below meth c H locs cells slots Q (F0 m pc ls st0) := callRl0 hr (fun r h => by subst h; exact kk)
/-- a named answer in the place of what it is -/
theorem eqi {x y : Int32} (h : x = y) (kk : W p l e R s m args below meth c H locs cells slots Q (F0 m pc ls (.int y :: rest))) : W p l e R s m args below meth c H locs cells slots Q (F0 m pc ls (.int x :: rest)) := h ▸ kk
theorem eql {x y : Int64} (h : x = y) (kk : W p l e R s m args below meth c H locs cells slots Q (F0 m pc ls (.long y :: rest))) : W p l e R s m args below meth c H locs cells slots Q (F0 m pc ls (.long x :: rest)) := h ▸ kk
end BC
/-- pure steps along a picture -/
theorem bd {α β : Type} {o : Option α} {f : α → Option β} {r : β} (h : o.bind f = some r) : ∃ t, o = some t ∧ f t = some r := by
  cases o with
  | none => cases h
  | some t => exact ⟨t, rfl, h⟩
theorem ip {c : Prop} [Decidable c] {α : Type} {a b r : α} (hc : c) (h : (if c then a else b) = r) : a = r := by rw [if_pos hc] at h; exact h
theorem im {c : Prop} [Decidable c] {α : Type} {a b r : α} (hc : ¬ c) (h : (if c then a else b) = r) : b = r := by rw [if_neg hc] at h; exact h
theorem gd {c : Prop} [Decidable c] {α : Type} {a : Option α} {r : α} (h : (if c then none else a) = some r) : ¬ c ∧ a = some r := by
  by_cases hc : c
  · rw [if_pos hc] at h; cases h
  · rw [if_neg hc] at h; exact ⟨hc, h⟩
theorem vin {i : Int32} {n : Nat} (hn : n < 2147483648) (h1 : ¬ i < 0) (h2 : ¬ nI n ≤ i) : vp_in i n := by
  obtain ⟨j, hj, rfl⟩ := nI_of h1
  exact vp_in_nI (Nat.lt_of_not_le fun q => h2 (nI_le q (by omega))) (by omega)
theorem swOut {x : Int32} {lo hi : Int} (h : ¬ (lo ≤ x.toInt ∧ x.toInt ≤ hi)) : x.toInt < lo ∨ hi < x.toInt := by omega
theorem int_ne {x k : Int32} (h : ¬ x = k) : ¬ x.toInt = k.toInt := fun q => h (Int32.toInt_inj.mp q)
def fx0 {ρ : Type} (b : Option ρ → Option ρ) : Nat → Option ρ
  | 0 => none
  | n + 1 => b (fx0 b n)
def fx1 {α ρ : Type} (b : (α → Option ρ) → α → Option ρ) : Nat → α → Option ρ
  | 0 => fun _ => none
  | n + 1 => b (fx1 b n)
def fx2 {α β ρ : Type} (b : (α → β → Option ρ) → α → β → Option ρ) : Nat → α → β → Option ρ
  | 0 => fun _ _ => none
  | n + 1 => b (fx2 b n)
def fx3 {α β γ ρ : Type} (b : (α → β → γ → Option ρ) → α → β → γ → Option ρ) : Nat → α → β → γ → Option ρ
  | 0 => fun _ _ _ => none
  | n + 1 => b (fx3 b n)
def fx4 {α β γ δ ρ : Type} (b : (α → β → γ → δ → Option ρ) → α → β → γ → δ → Option ρ) : Nat → α → β → γ → δ → Option ρ
  | 0 => fun _ _ _ _ => none
  | n + 1 => b (fx4 b n)
def fx5 {α β γ δ ε ρ : Type} (b : (α → β → γ → δ → ε → Option ρ) → α → β → γ → δ → ε → Option ρ) : Nat → α → β → γ → δ → ε → Option ρ
  | 0 => fun _ _ _ _ _ => none
  | n + 1 => b (fx5 b n)
theorem nrZ {v : Int32} (h : ¬ ¬ v &&& 1 = v) : narrow .boolean (.int v) = .int v := by
  have h1 := Decidable.not_not.mp h
  show Value.int (v &&& 1) = .int v
  rw [h1]
/-- the worlds -/
def hsQ (A : Nat → Nat → Nat) : Nat → Option Nat := fun i => if i < 4 then some (A (1 + i) 0) else none
def zU (z : Nat → St) (i : Nat) (y : St) : Nat → St := fun j => if j = i then y else z j
def stW (T : Nat → ClassId) (a : Nat → Nat) (x : St) : va_W := [(a 0, .inr (2, [.ref (a 1), .ref (a 2), .ref (a 3), .ref (a 4), .int (x.1 0), .int (x.1 1), .int (x.1 2), .int (x.1 3), .int (x.1 4)])), (a 1, .inr (3, [.ref (a 5), .ref (a 6), .ref (a 7), .int (x.1 5)])), (a 2, .inr (3, [.ref (a 8), .ref (a 9), .ref (a 10), .int (x.1 6)])), (a 3, .inl (T 0, 33, .inl (x.2 6))), (a 4, .inl (T 0, 33, .inl (x.2 7))), (a 5, .inl (T 0, 40, .inl (x.2 0))), (a 6, .inl (T 0, 40, .inl (x.2 1))), (a 7, .inl (T 0, 40, .inl (x.2 2))), (a 8, .inl (T 0, 8, .inl (x.2 3))), (a 9, .inl (T 0, 8, .inl (x.2 4))), (a 10, .inl (T 0, 8, .inl (x.2 5)))]
def wgW (T : Nat → ClassId) (n : Nat) (a : Nat → Nat) (x : St) : va_W := [(a 0, .inr (3, [.ref (a 1), .ref (a 2), .ref (a 3), .int (x.1 0)])), (a 1, .inl (T 0, n, .inl (x.2 0))), (a 2, .inl (T 0, n, .inl (x.2 1))), (a 3, .inl (T 0, n, .inl (x.2 2)))]
def orW (T : Nat → ClassId) (a : Nat → Nat) (x : St) : va_W := [(a 0, .inr (1, [.ref (a 1), .ref (a 2), .ref (a 3), .ref (a 4), .int (x.1 0), .int (x.1 1), .int (x.1 2), .int (x.1 3), .int (x.1 4)])), (a 1, .inl (T 0, 100, .inl (x.2 0))), (a 2, .inl (T 0, 20, .inl (x.2 1))), (a 3, .inl (T 0, 20, .inl (x.2 2))), (a 4, .inl (T 0, 20, .inl (x.2 3)))]
def scWq (T : Nat → ClassId) (h : Nat) (q : Nat → Option Nat) (A : Nat → Nat → Nat) (Z : Nat → St) : va_W := [(h, .inr (4, [.ref (A 0 0), .ref (A 6 1), .ref (A 5 0)])), (A 6 1, .inr (0, [.ref (A 6 2), .int ((Z 6).1 0)])), (A 6 2, .inl (T 3, 4, .inr (.inr (.inr (.inr (q))))))] ++ (stW T (A 0) (Z 0) ++ (stW T (A 1) (Z 1) ++ (stW T (A 2) (Z 2) ++ (stW T (A 3) (Z 3) ++ (stW T (A 4) (Z 4) ++ orW T (A 5) (Z 5))))))
abbrev scW (T : Nat → ClassId) (h : Nat) (A : Nat → Nat → Nat) (Z : Nat → St) : va_W := scWq T h (hsQ A) A Z
def tdA (a : Nat → Nat) : Nat → Nat := fun k => match k with | 0 => a 1 | 1 => a 5 | 2 => a 6 | _ => a 7
def tdS (x : St) : St := (fun _ => x.1 5, fun k => match k with | 0 => x.2 0 | 1 => x.2 1 | _ => x.2 2)
def tdU (x y : St) : St := (fun j => if j = 5 then y.1 0 else x.1 j, fun j => if j = 0 then y.2 0 else if j = 1 then y.2 1 else if j = 2 then y.2 2 else x.2 j)
def plA (a : Nat → Nat) : Nat → Nat := fun k => match k with | 0 => a 2 | 1 => a 8 | 2 => a 9 | _ => a 10
def plS (x : St) : St := (fun _ => x.1 6, fun k => match k with | 0 => x.2 3 | 1 => x.2 4 | _ => x.2 5)
def plU (x y : St) : St := (fun j => if j = 6 then y.1 0 else x.1 j, fun j => if j = 3 then y.2 0 else if j = 4 then y.2 1 else if j = 5 then y.2 2 else x.2 j)
