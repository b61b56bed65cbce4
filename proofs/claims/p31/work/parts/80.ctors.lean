/-! constructors -/
def z00 : St := (fun _ => 0, fun _ _ => 0)
def zN (x : St) : ZT := fun b => if b < 5 then x else z00
def hiW (T : Nat → ClassId) (u : AT) (x : St) : va_W := [(u 6 1, .inr (0, [.ref (u 6 2), .int 0])), (u 6 2, .inl (T 3, 4, .inr (.inr (.inr (.inr (hsQ u))))))] ++ (stW T (u 1) x ++ (stW T (u 2) x ++ (stW T (u 3) x ++ stW T (u 4) x)))
theorem hsq_new (A : AT) : va_up (va_up (va_up (va_up (fun _ => none) 0 (some (A 1 0))) 1 (some (A 2 0))) 2 (some (A 3 0))) 3 (some (A 4 0)) = hsQ A := by
  funext i
  match i with
  | 0 => rfl
  | 1 => rfl
  | 2 => rfl
  | 3 => rfl
  | i + 4 =>
    have h : ¬ i + 4 < 4 := by omega
    simp [va_up, hsQ, h]
theorem hsQ_congr {A B : AT} (h1 : A 1 = B 1) (h2 : A 2 = B 2) (h3 : A 3 = B 3) (h4 : A 4 = B 4) : hsQ A = hsQ B := by
  funext i
  match i with
  | 0 => show some (A 1 0) = some (B 1 0); rw [h1]
  | 1 => show some (A 2 0) = some (B 2 0); rw [h2]
  | 2 => show some (A 3 0) = some (B 3 0); rw [h3]
  | 3 => show some (A 4 0) = some (B 4 0); rw [h4]
  | i + 4 =>
    have h : ¬ i + 4 < 4 := by omega
    simp [hsQ, h]
theorem ty_int {D : va_G} {T : Nat → ClassId} {U : State} {cA : ClassId} (h : va_K D vwCl (TY T) U) (h9 : va_K D vwCl (TY T ++ [(cA, .int)]) U) : cA = T 0 := by
  have h1 : U.vm.findClass _ = some cA := (h9.2 4 (cA, .int) rfl).2
  have h2 : U.vm.findClass _ = some (T 0) := (h.2 0 (T 0, .int) rfl).2
  exact Option.some.inj (h1.symm.trans h2)
theorem ty_byte {D : va_G} {T : Nat → ClassId} {U : State} {cA : ClassId} (h : va_K D vwCl (TY T) U) (h9 : va_K D vwCl (TY T ++ [(cA, .byte)]) U) : cA = T 1 := by
  have h1 : U.vm.findClass _ = some cA := (h9.2 4 (cA, .byte) rfl).2
  have h2 : U.vm.findClass _ = some (T 1) := (h.2 1 (T 1, .byte) rfl).2
  exact Option.some.inj (h1.symm.trans h2)
theorem ty_state {D : va_G} {T : Nat → ClassId} {U : State} {cA : ClassId} (h : va_K D vwCl (TY T) U) (h9 : va_K D vwCl (TY T ++ [(cA, .object RX2)]) U) : cA = T 3 := by
  obtain ⟨k1, c1, -, -, -, h1⟩ := (h9.2 4 (cA, .object RX2) rfl).2
  obtain ⟨k2, c2, -, -, -, h2⟩ := (h.2 3 (T 3, .object RX2) rfl).2
  exact Option.some.inj (h1.symm.trans h2)
def PAO (D : va_G) (T : Nat → ClassId) (wc : va_W) (sz : Nat) (U : State) : Prop := PM D T wc sz U ∧ va_AO RX2 U
theorem PAO_blind {D : va_G} {T : Nat → ClassId} {wc : va_W} {sz : Nat} {av : List Value} : FrameBlind (va_Pc av (PAO D T wc sz)) := fun _ U g mk q => ⟨q.1, ⟨q.2.1.1, q.2.1.2.1, q.2.1.2.2.1.calling, q.2.1.2.2.2⟩, va_AO.moved (u := U) (U := U.calling g mk _) (Vm.Alike.refl U.vm) q.2.2⟩
theorem PAO_at {D : va_G} {T : Nat → ClassId} {wc : va_W} {av : List Value} {s : State} {H : Heap} {A : Nat → Prop} (hP : va_P D vwCl wc H) (hD : va_D A wc) (hK : KK D T s) (hO : va_AO RX2 s) : ∀ U : State, U.heap = H → s.WarmedH U.vm → va_Pc av (PAO D T wc H.size) av.toArray U := fun U hU hW => ⟨rfl, ⟨by rw [hU], by rw [hU]; exact hP, hK.warm hW, hD.weaken (fun _ _ _ _ => trivial)⟩, va_AO.moved hW.alike hO⟩
def QCv {S : Type} (D : va_G) (W1 : S → va_W) (post : S → Prop) (A : Nat → Prop) : Array Value → State → Outcome → State → Prop := va_Qv post (fun u t => va_P D vwCl (W1 u) t.heap ∧ va_D A (W1 u)) A
section CT
variable {p : Program} {l : Launch} {e : Env} {R : Room} {s : State} {m : MethodId} {args : Array Value} {below : List Frame} {meth : Method} {c : Code} {H : Heap} {locs : List Loc} {cells slots : Nat} {Q : State → Prop}
variable {pc : Nat} {ls : Array Slot} {rest st0 : List Value} {a : Array Value} {A0 : Nat → Prop} {H0 : Heap} {mc ms : Nat} {D : va_G} {wc wr ws : va_W}
theorem callCv {S : Type} {W1 : S → va_W} {post : S → Prop} (hr : va_Run p l e R s m args below meth c H locs cells slots mc ms (F0 m pc ls st0) rest (QCv D W1 post (va_A wc H.size) a) (va_A wc H.size)) (hS : va_S A0 H0 H locs) (hA : ∀ q, H0.size ≤ q → A0 q) (hP : va_P D vwCl ws H) (hD : va_D A0 ws)
    (isC isR : List Nat) (hC : isC.map (fun i => ws[i]?) = wc.map some) (hR : isR.map (fun i => ws[i]?) = wr.map some) (hn : va_nd isR = true) (hdis : ∀ i ∈ isR, i ∉ isC)
    (kk : ∀ (u : S) (H1 : Heap) (locs1 : List Loc), post u → va_P D vwCl (wr ++ W1 u) H1 → va_D A0 (wr ++ W1 u) → va_S A0 H0 H1 locs1 → W p l e R s m args below meth c H1 locs1 (cells + mc) (slots + ms) Q (F0 m (pc + 3) ls rest)) : W p l e R s m args below meth c H locs cells slots Q (F0 m pc ls st0) := by
  have hF := va_free hD hS hA isC hC
  refine va_callv hr hS (fun q _ h => hF q h) hF (fun u t H1 locs ht hvm hw hB hz1 hk1 hS => ?_)
  obtain ⟨hP1, hD1⟩ := hB
  rw [ht] at hP1
  obtain ⟨g1, g2⟩ := va_join hP hD isC isR hC hR hn hdis hk1 hF hP1 hD1
  exact kk u H1 locs hw g1 g2 hS
end CT
theorem hdS_X3_init : yX3_init.cls ≠ "java/lang/invoke/MethodHandle" ∧ yX3_init.cls ≠ "java/lang/invoke/VarHandle" ∧ (parseMethodDescriptor yX3_init.desc).map (fun d => d.parameters.length) = some 1 := by decide +kernel
theorem inX3_init_40_3 : ∀ w ∈ u_ws RX3 TX3 4, w ∈ wsX3_init := by decide +kernel
set_option maxHeartbeats 4000000 in
set_option maxRecDepth 100000 in
theorem c_X3_init_40 (l : Launch) (D : va_G) (T : Nat → ClassId) (h : Nat) (sz : Nat) : Met l yX3_init wsX3_init ({ frames := 1, cells := 3, slots := 120, locals := 23 } : Room) (va_Pc [.ref h, .int 40] (PM D T (([(h, .inr (3, [.null, .null, .null, .int 0]))] : va_W)) sz)) (QCv D (fun u : Nat → Nat => wgW T 40 u z00) (fun u => u 0 = h) (va_A (([(h, .inr (3, [.null, .null, .null, .int 0]))] : va_W)) sz)) 3 120 (va_A (([(h, .inr (3, [.null, .null, .null, .int 0]))] : va_W)) sz) := by
  refine met_of (cc := cX3_init) (maxL := 3) (ret := none) (lv := [(0, .ref h), (1, .int 40)]) (by decide) rfl (Nat.le_of_ble_eq_true rfl) rfl ?_
  intro p e s m args below meth c ls C0 hl hB
  obtain ⟨hx, hb, hr, hml, hown, hts, hlocks, hname⟩ := C0
  obtain ⟨hsz, hP, hK, hD0⟩ := hB
  subst hsz
  have hD := hD0.self (sz := s.heap.size)
  generalize hAe : va_A (([(h, .inr (3, [.null, .null, .null, .int 0]))] : va_W)) s.heap.size = A at hD ⊢
  have hA : ∀ q : Nat, s.heap.size ≤ q → A q := fun q h => by rw [← hAe]; exact Or.inr h
  have hS : va_S A s.heap s.heap [] := va_S.rf
  refine lv_aload_n hx hb dX3_init_0 rfl (lv_at hl 0 rfl) ?_
  refine W.objInit hx hb hown (hts (.methodLink RX3 3 objectInit) (List.mem_of_getElem? (i := 1) rfl)) (hts (.instanceMethod objectInit) (List.mem_of_getElem? (i := 2) rfl)) (hts (.code objectInit ⟨#[0xb1]⟩ 1 none) (List.mem_of_getElem? (i := 3) rfl)) rfl (hl.1.trans hml.symm) rfl dX3_init_1 (Nat.le_of_ble_eq_true rfl) (Nat.le_of_ble_eq_true rfl) ?_
  refine W.eq (g2 := F0 m 4 ls []) rfl ?_
  refine lv_iload_n hx hb dX3_init_4 rfl (lv_at hl 1 rfl) ?_
  refine lv_iconst (v := 0) hx hb dX3_init_5 (by decide) ?_
  refine va_mmax hx hb (hml.trans hl.1.symm) hown (hts (.methodLink RX3 9 Lib.Math.max.name) (List.mem_of_getElem? (i := 4) rfl)) (hts (.static Lib.Math.max.name) (List.mem_of_getElem? (i := 5) rfl)) (hts (.initialized "java/lang/Math") (List.mem_of_getElem? (i := 6) rfl)) (hts (.code Lib.Math.max.name Lib.Math.max.code 2 (some .int)) (List.mem_of_getElem? (i := 7) rfl)) (Nat.le_of_ble_eq_true rfl) (Nat.le_of_ble_eq_true rfl) (Nat.le_of_ble_eq_true rfl) (Nat.le_of_ble_eq_true rfl) dX3_init_6 ?_
  refine eqi (y := 40) (by decide) ?_
  refine lv_istore_n (lv' := [(2, .int 40), (0, .ref h), (1, .int 40)]) hx hb dX3_init_9 rfl hl (by decide) rfl (fun ls hl => ?_)
  refine lv_aload_n hx hb dX3_init_10 rfl (lv_at hl 1 rfl) ?_
  refine lv_iload_n hx hb dX3_init_11 rfl (lv_at hl 0 rfl) ?_
  refine va_newa (ty := .int) (atype := .int) (a0 := (40, .inl (fun _ => 0))) hx hb (hts (.arrayClass .int) (List.mem_of_getElem? (i := 8) rfl)) rfl hK.1 hP hD hS hA (fun _ => rfl) (by decide) (by decide) (Nat.le_of_ble_eq_true rfl) (Nat.le_of_ble_eq_true rfl) (Nat.le_of_ble_eq_true rfl) dX3_init_12 (fun q0 cA H hK9 hP hD hS => ?_)
  rw [ty_int hK.1 hK9] at hP hD
  replace hP : va_P D vwCl (([(h, .inr (3, [.null, .null, .null, .int 0])), (q0, .inl (T 0, 40, .inl (fun _ => 0)))] : va_W)) H := hP
  replace hD : va_D A (([(h, .inr (3, [.null, .null, .null, .int 0])), (q0, .inl (T 0, 40, .inl (fun _ => 0)))] : va_W)) := hD
  refine va_putF (D := D) (ci := 3) (v := .ref q0) (ty := .array .int) (C := RX3) (T := TX3) (N := 4) hx hb hts inX3_init_40_3 tyX3 tyX3_ok nmX3 hown hK.1 hP hD hS 0 rfl rfl 0 (by decide) (hts (.fieldLink RX3 15 "LyingScale$Weighings" "lefts" "[I") (List.mem_of_getElem? (i := 9) rfl)) (fun _ h9 => h9) rfl hname rfl (by decide +kernel) rfl rfl (Nat.le_of_ble_eq_true rfl) dX3_init_14 (fun H locs hP hD hS => ?_)
  replace hP : va_P D vwCl (([(h, .inr (3, [.ref q0, .null, .null, .int 0])), (q0, .inl (T 0, 40, .inl (fun _ => 0)))] : va_W)) H := hP
  replace hD : va_D A (([(h, .inr (3, [.ref q0, .null, .null, .int 0])), (q0, .inl (T 0, 40, .inl (fun _ => 0)))] : va_W)) := hD
  refine lv_aload_n hx hb dX3_init_17 rfl (lv_at hl 1 rfl) ?_
  refine lv_iload_n hx hb dX3_init_18 rfl (lv_at hl 0 rfl) ?_
  refine va_newa (ty := .int) (atype := .int) (a0 := (40, .inl (fun _ => 0))) hx hb (hts (.arrayClass .int) (List.mem_of_getElem? (i := 8) rfl)) rfl hK.1 hP hD hS hA (fun _ => rfl) (by decide) (by decide) (Nat.le_of_ble_eq_true rfl) (Nat.le_of_ble_eq_true rfl) (Nat.le_of_ble_eq_true rfl) dX3_init_19 (fun q1 cA H hK9 hP hD hS => ?_)
  rw [ty_int hK.1 hK9] at hP hD
  replace hP : va_P D vwCl (([(h, .inr (3, [.ref q0, .null, .null, .int 0])), (q0, .inl (T 0, 40, .inl (fun _ => 0))), (q1, .inl (T 0, 40, .inl (fun _ => 0)))] : va_W)) H := hP
  replace hD : va_D A (([(h, .inr (3, [.ref q0, .null, .null, .int 0])), (q0, .inl (T 0, 40, .inl (fun _ => 0))), (q1, .inl (T 0, 40, .inl (fun _ => 0)))] : va_W)) := hD
  refine va_putF (D := D) (ci := 3) (v := .ref q1) (ty := .array .int) (C := RX3) (T := TX3) (N := 4) hx hb hts inX3_init_40_3 tyX3 tyX3_ok nmX3 hown hK.1 hP hD hS 0 rfl rfl 1 (by decide) (hts (.fieldLink RX3 21 "LyingScale$Weighings" "rights" "[I") (List.mem_of_getElem? (i := 10) rfl)) (fun _ h9 => h9) rfl hname rfl (by decide +kernel) rfl rfl (Nat.le_of_ble_eq_true rfl) dX3_init_21 (fun H locs hP hD hS => ?_)
  replace hP : va_P D vwCl (([(h, .inr (3, [.ref q0, .ref q1, .null, .int 0])), (q0, .inl (T 0, 40, .inl (fun _ => 0))), (q1, .inl (T 0, 40, .inl (fun _ => 0)))] : va_W)) H := hP
  replace hD : va_D A (([(h, .inr (3, [.ref q0, .ref q1, .null, .int 0])), (q0, .inl (T 0, 40, .inl (fun _ => 0))), (q1, .inl (T 0, 40, .inl (fun _ => 0)))] : va_W)) := hD
  refine lv_aload_n hx hb dX3_init_24 rfl (lv_at hl 1 rfl) ?_
  refine lv_iload_n hx hb dX3_init_25 rfl (lv_at hl 0 rfl) ?_
  refine va_newa (ty := .int) (atype := .int) (a0 := (40, .inl (fun _ => 0))) hx hb (hts (.arrayClass .int) (List.mem_of_getElem? (i := 8) rfl)) rfl hK.1 hP hD hS hA (fun _ => rfl) (by decide) (by decide) (Nat.le_of_ble_eq_true rfl) (Nat.le_of_ble_eq_true rfl) (Nat.le_of_ble_eq_true rfl) dX3_init_26 (fun q2 cA H hK9 hP hD hS => ?_)
  rw [ty_int hK.1 hK9] at hP hD
  replace hP : va_P D vwCl (([(h, .inr (3, [.ref q0, .ref q1, .null, .int 0])), (q0, .inl (T 0, 40, .inl (fun _ => 0))), (q1, .inl (T 0, 40, .inl (fun _ => 0))), (q2, .inl (T 0, 40, .inl (fun _ => 0)))] : va_W)) H := hP
  replace hD : va_D A (([(h, .inr (3, [.ref q0, .ref q1, .null, .int 0])), (q0, .inl (T 0, 40, .inl (fun _ => 0))), (q1, .inl (T 0, 40, .inl (fun _ => 0))), (q2, .inl (T 0, 40, .inl (fun _ => 0)))] : va_W)) := hD
  refine va_putF (D := D) (ci := 3) (v := .ref q2) (ty := .array .int) (C := RX3) (T := TX3) (N := 4) hx hb hts inX3_init_40_3 tyX3 tyX3_ok nmX3 hown hK.1 hP hD hS 0 rfl rfl 2 (by decide) (hts (.fieldLink RX3 24 "LyingScale$Weighings" "answers" "[I") (List.mem_of_getElem? (i := 11) rfl)) (fun _ h9 => h9) rfl hname rfl (by decide +kernel) rfl rfl (Nat.le_of_ble_eq_true rfl) dX3_init_28 (fun H locs hP hD hS => ?_)
  replace hP : va_P D vwCl (([(h, .inr (3, [.ref q0, .ref q1, .ref q2, .int 0])), (q0, .inl (T 0, 40, .inl (fun _ => 0))), (q1, .inl (T 0, 40, .inl (fun _ => 0))), (q2, .inl (T 0, 40, .inl (fun _ => 0)))] : va_W)) H := hP
  replace hD : va_D A (([(h, .inr (3, [.ref q0, .ref q1, .ref q2, .int 0])), (q0, .inl (T 0, 40, .inl (fun _ => 0))), (q1, .inl (T 0, 40, .inl (fun _ => 0))), (q2, .inl (T 0, 40, .inl (fun _ => 0)))] : va_W)) := hD
  have hP9 := hP.sub (ws' := wgW T 40 (fun k => match k with | 0 => h | 1 => q0 | 2 => q1 | _ => q2) z00) [0, 1, 2, 3] rfl
  have hD9 := hD.sub (ws' := wgW T 40 (fun k => match k with | 0 => h | 1 => q0 | 2 => q1 | _ => q2) z00) [0, 1, 2, 3] (by decide +kernel) rfl
  refine W.widen (k := 3) (n := 120) (Nat.le_of_ble_eq_true rfl) (Nat.le_of_ble_eq_true rfl) ?_
  exact W.vret hx hb hr (fun t ht hW => ⟨⟨(fun k => match k with | 0 => h | 1 => q0 | 2 => q1 | _ => q2), rfl, rfl, by rw [ht]; exact hP9, hD9⟩, hS.F ht⟩) hS.2.2 dX3_init_31 hlocks
theorem inX3_init_8_3 : ∀ w ∈ u_ws RX3 TX3 4, w ∈ wsX3_init := by decide +kernel
set_option maxHeartbeats 4000000 in
set_option maxRecDepth 100000 in
theorem c_X3_init_8 (l : Launch) (D : va_G) (T : Nat → ClassId) (h : Nat) (sz : Nat) : Met l yX3_init wsX3_init ({ frames := 1, cells := 3, slots := 24, locals := 23 } : Room) (va_Pc [.ref h, .int 8] (PM D T (([(h, .inr (3, [.null, .null, .null, .int 0]))] : va_W)) sz)) (QCv D (fun u : Nat → Nat => wgW T 8 u z00) (fun u => u 0 = h) (va_A (([(h, .inr (3, [.null, .null, .null, .int 0]))] : va_W)) sz)) 3 24 (va_A (([(h, .inr (3, [.null, .null, .null, .int 0]))] : va_W)) sz) := by
  refine met_of (cc := cX3_init) (maxL := 3) (ret := none) (lv := [(0, .ref h), (1, .int 8)]) (by decide) rfl (Nat.le_of_ble_eq_true rfl) rfl ?_
  intro p e s m args below meth c ls C0 hl hB
  obtain ⟨hx, hb, hr, hml, hown, hts, hlocks, hname⟩ := C0
  obtain ⟨hsz, hP, hK, hD0⟩ := hB
  subst hsz
  have hD := hD0.self (sz := s.heap.size)
  generalize hAe : va_A (([(h, .inr (3, [.null, .null, .null, .int 0]))] : va_W)) s.heap.size = A at hD ⊢
  have hA : ∀ q : Nat, s.heap.size ≤ q → A q := fun q h => by rw [← hAe]; exact Or.inr h
  have hS : va_S A s.heap s.heap [] := va_S.rf
  refine lv_aload_n hx hb dX3_init_0 rfl (lv_at hl 0 rfl) ?_
  refine W.objInit hx hb hown (hts (.methodLink RX3 3 objectInit) (List.mem_of_getElem? (i := 1) rfl)) (hts (.instanceMethod objectInit) (List.mem_of_getElem? (i := 2) rfl)) (hts (.code objectInit ⟨#[0xb1]⟩ 1 none) (List.mem_of_getElem? (i := 3) rfl)) rfl (hl.1.trans hml.symm) rfl dX3_init_1 (Nat.le_of_ble_eq_true rfl) (Nat.le_of_ble_eq_true rfl) ?_
  refine W.eq (g2 := F0 m 4 ls []) rfl ?_
  refine lv_iload_n hx hb dX3_init_4 rfl (lv_at hl 1 rfl) ?_
  refine lv_iconst (v := 0) hx hb dX3_init_5 (by decide) ?_
  refine va_mmax hx hb (hml.trans hl.1.symm) hown (hts (.methodLink RX3 9 Lib.Math.max.name) (List.mem_of_getElem? (i := 4) rfl)) (hts (.static Lib.Math.max.name) (List.mem_of_getElem? (i := 5) rfl)) (hts (.initialized "java/lang/Math") (List.mem_of_getElem? (i := 6) rfl)) (hts (.code Lib.Math.max.name Lib.Math.max.code 2 (some .int)) (List.mem_of_getElem? (i := 7) rfl)) (Nat.le_of_ble_eq_true rfl) (Nat.le_of_ble_eq_true rfl) (Nat.le_of_ble_eq_true rfl) (Nat.le_of_ble_eq_true rfl) dX3_init_6 ?_
  refine eqi (y := 8) (by decide) ?_
  refine lv_istore_n (lv' := [(2, .int 8), (0, .ref h), (1, .int 8)]) hx hb dX3_init_9 rfl hl (by decide) rfl (fun ls hl => ?_)
  refine lv_aload_n hx hb dX3_init_10 rfl (lv_at hl 1 rfl) ?_
  refine lv_iload_n hx hb dX3_init_11 rfl (lv_at hl 0 rfl) ?_
  refine va_newa (ty := .int) (atype := .int) (a0 := (8, .inl (fun _ => 0))) hx hb (hts (.arrayClass .int) (List.mem_of_getElem? (i := 8) rfl)) rfl hK.1 hP hD hS hA (fun _ => rfl) (by decide) (by decide) (Nat.le_of_ble_eq_true rfl) (Nat.le_of_ble_eq_true rfl) (Nat.le_of_ble_eq_true rfl) dX3_init_12 (fun q0 cA H hK9 hP hD hS => ?_)
  rw [ty_int hK.1 hK9] at hP hD
  replace hP : va_P D vwCl (([(h, .inr (3, [.null, .null, .null, .int 0])), (q0, .inl (T 0, 8, .inl (fun _ => 0)))] : va_W)) H := hP
  replace hD : va_D A (([(h, .inr (3, [.null, .null, .null, .int 0])), (q0, .inl (T 0, 8, .inl (fun _ => 0)))] : va_W)) := hD
  refine va_putF (D := D) (ci := 3) (v := .ref q0) (ty := .array .int) (C := RX3) (T := TX3) (N := 4) hx hb hts inX3_init_8_3 tyX3 tyX3_ok nmX3 hown hK.1 hP hD hS 0 rfl rfl 0 (by decide) (hts (.fieldLink RX3 15 "LyingScale$Weighings" "lefts" "[I") (List.mem_of_getElem? (i := 9) rfl)) (fun _ h9 => h9) rfl hname rfl (by decide +kernel) rfl rfl (Nat.le_of_ble_eq_true rfl) dX3_init_14 (fun H locs hP hD hS => ?_)
  replace hP : va_P D vwCl (([(h, .inr (3, [.ref q0, .null, .null, .int 0])), (q0, .inl (T 0, 8, .inl (fun _ => 0)))] : va_W)) H := hP
  replace hD : va_D A (([(h, .inr (3, [.ref q0, .null, .null, .int 0])), (q0, .inl (T 0, 8, .inl (fun _ => 0)))] : va_W)) := hD
  refine lv_aload_n hx hb dX3_init_17 rfl (lv_at hl 1 rfl) ?_
  refine lv_iload_n hx hb dX3_init_18 rfl (lv_at hl 0 rfl) ?_
  refine va_newa (ty := .int) (atype := .int) (a0 := (8, .inl (fun _ => 0))) hx hb (hts (.arrayClass .int) (List.mem_of_getElem? (i := 8) rfl)) rfl hK.1 hP hD hS hA (fun _ => rfl) (by decide) (by decide) (Nat.le_of_ble_eq_true rfl) (Nat.le_of_ble_eq_true rfl) (Nat.le_of_ble_eq_true rfl) dX3_init_19 (fun q1 cA H hK9 hP hD hS => ?_)
  rw [ty_int hK.1 hK9] at hP hD
  replace hP : va_P D vwCl (([(h, .inr (3, [.ref q0, .null, .null, .int 0])), (q0, .inl (T 0, 8, .inl (fun _ => 0))), (q1, .inl (T 0, 8, .inl (fun _ => 0)))] : va_W)) H := hP
  replace hD : va_D A (([(h, .inr (3, [.ref q0, .null, .null, .int 0])), (q0, .inl (T 0, 8, .inl (fun _ => 0))), (q1, .inl (T 0, 8, .inl (fun _ => 0)))] : va_W)) := hD
  refine va_putF (D := D) (ci := 3) (v := .ref q1) (ty := .array .int) (C := RX3) (T := TX3) (N := 4) hx hb hts inX3_init_8_3 tyX3 tyX3_ok nmX3 hown hK.1 hP hD hS 0 rfl rfl 1 (by decide) (hts (.fieldLink RX3 21 "LyingScale$Weighings" "rights" "[I") (List.mem_of_getElem? (i := 10) rfl)) (fun _ h9 => h9) rfl hname rfl (by decide +kernel) rfl rfl (Nat.le_of_ble_eq_true rfl) dX3_init_21 (fun H locs hP hD hS => ?_)
  replace hP : va_P D vwCl (([(h, .inr (3, [.ref q0, .ref q1, .null, .int 0])), (q0, .inl (T 0, 8, .inl (fun _ => 0))), (q1, .inl (T 0, 8, .inl (fun _ => 0)))] : va_W)) H := hP
  replace hD : va_D A (([(h, .inr (3, [.ref q0, .ref q1, .null, .int 0])), (q0, .inl (T 0, 8, .inl (fun _ => 0))), (q1, .inl (T 0, 8, .inl (fun _ => 0)))] : va_W)) := hD
  refine lv_aload_n hx hb dX3_init_24 rfl (lv_at hl 1 rfl) ?_
  refine lv_iload_n hx hb dX3_init_25 rfl (lv_at hl 0 rfl) ?_
  refine va_newa (ty := .int) (atype := .int) (a0 := (8, .inl (fun _ => 0))) hx hb (hts (.arrayClass .int) (List.mem_of_getElem? (i := 8) rfl)) rfl hK.1 hP hD hS hA (fun _ => rfl) (by decide) (by decide) (Nat.le_of_ble_eq_true rfl) (Nat.le_of_ble_eq_true rfl) (Nat.le_of_ble_eq_true rfl) dX3_init_26 (fun q2 cA H hK9 hP hD hS => ?_)
  rw [ty_int hK.1 hK9] at hP hD
  replace hP : va_P D vwCl (([(h, .inr (3, [.ref q0, .ref q1, .null, .int 0])), (q0, .inl (T 0, 8, .inl (fun _ => 0))), (q1, .inl (T 0, 8, .inl (fun _ => 0))), (q2, .inl (T 0, 8, .inl (fun _ => 0)))] : va_W)) H := hP
  replace hD : va_D A (([(h, .inr (3, [.ref q0, .ref q1, .null, .int 0])), (q0, .inl (T 0, 8, .inl (fun _ => 0))), (q1, .inl (T 0, 8, .inl (fun _ => 0))), (q2, .inl (T 0, 8, .inl (fun _ => 0)))] : va_W)) := hD
  refine va_putF (D := D) (ci := 3) (v := .ref q2) (ty := .array .int) (C := RX3) (T := TX3) (N := 4) hx hb hts inX3_init_8_3 tyX3 tyX3_ok nmX3 hown hK.1 hP hD hS 0 rfl rfl 2 (by decide) (hts (.fieldLink RX3 24 "LyingScale$Weighings" "answers" "[I") (List.mem_of_getElem? (i := 11) rfl)) (fun _ h9 => h9) rfl hname rfl (by decide +kernel) rfl rfl (Nat.le_of_ble_eq_true rfl) dX3_init_28 (fun H locs hP hD hS => ?_)
  replace hP : va_P D vwCl (([(h, .inr (3, [.ref q0, .ref q1, .ref q2, .int 0])), (q0, .inl (T 0, 8, .inl (fun _ => 0))), (q1, .inl (T 0, 8, .inl (fun _ => 0))), (q2, .inl (T 0, 8, .inl (fun _ => 0)))] : va_W)) H := hP
  replace hD : va_D A (([(h, .inr (3, [.ref q0, .ref q1, .ref q2, .int 0])), (q0, .inl (T 0, 8, .inl (fun _ => 0))), (q1, .inl (T 0, 8, .inl (fun _ => 0))), (q2, .inl (T 0, 8, .inl (fun _ => 0)))] : va_W)) := hD
  have hP9 := hP.sub (ws' := wgW T 8 (fun k => match k with | 0 => h | 1 => q0 | 2 => q1 | _ => q2) z00) [0, 1, 2, 3] rfl
  have hD9 := hD.sub (ws' := wgW T 8 (fun k => match k with | 0 => h | 1 => q0 | 2 => q1 | _ => q2) z00) [0, 1, 2, 3] (by decide +kernel) rfl
  refine W.widen (k := 3) (n := 24) (Nat.le_of_ble_eq_true rfl) (Nat.le_of_ble_eq_true rfl) ?_
  exact W.vret hx hb hr (fun t ht hW => ⟨⟨(fun k => match k with | 0 => h | 1 => q0 | 2 => q1 | _ => q2), rfl, rfl, by rw [ht]; exact hP9, hD9⟩, hS.F ht⟩) hS.2.2 dX3_init_31 hlocks
theorem hdS_X2_init : yX2_init.cls ≠ "java/lang/invoke/MethodHandle" ∧ yX2_init.cls ≠ "java/lang/invoke/VarHandle" ∧ (parseMethodDescriptor yX2_init.desc).map (fun d => d.parameters.length) = some 0 := by decide +kernel
theorem inX2_init_2 : ∀ w ∈ u_ws RX2 TX2 9, w ∈ wsX2_init := by decide +kernel
theorem inX2_init_3 : ∀ w ∈ u_ws RX3 TX3 4, w ∈ wsX2_init := by decide +kernel
set_option maxHeartbeats 4000000 in
set_option maxRecDepth 100000 in
theorem c_X2_init (l : Launch) (D : va_G) (T : Nat → ClassId) (h : Nat) (sz : Nat) (x : St) (hx9 : F_X2_start z00 8 = some x) : Met l yX2_init wsX2_init ({ frames := 3, cells := 10, slots := 218, locals := 64 } : Room) (va_Pc [.ref h] (PM D T (([(h, .inr (2, [.null, .null, .null, .null, .int 0, .int 0, .int 0, .int 0, .int 0]))] : va_W)) sz)) (QCv D (fun u : Nat → Nat => stW T u x) (fun u => u 0 = h) (va_A (([(h, .inr (2, [.null, .null, .null, .null, .int 0, .int 0, .int 0, .int 0, .int 0]))] : va_W)) sz)) 10 218 (va_A (([(h, .inr (2, [.null, .null, .null, .null, .int 0, .int 0, .int 0, .int 0, .int 0]))] : va_W)) sz) := by
  refine met_of (cc := cX2_init) (maxL := 1) (ret := none) (lv := [(0, .ref h)]) (by decide) rfl (Nat.le_of_ble_eq_true rfl) rfl ?_
  intro p e s m args below meth c ls C0 hl hB
  obtain ⟨hx, hb, hr, hml, hown, hts, hlocks, hname⟩ := C0
  obtain ⟨hsz, hP, hK, hD0⟩ := hB
  subst hsz
  have hD := hD0.self (sz := s.heap.size)
  generalize hAe : va_A (([(h, .inr (2, [.null, .null, .null, .null, .int 0, .int 0, .int 0, .int 0, .int 0]))] : va_W)) s.heap.size = A at hD ⊢
  have hA : ∀ q : Nat, s.heap.size ≤ q → A q := fun q h => by rw [← hAe]; exact Or.inr h
  have hS : va_S A s.heap s.heap [] := va_S.rf
  refine lv_aload_n hx hb dX2_init_0 rfl (lv_at hl 0 rfl) ?_
  refine W.objInit hx hb hown (hts (.methodLink RX2 3 objectInit) (List.mem_of_getElem? (i := 1) rfl)) (hts (.instanceMethod objectInit) (List.mem_of_getElem? (i := 2) rfl)) (hts (.code objectInit ⟨#[0xb1]⟩ 1 none) (List.mem_of_getElem? (i := 3) rfl)) rfl (hl.1.trans hml.symm) rfl dX2_init_1 (Nat.le_of_ble_eq_true rfl) (Nat.le_of_ble_eq_true rfl) ?_
  refine W.eq (g2 := F0 m 4 ls []) rfl ?_
  refine lv_aload_n hx hb dX2_init_4 rfl (lv_at hl 0 rfl) ?_
  refine va_new (ci := 3) (fs := [.null, .null, .null, .int 0]) (C := RX3) (T := TX3) (N := 4) hx hb hts inX2_init_3 tyX3 tyX3_ok hown (hts (.classLink RX2 9 RX3) (List.mem_of_getElem? (i := 4) rfl)) (hts (.instantiable RX3 4) (List.mem_of_getElem? (i := 5) rfl)) (hts (.initialized RX3) (List.mem_of_getElem? (i := 6) rfl)) hK.1 hP hD hS hA rfl (fun j hj => by rcases (show j = 0 ∨ j = 1 ∨ j = 2 ∨ j = 3 by omega) with rfl | rfl | rfl | rfl <;> rfl) (Nat.le_of_ble_eq_true rfl) (Nat.le_of_ble_eq_true rfl) dX2_init_5 (fun q0 H hP hD hS => ?_)
  replace hP : va_P D vwCl (([(h, .inr (2, [.null, .null, .null, .null, .int 0, .int 0, .int 0, .int 0, .int 0])), (q0, .inr (3, [.null, .null, .null, .int 0]))] : va_W)) H := hP
  replace hD : va_D A (([(h, .inr (2, [.null, .null, .null, .null, .int 0, .int 0, .int 0, .int 0, .int 0])), (q0, .inr (3, [.null, .null, .null, .int 0]))] : va_W)) := hD
  refine lv_dup hx hb dX2_init_8 rfl ?_
  refine lv_bipush (v := 40) hx hb dX2_init_9 (by decide) ?_
  refine callCv (wr := ([(h, .inr (2, [.null, .null, .null, .null, .int 0, .int 0, .int 0, .int 0, .int 0]))] : va_W)) (va_runI (As := [.int 40]) (rest := [.ref q0, .ref h]) ⟨hx, hb, hml, hown, hts⟩ (c_X3_init_40 l D T q0 _) (cwI 1 hts gX2_init_X3_init rfl rfl rfl (hts (.initialized RX3) (List.mem_of_getElem? (i := 6) rfl)) (hts (.methodLink RX2 11 yX3_init) (List.mem_of_getElem? (i := 12) rfl)) (hts (.instanceMethod yX3_init) (List.mem_of_getElem? (i := 13) rfl)) rfl hdS_X3_init ⟨Nat.le_of_ble_eq_true rfl, Nat.le_of_ble_eq_true rfl⟩) ⟨PM_blind, PM_at (hP.sub (ws' := ([(q0, .inr (3, [.null, .null, .null, .int 0]))] : va_W)) [1] rfl) (hD.sub (ws' := ([(q0, .inr (3, [.null, .null, .null, .int 0]))] : va_W)) [1] (by decide) rfl) hK⟩ rfl rfl hl.1 rfl (lv_room (Nat.le_of_ble_eq_true rfl)) dX2_init_11 ⟨Nat.le_of_ble_eq_true rfl, Nat.le_of_ble_eq_true rfl⟩) hS hA hP hD [1] [0] rfl rfl (by decide) (by decide) (fun u1 H locs huu1 hP9 hD9 hS9 => ?_)
  clear hP hD hS
  subst huu1
  have hP : va_P D vwCl (([(h, .inr (2, [.null, .null, .null, .null, .int 0, .int 0, .int 0, .int 0, .int 0]))] : va_W) ++ wgW T 40 u1 z00) H := hP9
  have hD : va_D A (([(h, .inr (2, [.null, .null, .null, .null, .int 0, .int 0, .int 0, .int 0, .int 0]))] : va_W) ++ wgW T 40 u1 z00) := hD9
  have hS := hS9
  clear hP9 hD9 hS9
  refine va_putF (D := D) (ci := 2) (v := .ref (u1 0)) (ty := .object "LyingScale$Weighings") (C := RX2) (T := TX2) (N := 9) hx hb hts inX2_init_2 tyX2 tyX2_ok nmX2 hown hK.1 hP hD hS 0 rfl rfl 0 (by decide) (hts (.fieldLink RX2 14 "LyingScale$State" "told" "LLyingScale$Weighings;") (List.mem_of_getElem? (i := 7) rfl)) (fun _ h9 => h9) rfl hname rfl (by decide +kernel) rfl rfl (Nat.le_of_ble_eq_true rfl) dX2_init_14 (fun H locs hP hD hS => ?_)
  replace hP : va_P D vwCl (([(h, .inr (2, [.ref (u1 0), .null, .null, .null, .int 0, .int 0, .int 0, .int 0, .int 0]))] : va_W) ++ wgW T 40 u1 z00) H := hP
  replace hD : va_D A (([(h, .inr (2, [.ref (u1 0), .null, .null, .null, .int 0, .int 0, .int 0, .int 0, .int 0]))] : va_W) ++ wgW T 40 u1 z00) := hD
  refine lv_aload_n hx hb dX2_init_17 rfl (lv_at hl 0 rfl) ?_
  refine va_new (ci := 3) (fs := [.null, .null, .null, .int 0]) (C := RX3) (T := TX3) (N := 4) hx hb hts inX2_init_3 tyX3 tyX3_ok hown (hts (.classLink RX2 9 RX3) (List.mem_of_getElem? (i := 4) rfl)) (hts (.instantiable RX3 4) (List.mem_of_getElem? (i := 5) rfl)) (hts (.initialized RX3) (List.mem_of_getElem? (i := 6) rfl)) hK.1 hP hD hS hA rfl (fun j hj => by rcases (show j = 0 ∨ j = 1 ∨ j = 2 ∨ j = 3 by omega) with rfl | rfl | rfl | rfl <;> rfl) (Nat.le_of_ble_eq_true rfl) (Nat.le_of_ble_eq_true rfl) dX2_init_18 (fun q2 H hP hD hS => ?_)
  replace hP : va_P D vwCl (([(h, .inr (2, [.ref (u1 0), .null, .null, .null, .int 0, .int 0, .int 0, .int 0, .int 0]))] : va_W) ++ wgW T 40 u1 z00 ++ [(q2, .inr (3, [.null, .null, .null, .int 0]))]) H := hP
  replace hD : va_D A (([(h, .inr (2, [.ref (u1 0), .null, .null, .null, .int 0, .int 0, .int 0, .int 0, .int 0]))] : va_W) ++ wgW T 40 u1 z00 ++ [(q2, .inr (3, [.null, .null, .null, .int 0]))]) := hD
  refine lv_dup hx hb dX2_init_21 rfl ?_
  refine lv_bipush (v := 8) hx hb dX2_init_22 (by decide) ?_
  refine callCv (wr := ([(h, .inr (2, [.ref (u1 0), .null, .null, .null, .int 0, .int 0, .int 0, .int 0, .int 0]))] : va_W) ++ wgW T 40 u1 z00) (va_runI (As := [.int 8]) (rest := [.ref q2, .ref h]) ⟨hx, hb, hml, hown, hts⟩ (c_X3_init_8 l D T q2 _) (cwI 1 hts gX2_init_X3_init rfl rfl rfl (hts (.initialized RX3) (List.mem_of_getElem? (i := 6) rfl)) (hts (.methodLink RX2 11 yX3_init) (List.mem_of_getElem? (i := 12) rfl)) (hts (.instanceMethod yX3_init) (List.mem_of_getElem? (i := 13) rfl)) rfl hdS_X3_init ⟨Nat.le_of_ble_eq_true rfl, Nat.le_of_ble_eq_true rfl⟩) ⟨PM_blind, PM_at (hP.sub (ws' := ([(q2, .inr (3, [.null, .null, .null, .int 0]))] : va_W)) [5] rfl) (hD.sub (ws' := ([(q2, .inr (3, [.null, .null, .null, .int 0]))] : va_W)) [5] (by decide) rfl) hK⟩ rfl rfl hl.1 rfl (lv_room (Nat.le_of_ble_eq_true rfl)) dX2_init_24 ⟨Nat.le_of_ble_eq_true rfl, Nat.le_of_ble_eq_true rfl⟩) hS hA hP hD [5] [0, 1, 2, 3, 4] rfl rfl (by decide) (by decide) (fun u3 H locs huu3 hP9 hD9 hS9 => ?_)
  clear hP hD hS
  subst huu3
  have hP : va_P D vwCl (([(h, .inr (2, [.ref (u1 0), .null, .null, .null, .int 0, .int 0, .int 0, .int 0, .int 0]))] : va_W) ++ wgW T 40 u1 z00 ++ wgW T 8 u3 z00) H := hP9
  have hD : va_D A (([(h, .inr (2, [.ref (u1 0), .null, .null, .null, .int 0, .int 0, .int 0, .int 0, .int 0]))] : va_W) ++ wgW T 40 u1 z00 ++ wgW T 8 u3 z00) := hD9
  have hS := hS9
  clear hP9 hD9 hS9
  refine va_putF (D := D) (ci := 2) (v := .ref (u3 0)) (ty := .object "LyingScale$Weighings") (C := RX2) (T := TX2) (N := 9) hx hb hts inX2_init_2 tyX2 tyX2_ok nmX2 hown hK.1 hP hD hS 0 rfl rfl 1 (by decide) (hts (.fieldLink RX2 20 "LyingScale$State" "plan" "LLyingScale$Weighings;") (List.mem_of_getElem? (i := 8) rfl)) (fun _ h9 => h9) rfl hname rfl (by decide +kernel) rfl rfl (Nat.le_of_ble_eq_true rfl) dX2_init_27 (fun H locs hP hD hS => ?_)
  replace hP : va_P D vwCl (([(h, .inr (2, [.ref (u1 0), .ref (u3 0), .null, .null, .int 0, .int 0, .int 0, .int 0, .int 0]))] : va_W) ++ wgW T 40 u1 z00 ++ wgW T 8 u3 z00) H := hP
  replace hD : va_D A (([(h, .inr (2, [.ref (u1 0), .ref (u3 0), .null, .null, .int 0, .int 0, .int 0, .int 0, .int 0]))] : va_W) ++ wgW T 40 u1 z00 ++ wgW T 8 u3 z00) := hD
  refine lv_aload_n hx hb dX2_init_30 rfl (lv_at hl 0 rfl) ?_
  refine lv_bipush (v := 33) hx hb dX2_init_31 (by decide) ?_
  refine va_newa (ty := .int) (atype := .int) (a0 := (33, .inl (fun _ => 0))) hx hb (hts (.arrayClass .int) (List.mem_of_getElem? (i := 9) rfl)) rfl hK.1 hP hD hS hA (fun _ => rfl) (by decide) (by decide) (Nat.le_of_ble_eq_true rfl) (Nat.le_of_ble_eq_true rfl) (Nat.le_of_ble_eq_true rfl) dX2_init_33 (fun q4 cA H hK9 hP hD hS => ?_)
  rw [ty_int hK.1 hK9] at hP hD
  replace hP : va_P D vwCl (([(h, .inr (2, [.ref (u1 0), .ref (u3 0), .null, .null, .int 0, .int 0, .int 0, .int 0, .int 0]))] : va_W) ++ wgW T 40 u1 z00 ++ wgW T 8 u3 z00 ++ [(q4, .inl (T 0, 33, .inl (fun _ => 0)))]) H := hP
  replace hD : va_D A (([(h, .inr (2, [.ref (u1 0), .ref (u3 0), .null, .null, .int 0, .int 0, .int 0, .int 0, .int 0]))] : va_W) ++ wgW T 40 u1 z00 ++ wgW T 8 u3 z00 ++ [(q4, .inl (T 0, 33, .inl (fun _ => 0)))]) := hD
  refine va_putF (D := D) (ci := 2) (v := .ref q4) (ty := .array .int) (C := RX2) (T := TX2) (N := 9) hx hb hts inX2_init_2 tyX2 tyX2_ok nmX2 hown hK.1 hP hD hS 0 rfl rfl 2 (by decide) (hts (.fieldLink RX2 23 "LyingScale$State" "liesOf" "[I") (List.mem_of_getElem? (i := 10) rfl)) (fun _ h9 => h9) rfl hname rfl (by decide +kernel) rfl rfl (Nat.le_of_ble_eq_true rfl) dX2_init_35 (fun H locs hP hD hS => ?_)
  replace hP : va_P D vwCl (([(h, .inr (2, [.ref (u1 0), .ref (u3 0), .ref q4, .null, .int 0, .int 0, .int 0, .int 0, .int 0]))] : va_W) ++ wgW T 40 u1 z00 ++ wgW T 8 u3 z00 ++ [(q4, .inl (T 0, 33, .inl (fun _ => 0)))]) H := hP
  replace hD : va_D A (([(h, .inr (2, [.ref (u1 0), .ref (u3 0), .ref q4, .null, .int 0, .int 0, .int 0, .int 0, .int 0]))] : va_W) ++ wgW T 40 u1 z00 ++ wgW T 8 u3 z00 ++ [(q4, .inl (T 0, 33, .inl (fun _ => 0)))]) := hD
  refine lv_aload_n hx hb dX2_init_38 rfl (lv_at hl 0 rfl) ?_
  refine lv_bipush (v := 33) hx hb dX2_init_39 (by decide) ?_
  refine va_newa (ty := .int) (atype := .int) (a0 := (33, .inl (fun _ => 0))) hx hb (hts (.arrayClass .int) (List.mem_of_getElem? (i := 9) rfl)) rfl hK.1 hP hD hS hA (fun _ => rfl) (by decide) (by decide) (Nat.le_of_ble_eq_true rfl) (Nat.le_of_ble_eq_true rfl) (Nat.le_of_ble_eq_true rfl) dX2_init_41 (fun q5 cA H hK9 hP hD hS => ?_)
  rw [ty_int hK.1 hK9] at hP hD
  replace hP : va_P D vwCl (([(h, .inr (2, [.ref (u1 0), .ref (u3 0), .ref q4, .null, .int 0, .int 0, .int 0, .int 0, .int 0]))] : va_W) ++ wgW T 40 u1 z00 ++ wgW T 8 u3 z00 ++ [(q4, .inl (T 0, 33, .inl (fun _ => 0))), (q5, .inl (T 0, 33, .inl (fun _ => 0)))]) H := hP
  replace hD : va_D A (([(h, .inr (2, [.ref (u1 0), .ref (u3 0), .ref q4, .null, .int 0, .int 0, .int 0, .int 0, .int 0]))] : va_W) ++ wgW T 40 u1 z00 ++ wgW T 8 u3 z00 ++ [(q4, .inl (T 0, 33, .inl (fun _ => 0))), (q5, .inl (T 0, 33, .inl (fun _ => 0)))]) := hD
  refine va_putF (D := D) (ci := 2) (v := .ref q5) (ty := .array .int) (C := RX2) (T := TX2) (N := 9) hx hb hts inX2_init_2 tyX2 tyX2_ok nmX2 hown hK.1 hP hD hS 0 rfl rfl 3 (by decide) (hts (.fieldLink RX2 27 "LyingScale$State" "words" "[I") (List.mem_of_getElem? (i := 11) rfl)) (fun _ h9 => h9) rfl hname rfl (by decide +kernel) rfl rfl (Nat.le_of_ble_eq_true rfl) dX2_init_43 (fun H locs hP hD hS => ?_)
  replace hP : va_P D vwCl (([(h, .inr (2, [.ref (u1 0), .ref (u3 0), .ref q4, .ref q5, .int 0, .int 0, .int 0, .int 0, .int 0]))] : va_W) ++ wgW T 40 u1 z00 ++ wgW T 8 u3 z00 ++ [(q4, .inl (T 0, 33, .inl (fun _ => 0))), (q5, .inl (T 0, 33, .inl (fun _ => 0)))]) H := hP
  replace hD : va_D A (([(h, .inr (2, [.ref (u1 0), .ref (u3 0), .ref q4, .ref q5, .int 0, .int 0, .int 0, .int 0, .int 0]))] : va_W) ++ wgW T 40 u1 z00 ++ wgW T 8 u3 z00 ++ [(q4, .inl (T 0, 33, .inl (fun _ => 0))), (q5, .inl (T 0, 33, .inl (fun _ => 0)))]) := hD
  refine lv_aload_n hx hb dX2_init_46 rfl (lv_at hl 0 rfl) ?_
  refine lv_bipush (v := 8) hx hb dX2_init_47 (by decide) ?_
  replace hP := hP.sub (ws' := stW T (fun k => match k with | 0 => h | 1 => u1 0 | 2 => u3 0 | 3 => q4 | 4 => q5 | 5 => u1 1 | 6 => u1 2 | 7 => u1 3 | 8 => u3 1 | 9 => u3 2 | _ => u3 3) z00) [0, 1, 5, 9, 10, 2, 3, 4, 6, 7, 8] rfl
  replace hD := hD.sub (ws' := stW T (fun k => match k with | 0 => h | 1 => u1 0 | 2 => u3 0 | 3 => q4 | 4 => q5 | 5 => u1 1 | 6 => u1 2 | 7 => u1 3 | 8 => u3 1 | 9 => u3 2 | _ => u3 3) z00) [0, 1, 5, 9, 10, 2, 3, 4, 6, 7, 8] (by decide) rfl
  refine callMv (wr := []) (ws' := stW T (fun k => match k with | 0 => h | 1 => u1 0 | 2 => u3 0 | 3 => q4 | 4 => q5 | 5 => u1 1 | 6 => u1 2 | 7 => u1 3 | 8 => u3 1 | 9 => u3 2 | _ => u3 3) x) (va_runV (As := [.int 8]) (rest := []) ⟨hx, hb, hml, hown, hts⟩ (c_X2_start l D T (fun k => match k with | 0 => h | 1 => u1 0 | 2 => u3 0 | 3 => q4 | 4 => q5 | 5 => u1 1 | 6 => u1 2 | 7 => u1 3 | 8 => u3 1 | 9 => u3 2 | _ => u3 3) z00 8 _ x hx9) (cwV 1 hts gX2_init_X2_start rfl rfl rfl hdV_X2_start ⟨Nat.le_of_ble_eq_true rfl, Nat.le_of_ble_eq_true rfl⟩) ⟨PM_blind, va_recv hK.1 hP (ci := 2) (q0 := 0) rfl rfl, PM_at hP hD hK⟩ rfl rfl hl.1 rfl (lv_room (Nat.le_of_ble_eq_true rfl)) dX2_init_49 ⟨Nat.le_of_ble_eq_true rfl, Nat.le_of_ble_eq_true rfl⟩) hS hA hP hD [0, 1, 2, 3, 4, 5, 6, 7, 8, 9, 10] [] rfl rfl (by decide) (by decide) [0, 1, 2, 3, 4, 5, 6, 7, 8, 9, 10] (by decide) rfl (fun H locs hP hD hS => ?_)
  have hP9 := hP.sub (ws' := stW T (fun k => match k with | 0 => h | 1 => u1 0 | 2 => u3 0 | 3 => q4 | 4 => q5 | 5 => u1 1 | 6 => u1 2 | 7 => u1 3 | 8 => u3 1 | 9 => u3 2 | _ => u3 3) x) [0, 1, 2, 3, 4, 5, 6, 7, 8, 9, 10] rfl
  have hD9 := hD.sub (ws' := stW T (fun k => match k with | 0 => h | 1 => u1 0 | 2 => u3 0 | 3 => q4 | 4 => q5 | 5 => u1 1 | 6 => u1 2 | 7 => u1 3 | 8 => u3 1 | 9 => u3 2 | _ => u3 3) x) [0, 1, 2, 3, 4, 5, 6, 7, 8, 9, 10] (by decide +kernel) rfl
  refine W.widen (k := 10) (n := 218) (Nat.le_of_ble_eq_true rfl) (Nat.le_of_ble_eq_true rfl) ?_
  exact W.vret hx hb hr (fun t ht hW => ⟨⟨(fun k => match k with | 0 => h | 1 => u1 0 | 2 => u3 0 | 3 => q4 | 4 => q5 | 5 => u1 1 | 6 => u1 2 | 7 => u1 3 | 8 => u3 1 | 9 => u3 2 | _ => u3 3), rfl, rfl, by rw [ht]; exact hP9, hD9⟩, hS.F ht⟩) hS.2.2 dX2_init_52 hlocks
theorem hdS_X1_init : yX1_init.cls ≠ "java/lang/invoke/MethodHandle" ∧ yX1_init.cls ≠ "java/lang/invoke/VarHandle" ∧ (parseMethodDescriptor yX1_init.desc).map (fun d => d.parameters.length) = some 0 := by decide +kernel
theorem inX1_init_1 : ∀ w ∈ u_ws RX1 TX1 9, w ∈ wsX1_init := by decide +kernel
set_option maxHeartbeats 4000000 in
set_option maxRecDepth 100000 in
theorem c_X1_init (l : Launch) (D : va_G) (T : Nat → ClassId) (h : Nat) (sz : Nat) : Met l yX1_init wsX1_init ({ frames := 1, cells := 4, slots := 160, locals := 12 } : Room) (va_Pc [.ref h] (PM D T (([(h, .inr (1, [.null, .null, .null, .null, .int 0, .int 0, .int 0, .int 0, .int 0]))] : va_W)) sz)) (QCv D (fun u : Nat → Nat => orW T u z00) (fun u => u 0 = h) (va_A (([(h, .inr (1, [.null, .null, .null, .null, .int 0, .int 0, .int 0, .int 0, .int 0]))] : va_W)) sz)) 4 160 (va_A (([(h, .inr (1, [.null, .null, .null, .null, .int 0, .int 0, .int 0, .int 0, .int 0]))] : va_W)) sz) := by
  refine met_of (cc := cX1_init) (maxL := 1) (ret := none) (lv := [(0, .ref h)]) (by decide) rfl (Nat.le_of_ble_eq_true rfl) rfl ?_
  intro p e s m args below meth c ls C0 hl hB
  obtain ⟨hx, hb, hr, hml, hown, hts, hlocks, hname⟩ := C0
  obtain ⟨hsz, hP, hK, hD0⟩ := hB
  subst hsz
  have hD := hD0.self (sz := s.heap.size)
  generalize hAe : va_A (([(h, .inr (1, [.null, .null, .null, .null, .int 0, .int 0, .int 0, .int 0, .int 0]))] : va_W)) s.heap.size = A at hD ⊢
  have hA : ∀ q : Nat, s.heap.size ≤ q → A q := fun q h => by rw [← hAe]; exact Or.inr h
  have hS : va_S A s.heap s.heap [] := va_S.rf
  refine lv_aload_n hx hb dX1_init_0 rfl (lv_at hl 0 rfl) ?_
  refine W.objInit hx hb hown (hts (.methodLink RX1 3 objectInit) (List.mem_of_getElem? (i := 1) rfl)) (hts (.instanceMethod objectInit) (List.mem_of_getElem? (i := 2) rfl)) (hts (.code objectInit ⟨#[0xb1]⟩ 1 none) (List.mem_of_getElem? (i := 3) rfl)) rfl (hl.1.trans hml.symm) rfl dX1_init_1 (Nat.le_of_ble_eq_true rfl) (Nat.le_of_ble_eq_true rfl) ?_
  refine W.eq (g2 := F0 m 4 ls []) rfl ?_
  refine lv_aload_n hx hb dX1_init_4 rfl (lv_at hl 0 rfl) ?_
  refine lv_bipush (v := 100) hx hb dX1_init_5 (by decide) ?_
  refine va_newa (ty := .int) (atype := .int) (a0 := (100, .inl (fun _ => 0))) hx hb (hts (.arrayClass .int) (List.mem_of_getElem? (i := 4) rfl)) rfl hK.1 hP hD hS hA (fun _ => rfl) (by decide) (by decide) (Nat.le_of_ble_eq_true rfl) (Nat.le_of_ble_eq_true rfl) (Nat.le_of_ble_eq_true rfl) dX1_init_7 (fun q0 cA H hK9 hP hD hS => ?_)
  rw [ty_int hK.1 hK9] at hP hD
  replace hP : va_P D vwCl (([(h, .inr (1, [.null, .null, .null, .null, .int 0, .int 0, .int 0, .int 0, .int 0])), (q0, .inl (T 0, 100, .inl (fun _ => 0)))] : va_W)) H := hP
  replace hD : va_D A (([(h, .inr (1, [.null, .null, .null, .null, .int 0, .int 0, .int 0, .int 0, .int 0])), (q0, .inl (T 0, 100, .inl (fun _ => 0)))] : va_W)) := hD
  refine va_putF (D := D) (ci := 1) (v := .ref q0) (ty := .array .int) (C := RX1) (T := TX1) (N := 9) hx hb hts inX1_init_1 tyX1 tyX1_ok nmX1 hown hK.1 hP hD hS 0 rfl rfl 0 (by decide) (hts (.fieldLink RX1 9 "LyingScale$Orders" "bytes" "[I") (List.mem_of_getElem? (i := 5) rfl)) (fun _ h9 => h9) rfl hname rfl (by decide +kernel) rfl rfl (Nat.le_of_ble_eq_true rfl) dX1_init_9 (fun H locs hP hD hS => ?_)
  replace hP : va_P D vwCl (([(h, .inr (1, [.ref q0, .null, .null, .null, .int 0, .int 0, .int 0, .int 0, .int 0])), (q0, .inl (T 0, 100, .inl (fun _ => 0)))] : va_W)) H := hP
  replace hD : va_D A (([(h, .inr (1, [.ref q0, .null, .null, .null, .int 0, .int 0, .int 0, .int 0, .int 0])), (q0, .inl (T 0, 100, .inl (fun _ => 0)))] : va_W)) := hD
  refine lv_aload_n hx hb dX1_init_12 rfl (lv_at hl 0 rfl) ?_
  refine lv_bipush (v := 20) hx hb dX1_init_13 (by decide) ?_
  refine va_newa (ty := .int) (atype := .int) (a0 := (20, .inl (fun _ => 0))) hx hb (hts (.arrayClass .int) (List.mem_of_getElem? (i := 4) rfl)) rfl hK.1 hP hD hS hA (fun _ => rfl) (by decide) (by decide) (Nat.le_of_ble_eq_true rfl) (Nat.le_of_ble_eq_true rfl) (Nat.le_of_ble_eq_true rfl) dX1_init_15 (fun q1 cA H hK9 hP hD hS => ?_)
  rw [ty_int hK.1 hK9] at hP hD
  replace hP : va_P D vwCl (([(h, .inr (1, [.ref q0, .null, .null, .null, .int 0, .int 0, .int 0, .int 0, .int 0])), (q0, .inl (T 0, 100, .inl (fun _ => 0))), (q1, .inl (T 0, 20, .inl (fun _ => 0)))] : va_W)) H := hP
  replace hD : va_D A (([(h, .inr (1, [.ref q0, .null, .null, .null, .int 0, .int 0, .int 0, .int 0, .int 0])), (q0, .inl (T 0, 100, .inl (fun _ => 0))), (q1, .inl (T 0, 20, .inl (fun _ => 0)))] : va_W)) := hD
  refine va_putF (D := D) (ci := 1) (v := .ref q1) (ty := .array .int) (C := RX1) (T := TX1) (N := 9) hx hb hts inX1_init_1 tyX1 tyX1_ok nmX1 hown hK.1 hP hD hS 0 rfl rfl 1 (by decide) (hts (.fieldLink RX1 15 "LyingScale$Orders" "lefts" "[I") (List.mem_of_getElem? (i := 6) rfl)) (fun _ h9 => h9) rfl hname rfl (by decide +kernel) rfl rfl (Nat.le_of_ble_eq_true rfl) dX1_init_17 (fun H locs hP hD hS => ?_)
  replace hP : va_P D vwCl (([(h, .inr (1, [.ref q0, .ref q1, .null, .null, .int 0, .int 0, .int 0, .int 0, .int 0])), (q0, .inl (T 0, 100, .inl (fun _ => 0))), (q1, .inl (T 0, 20, .inl (fun _ => 0)))] : va_W)) H := hP
  replace hD : va_D A (([(h, .inr (1, [.ref q0, .ref q1, .null, .null, .int 0, .int 0, .int 0, .int 0, .int 0])), (q0, .inl (T 0, 100, .inl (fun _ => 0))), (q1, .inl (T 0, 20, .inl (fun _ => 0)))] : va_W)) := hD
  refine lv_aload_n hx hb dX1_init_20 rfl (lv_at hl 0 rfl) ?_
  refine lv_bipush (v := 20) hx hb dX1_init_21 (by decide) ?_
  refine va_newa (ty := .int) (atype := .int) (a0 := (20, .inl (fun _ => 0))) hx hb (hts (.arrayClass .int) (List.mem_of_getElem? (i := 4) rfl)) rfl hK.1 hP hD hS hA (fun _ => rfl) (by decide) (by decide) (Nat.le_of_ble_eq_true rfl) (Nat.le_of_ble_eq_true rfl) (Nat.le_of_ble_eq_true rfl) dX1_init_23 (fun q2 cA H hK9 hP hD hS => ?_)
  rw [ty_int hK.1 hK9] at hP hD
  replace hP : va_P D vwCl (([(h, .inr (1, [.ref q0, .ref q1, .null, .null, .int 0, .int 0, .int 0, .int 0, .int 0])), (q0, .inl (T 0, 100, .inl (fun _ => 0))), (q1, .inl (T 0, 20, .inl (fun _ => 0))), (q2, .inl (T 0, 20, .inl (fun _ => 0)))] : va_W)) H := hP
  replace hD : va_D A (([(h, .inr (1, [.ref q0, .ref q1, .null, .null, .int 0, .int 0, .int 0, .int 0, .int 0])), (q0, .inl (T 0, 100, .inl (fun _ => 0))), (q1, .inl (T 0, 20, .inl (fun _ => 0))), (q2, .inl (T 0, 20, .inl (fun _ => 0)))] : va_W)) := hD
  refine va_putF (D := D) (ci := 1) (v := .ref q2) (ty := .array .int) (C := RX1) (T := TX1) (N := 9) hx hb hts inX1_init_1 tyX1 tyX1_ok nmX1 hown hK.1 hP hD hS 0 rfl rfl 2 (by decide) (hts (.fieldLink RX1 18 "LyingScale$Orders" "rights" "[I") (List.mem_of_getElem? (i := 7) rfl)) (fun _ h9 => h9) rfl hname rfl (by decide +kernel) rfl rfl (Nat.le_of_ble_eq_true rfl) dX1_init_25 (fun H locs hP hD hS => ?_)
  replace hP : va_P D vwCl (([(h, .inr (1, [.ref q0, .ref q1, .ref q2, .null, .int 0, .int 0, .int 0, .int 0, .int 0])), (q0, .inl (T 0, 100, .inl (fun _ => 0))), (q1, .inl (T 0, 20, .inl (fun _ => 0))), (q2, .inl (T 0, 20, .inl (fun _ => 0)))] : va_W)) H := hP
  replace hD : va_D A (([(h, .inr (1, [.ref q0, .ref q1, .ref q2, .null, .int 0, .int 0, .int 0, .int 0, .int 0])), (q0, .inl (T 0, 100, .inl (fun _ => 0))), (q1, .inl (T 0, 20, .inl (fun _ => 0))), (q2, .inl (T 0, 20, .inl (fun _ => 0)))] : va_W)) := hD
  refine lv_aload_n hx hb dX1_init_28 rfl (lv_at hl 0 rfl) ?_
  refine lv_bipush (v := 20) hx hb dX1_init_29 (by decide) ?_
  refine va_newa (ty := .int) (atype := .int) (a0 := (20, .inl (fun _ => 0))) hx hb (hts (.arrayClass .int) (List.mem_of_getElem? (i := 4) rfl)) rfl hK.1 hP hD hS hA (fun _ => rfl) (by decide) (by decide) (Nat.le_of_ble_eq_true rfl) (Nat.le_of_ble_eq_true rfl) (Nat.le_of_ble_eq_true rfl) dX1_init_31 (fun q3 cA H hK9 hP hD hS => ?_)
  rw [ty_int hK.1 hK9] at hP hD
  replace hP : va_P D vwCl (([(h, .inr (1, [.ref q0, .ref q1, .ref q2, .null, .int 0, .int 0, .int 0, .int 0, .int 0])), (q0, .inl (T 0, 100, .inl (fun _ => 0))), (q1, .inl (T 0, 20, .inl (fun _ => 0))), (q2, .inl (T 0, 20, .inl (fun _ => 0))), (q3, .inl (T 0, 20, .inl (fun _ => 0)))] : va_W)) H := hP
  replace hD : va_D A (([(h, .inr (1, [.ref q0, .ref q1, .ref q2, .null, .int 0, .int 0, .int 0, .int 0, .int 0])), (q0, .inl (T 0, 100, .inl (fun _ => 0))), (q1, .inl (T 0, 20, .inl (fun _ => 0))), (q2, .inl (T 0, 20, .inl (fun _ => 0))), (q3, .inl (T 0, 20, .inl (fun _ => 0)))] : va_W)) := hD
  refine va_putF (D := D) (ci := 1) (v := .ref q3) (ty := .array .int) (C := RX1) (T := TX1) (N := 9) hx hb hts inX1_init_1 tyX1 tyX1_ok nmX1 hown hK.1 hP hD hS 0 rfl rfl 3 (by decide) (hts (.fieldLink RX1 21 "LyingScale$Orders" "deeds" "[I") (List.mem_of_getElem? (i := 8) rfl)) (fun _ h9 => h9) rfl hname rfl (by decide +kernel) rfl rfl (Nat.le_of_ble_eq_true rfl) dX1_init_33 (fun H locs hP hD hS => ?_)
  replace hP : va_P D vwCl (([(h, .inr (1, [.ref q0, .ref q1, .ref q2, .ref q3, .int 0, .int 0, .int 0, .int 0, .int 0])), (q0, .inl (T 0, 100, .inl (fun _ => 0))), (q1, .inl (T 0, 20, .inl (fun _ => 0))), (q2, .inl (T 0, 20, .inl (fun _ => 0))), (q3, .inl (T 0, 20, .inl (fun _ => 0)))] : va_W)) H := hP
  replace hD : va_D A (([(h, .inr (1, [.ref q0, .ref q1, .ref q2, .ref q3, .int 0, .int 0, .int 0, .int 0, .int 0])), (q0, .inl (T 0, 100, .inl (fun _ => 0))), (q1, .inl (T 0, 20, .inl (fun _ => 0))), (q2, .inl (T 0, 20, .inl (fun _ => 0))), (q3, .inl (T 0, 20, .inl (fun _ => 0)))] : va_W)) := hD
  have hP9 := hP.sub (ws' := orW T (fun k => match k with | 0 => h | 1 => q0 | 2 => q1 | 3 => q2 | _ => q3) z00) [0, 1, 2, 3, 4] rfl
  have hD9 := hD.sub (ws' := orW T (fun k => match k with | 0 => h | 1 => q0 | 2 => q1 | 3 => q2 | _ => q3) z00) [0, 1, 2, 3, 4] (by decide +kernel) rfl
  refine W.widen (k := 4) (n := 160) (Nat.le_of_ble_eq_true rfl) (Nat.le_of_ble_eq_true rfl) ?_
  exact W.vret hx hb hr (fun t ht hW => ⟨⟨(fun k => match k with | 0 => h | 1 => q0 | 2 => q1 | 3 => q2 | _ => q3), rfl, rfl, by rw [ht]; exact hP9, hD9⟩, hS.F ht⟩) hS.2.2 dX1_init_36 hlocks
theorem hdS_X0_init : yX0_init.cls ≠ "java/lang/invoke/MethodHandle" ∧ yX0_init.cls ≠ "java/lang/invoke/VarHandle" ∧ (parseMethodDescriptor yX0_init.desc).map (fun d => d.parameters.length) = some 0 := by decide +kernel
theorem inX0_init_0 : ∀ w ∈ u_ws RX0 TX0 2, w ∈ wsX0_init := by decide +kernel
theorem inX0_init_2 : ∀ w ∈ u_ws RX2 TX2 9, w ∈ wsX0_init := by decide +kernel
set_option maxHeartbeats 4000000 in
set_option maxRecDepth 100000 in
theorem c_X0_init (l : Launch) (D : va_G) (T : Nat → ClassId) (h : Nat) (sz : Nat) (x : St) (hx9 : F_X2_start z00 8 = some x) : Met l yX0_init wsX0_init ({ frames := 4, cells := 45, slots := 912, locals := 84 } : Room) (va_Pc [.ref h] (PAO D T (([(h, .inr (0, [.null, .int 0]))] : va_W)) sz)) (QCv D (fun u : AT => hiW T u x) (fun u => u 6 1 = h) (va_A (([(h, .inr (0, [.null, .int 0]))] : va_W)) sz)) 45 912 (va_A (([(h, .inr (0, [.null, .int 0]))] : va_W)) sz) := by
  refine met_of (cc := cX0_init) (maxL := 2) (ret := none) (lv := [(0, .ref h)]) (by decide) rfl (Nat.le_of_ble_eq_true rfl) rfl ?_
  intro p e s m args below meth c ls C0 hl hB
  obtain ⟨hx, hb, hr, hml, hown, hts, hlocks, hname⟩ := C0
  obtain ⟨⟨hsz, hP, hK, hD0⟩, hAO⟩ := hB
  subst hsz
  have hD := hD0.self (sz := s.heap.size)
  generalize hAe : va_A (([(h, .inr (0, [.null, .int 0]))] : va_W)) s.heap.size = A at hD ⊢
  have hA : ∀ q : Nat, s.heap.size ≤ q → A q := fun q h => by rw [← hAe]; exact Or.inr h
  have hS : va_S A s.heap s.heap [] := va_S.rf
  refine lv_aload_n hx hb dX0_init_0 rfl (lv_at hl 0 rfl) ?_
  refine W.objInit hx hb hown (hts (.methodLink RX0 3 objectInit) (List.mem_of_getElem? (i := 1) rfl)) (hts (.instanceMethod objectInit) (List.mem_of_getElem? (i := 2) rfl)) (hts (.code objectInit ⟨#[0xb1]⟩ 1 none) (List.mem_of_getElem? (i := 3) rfl)) rfl (hl.1.trans hml.symm) rfl dX0_init_1 (Nat.le_of_ble_eq_true rfl) (Nat.le_of_ble_eq_true rfl) ?_
  refine W.eq (g2 := F0 m 4 ls []) rfl ?_
  refine lv_aload_n hx hb dX0_init_4 rfl (lv_at hl 0 rfl) ?_
  refine lv_iconst (v := 4) hx hb dX0_init_5 (by decide) ?_
  refine va_newq (C := RX2) (N' := 4) hx hb hown (hts (.classLink RX0 9 RX2) (List.mem_of_getElem? (i := 4) rfl)) hAO hK.1 hP hD hS hA (by decide) (by decide) (Nat.le_of_ble_eq_true rfl) (Nat.le_of_ble_eq_true rfl) (Nat.le_of_ble_eq_true rfl) dX0_init_6 (fun q0 cA H hK9 hP hD hS => ?_)
  rw [ty_state hK.1 hK9] at hP hD
  replace hP : va_P D vwCl (([(h, .inr (0, [.null, .int 0])), (q0, .inl (T 3, 4, .inr (.inr (.inr (.inr (fun _ => none))))))] : va_W)) H := hP
  replace hD : va_D A (([(h, .inr (0, [.null, .int 0])), (q0, .inl (T 3, 4, .inr (.inr (.inr (.inr (fun _ => none))))))] : va_W)) := hD
  refine va_putF (D := D) (ci := 0) (v := .ref q0) (ty := .array (.object "LyingScale$State")) (C := RX0) (T := TX0) (N := 2) hx hb hts inX0_init_0 tyX0 tyX0_ok nmX0 hown hK.1 hP hD hS 0 rfl rfl 0 (by decide) (hts (.fieldLink RX0 11 "LyingScale$History" "states" "[LLyingScale$State;") (List.mem_of_getElem? (i := 5) rfl)) (fun _ h9 => h9) rfl hname rfl (by decide +kernel) rfl rfl (Nat.le_of_ble_eq_true rfl) dX0_init_9 (fun H locs hP hD hS => ?_)
  replace hP : va_P D vwCl (([(h, .inr (0, [.ref q0, .int 0])), (q0, .inl (T 3, 4, .inr (.inr (.inr (.inr (fun _ => none))))))] : va_W)) H := hP
  replace hD : va_D A (([(h, .inr (0, [.ref q0, .int 0])), (q0, .inl (T 3, 4, .inr (.inr (.inr (.inr (fun _ => none))))))] : va_W)) := hD
  refine lv_iconst (v := 0) hx hb dX0_init_12 (by decide) ?_
  refine lv_istore_n (lv' := [(1, .int 0), (0, .ref h)]) hx hb dX0_init_13 rfl hl (by decide) rfl (fun ls hl => ?_)
  refine lv_iload_n hx hb dX0_init_14 rfl (lv_at hl 0 rfl) ?_
  refine lv_aload_n hx hb dX0_init_15 rfl (lv_at hl 1 rfl) ?_
  refine va_get (D := D) (ci := 0) (v := .ref q0) (C := RX0) (T := TX0) (N := 2) hx hb hts inX0_init_0 hown hK.1 hP 0 rfl rfl 0 (by decide) (hts (.fieldLink RX0 11 "LyingScale$History" "states" "[LLyingScale$State;") (List.mem_of_getElem? (i := 5) rfl)) (fun _ h9 => h9) rfl dX0_init_16 ?_
  refine va_alen hx hb hK.1 hP 1 3 rfl rfl (v := 4) rfl dX0_init_19 ?_
  refine lv_icmp_ge (tgt := 42) hx hb dX0_init_20 (by decide) (fun c => absurd c (by decide)) (fun _ => ?_)
  refine lv_aload_n hx hb dX0_init_23 rfl (lv_at hl 1 rfl) ?_
  refine va_get (D := D) (ci := 0) (v := .ref q0) (C := RX0) (T := TX0) (N := 2) hx hb hts inX0_init_0 hown hK.1 hP 0 rfl rfl 0 (by decide) (hts (.fieldLink RX0 11 "LyingScale$History" "states" "[LLyingScale$State;") (List.mem_of_getElem? (i := 5) rfl)) (fun _ h9 => h9) rfl dX0_init_24 ?_
  refine lv_iload_n hx hb dX0_init_27 rfl (lv_at hl 0 rfl) ?_
  refine va_new (ci := 2) (fs := [.null, .null, .null, .null, .int 0, .int 0, .int 0, .int 0, .int 0]) (C := RX2) (T := TX2) (N := 9) hx hb hts inX0_init_2 tyX2 tyX2_ok hown (hts (.classLink RX0 9 RX2) (List.mem_of_getElem? (i := 4) rfl)) (hts (.instantiable RX2 9) (List.mem_of_getElem? (i := 6) rfl)) (hts (.initialized RX2) (List.mem_of_getElem? (i := 7) rfl)) hK.1 hP hD hS hA rfl (fun j hj => by rcases (show j = 0 ∨ j = 1 ∨ j = 2 ∨ j = 3 ∨ j = 4 ∨ j = 5 ∨ j = 6 ∨ j = 7 ∨ j = 8 by omega) with rfl | rfl | rfl | rfl | rfl | rfl | rfl | rfl | rfl <;> rfl) (Nat.le_of_ble_eq_true rfl) (Nat.le_of_ble_eq_true rfl) dX0_init_28 (fun q1 H hP hD hS => ?_)
  replace hP : va_P D vwCl (([(h, .inr (0, [.ref q0, .int 0])), (q0, .inl (T 3, 4, .inr (.inr (.inr (.inr (fun _ => none)))))), (q1, .inr (2, [.null, .null, .null, .null, .int 0, .int 0, .int 0, .int 0, .int 0]))] : va_W)) H := hP
  replace hD : va_D A (([(h, .inr (0, [.ref q0, .int 0])), (q0, .inl (T 3, 4, .inr (.inr (.inr (.inr (fun _ => none)))))), (q1, .inr (2, [.null, .null, .null, .null, .int 0, .int 0, .int 0, .int 0, .int 0]))] : va_W)) := hD
  refine lv_dup hx hb dX0_init_31 rfl ?_
  refine callCv (wr := ([(h, .inr (0, [.ref q0, .int 0])), (q0, .inl (T 3, 4, .inr (.inr (.inr (.inr (fun _ => none))))))] : va_W)) (va_runI (As := []) (rest := [.ref q1, .int 0, .ref q0]) ⟨hx, hb, hml, hown, hts⟩ (c_X2_init l D T q1 _ x hx9) (cwI 0 hts gX0_init_X2_init rfl rfl rfl (hts (.initialized RX2) (List.mem_of_getElem? (i := 7) rfl)) (hts (.methodLink RX0 17 yX2_init) (List.mem_of_getElem? (i := 8) rfl)) (hts (.instanceMethod yX2_init) (List.mem_of_getElem? (i := 9) rfl)) rfl hdS_X2_init ⟨Nat.le_of_ble_eq_true rfl, Nat.le_of_ble_eq_true rfl⟩) ⟨PM_blind, PM_at (hP.sub (ws' := ([(q1, .inr (2, [.null, .null, .null, .null, .int 0, .int 0, .int 0, .int 0, .int 0]))] : va_W)) [2] rfl) (hD.sub (ws' := ([(q1, .inr (2, [.null, .null, .null, .null, .int 0, .int 0, .int 0, .int 0, .int 0]))] : va_W)) [2] (by decide) rfl) hK⟩ rfl rfl hl.1 rfl (lv_room (Nat.le_of_ble_eq_true rfl)) dX0_init_32 ⟨Nat.le_of_ble_eq_true rfl, Nat.le_of_ble_eq_true rfl⟩) hS hA hP hD [2] [0, 1] rfl rfl (by decide) (by decide) (fun u2 H locs huu2 hP9 hD9 hS9 => ?_)
  clear hP hD hS
  subst huu2
  have hP : va_P D vwCl (([(h, .inr (0, [.ref q0, .int 0])), (q0, .inl (T 3, 4, .inr (.inr (.inr (.inr (fun _ => none))))))] : va_W) ++ stW T u2 x) H := hP9
  have hD : va_D A (([(h, .inr (0, [.ref q0, .int 0])), (q0, .inl (T 3, 4, .inr (.inr (.inr (.inr (fun _ => none))))))] : va_W) ++ stW T u2 x) := hD9
  have hS := hS9
  clear hP9 hD9 hS9
  refine va_astq hx hb hK.1 hP hD hS 1 3 2 2 rfl rfl rfl rfl (show ¬ ((0 : Int32) < 0 ∨ 4 ≤ Int32.toNatClampNeg 0) from by decide) dX0_init_35 (fun H locs hP hD hS => ?_)
  rw [show Int32.toNatClampNeg 0 = 0 from by decide] at hP hD
  replace hP : va_P D vwCl (([(h, .inr (0, [.ref q0, .int 0])), (q0, .inl (T 3, 4, .inr (.inr (.inr (.inr (va_up (fun _ => none) 0 (some (u2 0))))))))] : va_W) ++ stW T u2 x) H := hP
  replace hD : va_D A (([(h, .inr (0, [.ref q0, .int 0])), (q0, .inl (T 3, 4, .inr (.inr (.inr (.inr (va_up (fun _ => none) 0 (some (u2 0))))))))] : va_W) ++ stW T u2 x) := hD
  refine lv_iinc (v := 1) (lv' := [(1, .int 1), (0, .ref h)]) hx hb dX0_init_36 hl (k := 0) rfl (by decide) (by decide) rfl (fun ls hl => ?_)
  refine lv_goto (tgt := 14) hx hb dX0_init_39 (by decide) ?_
  refine lv_iload_n hx hb dX0_init_14 rfl (lv_at hl 0 rfl) ?_
  refine lv_aload_n hx hb dX0_init_15 rfl (lv_at hl 1 rfl) ?_
  refine va_get (D := D) (ci := 0) (v := .ref q0) (C := RX0) (T := TX0) (N := 2) hx hb hts inX0_init_0 hown hK.1 hP 0 rfl rfl 0 (by decide) (hts (.fieldLink RX0 11 "LyingScale$History" "states" "[LLyingScale$State;") (List.mem_of_getElem? (i := 5) rfl)) (fun _ h9 => h9) rfl dX0_init_16 ?_
  refine va_alen hx hb hK.1 hP 1 3 rfl rfl (v := 4) rfl dX0_init_19 ?_
  refine lv_icmp_ge (tgt := 42) hx hb dX0_init_20 (by decide) (fun c => absurd c (by decide)) (fun _ => ?_)
  refine lv_aload_n hx hb dX0_init_23 rfl (lv_at hl 1 rfl) ?_
  refine va_get (D := D) (ci := 0) (v := .ref q0) (C := RX0) (T := TX0) (N := 2) hx hb hts inX0_init_0 hown hK.1 hP 0 rfl rfl 0 (by decide) (hts (.fieldLink RX0 11 "LyingScale$History" "states" "[LLyingScale$State;") (List.mem_of_getElem? (i := 5) rfl)) (fun _ h9 => h9) rfl dX0_init_24 ?_
  refine lv_iload_n hx hb dX0_init_27 rfl (lv_at hl 0 rfl) ?_
  refine va_new (ci := 2) (fs := [.null, .null, .null, .null, .int 0, .int 0, .int 0, .int 0, .int 0]) (C := RX2) (T := TX2) (N := 9) hx hb hts inX0_init_2 tyX2 tyX2_ok hown (hts (.classLink RX0 9 RX2) (List.mem_of_getElem? (i := 4) rfl)) (hts (.instantiable RX2 9) (List.mem_of_getElem? (i := 6) rfl)) (hts (.initialized RX2) (List.mem_of_getElem? (i := 7) rfl)) hK.1 hP hD hS hA rfl (fun j hj => by rcases (show j = 0 ∨ j = 1 ∨ j = 2 ∨ j = 3 ∨ j = 4 ∨ j = 5 ∨ j = 6 ∨ j = 7 ∨ j = 8 by omega) with rfl | rfl | rfl | rfl | rfl | rfl | rfl | rfl | rfl <;> rfl) (Nat.le_of_ble_eq_true rfl) (Nat.le_of_ble_eq_true rfl) dX0_init_28 (fun q3 H hP hD hS => ?_)
  replace hP : va_P D vwCl (([(h, .inr (0, [.ref q0, .int 0])), (q0, .inl (T 3, 4, .inr (.inr (.inr (.inr (va_up (fun _ => none) 0 (some (u2 0))))))))] : va_W) ++ stW T u2 x ++ [(q3, .inr (2, [.null, .null, .null, .null, .int 0, .int 0, .int 0, .int 0, .int 0]))]) H := hP
  replace hD : va_D A (([(h, .inr (0, [.ref q0, .int 0])), (q0, .inl (T 3, 4, .inr (.inr (.inr (.inr (va_up (fun _ => none) 0 (some (u2 0))))))))] : va_W) ++ stW T u2 x ++ [(q3, .inr (2, [.null, .null, .null, .null, .int 0, .int 0, .int 0, .int 0, .int 0]))]) := hD
  refine lv_dup hx hb dX0_init_31 rfl ?_
  refine callCv (wr := ([(h, .inr (0, [.ref q0, .int 0])), (q0, .inl (T 3, 4, .inr (.inr (.inr (.inr (va_up (fun _ => none) 0 (some (u2 0))))))))] : va_W) ++ stW T u2 x) (va_runI (As := []) (rest := [.ref q3, .int 1, .ref q0]) ⟨hx, hb, hml, hown, hts⟩ (c_X2_init l D T q3 _ x hx9) (cwI 0 hts gX0_init_X2_init rfl rfl rfl (hts (.initialized RX2) (List.mem_of_getElem? (i := 7) rfl)) (hts (.methodLink RX0 17 yX2_init) (List.mem_of_getElem? (i := 8) rfl)) (hts (.instanceMethod yX2_init) (List.mem_of_getElem? (i := 9) rfl)) rfl hdS_X2_init ⟨Nat.le_of_ble_eq_true rfl, Nat.le_of_ble_eq_true rfl⟩) ⟨PM_blind, PM_at (hP.sub (ws' := ([(q3, .inr (2, [.null, .null, .null, .null, .int 0, .int 0, .int 0, .int 0, .int 0]))] : va_W)) [13] rfl) (hD.sub (ws' := ([(q3, .inr (2, [.null, .null, .null, .null, .int 0, .int 0, .int 0, .int 0, .int 0]))] : va_W)) [13] (by decide) rfl) hK⟩ rfl rfl hl.1 rfl (lv_room (Nat.le_of_ble_eq_true rfl)) dX0_init_32 ⟨Nat.le_of_ble_eq_true rfl, Nat.le_of_ble_eq_true rfl⟩) hS hA hP hD [13] [0, 1, 2, 3, 4, 5, 6, 7, 8, 9, 10, 11, 12] rfl rfl (by decide) (by decide) (fun u4 H locs huu4 hP9 hD9 hS9 => ?_)
  clear hP hD hS
  subst huu4
  have hP : va_P D vwCl (([(h, .inr (0, [.ref q0, .int 0])), (q0, .inl (T 3, 4, .inr (.inr (.inr (.inr (va_up (fun _ => none) 0 (some (u2 0))))))))] : va_W) ++ stW T u2 x ++ stW T u4 x) H := hP9
  have hD : va_D A (([(h, .inr (0, [.ref q0, .int 0])), (q0, .inl (T 3, 4, .inr (.inr (.inr (.inr (va_up (fun _ => none) 0 (some (u2 0))))))))] : va_W) ++ stW T u2 x ++ stW T u4 x) := hD9
  have hS := hS9
  clear hP9 hD9 hS9
  refine va_astq hx hb hK.1 hP hD hS 1 3 13 2 rfl rfl rfl rfl (show ¬ ((1 : Int32) < 0 ∨ 4 ≤ Int32.toNatClampNeg 1) from by decide) dX0_init_35 (fun H locs hP hD hS => ?_)
  rw [show Int32.toNatClampNeg 1 = 1 from by decide] at hP hD
  replace hP : va_P D vwCl (([(h, .inr (0, [.ref q0, .int 0])), (q0, .inl (T 3, 4, .inr (.inr (.inr (.inr (va_up (va_up (fun _ => none) 0 (some (u2 0))) 1 (some (u4 0))))))))] : va_W) ++ stW T u2 x ++ stW T u4 x) H := hP
  replace hD : va_D A (([(h, .inr (0, [.ref q0, .int 0])), (q0, .inl (T 3, 4, .inr (.inr (.inr (.inr (va_up (va_up (fun _ => none) 0 (some (u2 0))) 1 (some (u4 0))))))))] : va_W) ++ stW T u2 x ++ stW T u4 x) := hD
  refine lv_iinc (v := 2) (lv' := [(1, .int 2), (0, .ref h)]) hx hb dX0_init_36 hl (k := 0) rfl (by decide) (by decide) rfl (fun ls hl => ?_)
  refine lv_goto (tgt := 14) hx hb dX0_init_39 (by decide) ?_
  refine lv_iload_n hx hb dX0_init_14 rfl (lv_at hl 0 rfl) ?_
  refine lv_aload_n hx hb dX0_init_15 rfl (lv_at hl 1 rfl) ?_
  refine va_get (D := D) (ci := 0) (v := .ref q0) (C := RX0) (T := TX0) (N := 2) hx hb hts inX0_init_0 hown hK.1 hP 0 rfl rfl 0 (by decide) (hts (.fieldLink RX0 11 "LyingScale$History" "states" "[LLyingScale$State;") (List.mem_of_getElem? (i := 5) rfl)) (fun _ h9 => h9) rfl dX0_init_16 ?_
  refine va_alen hx hb hK.1 hP 1 3 rfl rfl (v := 4) rfl dX0_init_19 ?_
  refine lv_icmp_ge (tgt := 42) hx hb dX0_init_20 (by decide) (fun c => absurd c (by decide)) (fun _ => ?_)
  refine lv_aload_n hx hb dX0_init_23 rfl (lv_at hl 1 rfl) ?_
  refine va_get (D := D) (ci := 0) (v := .ref q0) (C := RX0) (T := TX0) (N := 2) hx hb hts inX0_init_0 hown hK.1 hP 0 rfl rfl 0 (by decide) (hts (.fieldLink RX0 11 "LyingScale$History" "states" "[LLyingScale$State;") (List.mem_of_getElem? (i := 5) rfl)) (fun _ h9 => h9) rfl dX0_init_24 ?_
  refine lv_iload_n hx hb dX0_init_27 rfl (lv_at hl 0 rfl) ?_
  refine va_new (ci := 2) (fs := [.null, .null, .null, .null, .int 0, .int 0, .int 0, .int 0, .int 0]) (C := RX2) (T := TX2) (N := 9) hx hb hts inX0_init_2 tyX2 tyX2_ok hown (hts (.classLink RX0 9 RX2) (List.mem_of_getElem? (i := 4) rfl)) (hts (.instantiable RX2 9) (List.mem_of_getElem? (i := 6) rfl)) (hts (.initialized RX2) (List.mem_of_getElem? (i := 7) rfl)) hK.1 hP hD hS hA rfl (fun j hj => by rcases (show j = 0 ∨ j = 1 ∨ j = 2 ∨ j = 3 ∨ j = 4 ∨ j = 5 ∨ j = 6 ∨ j = 7 ∨ j = 8 by omega) with rfl | rfl | rfl | rfl | rfl | rfl | rfl | rfl | rfl <;> rfl) (Nat.le_of_ble_eq_true rfl) (Nat.le_of_ble_eq_true rfl) dX0_init_28 (fun q5 H hP hD hS => ?_)
  replace hP : va_P D vwCl (([(h, .inr (0, [.ref q0, .int 0])), (q0, .inl (T 3, 4, .inr (.inr (.inr (.inr (va_up (va_up (fun _ => none) 0 (some (u2 0))) 1 (some (u4 0))))))))] : va_W) ++ stW T u2 x ++ stW T u4 x ++ [(q5, .inr (2, [.null, .null, .null, .null, .int 0, .int 0, .int 0, .int 0, .int 0]))]) H := hP
  replace hD : va_D A (([(h, .inr (0, [.ref q0, .int 0])), (q0, .inl (T 3, 4, .inr (.inr (.inr (.inr (va_up (va_up (fun _ => none) 0 (some (u2 0))) 1 (some (u4 0))))))))] : va_W) ++ stW T u2 x ++ stW T u4 x ++ [(q5, .inr (2, [.null, .null, .null, .null, .int 0, .int 0, .int 0, .int 0, .int 0]))]) := hD
  refine lv_dup hx hb dX0_init_31 rfl ?_
  refine callCv (wr := ([(h, .inr (0, [.ref q0, .int 0])), (q0, .inl (T 3, 4, .inr (.inr (.inr (.inr (va_up (va_up (fun _ => none) 0 (some (u2 0))) 1 (some (u4 0))))))))] : va_W) ++ stW T u2 x ++ stW T u4 x) (va_runI (As := []) (rest := [.ref q5, .int 2, .ref q0]) ⟨hx, hb, hml, hown, hts⟩ (c_X2_init l D T q5 _ x hx9) (cwI 0 hts gX0_init_X2_init rfl rfl rfl (hts (.initialized RX2) (List.mem_of_getElem? (i := 7) rfl)) (hts (.methodLink RX0 17 yX2_init) (List.mem_of_getElem? (i := 8) rfl)) (hts (.instanceMethod yX2_init) (List.mem_of_getElem? (i := 9) rfl)) rfl hdS_X2_init ⟨Nat.le_of_ble_eq_true rfl, Nat.le_of_ble_eq_true rfl⟩) ⟨PM_blind, PM_at (hP.sub (ws' := ([(q5, .inr (2, [.null, .null, .null, .null, .int 0, .int 0, .int 0, .int 0, .int 0]))] : va_W)) [24] rfl) (hD.sub (ws' := ([(q5, .inr (2, [.null, .null, .null, .null, .int 0, .int 0, .int 0, .int 0, .int 0]))] : va_W)) [24] (by decide) rfl) hK⟩ rfl rfl hl.1 rfl (lv_room (Nat.le_of_ble_eq_true rfl)) dX0_init_32 ⟨Nat.le_of_ble_eq_true rfl, Nat.le_of_ble_eq_true rfl⟩) hS hA hP hD [24] [0, 1, 2, 3, 4, 5, 6, 7, 8, 9, 10, 11, 12, 13, 14, 15, 16, 17, 18, 19, 20, 21, 22, 23] rfl rfl (by decide) (by decide) (fun u6 H locs huu6 hP9 hD9 hS9 => ?_)
  clear hP hD hS
  subst huu6
  have hP : va_P D vwCl (([(h, .inr (0, [.ref q0, .int 0])), (q0, .inl (T 3, 4, .inr (.inr (.inr (.inr (va_up (va_up (fun _ => none) 0 (some (u2 0))) 1 (some (u4 0))))))))] : va_W) ++ stW T u2 x ++ stW T u4 x ++ stW T u6 x) H := hP9
  have hD : va_D A (([(h, .inr (0, [.ref q0, .int 0])), (q0, .inl (T 3, 4, .inr (.inr (.inr (.inr (va_up (va_up (fun _ => none) 0 (some (u2 0))) 1 (some (u4 0))))))))] : va_W) ++ stW T u2 x ++ stW T u4 x ++ stW T u6 x) := hD9
  have hS := hS9
  clear hP9 hD9 hS9
  refine va_astq hx hb hK.1 hP hD hS 1 3 24 2 rfl rfl rfl rfl (show ¬ ((2 : Int32) < 0 ∨ 4 ≤ Int32.toNatClampNeg 2) from by decide) dX0_init_35 (fun H locs hP hD hS => ?_)
  rw [show Int32.toNatClampNeg 2 = 2 from by decide] at hP hD
  replace hP : va_P D vwCl (([(h, .inr (0, [.ref q0, .int 0])), (q0, .inl (T 3, 4, .inr (.inr (.inr (.inr (va_up (va_up (va_up (fun _ => none) 0 (some (u2 0))) 1 (some (u4 0))) 2 (some (u6 0))))))))] : va_W) ++ stW T u2 x ++ stW T u4 x ++ stW T u6 x) H := hP
  replace hD : va_D A (([(h, .inr (0, [.ref q0, .int 0])), (q0, .inl (T 3, 4, .inr (.inr (.inr (.inr (va_up (va_up (va_up (fun _ => none) 0 (some (u2 0))) 1 (some (u4 0))) 2 (some (u6 0))))))))] : va_W) ++ stW T u2 x ++ stW T u4 x ++ stW T u6 x) := hD
  refine lv_iinc (v := 3) (lv' := [(1, .int 3), (0, .ref h)]) hx hb dX0_init_36 hl (k := 0) rfl (by decide) (by decide) rfl (fun ls hl => ?_)
  refine lv_goto (tgt := 14) hx hb dX0_init_39 (by decide) ?_
  refine lv_iload_n hx hb dX0_init_14 rfl (lv_at hl 0 rfl) ?_
  refine lv_aload_n hx hb dX0_init_15 rfl (lv_at hl 1 rfl) ?_
  refine va_get (D := D) (ci := 0) (v := .ref q0) (C := RX0) (T := TX0) (N := 2) hx hb hts inX0_init_0 hown hK.1 hP 0 rfl rfl 0 (by decide) (hts (.fieldLink RX0 11 "LyingScale$History" "states" "[LLyingScale$State;") (List.mem_of_getElem? (i := 5) rfl)) (fun _ h9 => h9) rfl dX0_init_16 ?_
  refine va_alen hx hb hK.1 hP 1 3 rfl rfl (v := 4) rfl dX0_init_19 ?_
  refine lv_icmp_ge (tgt := 42) hx hb dX0_init_20 (by decide) (fun c => absurd c (by decide)) (fun _ => ?_)
  refine lv_aload_n hx hb dX0_init_23 rfl (lv_at hl 1 rfl) ?_
  refine va_get (D := D) (ci := 0) (v := .ref q0) (C := RX0) (T := TX0) (N := 2) hx hb hts inX0_init_0 hown hK.1 hP 0 rfl rfl 0 (by decide) (hts (.fieldLink RX0 11 "LyingScale$History" "states" "[LLyingScale$State;") (List.mem_of_getElem? (i := 5) rfl)) (fun _ h9 => h9) rfl dX0_init_24 ?_
  refine lv_iload_n hx hb dX0_init_27 rfl (lv_at hl 0 rfl) ?_
  refine va_new (ci := 2) (fs := [.null, .null, .null, .null, .int 0, .int 0, .int 0, .int 0, .int 0]) (C := RX2) (T := TX2) (N := 9) hx hb hts inX0_init_2 tyX2 tyX2_ok hown (hts (.classLink RX0 9 RX2) (List.mem_of_getElem? (i := 4) rfl)) (hts (.instantiable RX2 9) (List.mem_of_getElem? (i := 6) rfl)) (hts (.initialized RX2) (List.mem_of_getElem? (i := 7) rfl)) hK.1 hP hD hS hA rfl (fun j hj => by rcases (show j = 0 ∨ j = 1 ∨ j = 2 ∨ j = 3 ∨ j = 4 ∨ j = 5 ∨ j = 6 ∨ j = 7 ∨ j = 8 by omega) with rfl | rfl | rfl | rfl | rfl | rfl | rfl | rfl | rfl <;> rfl) (Nat.le_of_ble_eq_true rfl) (Nat.le_of_ble_eq_true rfl) dX0_init_28 (fun q7 H hP hD hS => ?_)
  replace hP : va_P D vwCl (([(h, .inr (0, [.ref q0, .int 0])), (q0, .inl (T 3, 4, .inr (.inr (.inr (.inr (va_up (va_up (va_up (fun _ => none) 0 (some (u2 0))) 1 (some (u4 0))) 2 (some (u6 0))))))))] : va_W) ++ stW T u2 x ++ stW T u4 x ++ stW T u6 x ++ [(q7, .inr (2, [.null, .null, .null, .null, .int 0, .int 0, .int 0, .int 0, .int 0]))]) H := hP
  replace hD : va_D A (([(h, .inr (0, [.ref q0, .int 0])), (q0, .inl (T 3, 4, .inr (.inr (.inr (.inr (va_up (va_up (va_up (fun _ => none) 0 (some (u2 0))) 1 (some (u4 0))) 2 (some (u6 0))))))))] : va_W) ++ stW T u2 x ++ stW T u4 x ++ stW T u6 x ++ [(q7, .inr (2, [.null, .null, .null, .null, .int 0, .int 0, .int 0, .int 0, .int 0]))]) := hD
  refine lv_dup hx hb dX0_init_31 rfl ?_
  refine callCv (wr := ([(h, .inr (0, [.ref q0, .int 0])), (q0, .inl (T 3, 4, .inr (.inr (.inr (.inr (va_up (va_up (va_up (fun _ => none) 0 (some (u2 0))) 1 (some (u4 0))) 2 (some (u6 0))))))))] : va_W) ++ stW T u2 x ++ stW T u4 x ++ stW T u6 x) (va_runI (As := []) (rest := [.ref q7, .int 3, .ref q0]) ⟨hx, hb, hml, hown, hts⟩ (c_X2_init l D T q7 _ x hx9) (cwI 0 hts gX0_init_X2_init rfl rfl rfl (hts (.initialized RX2) (List.mem_of_getElem? (i := 7) rfl)) (hts (.methodLink RX0 17 yX2_init) (List.mem_of_getElem? (i := 8) rfl)) (hts (.instanceMethod yX2_init) (List.mem_of_getElem? (i := 9) rfl)) rfl hdS_X2_init ⟨Nat.le_of_ble_eq_true rfl, Nat.le_of_ble_eq_true rfl⟩) ⟨PM_blind, PM_at (hP.sub (ws' := ([(q7, .inr (2, [.null, .null, .null, .null, .int 0, .int 0, .int 0, .int 0, .int 0]))] : va_W)) [35] rfl) (hD.sub (ws' := ([(q7, .inr (2, [.null, .null, .null, .null, .int 0, .int 0, .int 0, .int 0, .int 0]))] : va_W)) [35] (by decide) rfl) hK⟩ rfl rfl hl.1 rfl (lv_room (Nat.le_of_ble_eq_true rfl)) dX0_init_32 ⟨Nat.le_of_ble_eq_true rfl, Nat.le_of_ble_eq_true rfl⟩) hS hA hP hD [35] [0, 1, 2, 3, 4, 5, 6, 7, 8, 9, 10, 11, 12, 13, 14, 15, 16, 17, 18, 19, 20, 21, 22, 23, 24, 25, 26, 27, 28, 29, 30, 31, 32, 33, 34] rfl rfl (by decide) (by decide) (fun u8 H locs huu8 hP9 hD9 hS9 => ?_)
  clear hP hD hS
  subst huu8
  have hP : va_P D vwCl (([(h, .inr (0, [.ref q0, .int 0])), (q0, .inl (T 3, 4, .inr (.inr (.inr (.inr (va_up (va_up (va_up (fun _ => none) 0 (some (u2 0))) 1 (some (u4 0))) 2 (some (u6 0))))))))] : va_W) ++ stW T u2 x ++ stW T u4 x ++ stW T u6 x ++ stW T u8 x) H := hP9
  have hD : va_D A (([(h, .inr (0, [.ref q0, .int 0])), (q0, .inl (T 3, 4, .inr (.inr (.inr (.inr (va_up (va_up (va_up (fun _ => none) 0 (some (u2 0))) 1 (some (u4 0))) 2 (some (u6 0))))))))] : va_W) ++ stW T u2 x ++ stW T u4 x ++ stW T u6 x ++ stW T u8 x) := hD9
  have hS := hS9
  clear hP9 hD9 hS9
  refine va_astq hx hb hK.1 hP hD hS 1 3 35 2 rfl rfl rfl rfl (show ¬ ((3 : Int32) < 0 ∨ 4 ≤ Int32.toNatClampNeg 3) from by decide) dX0_init_35 (fun H locs hP hD hS => ?_)
  rw [show Int32.toNatClampNeg 3 = 3 from by decide] at hP hD
  replace hP : va_P D vwCl (([(h, .inr (0, [.ref q0, .int 0])), (q0, .inl (T 3, 4, .inr (.inr (.inr (.inr (va_up (va_up (va_up (va_up (fun _ => none) 0 (some (u2 0))) 1 (some (u4 0))) 2 (some (u6 0))) 3 (some (u8 0))))))))] : va_W) ++ stW T u2 x ++ stW T u4 x ++ stW T u6 x ++ stW T u8 x) H := hP
  replace hD : va_D A (([(h, .inr (0, [.ref q0, .int 0])), (q0, .inl (T 3, 4, .inr (.inr (.inr (.inr (va_up (va_up (va_up (va_up (fun _ => none) 0 (some (u2 0))) 1 (some (u4 0))) 2 (some (u6 0))) 3 (some (u8 0))))))))] : va_W) ++ stW T u2 x ++ stW T u4 x ++ stW T u6 x ++ stW T u8 x) := hD
  refine lv_iinc (v := 4) (lv' := [(1, .int 4), (0, .ref h)]) hx hb dX0_init_36 hl (k := 0) rfl (by decide) (by decide) rfl (fun ls hl => ?_)
  refine lv_goto (tgt := 14) hx hb dX0_init_39 (by decide) ?_
  refine lv_iload_n hx hb dX0_init_14 rfl (lv_at hl 0 rfl) ?_
  refine lv_aload_n hx hb dX0_init_15 rfl (lv_at hl 1 rfl) ?_
  refine va_get (D := D) (ci := 0) (v := .ref q0) (C := RX0) (T := TX0) (N := 2) hx hb hts inX0_init_0 hown hK.1 hP 0 rfl rfl 0 (by decide) (hts (.fieldLink RX0 11 "LyingScale$History" "states" "[LLyingScale$State;") (List.mem_of_getElem? (i := 5) rfl)) (fun _ h9 => h9) rfl dX0_init_16 ?_
  refine va_alen hx hb hK.1 hP 1 3 rfl rfl (v := 4) rfl dX0_init_19 ?_
  refine lv_icmp_ge (tgt := 42) hx hb dX0_init_20 (by decide) (fun _ => ?_) (fun c => absurd c (by decide))
  rw [show va_up (va_up (va_up (va_up (fun _ => none) 0 (some (u2 0))) 1 (some (u4 0))) 2 (some (u6 0))) 3 (some (u8 0)) = hsQ (fun b => match b with | 1 => u2 | 2 => u4 | 3 => u6 | 4 => u8 | _ => fun k => match k with | 1 => h | _ => q0) from hsq_new (fun b => match b with | 1 => u2 | 2 => u4 | 3 => u6 | 4 => u8 | _ => fun k => match k with | 1 => h | _ => q0)] at hP hD
  replace hP : va_P D vwCl (([(h, .inr (0, [.ref q0, .int 0])), (q0, .inl (T 3, 4, .inr (.inr (.inr (.inr (hsQ (fun b => match b with | 1 => u2 | 2 => u4 | 3 => u6 | 4 => u8 | _ => fun k => match k with | 1 => h | _ => q0)))))))] : va_W) ++ stW T u2 x ++ stW T u4 x ++ stW T u6 x ++ stW T u8 x) H := hP
  replace hD : va_D A (([(h, .inr (0, [.ref q0, .int 0])), (q0, .inl (T 3, 4, .inr (.inr (.inr (.inr (hsQ (fun b => match b with | 1 => u2 | 2 => u4 | 3 => u6 | 4 => u8 | _ => fun k => match k with | 1 => h | _ => q0)))))))] : va_W) ++ stW T u2 x ++ stW T u4 x ++ stW T u6 x ++ stW T u8 x) := hD
  have hP9 := hP.sub (ws' := hiW T (fun b => match b with | 1 => u2 | 2 => u4 | 3 => u6 | 4 => u8 | _ => fun k => match k with | 1 => h | _ => q0) x) [0, 1, 2, 3, 4, 5, 6, 7, 8, 9, 10, 11, 12, 13, 14, 15, 16, 17, 18, 19, 20, 21, 22, 23, 24, 25, 26, 27, 28, 29, 30, 31, 32, 33, 34, 35, 36, 37, 38, 39, 40, 41, 42, 43, 44, 45] rfl
  have hD9 := hD.sub (ws' := hiW T (fun b => match b with | 1 => u2 | 2 => u4 | 3 => u6 | 4 => u8 | _ => fun k => match k with | 1 => h | _ => q0) x) [0, 1, 2, 3, 4, 5, 6, 7, 8, 9, 10, 11, 12, 13, 14, 15, 16, 17, 18, 19, 20, 21, 22, 23, 24, 25, 26, 27, 28, 29, 30, 31, 32, 33, 34, 35, 36, 37, 38, 39, 40, 41, 42, 43, 44, 45] (by decide +kernel) rfl
  refine W.widen (k := 45) (n := 912) (Nat.le_of_ble_eq_true rfl) (Nat.le_of_ble_eq_true rfl) ?_
  exact W.vret hx hb hr (fun t ht hW => ⟨⟨(fun b => match b with | 1 => u2 | 2 => u4 | 3 => u6 | 4 => u8 | _ => fun k => match k with | 1 => h | _ => q0), rfl, rfl, by rw [ht]; exact hP9, hD9⟩, hS.F ht⟩) hS.2.2 dX0_init_42 hlocks
theorem hdS_X4_init : yX4_init.cls ≠ "java/lang/invoke/MethodHandle" ∧ yX4_init.cls ≠ "java/lang/invoke/VarHandle" ∧ (parseMethodDescriptor yX4_init.desc).map (fun d => d.parameters.length) = some 0 := by decide +kernel
theorem inX4_init_0 : ∀ w ∈ u_ws RX0 TX0 2, w ∈ wsX4_init := by decide +kernel
theorem inX4_init_1 : ∀ w ∈ u_ws RX1 TX1 9, w ∈ wsX4_init := by decide +kernel
theorem inX4_init_2 : ∀ w ∈ u_ws RX2 TX2 9, w ∈ wsX4_init := by decide +kernel
theorem inX4_init_4 : ∀ w ∈ u_ws RX4 TX4 3, w ∈ wsX4_init := by decide +kernel
set_option maxHeartbeats 4000000 in
set_option maxRecDepth 100000 in
theorem c_X4_init (l : Launch) (D : va_G) (T : Nat → ClassId) (h : Nat) (sz : Nat) (x : St) (hx9 : F_X2_start z00 8 = some x) : Met l yX4_init wsX4_init ({ frames := 5, cells := 62, slots := 1310, locals := 105 } : Room) (va_Pc [.ref h] (PAO D T (([(h, .inr (4, [.null, .null, .null]))] : va_W)) sz)) (QCv D (fun u : AT => scW T h u (zN x)) (fun _ => True) (va_A (([(h, .inr (4, [.null, .null, .null]))] : va_W)) sz)) 62 1310 (va_A (([(h, .inr (4, [.null, .null, .null]))] : va_W)) sz) := by
  refine met_of (cc := cX4_init) (maxL := 1) (ret := none) (lv := [(0, .ref h)]) (by decide) rfl (Nat.le_of_ble_eq_true rfl) rfl ?_
  intro p e s m args below meth c ls C0 hl hB
  obtain ⟨hx, hb, hr, hml, hown, hts, hlocks, hname⟩ := C0
  obtain ⟨⟨hsz, hP, hK, hD0⟩, hAO⟩ := hB
  subst hsz
  have hD := hD0.self (sz := s.heap.size)
  generalize hAe : va_A (([(h, .inr (4, [.null, .null, .null]))] : va_W)) s.heap.size = A at hD ⊢
  have hA : ∀ q : Nat, s.heap.size ≤ q → A q := fun q h => by rw [← hAe]; exact Or.inr h
  have hS : va_S A s.heap s.heap [] := va_S.rf
  refine lv_aload_n hx hb dX4_init_0 rfl (lv_at hl 0 rfl) ?_
  refine W.objInit hx hb hown (hts (.methodLink RX4 3 objectInit) (List.mem_of_getElem? (i := 1) rfl)) (hts (.instanceMethod objectInit) (List.mem_of_getElem? (i := 2) rfl)) (hts (.code objectInit ⟨#[0xb1]⟩ 1 none) (List.mem_of_getElem? (i := 3) rfl)) rfl (hl.1.trans hml.symm) rfl dX4_init_1 (Nat.le_of_ble_eq_true rfl) (Nat.le_of_ble_eq_true rfl) ?_
  refine W.eq (g2 := F0 m 4 ls []) rfl ?_
  refine lv_aload_n hx hb dX4_init_4 rfl (lv_at hl 0 rfl) ?_
  refine va_new (ci := 2) (fs := [.null, .null, .null, .null, .int 0, .int 0, .int 0, .int 0, .int 0]) (C := RX2) (T := TX2) (N := 9) hx hb hts inX4_init_2 tyX2 tyX2_ok hown (hts (.classLink RX4 9 RX2) (List.mem_of_getElem? (i := 4) rfl)) (hts (.instantiable RX2 9) (List.mem_of_getElem? (i := 5) rfl)) (hts (.initialized RX2) (List.mem_of_getElem? (i := 6) rfl)) hK.1 hP hD hS hA rfl (fun j hj => by rcases (show j = 0 ∨ j = 1 ∨ j = 2 ∨ j = 3 ∨ j = 4 ∨ j = 5 ∨ j = 6 ∨ j = 7 ∨ j = 8 by omega) with rfl | rfl | rfl | rfl | rfl | rfl | rfl | rfl | rfl <;> rfl) (Nat.le_of_ble_eq_true rfl) (Nat.le_of_ble_eq_true rfl) dX4_init_5 (fun q0 H hP hD hS => ?_)
  replace hP : va_P D vwCl (([(h, .inr (4, [.null, .null, .null])), (q0, .inr (2, [.null, .null, .null, .null, .int 0, .int 0, .int 0, .int 0, .int 0]))] : va_W)) H := hP
  replace hD : va_D A (([(h, .inr (4, [.null, .null, .null])), (q0, .inr (2, [.null, .null, .null, .null, .int 0, .int 0, .int 0, .int 0, .int 0]))] : va_W)) := hD
  refine lv_dup hx hb dX4_init_8 rfl ?_
  refine callCv (wr := ([(h, .inr (4, [.null, .null, .null]))] : va_W)) (va_runI (As := []) (rest := [.ref q0, .ref h]) ⟨hx, hb, hml, hown, hts⟩ (c_X2_init l D T q0 _ x hx9) (cwI 0 hts gX4_init_X2_init rfl rfl rfl (hts (.initialized RX2) (List.mem_of_getElem? (i := 6) rfl)) (hts (.methodLink RX4 11 yX2_init) (List.mem_of_getElem? (i := 16) rfl)) (hts (.instanceMethod yX2_init) (List.mem_of_getElem? (i := 17) rfl)) rfl hdS_X2_init ⟨Nat.le_of_ble_eq_true rfl, Nat.le_of_ble_eq_true rfl⟩) ⟨PM_blind, PM_at (hP.sub (ws' := ([(q0, .inr (2, [.null, .null, .null, .null, .int 0, .int 0, .int 0, .int 0, .int 0]))] : va_W)) [1] rfl) (hD.sub (ws' := ([(q0, .inr (2, [.null, .null, .null, .null, .int 0, .int 0, .int 0, .int 0, .int 0]))] : va_W)) [1] (by decide) rfl) hK⟩ rfl rfl hl.1 rfl (lv_room (Nat.le_of_ble_eq_true rfl)) dX4_init_9 ⟨Nat.le_of_ble_eq_true rfl, Nat.le_of_ble_eq_true rfl⟩) hS hA hP hD [1] [0] rfl rfl (by decide) (by decide) (fun u1 H locs huu1 hP9 hD9 hS9 => ?_)
  clear hP hD hS
  subst huu1
  have hP : va_P D vwCl (([(h, .inr (4, [.null, .null, .null]))] : va_W) ++ stW T u1 x) H := hP9
  have hD : va_D A (([(h, .inr (4, [.null, .null, .null]))] : va_W) ++ stW T u1 x) := hD9
  have hS := hS9
  clear hP9 hD9 hS9
  refine va_putF (D := D) (ci := 4) (v := .ref (u1 0)) (ty := .object "LyingScale$State") (C := RX4) (T := TX4) (N := 3) hx hb hts inX4_init_4 tyX4 tyX4_ok nmX4 hown hK.1 hP hD hS 0 rfl rfl 0 (by decide) (hts (.fieldLink RX4 12 "LyingScale" "now" "LLyingScale$State;") (List.mem_of_getElem? (i := 7) rfl)) (fun _ h9 => h9) rfl hname rfl (by decide +kernel) rfl rfl (Nat.le_of_ble_eq_true rfl) dX4_init_12 (fun H locs hP hD hS => ?_)
  replace hP : va_P D vwCl (([(h, .inr (4, [.ref (u1 0), .null, .null]))] : va_W) ++ stW T u1 x) H := hP
  replace hD : va_D A (([(h, .inr (4, [.ref (u1 0), .null, .null]))] : va_W) ++ stW T u1 x) := hD
  refine lv_aload_n hx hb dX4_init_15 rfl (lv_at hl 0 rfl) ?_
  refine va_new (ci := 0) (fs := [.null, .int 0]) (C := RX0) (T := TX0) (N := 2) hx hb hts inX4_init_0 tyX0 tyX0_ok hown (hts (.classLink RX4 16 RX0) (List.mem_of_getElem? (i := 8) rfl)) (hts (.instantiable RX0 2) (List.mem_of_getElem? (i := 9) rfl)) (hts (.initialized RX0) (List.mem_of_getElem? (i := 10) rfl)) hK.1 hP hD hS hA rfl (fun j hj => by rcases (show j = 0 ∨ j = 1 by omega) with rfl | rfl <;> rfl) (Nat.le_of_ble_eq_true rfl) (Nat.le_of_ble_eq_true rfl) dX4_init_16 (fun q2 H hP hD hS => ?_)
  replace hP : va_P D vwCl (([(h, .inr (4, [.ref (u1 0), .null, .null]))] : va_W) ++ stW T u1 x ++ [(q2, .inr (0, [.null, .int 0]))]) H := hP
  replace hD : va_D A (([(h, .inr (4, [.ref (u1 0), .null, .null]))] : va_W) ++ stW T u1 x ++ [(q2, .inr (0, [.null, .int 0]))]) := hD
  refine lv_dup hx hb dX4_init_19 rfl ?_
  refine callCv (wr := ([(h, .inr (4, [.ref (u1 0), .null, .null]))] : va_W) ++ stW T u1 x) (va_runI (As := []) (rest := [.ref q2, .ref h]) ⟨hx, hb, hml, hown, hts⟩ (c_X0_init l D T q2 _ x hx9) (cwI 0 hts gX4_init_X0_init rfl rfl rfl (hts (.initialized RX0) (List.mem_of_getElem? (i := 10) rfl)) (hts (.methodLink RX4 18 yX0_init) (List.mem_of_getElem? (i := 59) rfl)) (hts (.instanceMethod yX0_init) (List.mem_of_getElem? (i := 60) rfl)) rfl hdS_X0_init ⟨Nat.le_of_ble_eq_true rfl, Nat.le_of_ble_eq_true rfl⟩) ⟨PAO_blind, PAO_at (hP.sub (ws' := ([(q2, .inr (0, [.null, .int 0]))] : va_W)) [12] rfl) (hD.sub (ws' := ([(q2, .inr (0, [.null, .int 0]))] : va_W)) [12] (by decide) rfl) hK hAO⟩ rfl rfl hl.1 rfl (lv_room (Nat.le_of_ble_eq_true rfl)) dX4_init_20 ⟨Nat.le_of_ble_eq_true rfl, Nat.le_of_ble_eq_true rfl⟩) hS hA hP hD [12] [0, 1, 2, 3, 4, 5, 6, 7, 8, 9, 10, 11] rfl rfl (by decide) (by decide) (fun u3 H locs huu3 hP9 hD9 hS9 => ?_)
  clear hP hD hS
  subst huu3
  have hP : va_P D vwCl (([(h, .inr (4, [.ref (u1 0), .null, .null]))] : va_W) ++ stW T u1 x ++ hiW T u3 x) H := hP9
  have hD : va_D A (([(h, .inr (4, [.ref (u1 0), .null, .null]))] : va_W) ++ stW T u1 x ++ hiW T u3 x) := hD9
  have hS := hS9
  clear hP9 hD9 hS9
  refine va_putF (D := D) (ci := 4) (v := .ref (u3 6 1)) (ty := .object "LyingScale$History") (C := RX4) (T := TX4) (N := 3) hx hb hts inX4_init_4 tyX4 tyX4_ok nmX4 hown hK.1 hP hD hS 0 rfl rfl 1 (by decide) (hts (.fieldLink RX4 19 "LyingScale" "history" "LLyingScale$History;") (List.mem_of_getElem? (i := 11) rfl)) (fun _ h9 => h9) rfl hname rfl (by decide +kernel) rfl rfl (Nat.le_of_ble_eq_true rfl) dX4_init_23 (fun H locs hP hD hS => ?_)
  replace hP : va_P D vwCl (([(h, .inr (4, [.ref (u1 0), .ref (u3 6 1), .null]))] : va_W) ++ stW T u1 x ++ hiW T u3 x) H := hP
  replace hD : va_D A (([(h, .inr (4, [.ref (u1 0), .ref (u3 6 1), .null]))] : va_W) ++ stW T u1 x ++ hiW T u3 x) := hD
  refine lv_aload_n hx hb dX4_init_26 rfl (lv_at hl 0 rfl) ?_
  refine va_new (ci := 1) (fs := [.null, .null, .null, .null, .int 0, .int 0, .int 0, .int 0, .int 0]) (C := RX1) (T := TX1) (N := 9) hx hb hts inX4_init_1 tyX1 tyX1_ok hown (hts (.classLink RX4 23 RX1) (List.mem_of_getElem? (i := 12) rfl)) (hts (.instantiable RX1 9) (List.mem_of_getElem? (i := 13) rfl)) (hts (.initialized RX1) (List.mem_of_getElem? (i := 14) rfl)) hK.1 hP hD hS hA rfl (fun j hj => by rcases (show j = 0 ∨ j = 1 ∨ j = 2 ∨ j = 3 ∨ j = 4 ∨ j = 5 ∨ j = 6 ∨ j = 7 ∨ j = 8 by omega) with rfl | rfl | rfl | rfl | rfl | rfl | rfl | rfl | rfl <;> rfl) (Nat.le_of_ble_eq_true rfl) (Nat.le_of_ble_eq_true rfl) dX4_init_27 (fun q4 H hP hD hS => ?_)
  replace hP : va_P D vwCl (([(h, .inr (4, [.ref (u1 0), .ref (u3 6 1), .null]))] : va_W) ++ stW T u1 x ++ hiW T u3 x ++ [(q4, .inr (1, [.null, .null, .null, .null, .int 0, .int 0, .int 0, .int 0, .int 0]))]) H := hP
  replace hD : va_D A (([(h, .inr (4, [.ref (u1 0), .ref (u3 6 1), .null]))] : va_W) ++ stW T u1 x ++ hiW T u3 x ++ [(q4, .inr (1, [.null, .null, .null, .null, .int 0, .int 0, .int 0, .int 0, .int 0]))]) := hD
  refine lv_dup hx hb dX4_init_30 rfl ?_
  refine callCv (wr := ([(h, .inr (4, [.ref (u1 0), .ref (u3 6 1), .null]))] : va_W) ++ stW T u1 x ++ hiW T u3 x) (va_runI (As := []) (rest := [.ref q4, .ref h]) ⟨hx, hb, hml, hown, hts⟩ (c_X1_init l D T q4 _) (cwI 0 hts gX4_init_X1_init rfl rfl rfl (hts (.initialized RX1) (List.mem_of_getElem? (i := 14) rfl)) (hts (.methodLink RX4 25 yX1_init) (List.mem_of_getElem? (i := 66) rfl)) (hts (.instanceMethod yX1_init) (List.mem_of_getElem? (i := 67) rfl)) rfl hdS_X1_init ⟨Nat.le_of_ble_eq_true rfl, Nat.le_of_ble_eq_true rfl⟩) ⟨PM_blind, PM_at (hP.sub (ws' := ([(q4, .inr (1, [.null, .null, .null, .null, .int 0, .int 0, .int 0, .int 0, .int 0]))] : va_W)) [58] rfl) (hD.sub (ws' := ([(q4, .inr (1, [.null, .null, .null, .null, .int 0, .int 0, .int 0, .int 0, .int 0]))] : va_W)) [58] (by decide) rfl) hK⟩ rfl rfl hl.1 rfl (lv_room (Nat.le_of_ble_eq_true rfl)) dX4_init_31 ⟨Nat.le_of_ble_eq_true rfl, Nat.le_of_ble_eq_true rfl⟩) hS hA hP hD [58] [0, 1, 2, 3, 4, 5, 6, 7, 8, 9, 10, 11, 12, 13, 14, 15, 16, 17, 18, 19, 20, 21, 22, 23, 24, 25, 26, 27, 28, 29, 30, 31, 32, 33, 34, 35, 36, 37, 38, 39, 40, 41, 42, 43, 44, 45, 46, 47, 48, 49, 50, 51, 52, 53, 54, 55, 56, 57] rfl rfl (by decide) (by decide) (fun u5 H locs huu5 hP9 hD9 hS9 => ?_)
  clear hP hD hS
  subst huu5
  have hP : va_P D vwCl (([(h, .inr (4, [.ref (u1 0), .ref (u3 6 1), .null]))] : va_W) ++ stW T u1 x ++ hiW T u3 x ++ orW T u5 z00) H := hP9
  have hD : va_D A (([(h, .inr (4, [.ref (u1 0), .ref (u3 6 1), .null]))] : va_W) ++ stW T u1 x ++ hiW T u3 x ++ orW T u5 z00) := hD9
  have hS := hS9
  clear hP9 hD9 hS9
  refine va_putF (D := D) (ci := 4) (v := .ref (u5 0)) (ty := .object "LyingScale$Orders") (C := RX4) (T := TX4) (N := 3) hx hb hts inX4_init_4 tyX4 tyX4_ok nmX4 hown hK.1 hP hD hS 0 rfl rfl 2 (by decide) (hts (.fieldLink RX4 26 "LyingScale" "orders" "LLyingScale$Orders;") (List.mem_of_getElem? (i := 15) rfl)) (fun _ h9 => h9) rfl hname rfl (by decide +kernel) rfl rfl (Nat.le_of_ble_eq_true rfl) dX4_init_34 (fun H locs hP hD hS => ?_)
  replace hP : va_P D vwCl (([(h, .inr (4, [.ref (u1 0), .ref (u3 6 1), .ref (u5 0)]))] : va_W) ++ stW T u1 x ++ hiW T u3 x ++ orW T u5 z00) H := hP
  replace hD : va_D A (([(h, .inr (4, [.ref (u1 0), .ref (u3 6 1), .ref (u5 0)]))] : va_W) ++ stW T u1 x ++ hiW T u3 x ++ orW T u5 z00) := hD
  replace hP : va_P D vwCl (([(h, .inr (4, [.ref (u1 0), .ref (u3 6 1), .ref (u5 0)]))] : va_W) ++ stW T u1 x ++ [(u3 6 1, .inr (0, [.ref (u3 6 2), .int 0])), (u3 6 2, .inl (T 3, 4, .inr (.inr (.inr (.inr (hsQ u3))))))] ++ ((stW T (u3 1) x ++ (stW T (u3 2) x ++ (stW T (u3 3) x ++ stW T (u3 4) x)))) ++ orW T u5 z00) H := hP
  replace hD : va_D A (([(h, .inr (4, [.ref (u1 0), .ref (u3 6 1), .ref (u5 0)]))] : va_W) ++ stW T u1 x ++ [(u3 6 1, .inr (0, [.ref (u3 6 2), .int 0])), (u3 6 2, .inl (T 3, 4, .inr (.inr (.inr (.inr (hsQ u3))))))] ++ ((stW T (u3 1) x ++ (stW T (u3 2) x ++ (stW T (u3 3) x ++ stW T (u3 4) x)))) ++ orW T u5 z00) := hD
  rw [show hsQ u3 = hsQ (fun b => match b with | 0 => u1 | 5 => u5 | b => u3 b) from hsQ_congr rfl rfl rfl rfl] at hP hD
  replace hP : va_P D vwCl (([(h, .inr (4, [.ref (u1 0), .ref (u3 6 1), .ref (u5 0)]))] : va_W) ++ stW T u1 x ++ [(u3 6 1, .inr (0, [.ref (u3 6 2), .int 0])), (u3 6 2, .inl (T 3, 4, .inr (.inr (.inr (.inr (hsQ (fun b => match b with | 0 => u1 | 5 => u5 | b => u3 b)))))))] ++ ((stW T (u3 1) x ++ (stW T (u3 2) x ++ (stW T (u3 3) x ++ stW T (u3 4) x)))) ++ orW T u5 z00) H := hP
  replace hD : va_D A (([(h, .inr (4, [.ref (u1 0), .ref (u3 6 1), .ref (u5 0)]))] : va_W) ++ stW T u1 x ++ [(u3 6 1, .inr (0, [.ref (u3 6 2), .int 0])), (u3 6 2, .inl (T 3, 4, .inr (.inr (.inr (.inr (hsQ (fun b => match b with | 0 => u1 | 5 => u5 | b => u3 b)))))))] ++ ((stW T (u3 1) x ++ (stW T (u3 2) x ++ (stW T (u3 3) x ++ stW T (u3 4) x)))) ++ orW T u5 z00) := hD
  have hP9 := hP.sub (ws' := scW T h (fun b => match b with | 0 => u1 | 5 => u5 | b => u3 b) (zN x)) [0, 12, 13, 1, 2, 3, 4, 5, 6, 7, 8, 9, 10, 11, 14, 15, 16, 17, 18, 19, 20, 21, 22, 23, 24, 25, 26, 27, 28, 29, 30, 31, 32, 33, 34, 35, 36, 37, 38, 39, 40, 41, 42, 43, 44, 45, 46, 47, 48, 49, 50, 51, 52, 53, 54, 55, 56, 57, 58, 59, 60, 61, 62] rfl
  have hD9 := hD.sub (ws' := scW T h (fun b => match b with | 0 => u1 | 5 => u5 | b => u3 b) (zN x)) [0, 12, 13, 1, 2, 3, 4, 5, 6, 7, 8, 9, 10, 11, 14, 15, 16, 17, 18, 19, 20, 21, 22, 23, 24, 25, 26, 27, 28, 29, 30, 31, 32, 33, 34, 35, 36, 37, 38, 39, 40, 41, 42, 43, 44, 45, 46, 47, 48, 49, 50, 51, 52, 53, 54, 55, 56, 57, 58, 59, 60, 61, 62] (by decide +kernel) rfl
  refine W.widen (k := 62) (n := 1310) (Nat.le_of_ble_eq_true rfl) (Nat.le_of_ble_eq_true rfl) ?_
  exact W.vret hx hb hr (fun t ht hW => ⟨⟨(fun b => match b with | 0 => u1 | 5 => u5 | b => u3 b), rfl, trivial, by rw [ht]; exact hP9, hD9⟩, hS.F ht⟩) hS.2.2 dX4_init_37 hlocks
