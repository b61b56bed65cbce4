/-! the law's body: a case a theorem -/
abbrev WL (T : Nat → ClassId) (h0 ho : Nat) (A : AT) (Z : ZT) (g : Nat → Int64) : va_W := scW T h0 A Z ++ ([(ho, .inl (T 2, 1, .inr (.inl g)))] : va_W)
abbrev AA (s : State) : Nat → Prop := fun q => s.heap.size ≤ q
theorem va_P.lf {D : va_G} {w1 w2 : va_W} {H : Heap} (h : va_P D vwCl (w1 ++ w2) H) : va_P D vwCl w1 H := fun k q hk => h k q (by rw [List.getElem?_append_left (List.getElem?_eq_some_iff.mp hk).1]; exact hk)
theorem va_P.rt {D : va_G} {w1 w2 : va_W} {H : Heap} (h : va_P D vwCl (w1 ++ w2) H) : va_P D vwCl w2 H := fun k q hk => h (w1.length + k) q (by rw [List.getElem?_append_right (Nat.le_add_right _ _), Nat.add_sub_cancel_left]; exact hk)
theorem lfi {w1 w2 : va_W} {k : Nat} {q : Nat × va_E} (hk : w1[k]? = some q) : (w1 ++ w2)[k]? = some q := by rw [List.getElem?_append_left (List.getElem?_eq_some_iff.mp hk).1]; exact hk
theorem rti {w1 w2 : va_W} {k : Nat} {q : Nat × va_E} (hk : w2[k]? = some q) : (w1 ++ w2)[w1.length + k]? = some q := by rw [List.getElem?_append_right (Nat.le_add_right _ _), Nat.add_sub_cancel_left]; exact hk
theorem va_D.lf {A : Nat → Prop} {w1 w2 : va_W} (h : va_D A (w1 ++ w2)) : va_D A w1 := ⟨fun i j p q hi hj e => h.1 i j p q (lfi hi) (lfi hj) e, fun k q hk => h.2 k q (lfi hk)⟩
theorem va_D.rt {A : Nat → Prop} {w1 w2 : va_W} (h : va_D A (w1 ++ w2)) : va_D A w2 := ⟨fun i j p q hi hj e => by have := h.1 _ _ p q (rti hi) (rti hj) e; omega, fun k q hk => h.2 _ q (rti hk)⟩
theorem va_D.ap {A : Nat → Prop} {w1 w2 : va_W} (h : va_D A (w1 ++ w2)) {i j : Nat} {p q : Nat × va_E} (hi : w1[i]? = some p) (hj : w2[j]? = some q) : p.1 ≠ q.1 := fun e => by
  have h1 := h.1 _ _ p q (lfi hi) (rti hj) e
  have h2 := (List.getElem?_eq_some_iff.mp hi).1
  omega
theorem fr_left {D : va_G} {A0 : Nat → Prop} {wc wr w1 : va_W} {H H1 : Heap} (hP : va_P D vwCl (wc ++ wr) H) (hD : va_D A0 (wc ++ wr)) (hk : ∀ q : Nat, q < H.size → ¬ va_A wc H.size q → H1[q]? = H[q]?) (hF : ∀ q, va_A wc H.size q → A0 q) (hP1 : va_P D vwCl w1 H1) (hD1 : va_D (va_A wc H.size) w1) : va_P D vwCl (w1 ++ wr) H1 ∧ va_D A0 (w1 ++ wr) := by
  have ap : ∀ (k : Nat) (q : Nat × va_E), wr[k]? = some q → q.1 < H.size ∧ ¬ va_A wc H.size q.1 := by
    intro k q hq
    refine ⟨(hP.rt k q hq).lt, fun h => ?_⟩
    rcases h with ⟨k2, e, h⟩ | h
    · exact hD.ap h hq rfl
    · have := (hP.rt k q hq).lt; omega
  refine ⟨hP1.app (fun k q hq => (hP.rt k q hq).kept (hk q.1 (ap k q hq).1 (ap k q hq).2)), (hD1.weaken (fun k q _ h => hF q.1 h)).app hD.rt (fun i j x y hx hy hxy => ?_)⟩
  exact (ap j y hy).2 (by rw [← hxy]; exact hD1.2 i x hx)
theorem fr_right {D : va_G} {A0 : Nat → Prop} {wc wl w1 : va_W} {H H1 : Heap} (hP : va_P D vwCl (wl ++ wc) H) (hD : va_D A0 (wl ++ wc)) (hk : ∀ q : Nat, q < H.size → ¬ va_A wc H.size q → H1[q]? = H[q]?) (hF : ∀ q, va_A wc H.size q → A0 q) (hP1 : va_P D vwCl w1 H1) (hD1 : va_D (va_A wc H.size) w1) : va_P D vwCl (wl ++ w1) H1 ∧ va_D A0 (wl ++ w1) := by
  have ap : ∀ (k : Nat) (q : Nat × va_E), wl[k]? = some q → q.1 < H.size ∧ ¬ va_A wc H.size q.1 := by
    intro k q hq
    refine ⟨(hP.lf k q hq).lt, fun h => ?_⟩
    rcases h with ⟨k2, e, h⟩ | h
    · exact hD.ap hq h rfl
    · have := (hP.lf k q hq).lt; omega
  refine ⟨va_P.app (fun k q hq => (hP.lf k q hq).kept (hk q.1 (ap k q hq).1 (ap k q hq).2)) hP1, hD.lf.app (hD1.weaken (fun k q _ h => hF q.1 h)) (fun i j x y hx hy hxy => ?_)⟩
  exact (ap i x hx).2 (by rw [hxy]; exact hD1.2 j y hy)
theorem fr_ll {D : va_G} {A0 : Nat → Prop} {wc wo wr w1 : va_W} {H H1 : Heap} (hP : va_P D vwCl (wc ++ wo ++ wr) H) (hD : va_D A0 (wc ++ wo ++ wr)) (hk : ∀ q : Nat, q < H.size → ¬ va_A wc H.size q → H1[q]? = H[q]?) (hF : ∀ q, va_A wc H.size q → A0 q) (hP1 : va_P D vwCl w1 H1) (hD1 : va_D (va_A wc H.size) w1) : va_P D vwCl (w1 ++ wo ++ wr) H1 ∧ va_D A0 (w1 ++ wo ++ wr) := by
  rw [List.append_assoc] at hP hD ⊢
  exact fr_left hP hD hk hF hP1 hD1
theorem lg_same (x : Int64) : lg_cmp x x = 0 := by
  unfold lg_cmp
  rw [if_neg (show ¬ x > x from Int64.lt_irrefl), if_pos rfl]
theorem ixl {i L j : Nat} (hi : i + 5 ≤ L) (hL : L ≤ 2560) (hj : j < 5) : vp_in (nI i + nI j) L := by rw [nI_add]; exact vp_in_nI (by omega) (by omega)
/-- what stands at every point of the law -/
def LX (p : Program) (s : State) (m : MethodId) (c : Code) (b L : Nat) (xs : Nat → Int32) (D : va_G) (T : Nat → ClassId) : Prop :=
  p.tables.exec = Jvm.exec ∧ c.code = cL_law ∧ c.maxLocals = 9 ∧ s.vm.findClass RL = some m.cls ∧ (∀ w ∈ wsL_law, w.before #[Value.ref b] s = true) ∧ va_X b L xs s s.heap ∧ b < s.heap.size ∧ KK D T s ∧ EXF (AA s) s ∧ NC s
/-- the loop's foot, as a case reaches it -/
def LK (p : Program) (l : Launch) (e : Env) (s : State) (m : MethodId) (b : Nat) (below : List Frame) (meth : Method) (c : Code) (D : va_G) (T : Nat → ClassId) (h0 ho : Nat) (bm : Nat → Nat) (I : ZT → St → Prop) (i cells slots : Nat) (Q : State → Prop) : Prop :=
  ∀ (Z : ZT) (x : St) (g : Nat → Int64) (A : AT) (H : Heap) (locs : List Loc) (ls : Array Slot), I Z x → va_P D vwCl (WL T h0 ho A Z g ++ mdW T bm x) H → va_D (AA s) (WL T h0 ho A Z g ++ mdW T bm x) → va_S (AA s) s.heap H locs → lv_has ls 9 [(4, .int (nI i)), (0, .ref b), (1, .ref h0), (2, .ref (bm 0)), (3, .ref ho)] →
    W p l e room_1 s m #[Value.ref b] below meth c H locs (cells + 1) (slots + 6) Q (F0 m 1554 ls [])
set_option maxHeartbeats 4000000 in
set_option maxRecDepth 100000 in
theorem lawc_begin {p : Program} {l : Launch} {e : Env} {s : State} {m : MethodId} {below : List Frame} {meth : Method} {c : Code} {b L : Nat} {xs : Nat → Int32} {D : va_G} {T : Nat → ClassId} {h0 ho : Nat} {bm : Nat → Nat} {I : ZT → St → Prop} {Q : State → Prop} (hfl : l.stackTraces = false) (C0 : LX p s m c b L xs D T) {i : Nat} (hi : i + 5 ≤ L) (hL : L ≤ 2560) {A : AT} {Z : ZT} {x : St} {g : Nat → Int64} {H : Heap} {locs : List Loc} {cells slots : Nat} {ls : Array Slot}
    (hst : ∃ (k : Int32) (Z1 : ZT) (g1 : Nat → Int64) (b1 : Int32) (x1 : St), F_L_begin Z g (xs (nI i + 1).toNatClampNeg) = some (k, Z1, g1) ∧ F_X5_begin x (xs (nI i + 1).toNatClampNeg) = some (b1, x1) ∧ x1.1 1 = k ∧ (k = 0 → g1 0 = b1.toInt64) ∧ I Z1 x1) (hc : cells + 1 ≤ 601024) (hs : slots + 6 ≤ 7293034) (hP : va_P D vwCl (WL T h0 ho A Z g ++ mdW T bm x) H) (hD : va_D (AA s) (WL T h0 ho A Z g ++ mdW T bm x)) (hS : va_S (AA s) s.heap H locs) (hl : lv_has ls 9 [(4, .int (nI i)), (0, .ref b), (1, .ref h0), (2, .ref (bm 0)), (3, .ref ho)])
    (kk : LK p l e s m b below meth c D T h0 ho bm I i cells slots Q) : W p l e room_1 s m #[Value.ref b] below meth c H locs cells slots Q (F0 m 164 ls []) := by
  obtain ⟨hx, hb, hml, hown, hts, hX, hbl, hK, hE, hN⟩ := C0
  have hA : ∀ q : Nat, s.heap.size ≤ q → AA s q := fun _ h => h
  have hbA : ¬ AA s b := Nat.not_le.mpr hbl
  have hc0 : cells ≤ 601024 := by omega
  have hs0 : slots ≤ 7293034 := by omega
  obtain ⟨k, Z1, g1, b1, x1, e1, e2, e3, e4, hI⟩ := hst
  refine lv_aload_n hx hb dL_law_164 rfl (lv_at hl 2 rfl) ?_
  refine lv_aload_n hx hb dL_law_165 rfl (lv_at hl 1 rfl) ?_
  refine lv_iload hx hb dL_law_166 (lv_at hl 0 rfl) ?_
  refine lv_iconst (v := 1) hx hb dL_law_168 (by decide) ?_
  refine lv_iadd hx hb dL_law_169 ?_
  refine va_sld hx hb hX hbl hbA hS (ixl (j := 1) hi hL (by decide)) dL_law_170 ?_
  refine lv_aload_n hx hb dL_law_171 rfl (lv_at hl 4 rfl) ?_
  have hF : ∀ q, va_A (WL T h0 ho A Z g) H.size q → AA s q := va_self hD.lf hS hA
  refine va_calli (vx_runSW (As := [.ref h0, .int (xs (nI i + 1).toNatClampNeg), .ref ho]) (rest := []) ⟨hx, hb, hml, hown, hts⟩ (c_L_begin l hfl D T h0 A Z ho g (xs (nI i + 1).toNatClampNeg) _ (k, Z1, g1) e1) (vx_cwSW 3 hts gL_law_L_begin rfl rfl rfl hdS_L_begin ⟨Nat.le_of_ble_eq_true rfl, Nat.le_of_ble_eq_true rfl⟩) ⟨PW_blind, PW_at hP.lf hD.lf hK hE hN hS hF⟩ rfl rfl hl.1 rfl (lv_room (Nat.le_of_ble_eq_true rfl)) dL_law_172 ⟨hc, hs⟩) hS (fun q _ h => hF q h) hF (fun r9 u t H locs ht hvm hw hB hz hk hS => ?_)
  replace hw := hw.symm
  subst hw
  rw [ht] at hB
  obtain ⟨hP, hD⟩ := fr_left hP hD hk hF hB.1 hB.2
  replace hP : va_P D vwCl (WL T h0 ho u Z1 g1 ++ mdW T bm x) H := hP
  replace hD : va_D (AA s) (WL T h0 ho u Z1 g1 ++ mdW T bm x) := hD
  refine lv_istore (lv' := [(5, .int k), (4, .int (nI i)), (0, .ref b), (1, .ref h0), (2, .ref (bm 0)), (3, .ref ho)]) hx hb dL_law_175 hl (by decide) rfl (fun ls hl => ?_)
  refine lv_aload_n hx hb dL_law_177 rfl (lv_at hl 4 rfl) ?_
  refine lv_aload_n hx hb dL_law_178 rfl (lv_at hl 2 rfl) ?_
  refine lv_iload hx hb dL_law_179 (lv_at hl 1 rfl) ?_
  refine lv_iconst (v := 1) hx hb dL_law_181 (by decide) ?_
  refine lv_iadd hx hb dL_law_182 ?_
  refine va_sld hx hb hX hbl hbA hS (ixl (j := 1) hi hL (by decide)) dL_law_183 ?_
  have hF2 : ∀ q, va_A (mdW T bm x) H.size q → AA s q := va_self hD.rt hS hA
  refine va_calli (va_runV (As := [.int (xs (nI i + 1).toNatClampNeg)]) (rest := []) ⟨hx, hb, hml, hown, hts⟩ (c_X5_begin l D T bm x (xs (nI i + 1).toNatClampNeg) _ (b1, x1) e2) (cwV 1 hts gL_law_X5_begin rfl rfl rfl hdV_X5_begin ⟨Nat.le_of_ble_eq_true rfl, Nat.le_of_ble_eq_true rfl⟩) ⟨PM_blind, va_recv hK.1 hP.rt (ci := 5) (q0 := 0) rfl rfl, PM_at hP.rt hD.rt hK⟩ rfl rfl hl.1 rfl (lv_room (Nat.le_of_ble_eq_true rfl)) dL_law_184 ⟨hc, hs⟩) hS (fun q _ h => hF2 q h) hF2 (fun r9 u9 t H locs ht hvm hw hB hz hk hS => ?_)
  replace hw := hw.symm
  subst hw
  rw [ht] at hB
  obtain ⟨hP, hD⟩ := fr_right hP hD hk hF2 hB.1 hB.2
  replace hP : va_P D vwCl (WL T h0 ho u Z1 g1 ++ mdW T bm x1) H := hP
  replace hD : va_D (AA s) (WL T h0 ho u Z1 g1 ++ mdW T bm x1) := hD
  refine lv_istore (lv' := [(6, .int b1), (5, .int k), (4, .int (nI i)), (0, .ref b), (1, .ref h0), (2, .ref (bm 0)), (3, .ref ho)]) hx hb dL_law_187 hl (by decide) rfl (fun ls hl => ?_)
  refine lv_aload_n hx hb dL_law_189 rfl (lv_at hl 5 rfl) ?_
  refine callRi (v := x1.1 1) (va_runV (As := []) (rest := []) ⟨hx, hb, hml, hown, hts⟩ (c_X5_thrown l D T bm x1 (x1.1 1) rfl) (cwV 0 hts gL_law_X5_thrown rfl rfl rfl hdV_X5_thrown ⟨Nat.le_of_ble_eq_true rfl, Nat.le_of_ble_eq_true rfl⟩) ⟨PB_blind, va_recv hK.1 hP.rt (ci := 5) (q0 := 0) rfl rfl, PB_at hP.rt hK⟩ rfl rfl hl.1 rfl (lv_room (Nat.le_of_ble_eq_true rfl)) dL_law_190 ⟨hc, hs⟩) ?_
  refine lv_iload hx hb dL_law_193 (lv_at hl 1 rfl) ?_
  refine lv_icmp_eq (tgt := 200) hx hb dL_law_195 (by decide) (fun _ => ?_) (fun q => absurd e3 q)
  refine lv_iload hx hb dL_law_200 (lv_at hl 1 rfl) ?_
  refine lv_if_ne (tgt := 217) hx hb dL_law_202 (by decide) (fun k0 => ?_) (fun k0 => ?_)
  · refine lv_goto (tgt := 1554) hx hb dL_law_217 (by decide) ?_
    exact kk _ _ g1 _ _ _ _ hI hP hD hS (lv_sub hl [2, 3, 4, 5, 6] rfl)
  refine lv_aload_n hx hb dL_law_205 rfl (lv_at hl 6 rfl) ?_
  refine lv_iconst (v := 0) hx hb dL_law_206 (by decide) ?_
  refine va_lald hx hb hK.1 hP.lf.rt 0 2 rfl rfl (show ¬ ((0 : Int32) < 0 ∨ 1 ≤ Int32.toNatClampNeg 0) from by decide) dL_law_207 ?_
  have e5 := e4 k0
  refine lv_iload hx hb dL_law_208 (lv_at hl 0 rfl) ?_
  refine lv_i2l (v := b1.toInt64) hx hb dL_law_210 rfl ?_
  refine W.lcmp hx hb dL_law_211 ?_
  refine eqi (y := 0) (by rw [show Int32.toNatClampNeg 0 = 0 from by decide, e5]; exact lg_same _) ?_
  refine lv_if_eq (tgt := 217) hx hb dL_law_212 (by decide) (fun _ => ?_) (fun q => absurd rfl q)
  refine lv_goto (tgt := 1554) hx hb dL_law_217 (by decide) ?_
  exact kk _ _ g1 _ _ _ _ hI hP hD hS (lv_sub hl [2, 3, 4, 5, 6] rfl)
set_option maxHeartbeats 4000000 in
set_option maxRecDepth 100000 in
theorem lawc_setLimit {p : Program} {l : Launch} {e : Env} {s : State} {m : MethodId} {below : List Frame} {meth : Method} {c : Code} {b L : Nat} {xs : Nat → Int32} {D : va_G} {T : Nat → ClassId} {h0 ho : Nat} {bm : Nat → Nat} {I : ZT → St → Prop} {Q : State → Prop} (hfl : l.stackTraces = false) (C0 : LX p s m c b L xs D T) {i : Nat} (hi : i + 5 ≤ L) (hL : L ≤ 2560) {A : AT} {Z : ZT} {x : St} {g : Nat → Int64} {H : Heap} {locs : List Loc} {cells slots : Nat} {ls : Array Slot}
    (hst : ∃ (k : Int32) (Z1 : ZT) (g1 : Nat → Int64) (b1 : Int32) (x1 : St), F_L_setLimit Z g (xs (nI i + 1).toNatClampNeg) = some (k, Z1, g1) ∧ F_X5_setLimit x (xs (nI i + 1).toNatClampNeg) = some (b1, x1) ∧ x1.1 1 = k ∧ (k = 0 → g1 0 = b1.toInt64) ∧ I Z1 x1) (hc : cells + 1 ≤ 601024) (hs : slots + 6 ≤ 7293034) (hP : va_P D vwCl (WL T h0 ho A Z g ++ mdW T bm x) H) (hD : va_D (AA s) (WL T h0 ho A Z g ++ mdW T bm x)) (hS : va_S (AA s) s.heap H locs) (hl : lv_has ls 9 [(4, .int (nI i)), (0, .ref b), (1, .ref h0), (2, .ref (bm 0)), (3, .ref ho)])
    (kk : LK p l e s m b below meth c D T h0 ho bm I i cells slots Q) : W p l e room_1 s m #[Value.ref b] below meth c H locs cells slots Q (F0 m 220 ls []) := by
  obtain ⟨hx, hb, hml, hown, hts, hX, hbl, hK, hE, hN⟩ := C0
  have hA : ∀ q : Nat, s.heap.size ≤ q → AA s q := fun _ h => h
  have hbA : ¬ AA s b := Nat.not_le.mpr hbl
  have hc0 : cells ≤ 601024 := by omega
  have hs0 : slots ≤ 7293034 := by omega
  obtain ⟨k, Z1, g1, b1, x1, e1, e2, e3, e4, hI⟩ := hst
  refine lv_aload_n hx hb dL_law_220 rfl (lv_at hl 2 rfl) ?_
  refine lv_aload_n hx hb dL_law_221 rfl (lv_at hl 1 rfl) ?_
  refine lv_iload hx hb dL_law_222 (lv_at hl 0 rfl) ?_
  refine lv_iconst (v := 1) hx hb dL_law_224 (by decide) ?_
  refine lv_iadd hx hb dL_law_225 ?_
  refine va_sld hx hb hX hbl hbA hS (ixl (j := 1) hi hL (by decide)) dL_law_226 ?_
  refine lv_aload_n hx hb dL_law_227 rfl (lv_at hl 4 rfl) ?_
  have hF : ∀ q, va_A (WL T h0 ho A Z g) H.size q → AA s q := va_self hD.lf hS hA
  refine va_calli (vx_runSW (As := [.ref h0, .int (xs (nI i + 1).toNatClampNeg), .ref ho]) (rest := []) ⟨hx, hb, hml, hown, hts⟩ (c_L_setLimit l hfl D T h0 A Z ho g (xs (nI i + 1).toNatClampNeg) _ (k, Z1, g1) e1) (vx_cwSW 3 hts gL_law_L_setLimit rfl rfl rfl hdS_L_setLimit ⟨Nat.le_of_ble_eq_true rfl, Nat.le_of_ble_eq_true rfl⟩) ⟨PW_blind, PW_at hP.lf hD.lf hK hE hN hS hF⟩ rfl rfl hl.1 rfl (lv_room (Nat.le_of_ble_eq_true rfl)) dL_law_228 ⟨hc, hs⟩) hS (fun q _ h => hF q h) hF (fun r9 u t H locs ht hvm hw hB hz hk hS => ?_)
  replace hw := hw.symm
  subst hw
  rw [ht] at hB
  obtain ⟨hP, hD⟩ := fr_left hP hD hk hF hB.1 hB.2
  replace hP : va_P D vwCl (WL T h0 ho u Z1 g1 ++ mdW T bm x) H := hP
  replace hD : va_D (AA s) (WL T h0 ho u Z1 g1 ++ mdW T bm x) := hD
  refine lv_istore (lv' := [(5, .int k), (4, .int (nI i)), (0, .ref b), (1, .ref h0), (2, .ref (bm 0)), (3, .ref ho)]) hx hb dL_law_231 hl (by decide) rfl (fun ls hl => ?_)
  refine lv_aload_n hx hb dL_law_233 rfl (lv_at hl 4 rfl) ?_
  refine lv_aload_n hx hb dL_law_234 rfl (lv_at hl 2 rfl) ?_
  refine lv_iload hx hb dL_law_235 (lv_at hl 1 rfl) ?_
  refine lv_iconst (v := 1) hx hb dL_law_237 (by decide) ?_
  refine lv_iadd hx hb dL_law_238 ?_
  refine va_sld hx hb hX hbl hbA hS (ixl (j := 1) hi hL (by decide)) dL_law_239 ?_
  have hF2 : ∀ q, va_A (mdW T bm x) H.size q → AA s q := va_self hD.rt hS hA
  refine va_calli (va_runV (As := [.int (xs (nI i + 1).toNatClampNeg)]) (rest := []) ⟨hx, hb, hml, hown, hts⟩ (c_X5_setLimit l D T bm x (xs (nI i + 1).toNatClampNeg) _ (b1, x1) e2) (cwV 1 hts gL_law_X5_setLimit rfl rfl rfl hdV_X5_setLimit ⟨Nat.le_of_ble_eq_true rfl, Nat.le_of_ble_eq_true rfl⟩) ⟨PM_blind, va_recv hK.1 hP.rt (ci := 5) (q0 := 0) rfl rfl, PM_at hP.rt hD.rt hK⟩ rfl rfl hl.1 rfl (lv_room (Nat.le_of_ble_eq_true rfl)) dL_law_240 ⟨hc, hs⟩) hS (fun q _ h => hF2 q h) hF2 (fun r9 u9 t H locs ht hvm hw hB hz hk hS => ?_)
  replace hw := hw.symm
  subst hw
  rw [ht] at hB
  obtain ⟨hP, hD⟩ := fr_right hP hD hk hF2 hB.1 hB.2
  replace hP : va_P D vwCl (WL T h0 ho u Z1 g1 ++ mdW T bm x1) H := hP
  replace hD : va_D (AA s) (WL T h0 ho u Z1 g1 ++ mdW T bm x1) := hD
  refine lv_istore (lv' := [(6, .int b1), (5, .int k), (4, .int (nI i)), (0, .ref b), (1, .ref h0), (2, .ref (bm 0)), (3, .ref ho)]) hx hb dL_law_243 hl (by decide) rfl (fun ls hl => ?_)
  refine lv_aload_n hx hb dL_law_245 rfl (lv_at hl 5 rfl) ?_
  refine callRi (v := x1.1 1) (va_runV (As := []) (rest := []) ⟨hx, hb, hml, hown, hts⟩ (c_X5_thrown l D T bm x1 (x1.1 1) rfl) (cwV 0 hts gL_law_X5_thrown rfl rfl rfl hdV_X5_thrown ⟨Nat.le_of_ble_eq_true rfl, Nat.le_of_ble_eq_true rfl⟩) ⟨PB_blind, va_recv hK.1 hP.rt (ci := 5) (q0 := 0) rfl rfl, PB_at hP.rt hK⟩ rfl rfl hl.1 rfl (lv_room (Nat.le_of_ble_eq_true rfl)) dL_law_246 ⟨hc, hs⟩) ?_
  refine lv_iload hx hb dL_law_249 (lv_at hl 1 rfl) ?_
  refine lv_icmp_eq (tgt := 256) hx hb dL_law_251 (by decide) (fun _ => ?_) (fun q => absurd e3 q)
  refine lv_iload hx hb dL_law_256 (lv_at hl 1 rfl) ?_
  refine lv_if_ne (tgt := 273) hx hb dL_law_258 (by decide) (fun k0 => ?_) (fun k0 => ?_)
  · refine lv_goto (tgt := 1554) hx hb dL_law_273 (by decide) ?_
    exact kk _ _ g1 _ _ _ _ hI hP hD hS (lv_sub hl [2, 3, 4, 5, 6] rfl)
  refine lv_aload_n hx hb dL_law_261 rfl (lv_at hl 6 rfl) ?_
  refine lv_iconst (v := 0) hx hb dL_law_262 (by decide) ?_
  refine va_lald hx hb hK.1 hP.lf.rt 0 2 rfl rfl (show ¬ ((0 : Int32) < 0 ∨ 1 ≤ Int32.toNatClampNeg 0) from by decide) dL_law_263 ?_
  have e5 := e4 k0
  refine lv_iload hx hb dL_law_264 (lv_at hl 0 rfl) ?_
  refine lv_i2l (v := b1.toInt64) hx hb dL_law_266 rfl ?_
  refine W.lcmp hx hb dL_law_267 ?_
  refine eqi (y := 0) (by rw [show Int32.toNatClampNeg 0 = 0 from by decide, e5]; exact lg_same _) ?_
  refine lv_if_eq (tgt := 273) hx hb dL_law_268 (by decide) (fun _ => ?_) (fun q => absurd rfl q)
  refine lv_goto (tgt := 1554) hx hb dL_law_273 (by decide) ?_
  exact kk _ _ g1 _ _ _ _ hI hP hD hS (lv_sub hl [2, 3, 4, 5, 6] rfl)
set_option maxHeartbeats 4000000 in
set_option maxRecDepth 100000 in
theorem lawc_tell {p : Program} {l : Launch} {e : Env} {s : State} {m : MethodId} {below : List Frame} {meth : Method} {c : Code} {b L : Nat} {xs : Nat → Int32} {D : va_G} {T : Nat → ClassId} {h0 ho : Nat} {bm : Nat → Nat} {I : ZT → St → Prop} {Q : State → Prop} (hfl : l.stackTraces = false) (C0 : LX p s m c b L xs D T) {i : Nat} (hi : i + 5 ≤ L) (hL : L ≤ 2560) {A : AT} {Z : ZT} {x : St} {g : Nat → Int64} {H : Heap} {locs : List Loc} {cells slots : Nat} {ls : Array Slot}
    (hst : ∃ (k : Int32) (Z1 : ZT) (g1 : Nat → Int64) (b1 : Int32) (x1 : St), F_L_tell Z g (xs (nI i + 1).toNatClampNeg) (xs (nI i + 2).toNatClampNeg) (xs (nI i + 3).toNatClampNeg) = some (k, Z1, g1) ∧ F_X5_tell x (xs (nI i + 1).toNatClampNeg) (xs (nI i + 2).toNatClampNeg) (xs (nI i + 3).toNatClampNeg) = some (b1, x1) ∧ x1.1 1 = k ∧ (k = 0 → g1 0 = b1.toInt64) ∧ I Z1 x1) (hc : cells + 1 ≤ 601024) (hs : slots + 6 ≤ 7293034) (hP : va_P D vwCl (WL T h0 ho A Z g ++ mdW T bm x) H) (hD : va_D (AA s) (WL T h0 ho A Z g ++ mdW T bm x)) (hS : va_S (AA s) s.heap H locs) (hl : lv_has ls 9 [(4, .int (nI i)), (0, .ref b), (1, .ref h0), (2, .ref (bm 0)), (3, .ref ho)])
    (kk : LK p l e s m b below meth c D T h0 ho bm I i cells slots Q) : W p l e room_1 s m #[Value.ref b] below meth c H locs cells slots Q (F0 m 276 ls []) := by
  obtain ⟨hx, hb, hml, hown, hts, hX, hbl, hK, hE, hN⟩ := C0
  have hA : ∀ q : Nat, s.heap.size ≤ q → AA s q := fun _ h => h
  have hbA : ¬ AA s b := Nat.not_le.mpr hbl
  have hc0 : cells ≤ 601024 := by omega
  have hs0 : slots ≤ 7293034 := by omega
  obtain ⟨k, Z1, g1, b1, x1, e1, e2, e3, e4, hI⟩ := hst
  refine lv_aload_n hx hb dL_law_276 rfl (lv_at hl 2 rfl) ?_
  refine lv_aload_n hx hb dL_law_277 rfl (lv_at hl 1 rfl) ?_
  refine lv_iload hx hb dL_law_278 (lv_at hl 0 rfl) ?_
  refine lv_iconst (v := 1) hx hb dL_law_280 (by decide) ?_
  refine lv_iadd hx hb dL_law_281 ?_
  refine va_sld hx hb hX hbl hbA hS (ixl (j := 1) hi hL (by decide)) dL_law_282 ?_
  refine lv_aload_n hx hb dL_law_283 rfl (lv_at hl 1 rfl) ?_
  refine lv_iload hx hb dL_law_284 (lv_at hl 0 rfl) ?_
  refine lv_iconst (v := 2) hx hb dL_law_286 (by decide) ?_
  refine lv_iadd hx hb dL_law_287 ?_
  refine va_sld hx hb hX hbl hbA hS (ixl (j := 2) hi hL (by decide)) dL_law_288 ?_
  refine lv_aload_n hx hb dL_law_289 rfl (lv_at hl 1 rfl) ?_
  refine lv_iload hx hb dL_law_290 (lv_at hl 0 rfl) ?_
  refine lv_iconst (v := 3) hx hb dL_law_292 (by decide) ?_
  refine lv_iadd hx hb dL_law_293 ?_
  refine va_sld hx hb hX hbl hbA hS (ixl (j := 3) hi hL (by decide)) dL_law_294 ?_
  refine lv_aload_n hx hb dL_law_295 rfl (lv_at hl 4 rfl) ?_
  have hF : ∀ q, va_A (WL T h0 ho A Z g) H.size q → AA s q := va_self hD.lf hS hA
  refine va_calli (vx_runSW (As := [.ref h0, .int (xs (nI i + 1).toNatClampNeg), .int (xs (nI i + 2).toNatClampNeg), .int (xs (nI i + 3).toNatClampNeg), .ref ho]) (rest := []) ⟨hx, hb, hml, hown, hts⟩ (c_L_tell l hfl D T h0 A Z ho g (xs (nI i + 1).toNatClampNeg) (xs (nI i + 2).toNatClampNeg) (xs (nI i + 3).toNatClampNeg) _ (k, Z1, g1) e1) (vx_cwSW 5 hts gL_law_L_tell rfl rfl rfl hdS_L_tell ⟨Nat.le_of_ble_eq_true rfl, Nat.le_of_ble_eq_true rfl⟩) ⟨PW_blind, PW_at hP.lf hD.lf hK hE hN hS hF⟩ rfl rfl hl.1 rfl (lv_room (Nat.le_of_ble_eq_true rfl)) dL_law_296 ⟨hc, hs⟩) hS (fun q _ h => hF q h) hF (fun r9 u t H locs ht hvm hw hB hz hk hS => ?_)
  replace hw := hw.symm
  subst hw
  rw [ht] at hB
  obtain ⟨hP, hD⟩ := fr_left hP hD hk hF hB.1 hB.2
  replace hP : va_P D vwCl (WL T h0 ho u Z1 g1 ++ mdW T bm x) H := hP
  replace hD : va_D (AA s) (WL T h0 ho u Z1 g1 ++ mdW T bm x) := hD
  refine lv_istore (lv' := [(5, .int k), (4, .int (nI i)), (0, .ref b), (1, .ref h0), (2, .ref (bm 0)), (3, .ref ho)]) hx hb dL_law_299 hl (by decide) rfl (fun ls hl => ?_)
  refine lv_aload_n hx hb dL_law_301 rfl (lv_at hl 4 rfl) ?_
  refine lv_aload_n hx hb dL_law_302 rfl (lv_at hl 2 rfl) ?_
  refine lv_iload hx hb dL_law_303 (lv_at hl 1 rfl) ?_
  refine lv_iconst (v := 1) hx hb dL_law_305 (by decide) ?_
  refine lv_iadd hx hb dL_law_306 ?_
  refine va_sld hx hb hX hbl hbA hS (ixl (j := 1) hi hL (by decide)) dL_law_307 ?_
  refine lv_aload_n hx hb dL_law_308 rfl (lv_at hl 2 rfl) ?_
  refine lv_iload hx hb dL_law_309 (lv_at hl 1 rfl) ?_
  refine lv_iconst (v := 2) hx hb dL_law_311 (by decide) ?_
  refine lv_iadd hx hb dL_law_312 ?_
  refine va_sld hx hb hX hbl hbA hS (ixl (j := 2) hi hL (by decide)) dL_law_313 ?_
  refine lv_aload_n hx hb dL_law_314 rfl (lv_at hl 2 rfl) ?_
  refine lv_iload hx hb dL_law_315 (lv_at hl 1 rfl) ?_
  refine lv_iconst (v := 3) hx hb dL_law_317 (by decide) ?_
  refine lv_iadd hx hb dL_law_318 ?_
  refine va_sld hx hb hX hbl hbA hS (ixl (j := 3) hi hL (by decide)) dL_law_319 ?_
  have hF2 : ∀ q, va_A (mdW T bm x) H.size q → AA s q := va_self hD.rt hS hA
  refine va_calli (va_runV (As := [.int (xs (nI i + 1).toNatClampNeg), .int (xs (nI i + 2).toNatClampNeg), .int (xs (nI i + 3).toNatClampNeg)]) (rest := []) ⟨hx, hb, hml, hown, hts⟩ (c_X5_tell l D T bm x (xs (nI i + 1).toNatClampNeg) (xs (nI i + 2).toNatClampNeg) (xs (nI i + 3).toNatClampNeg) _ (b1, x1) e2) (cwV 3 hts gL_law_X5_tell rfl rfl rfl hdV_X5_tell ⟨Nat.le_of_ble_eq_true rfl, Nat.le_of_ble_eq_true rfl⟩) ⟨PM_blind, va_recv hK.1 hP.rt (ci := 5) (q0 := 0) rfl rfl, PM_at hP.rt hD.rt hK⟩ rfl rfl hl.1 rfl (lv_room (Nat.le_of_ble_eq_true rfl)) dL_law_320 ⟨hc, hs⟩) hS (fun q _ h => hF2 q h) hF2 (fun r9 u9 t H locs ht hvm hw hB hz hk hS => ?_)
  replace hw := hw.symm
  subst hw
  rw [ht] at hB
  obtain ⟨hP, hD⟩ := fr_right hP hD hk hF2 hB.1 hB.2
  replace hP : va_P D vwCl (WL T h0 ho u Z1 g1 ++ mdW T bm x1) H := hP
  replace hD : va_D (AA s) (WL T h0 ho u Z1 g1 ++ mdW T bm x1) := hD
  refine lv_istore (lv' := [(6, .int b1), (5, .int k), (4, .int (nI i)), (0, .ref b), (1, .ref h0), (2, .ref (bm 0)), (3, .ref ho)]) hx hb dL_law_323 hl (by decide) rfl (fun ls hl => ?_)
  refine lv_aload_n hx hb dL_law_325 rfl (lv_at hl 5 rfl) ?_
  refine callRi (v := x1.1 1) (va_runV (As := []) (rest := []) ⟨hx, hb, hml, hown, hts⟩ (c_X5_thrown l D T bm x1 (x1.1 1) rfl) (cwV 0 hts gL_law_X5_thrown rfl rfl rfl hdV_X5_thrown ⟨Nat.le_of_ble_eq_true rfl, Nat.le_of_ble_eq_true rfl⟩) ⟨PB_blind, va_recv hK.1 hP.rt (ci := 5) (q0 := 0) rfl rfl, PB_at hP.rt hK⟩ rfl rfl hl.1 rfl (lv_room (Nat.le_of_ble_eq_true rfl)) dL_law_326 ⟨hc, hs⟩) ?_
  refine lv_iload hx hb dL_law_329 (lv_at hl 1 rfl) ?_
  refine lv_icmp_eq (tgt := 336) hx hb dL_law_331 (by decide) (fun _ => ?_) (fun q => absurd e3 q)
  refine lv_iload hx hb dL_law_336 (lv_at hl 1 rfl) ?_
  refine lv_if_ne (tgt := 353) hx hb dL_law_338 (by decide) (fun k0 => ?_) (fun k0 => ?_)
  · refine lv_goto (tgt := 1554) hx hb dL_law_353 (by decide) ?_
    exact kk _ _ g1 _ _ _ _ hI hP hD hS (lv_sub hl [2, 3, 4, 5, 6] rfl)
  refine lv_aload_n hx hb dL_law_341 rfl (lv_at hl 6 rfl) ?_
  refine lv_iconst (v := 0) hx hb dL_law_342 (by decide) ?_
  refine va_lald hx hb hK.1 hP.lf.rt 0 2 rfl rfl (show ¬ ((0 : Int32) < 0 ∨ 1 ≤ Int32.toNatClampNeg 0) from by decide) dL_law_343 ?_
  have e5 := e4 k0
  refine lv_iload hx hb dL_law_344 (lv_at hl 0 rfl) ?_
  refine lv_i2l (v := b1.toInt64) hx hb dL_law_346 rfl ?_
  refine W.lcmp hx hb dL_law_347 ?_
  refine eqi (y := 0) (by rw [show Int32.toNatClampNeg 0 = 0 from by decide, e5]; exact lg_same _) ?_
  refine lv_if_eq (tgt := 353) hx hb dL_law_348 (by decide) (fun _ => ?_) (fun q => absurd rfl q)
  refine lv_goto (tgt := 1554) hx hb dL_law_353 (by decide) ?_
  exact kk _ _ g1 _ _ _ _ hI hP hD hS (lv_sub hl [2, 3, 4, 5, 6] rfl)
set_option maxHeartbeats 4000000 in
set_option maxRecDepth 100000 in
theorem lawc_forget {p : Program} {l : Launch} {e : Env} {s : State} {m : MethodId} {below : List Frame} {meth : Method} {c : Code} {b L : Nat} {xs : Nat → Int32} {D : va_G} {T : Nat → ClassId} {h0 ho : Nat} {bm : Nat → Nat} {I : ZT → St → Prop} {Q : State → Prop} (hfl : l.stackTraces = false) (C0 : LX p s m c b L xs D T) {i : Nat} (hi : i + 5 ≤ L) (hL : L ≤ 2560) {A : AT} {Z : ZT} {x : St} {g : Nat → Int64} {H : Heap} {locs : List Loc} {cells slots : Nat} {ls : Array Slot}
    (hst : ∃ (v : Int32) (Z1 : ZT) (x1 : St), F_X4_forget Z = some (v, Z1) ∧ F_X5_forget x = some (v, x1) ∧ I Z1 x1) (hc : cells + 1 ≤ 601024) (hs : slots + 6 ≤ 7293034) (hP : va_P D vwCl (WL T h0 ho A Z g ++ mdW T bm x) H) (hD : va_D (AA s) (WL T h0 ho A Z g ++ mdW T bm x)) (hS : va_S (AA s) s.heap H locs) (hl : lv_has ls 9 [(4, .int (nI i)), (0, .ref b), (1, .ref h0), (2, .ref (bm 0)), (3, .ref ho)])
    (kk : LK p l e s m b below meth c D T h0 ho bm I i cells slots Q) : W p l e room_1 s m #[Value.ref b] below meth c H locs cells slots Q (F0 m 356 ls []) := by
  obtain ⟨hx, hb, hml, hown, hts, hX, hbl, hK, hE, hN⟩ := C0
  have hA : ∀ q : Nat, s.heap.size ≤ q → AA s q := fun _ h => h
  have hbA : ¬ AA s b := Nat.not_le.mpr hbl
  have hc0 : cells ≤ 601024 := by omega
  have hs0 : slots ≤ 7293034 := by omega
  obtain ⟨v, Z1, x1, e1, e2, hI⟩ := hst
  refine W.widen (k := cells + 1) (n := slots + 6) (Nat.le_succ _) (by omega) ?_
  refine lv_aload_n hx hb dL_law_356 rfl (lv_at hl 2 rfl) ?_
  have hF : ∀ q, va_A (scW T h0 A Z) H.size q → AA s q := va_self hD.lf.lf hS hA
  refine va_calli (va_runV (As := []) (rest := []) ⟨hx, hb, hml, hown, hts⟩ (c_X4_forget l D T h0 A Z _ (v, Z1) e1) (cwV 0 hts gL_law_X4_forget rfl rfl rfl hdV_X4_forget ⟨Nat.le_of_ble_eq_true rfl, Nat.le_of_ble_eq_true rfl⟩) ⟨PM_blind, va_recv hK.1 hP.lf.lf (ci := 4) (q0 := 0) rfl rfl, PM_at hP.lf.lf hD.lf.lf hK⟩ rfl rfl hl.1 rfl (lv_room (Nat.le_of_ble_eq_true rfl)) dL_law_357 ⟨hc, hs⟩) hS (fun q _ h => hF q h) hF (fun r9 u t H locs ht hvm hw hB hz hk hS => ?_)
  replace hw := hw.symm
  subst hw
  rw [ht] at hB
  obtain ⟨hP, hD⟩ := fr_ll hP hD hk hF hB.1 hB.2
  replace hP : va_P D vwCl (WL T h0 ho u Z1 g ++ mdW T bm x) H := hP
  replace hD : va_D (AA s) (WL T h0 ho u Z1 g ++ mdW T bm x) := hD
  refine lv_aload_n hx hb dL_law_360 rfl (lv_at hl 3 rfl) ?_
  have hF2 : ∀ q, va_A (mdW T bm x) H.size q → AA s q := va_self hD.rt hS hA
  refine va_calli (va_runV (As := []) (rest := [.int v]) ⟨hx, hb, hml, hown, hts⟩ (c_X5_forget l D T bm x _ (v, x1) e2) (cwV 0 hts gL_law_X5_forget rfl rfl rfl hdV_X5_forget ⟨Nat.le_of_ble_eq_true rfl, Nat.le_of_ble_eq_true rfl⟩) ⟨PM_blind, va_recv hK.1 hP.rt (ci := 5) (q0 := 0) rfl rfl, PM_at hP.rt hD.rt hK⟩ rfl rfl hl.1 rfl (lv_room (Nat.le_of_ble_eq_true rfl)) dL_law_361 ⟨hc, hs⟩) hS (fun q _ h => hF2 q h) hF2 (fun r9 u9 t H locs ht hvm hw hB hz hk hS => ?_)
  replace hw := hw.symm
  subst hw
  rw [ht] at hB
  obtain ⟨hP, hD⟩ := fr_right hP hD hk hF2 hB.1 hB.2
  replace hP : va_P D vwCl (WL T h0 ho u Z1 g ++ mdW T bm x1) H := hP
  replace hD : va_D (AA s) (WL T h0 ho u Z1 g ++ mdW T bm x1) := hD
  refine lv_icmp_eq (tgt := 1554) hx hb dL_law_364 (by decide) (fun _ => ?_) (fun q => absurd rfl q)
  exact kk _ _ g _ _ _ _ hI hP hD hS (lv_sub hl [0, 1, 2, 3, 4] rfl)
set_option maxHeartbeats 4000000 in
set_option maxRecDepth 100000 in
theorem lawc_hide {p : Program} {l : Launch} {e : Env} {s : State} {m : MethodId} {below : List Frame} {meth : Method} {c : Code} {b L : Nat} {xs : Nat → Int32} {D : va_G} {T : Nat → ClassId} {h0 ho : Nat} {bm : Nat → Nat} {I : ZT → St → Prop} {Q : State → Prop} (hfl : l.stackTraces = false) (C0 : LX p s m c b L xs D T) {i : Nat} (hi : i + 5 ≤ L) (hL : L ≤ 2560) {A : AT} {Z : ZT} {x : St} {g : Nat → Int64} {H : Heap} {locs : List Loc} {cells slots : Nat} {ls : Array Slot}
    (hst : ∃ (k : Int32) (Z1 : ZT) (g1 : Nat → Int64) (b1 : Int32) (x1 : St), F_L_hide Z g (xs (nI i + 1).toNatClampNeg) (xs (nI i + 2).toNatClampNeg) = some (k, Z1, g1) ∧ F_X5_hide x (xs (nI i + 1).toNatClampNeg) (xs (nI i + 2).toNatClampNeg) = some (b1, x1) ∧ x1.1 1 = k ∧ (k = 0 → g1 0 = b1.toInt64) ∧ I Z1 x1) (hc : cells + 1 ≤ 601024) (hs : slots + 6 ≤ 7293034) (hP : va_P D vwCl (WL T h0 ho A Z g ++ mdW T bm x) H) (hD : va_D (AA s) (WL T h0 ho A Z g ++ mdW T bm x)) (hS : va_S (AA s) s.heap H locs) (hl : lv_has ls 9 [(4, .int (nI i)), (0, .ref b), (1, .ref h0), (2, .ref (bm 0)), (3, .ref ho)])
    (kk : LK p l e s m b below meth c D T h0 ho bm I i cells slots Q) : W p l e room_1 s m #[Value.ref b] below meth c H locs cells slots Q (F0 m 369 ls []) := by
  obtain ⟨hx, hb, hml, hown, hts, hX, hbl, hK, hE, hN⟩ := C0
  have hA : ∀ q : Nat, s.heap.size ≤ q → AA s q := fun _ h => h
  have hbA : ¬ AA s b := Nat.not_le.mpr hbl
  have hc0 : cells ≤ 601024 := by omega
  have hs0 : slots ≤ 7293034 := by omega
  obtain ⟨k, Z1, g1, b1, x1, e1, e2, e3, e4, hI⟩ := hst
  refine lv_aload_n hx hb dL_law_369 rfl (lv_at hl 2 rfl) ?_
  refine lv_aload_n hx hb dL_law_370 rfl (lv_at hl 1 rfl) ?_
  refine lv_iload hx hb dL_law_371 (lv_at hl 0 rfl) ?_
  refine lv_iconst (v := 1) hx hb dL_law_373 (by decide) ?_
  refine lv_iadd hx hb dL_law_374 ?_
  refine va_sld hx hb hX hbl hbA hS (ixl (j := 1) hi hL (by decide)) dL_law_375 ?_
  refine lv_aload_n hx hb dL_law_376 rfl (lv_at hl 1 rfl) ?_
  refine lv_iload hx hb dL_law_377 (lv_at hl 0 rfl) ?_
  refine lv_iconst (v := 2) hx hb dL_law_379 (by decide) ?_
  refine lv_iadd hx hb dL_law_380 ?_
  refine va_sld hx hb hX hbl hbA hS (ixl (j := 2) hi hL (by decide)) dL_law_381 ?_
  refine lv_aload_n hx hb dL_law_382 rfl (lv_at hl 4 rfl) ?_
  have hF : ∀ q, va_A (WL T h0 ho A Z g) H.size q → AA s q := va_self hD.lf hS hA
  refine va_calli (vx_runSW (As := [.ref h0, .int (xs (nI i + 1).toNatClampNeg), .int (xs (nI i + 2).toNatClampNeg), .ref ho]) (rest := []) ⟨hx, hb, hml, hown, hts⟩ (c_L_hide l hfl D T h0 A Z ho g (xs (nI i + 1).toNatClampNeg) (xs (nI i + 2).toNatClampNeg) _ (k, Z1, g1) e1) (vx_cwSW 4 hts gL_law_L_hide rfl rfl rfl hdS_L_hide ⟨Nat.le_of_ble_eq_true rfl, Nat.le_of_ble_eq_true rfl⟩) ⟨PW_blind, PW_at hP.lf hD.lf hK hE hN hS hF⟩ rfl rfl hl.1 rfl (lv_room (Nat.le_of_ble_eq_true rfl)) dL_law_383 ⟨hc, hs⟩) hS (fun q _ h => hF q h) hF (fun r9 u t H locs ht hvm hw hB hz hk hS => ?_)
  replace hw := hw.symm
  subst hw
  rw [ht] at hB
  obtain ⟨hP, hD⟩ := fr_left hP hD hk hF hB.1 hB.2
  replace hP : va_P D vwCl (WL T h0 ho u Z1 g1 ++ mdW T bm x) H := hP
  replace hD : va_D (AA s) (WL T h0 ho u Z1 g1 ++ mdW T bm x) := hD
  refine lv_istore (lv' := [(5, .int k), (4, .int (nI i)), (0, .ref b), (1, .ref h0), (2, .ref (bm 0)), (3, .ref ho)]) hx hb dL_law_386 hl (by decide) rfl (fun ls hl => ?_)
  refine lv_aload_n hx hb dL_law_388 rfl (lv_at hl 4 rfl) ?_
  refine lv_aload_n hx hb dL_law_389 rfl (lv_at hl 2 rfl) ?_
  refine lv_iload hx hb dL_law_390 (lv_at hl 1 rfl) ?_
  refine lv_iconst (v := 1) hx hb dL_law_392 (by decide) ?_
  refine lv_iadd hx hb dL_law_393 ?_
  refine va_sld hx hb hX hbl hbA hS (ixl (j := 1) hi hL (by decide)) dL_law_394 ?_
  refine lv_aload_n hx hb dL_law_395 rfl (lv_at hl 2 rfl) ?_
  refine lv_iload hx hb dL_law_396 (lv_at hl 1 rfl) ?_
  refine lv_iconst (v := 2) hx hb dL_law_398 (by decide) ?_
  refine lv_iadd hx hb dL_law_399 ?_
  refine va_sld hx hb hX hbl hbA hS (ixl (j := 2) hi hL (by decide)) dL_law_400 ?_
  have hF2 : ∀ q, va_A (mdW T bm x) H.size q → AA s q := va_self hD.rt hS hA
  refine va_calli (va_runV (As := [.int (xs (nI i + 1).toNatClampNeg), .int (xs (nI i + 2).toNatClampNeg)]) (rest := []) ⟨hx, hb, hml, hown, hts⟩ (c_X5_hide l D T bm x (xs (nI i + 1).toNatClampNeg) (xs (nI i + 2).toNatClampNeg) _ (b1, x1) e2) (cwV 2 hts gL_law_X5_hide rfl rfl rfl hdV_X5_hide ⟨Nat.le_of_ble_eq_true rfl, Nat.le_of_ble_eq_true rfl⟩) ⟨PM_blind, va_recv hK.1 hP.rt (ci := 5) (q0 := 0) rfl rfl, PM_at hP.rt hD.rt hK⟩ rfl rfl hl.1 rfl (lv_room (Nat.le_of_ble_eq_true rfl)) dL_law_401 ⟨hc, hs⟩) hS (fun q _ h => hF2 q h) hF2 (fun r9 u9 t H locs ht hvm hw hB hz hk hS => ?_)
  replace hw := hw.symm
  subst hw
  rw [ht] at hB
  obtain ⟨hP, hD⟩ := fr_right hP hD hk hF2 hB.1 hB.2
  replace hP : va_P D vwCl (WL T h0 ho u Z1 g1 ++ mdW T bm x1) H := hP
  replace hD : va_D (AA s) (WL T h0 ho u Z1 g1 ++ mdW T bm x1) := hD
  refine lv_istore (lv' := [(6, .int b1), (5, .int k), (4, .int (nI i)), (0, .ref b), (1, .ref h0), (2, .ref (bm 0)), (3, .ref ho)]) hx hb dL_law_404 hl (by decide) rfl (fun ls hl => ?_)
  refine lv_aload_n hx hb dL_law_406 rfl (lv_at hl 5 rfl) ?_
  refine callRi (v := x1.1 1) (va_runV (As := []) (rest := []) ⟨hx, hb, hml, hown, hts⟩ (c_X5_thrown l D T bm x1 (x1.1 1) rfl) (cwV 0 hts gL_law_X5_thrown rfl rfl rfl hdV_X5_thrown ⟨Nat.le_of_ble_eq_true rfl, Nat.le_of_ble_eq_true rfl⟩) ⟨PB_blind, va_recv hK.1 hP.rt (ci := 5) (q0 := 0) rfl rfl, PB_at hP.rt hK⟩ rfl rfl hl.1 rfl (lv_room (Nat.le_of_ble_eq_true rfl)) dL_law_407 ⟨hc, hs⟩) ?_
  refine lv_iload hx hb dL_law_410 (lv_at hl 1 rfl) ?_
  refine lv_icmp_eq (tgt := 417) hx hb dL_law_412 (by decide) (fun _ => ?_) (fun q => absurd e3 q)
  refine lv_iload hx hb dL_law_417 (lv_at hl 1 rfl) ?_
  refine lv_if_ne (tgt := 434) hx hb dL_law_419 (by decide) (fun k0 => ?_) (fun k0 => ?_)
  · refine lv_goto (tgt := 1554) hx hb dL_law_434 (by decide) ?_
    exact kk _ _ g1 _ _ _ _ hI hP hD hS (lv_sub hl [2, 3, 4, 5, 6] rfl)
  refine lv_aload_n hx hb dL_law_422 rfl (lv_at hl 6 rfl) ?_
  refine lv_iconst (v := 0) hx hb dL_law_423 (by decide) ?_
  refine va_lald hx hb hK.1 hP.lf.rt 0 2 rfl rfl (show ¬ ((0 : Int32) < 0 ∨ 1 ≤ Int32.toNatClampNeg 0) from by decide) dL_law_424 ?_
  have e5 := e4 k0
  refine lv_iload hx hb dL_law_425 (lv_at hl 0 rfl) ?_
  refine lv_i2l (v := b1.toInt64) hx hb dL_law_427 rfl ?_
  refine W.lcmp hx hb dL_law_428 ?_
  refine eqi (y := 0) (by rw [show Int32.toNatClampNeg 0 = 0 from by decide, e5]; exact lg_same _) ?_
  refine lv_if_eq (tgt := 434) hx hb dL_law_429 (by decide) (fun _ => ?_) (fun q => absurd rfl q)
  refine lv_goto (tgt := 1554) hx hb dL_law_434 (by decide) ?_
  exact kk _ _ g1 _ _ _ _ hI hP hD hS (lv_sub hl [2, 3, 4, 5, 6] rfl)
set_option maxHeartbeats 4000000 in
set_option maxRecDepth 100000 in
theorem lawc_ask {p : Program} {l : Launch} {e : Env} {s : State} {m : MethodId} {below : List Frame} {meth : Method} {c : Code} {b L : Nat} {xs : Nat → Int32} {D : va_G} {T : Nat → ClassId} {h0 ho : Nat} {bm : Nat → Nat} {I : ZT → St → Prop} {Q : State → Prop} (hfl : l.stackTraces = false) (C0 : LX p s m c b L xs D T) {i : Nat} (hi : i + 5 ≤ L) (hL : L ≤ 2560) {A : AT} {Z : ZT} {x : St} {g : Nat → Int64} {H : Heap} {locs : List Loc} {cells slots : Nat} {ls : Array Slot}
    (hst : ∃ (k : Int32) (Z1 : ZT) (g1 : Nat → Int64) (b1 : Int32) (x1 : St), F_L_ask Z g (xs (nI i + 1).toNatClampNeg) (xs (nI i + 2).toNatClampNeg) = some (k, Z1, g1) ∧ F_X5_ask x (xs (nI i + 1).toNatClampNeg) (xs (nI i + 2).toNatClampNeg) = some (b1, x1) ∧ x1.1 1 = k ∧ (k = 0 → g1 0 = b1.toInt64) ∧ I Z1 x1) (hc : cells + 1 ≤ 601024) (hs : slots + 6 ≤ 7293034) (hP : va_P D vwCl (WL T h0 ho A Z g ++ mdW T bm x) H) (hD : va_D (AA s) (WL T h0 ho A Z g ++ mdW T bm x)) (hS : va_S (AA s) s.heap H locs) (hl : lv_has ls 9 [(4, .int (nI i)), (0, .ref b), (1, .ref h0), (2, .ref (bm 0)), (3, .ref ho)])
    (kk : LK p l e s m b below meth c D T h0 ho bm I i cells slots Q) : W p l e room_1 s m #[Value.ref b] below meth c H locs cells slots Q (F0 m 437 ls []) := by
  obtain ⟨hx, hb, hml, hown, hts, hX, hbl, hK, hE, hN⟩ := C0
  have hA : ∀ q : Nat, s.heap.size ≤ q → AA s q := fun _ h => h
  have hbA : ¬ AA s b := Nat.not_le.mpr hbl
  have hc0 : cells ≤ 601024 := by omega
  have hs0 : slots ≤ 7293034 := by omega
  obtain ⟨k, Z1, g1, b1, x1, e1, e2, e3, e4, hI⟩ := hst
  refine lv_aload_n hx hb dL_law_437 rfl (lv_at hl 2 rfl) ?_
  refine lv_aload_n hx hb dL_law_438 rfl (lv_at hl 1 rfl) ?_
  refine lv_iload hx hb dL_law_439 (lv_at hl 0 rfl) ?_
  refine lv_iconst (v := 1) hx hb dL_law_441 (by decide) ?_
  refine lv_iadd hx hb dL_law_442 ?_
  refine va_sld hx hb hX hbl hbA hS (ixl (j := 1) hi hL (by decide)) dL_law_443 ?_
  refine lv_aload_n hx hb dL_law_444 rfl (lv_at hl 1 rfl) ?_
  refine lv_iload hx hb dL_law_445 (lv_at hl 0 rfl) ?_
  refine lv_iconst (v := 2) hx hb dL_law_447 (by decide) ?_
  refine lv_iadd hx hb dL_law_448 ?_
  refine va_sld hx hb hX hbl hbA hS (ixl (j := 2) hi hL (by decide)) dL_law_449 ?_
  refine lv_aload_n hx hb dL_law_450 rfl (lv_at hl 4 rfl) ?_
  have hF : ∀ q, va_A (WL T h0 ho A Z g) H.size q → AA s q := va_self hD.lf hS hA
  refine va_calli (vx_runSW (As := [.ref h0, .int (xs (nI i + 1).toNatClampNeg), .int (xs (nI i + 2).toNatClampNeg), .ref ho]) (rest := []) ⟨hx, hb, hml, hown, hts⟩ (c_L_ask l hfl D T h0 A Z ho g (xs (nI i + 1).toNatClampNeg) (xs (nI i + 2).toNatClampNeg) _ (k, Z1, g1) e1) (vx_cwSW 4 hts gL_law_L_ask rfl rfl rfl hdS_L_ask ⟨Nat.le_of_ble_eq_true rfl, Nat.le_of_ble_eq_true rfl⟩) ⟨PW_blind, PW_at hP.lf hD.lf hK hE hN hS hF⟩ rfl rfl hl.1 rfl (lv_room (Nat.le_of_ble_eq_true rfl)) dL_law_451 ⟨hc, hs⟩) hS (fun q _ h => hF q h) hF (fun r9 u t H locs ht hvm hw hB hz hk hS => ?_)
  replace hw := hw.symm
  subst hw
  rw [ht] at hB
  obtain ⟨hP, hD⟩ := fr_left hP hD hk hF hB.1 hB.2
  replace hP : va_P D vwCl (WL T h0 ho u Z1 g1 ++ mdW T bm x) H := hP
  replace hD : va_D (AA s) (WL T h0 ho u Z1 g1 ++ mdW T bm x) := hD
  refine lv_istore (lv' := [(5, .int k), (4, .int (nI i)), (0, .ref b), (1, .ref h0), (2, .ref (bm 0)), (3, .ref ho)]) hx hb dL_law_454 hl (by decide) rfl (fun ls hl => ?_)
  refine lv_aload_n hx hb dL_law_456 rfl (lv_at hl 4 rfl) ?_
  refine lv_aload_n hx hb dL_law_457 rfl (lv_at hl 2 rfl) ?_
  refine lv_iload hx hb dL_law_458 (lv_at hl 1 rfl) ?_
  refine lv_iconst (v := 1) hx hb dL_law_460 (by decide) ?_
  refine lv_iadd hx hb dL_law_461 ?_
  refine va_sld hx hb hX hbl hbA hS (ixl (j := 1) hi hL (by decide)) dL_law_462 ?_
  refine lv_aload_n hx hb dL_law_463 rfl (lv_at hl 2 rfl) ?_
  refine lv_iload hx hb dL_law_464 (lv_at hl 1 rfl) ?_
  refine lv_iconst (v := 2) hx hb dL_law_466 (by decide) ?_
  refine lv_iadd hx hb dL_law_467 ?_
  refine va_sld hx hb hX hbl hbA hS (ixl (j := 2) hi hL (by decide)) dL_law_468 ?_
  have hF2 : ∀ q, va_A (mdW T bm x) H.size q → AA s q := va_self hD.rt hS hA
  refine va_calli (va_runV (As := [.int (xs (nI i + 1).toNatClampNeg), .int (xs (nI i + 2).toNatClampNeg)]) (rest := []) ⟨hx, hb, hml, hown, hts⟩ (c_X5_ask l D T bm x (xs (nI i + 1).toNatClampNeg) (xs (nI i + 2).toNatClampNeg) _ (b1, x1) e2) (cwV 2 hts gL_law_X5_ask rfl rfl rfl hdV_X5_ask ⟨Nat.le_of_ble_eq_true rfl, Nat.le_of_ble_eq_true rfl⟩) ⟨PM_blind, va_recv hK.1 hP.rt (ci := 5) (q0 := 0) rfl rfl, PM_at hP.rt hD.rt hK⟩ rfl rfl hl.1 rfl (lv_room (Nat.le_of_ble_eq_true rfl)) dL_law_469 ⟨hc, hs⟩) hS (fun q _ h => hF2 q h) hF2 (fun r9 u9 t H locs ht hvm hw hB hz hk hS => ?_)
  replace hw := hw.symm
  subst hw
  rw [ht] at hB
  obtain ⟨hP, hD⟩ := fr_right hP hD hk hF2 hB.1 hB.2
  replace hP : va_P D vwCl (WL T h0 ho u Z1 g1 ++ mdW T bm x1) H := hP
  replace hD : va_D (AA s) (WL T h0 ho u Z1 g1 ++ mdW T bm x1) := hD
  refine lv_istore (lv' := [(6, .int b1), (5, .int k), (4, .int (nI i)), (0, .ref b), (1, .ref h0), (2, .ref (bm 0)), (3, .ref ho)]) hx hb dL_law_472 hl (by decide) rfl (fun ls hl => ?_)
  refine lv_aload_n hx hb dL_law_474 rfl (lv_at hl 5 rfl) ?_
  refine callRi (v := x1.1 1) (va_runV (As := []) (rest := []) ⟨hx, hb, hml, hown, hts⟩ (c_X5_thrown l D T bm x1 (x1.1 1) rfl) (cwV 0 hts gL_law_X5_thrown rfl rfl rfl hdV_X5_thrown ⟨Nat.le_of_ble_eq_true rfl, Nat.le_of_ble_eq_true rfl⟩) ⟨PB_blind, va_recv hK.1 hP.rt (ci := 5) (q0 := 0) rfl rfl, PB_at hP.rt hK⟩ rfl rfl hl.1 rfl (lv_room (Nat.le_of_ble_eq_true rfl)) dL_law_475 ⟨hc, hs⟩) ?_
  refine lv_iload hx hb dL_law_478 (lv_at hl 1 rfl) ?_
  refine lv_icmp_eq (tgt := 485) hx hb dL_law_480 (by decide) (fun _ => ?_) (fun q => absurd e3 q)
  refine lv_iload hx hb dL_law_485 (lv_at hl 1 rfl) ?_
  refine lv_if_ne (tgt := 502) hx hb dL_law_487 (by decide) (fun k0 => ?_) (fun k0 => ?_)
  · refine lv_goto (tgt := 1554) hx hb dL_law_502 (by decide) ?_
    exact kk _ _ g1 _ _ _ _ hI hP hD hS (lv_sub hl [2, 3, 4, 5, 6] rfl)
  refine lv_aload_n hx hb dL_law_490 rfl (lv_at hl 6 rfl) ?_
  refine lv_iconst (v := 0) hx hb dL_law_491 (by decide) ?_
  refine va_lald hx hb hK.1 hP.lf.rt 0 2 rfl rfl (show ¬ ((0 : Int32) < 0 ∨ 1 ≤ Int32.toNatClampNeg 0) from by decide) dL_law_492 ?_
  have e5 := e4 k0
  refine lv_iload hx hb dL_law_493 (lv_at hl 0 rfl) ?_
  refine lv_i2l (v := b1.toInt64) hx hb dL_law_495 rfl ?_
  refine W.lcmp hx hb dL_law_496 ?_
  refine eqi (y := 0) (by rw [show Int32.toNatClampNeg 0 = 0 from by decide, e5]; exact lg_same _) ?_
  refine lv_if_eq (tgt := 502) hx hb dL_law_497 (by decide) (fun _ => ?_) (fun q => absurd rfl q)
  refine lv_goto (tgt := 1554) hx hb dL_law_502 (by decide) ?_
  exact kk _ _ g1 _ _ _ _ hI hP hD hS (lv_sub hl [2, 3, 4, 5, 6] rfl)
set_option maxHeartbeats 4000000 in
set_option maxRecDepth 100000 in
theorem lawc_add {p : Program} {l : Launch} {e : Env} {s : State} {m : MethodId} {below : List Frame} {meth : Method} {c : Code} {b L : Nat} {xs : Nat → Int32} {D : va_G} {T : Nat → ClassId} {h0 ho : Nat} {bm : Nat → Nat} {I : ZT → St → Prop} {Q : State → Prop} (hfl : l.stackTraces = false) (C0 : LX p s m c b L xs D T) {i : Nat} (hi : i + 5 ≤ L) (hL : L ≤ 2560) {A : AT} {Z : ZT} {x : St} {g : Nat → Int64} {H : Heap} {locs : List Loc} {cells slots : Nat} {ls : Array Slot}
    (hst : ∃ (k : Int32) (Z1 : ZT) (g1 : Nat → Int64) (b1 : Int32) (x1 : St), F_L_add Z g (xs (nI i + 1).toNatClampNeg) (xs (nI i + 2).toNatClampNeg) = some (k, Z1, g1) ∧ F_X5_add x (xs (nI i + 1).toNatClampNeg) (xs (nI i + 2).toNatClampNeg) = some (b1, x1) ∧ x1.1 1 = k ∧ (k = 0 → g1 0 = b1.toInt64) ∧ I Z1 x1) (hc : cells + 1 ≤ 601024) (hs : slots + 6 ≤ 7293034) (hP : va_P D vwCl (WL T h0 ho A Z g ++ mdW T bm x) H) (hD : va_D (AA s) (WL T h0 ho A Z g ++ mdW T bm x)) (hS : va_S (AA s) s.heap H locs) (hl : lv_has ls 9 [(4, .int (nI i)), (0, .ref b), (1, .ref h0), (2, .ref (bm 0)), (3, .ref ho)])
    (kk : LK p l e s m b below meth c D T h0 ho bm I i cells slots Q) : W p l e room_1 s m #[Value.ref b] below meth c H locs cells slots Q (F0 m 505 ls []) := by
  obtain ⟨hx, hb, hml, hown, hts, hX, hbl, hK, hE, hN⟩ := C0
  have hA : ∀ q : Nat, s.heap.size ≤ q → AA s q := fun _ h => h
  have hbA : ¬ AA s b := Nat.not_le.mpr hbl
  have hc0 : cells ≤ 601024 := by omega
  have hs0 : slots ≤ 7293034 := by omega
  obtain ⟨k, Z1, g1, b1, x1, e1, e2, e3, e4, hI⟩ := hst
  refine lv_aload_n hx hb dL_law_505 rfl (lv_at hl 2 rfl) ?_
  refine lv_aload_n hx hb dL_law_506 rfl (lv_at hl 1 rfl) ?_
  refine lv_iload hx hb dL_law_507 (lv_at hl 0 rfl) ?_
  refine lv_iconst (v := 1) hx hb dL_law_509 (by decide) ?_
  refine lv_iadd hx hb dL_law_510 ?_
  refine va_sld hx hb hX hbl hbA hS (ixl (j := 1) hi hL (by decide)) dL_law_511 ?_
  refine lv_aload_n hx hb dL_law_512 rfl (lv_at hl 1 rfl) ?_
  refine lv_iload hx hb dL_law_513 (lv_at hl 0 rfl) ?_
  refine lv_iconst (v := 2) hx hb dL_law_515 (by decide) ?_
  refine lv_iadd hx hb dL_law_516 ?_
  refine va_sld hx hb hX hbl hbA hS (ixl (j := 2) hi hL (by decide)) dL_law_517 ?_
  refine lv_aload_n hx hb dL_law_518 rfl (lv_at hl 4 rfl) ?_
  have hF : ∀ q, va_A (WL T h0 ho A Z g) H.size q → AA s q := va_self hD.lf hS hA
  refine va_calli (vx_runSW (As := [.ref h0, .int (xs (nI i + 1).toNatClampNeg), .int (xs (nI i + 2).toNatClampNeg), .ref ho]) (rest := []) ⟨hx, hb, hml, hown, hts⟩ (c_L_add l hfl D T h0 A Z ho g (xs (nI i + 1).toNatClampNeg) (xs (nI i + 2).toNatClampNeg) _ (k, Z1, g1) e1) (vx_cwSW 4 hts gL_law_L_add rfl rfl rfl hdS_L_add ⟨Nat.le_of_ble_eq_true rfl, Nat.le_of_ble_eq_true rfl⟩) ⟨PW_blind, PW_at hP.lf hD.lf hK hE hN hS hF⟩ rfl rfl hl.1 rfl (lv_room (Nat.le_of_ble_eq_true rfl)) dL_law_519 ⟨hc, hs⟩) hS (fun q _ h => hF q h) hF (fun r9 u t H locs ht hvm hw hB hz hk hS => ?_)
  replace hw := hw.symm
  subst hw
  rw [ht] at hB
  obtain ⟨hP, hD⟩ := fr_left hP hD hk hF hB.1 hB.2
  replace hP : va_P D vwCl (WL T h0 ho u Z1 g1 ++ mdW T bm x) H := hP
  replace hD : va_D (AA s) (WL T h0 ho u Z1 g1 ++ mdW T bm x) := hD
  refine lv_istore (lv' := [(5, .int k), (4, .int (nI i)), (0, .ref b), (1, .ref h0), (2, .ref (bm 0)), (3, .ref ho)]) hx hb dL_law_522 hl (by decide) rfl (fun ls hl => ?_)
  refine lv_aload_n hx hb dL_law_524 rfl (lv_at hl 4 rfl) ?_
  refine lv_aload_n hx hb dL_law_525 rfl (lv_at hl 2 rfl) ?_
  refine lv_iload hx hb dL_law_526 (lv_at hl 1 rfl) ?_
  refine lv_iconst (v := 1) hx hb dL_law_528 (by decide) ?_
  refine lv_iadd hx hb dL_law_529 ?_
  refine va_sld hx hb hX hbl hbA hS (ixl (j := 1) hi hL (by decide)) dL_law_530 ?_
  refine lv_aload_n hx hb dL_law_531 rfl (lv_at hl 2 rfl) ?_
  refine lv_iload hx hb dL_law_532 (lv_at hl 1 rfl) ?_
  refine lv_iconst (v := 2) hx hb dL_law_534 (by decide) ?_
  refine lv_iadd hx hb dL_law_535 ?_
  refine va_sld hx hb hX hbl hbA hS (ixl (j := 2) hi hL (by decide)) dL_law_536 ?_
  have hF2 : ∀ q, va_A (mdW T bm x) H.size q → AA s q := va_self hD.rt hS hA
  refine va_calli (va_runV (As := [.int (xs (nI i + 1).toNatClampNeg), .int (xs (nI i + 2).toNatClampNeg)]) (rest := []) ⟨hx, hb, hml, hown, hts⟩ (c_X5_add l D T bm x (xs (nI i + 1).toNatClampNeg) (xs (nI i + 2).toNatClampNeg) _ (b1, x1) e2) (cwV 2 hts gL_law_X5_add rfl rfl rfl hdV_X5_add ⟨Nat.le_of_ble_eq_true rfl, Nat.le_of_ble_eq_true rfl⟩) ⟨PM_blind, va_recv hK.1 hP.rt (ci := 5) (q0 := 0) rfl rfl, PM_at hP.rt hD.rt hK⟩ rfl rfl hl.1 rfl (lv_room (Nat.le_of_ble_eq_true rfl)) dL_law_537 ⟨hc, hs⟩) hS (fun q _ h => hF2 q h) hF2 (fun r9 u9 t H locs ht hvm hw hB hz hk hS => ?_)
  replace hw := hw.symm
  subst hw
  rw [ht] at hB
  obtain ⟨hP, hD⟩ := fr_right hP hD hk hF2 hB.1 hB.2
  replace hP : va_P D vwCl (WL T h0 ho u Z1 g1 ++ mdW T bm x1) H := hP
  replace hD : va_D (AA s) (WL T h0 ho u Z1 g1 ++ mdW T bm x1) := hD
  refine lv_istore (lv' := [(6, .int b1), (5, .int k), (4, .int (nI i)), (0, .ref b), (1, .ref h0), (2, .ref (bm 0)), (3, .ref ho)]) hx hb dL_law_540 hl (by decide) rfl (fun ls hl => ?_)
  refine lv_aload_n hx hb dL_law_542 rfl (lv_at hl 5 rfl) ?_
  refine callRi (v := x1.1 1) (va_runV (As := []) (rest := []) ⟨hx, hb, hml, hown, hts⟩ (c_X5_thrown l D T bm x1 (x1.1 1) rfl) (cwV 0 hts gL_law_X5_thrown rfl rfl rfl hdV_X5_thrown ⟨Nat.le_of_ble_eq_true rfl, Nat.le_of_ble_eq_true rfl⟩) ⟨PB_blind, va_recv hK.1 hP.rt (ci := 5) (q0 := 0) rfl rfl, PB_at hP.rt hK⟩ rfl rfl hl.1 rfl (lv_room (Nat.le_of_ble_eq_true rfl)) dL_law_543 ⟨hc, hs⟩) ?_
  refine lv_iload hx hb dL_law_546 (lv_at hl 1 rfl) ?_
  refine lv_icmp_eq (tgt := 553) hx hb dL_law_548 (by decide) (fun _ => ?_) (fun q => absurd e3 q)
  refine lv_iload hx hb dL_law_553 (lv_at hl 1 rfl) ?_
  refine lv_if_ne (tgt := 570) hx hb dL_law_555 (by decide) (fun k0 => ?_) (fun k0 => ?_)
  · refine lv_goto (tgt := 1554) hx hb dL_law_570 (by decide) ?_
    exact kk _ _ g1 _ _ _ _ hI hP hD hS (lv_sub hl [2, 3, 4, 5, 6] rfl)
  refine lv_aload_n hx hb dL_law_558 rfl (lv_at hl 6 rfl) ?_
  refine lv_iconst (v := 0) hx hb dL_law_559 (by decide) ?_
  refine va_lald hx hb hK.1 hP.lf.rt 0 2 rfl rfl (show ¬ ((0 : Int32) < 0 ∨ 1 ≤ Int32.toNatClampNeg 0) from by decide) dL_law_560 ?_
  have e5 := e4 k0
  refine lv_iload hx hb dL_law_561 (lv_at hl 0 rfl) ?_
  refine lv_i2l (v := b1.toInt64) hx hb dL_law_563 rfl ?_
  refine W.lcmp hx hb dL_law_564 ?_
  refine eqi (y := 0) (by rw [show Int32.toNatClampNeg 0 = 0 from by decide, e5]; exact lg_same _) ?_
  refine lv_if_eq (tgt := 570) hx hb dL_law_565 (by decide) (fun _ => ?_) (fun q => absurd rfl q)
  refine lv_goto (tgt := 1554) hx hb dL_law_570 (by decide) ?_
  exact kk _ _ g1 _ _ _ _ hI hP hD hS (lv_sub hl [2, 3, 4, 5, 6] rfl)
set_option maxHeartbeats 4000000 in
set_option maxRecDepth 100000 in
theorem lawc_removeLast {p : Program} {l : Launch} {e : Env} {s : State} {m : MethodId} {below : List Frame} {meth : Method} {c : Code} {b L : Nat} {xs : Nat → Int32} {D : va_G} {T : Nat → ClassId} {h0 ho : Nat} {bm : Nat → Nat} {I : ZT → St → Prop} {Q : State → Prop} (hfl : l.stackTraces = false) (C0 : LX p s m c b L xs D T) {i : Nat} (hi : i + 5 ≤ L) (hL : L ≤ 2560) {A : AT} {Z : ZT} {x : St} {g : Nat → Int64} {H : Heap} {locs : List Loc} {cells slots : Nat} {ls : Array Slot}
    (hst : ∃ (k : Int32) (Z1 : ZT) (g1 : Nat → Int64) (b1 : Int32) (x1 : St), F_L_removeLast Z g = some (k, Z1, g1) ∧ F_X5_removeLast x = some (b1, x1) ∧ x1.1 1 = k ∧ (k = 0 → g1 0 = b1.toInt64) ∧ I Z1 x1) (hc : cells + 1 ≤ 601024) (hs : slots + 6 ≤ 7293034) (hP : va_P D vwCl (WL T h0 ho A Z g ++ mdW T bm x) H) (hD : va_D (AA s) (WL T h0 ho A Z g ++ mdW T bm x)) (hS : va_S (AA s) s.heap H locs) (hl : lv_has ls 9 [(4, .int (nI i)), (0, .ref b), (1, .ref h0), (2, .ref (bm 0)), (3, .ref ho)])
    (kk : LK p l e s m b below meth c D T h0 ho bm I i cells slots Q) : W p l e room_1 s m #[Value.ref b] below meth c H locs cells slots Q (F0 m 573 ls []) := by
  obtain ⟨hx, hb, hml, hown, hts, hX, hbl, hK, hE, hN⟩ := C0
  have hA : ∀ q : Nat, s.heap.size ≤ q → AA s q := fun _ h => h
  have hbA : ¬ AA s b := Nat.not_le.mpr hbl
  have hc0 : cells ≤ 601024 := by omega
  have hs0 : slots ≤ 7293034 := by omega
  obtain ⟨k, Z1, g1, b1, x1, e1, e2, e3, e4, hI⟩ := hst
  refine lv_aload_n hx hb dL_law_573 rfl (lv_at hl 2 rfl) ?_
  refine lv_aload_n hx hb dL_law_574 rfl (lv_at hl 4 rfl) ?_
  have hF : ∀ q, va_A (WL T h0 ho A Z g) H.size q → AA s q := va_self hD.lf hS hA
  refine va_calli (vx_runSW (As := [.ref h0, .ref ho]) (rest := []) ⟨hx, hb, hml, hown, hts⟩ (c_L_removeLast l hfl D T h0 A Z ho g _ (k, Z1, g1) e1) (vx_cwSW 2 hts gL_law_L_removeLast rfl rfl rfl hdS_L_removeLast ⟨Nat.le_of_ble_eq_true rfl, Nat.le_of_ble_eq_true rfl⟩) ⟨PW_blind, PW_at hP.lf hD.lf hK hE hN hS hF⟩ rfl rfl hl.1 rfl (lv_room (Nat.le_of_ble_eq_true rfl)) dL_law_575 ⟨hc, hs⟩) hS (fun q _ h => hF q h) hF (fun r9 u t H locs ht hvm hw hB hz hk hS => ?_)
  replace hw := hw.symm
  subst hw
  rw [ht] at hB
  obtain ⟨hP, hD⟩ := fr_left hP hD hk hF hB.1 hB.2
  replace hP : va_P D vwCl (WL T h0 ho u Z1 g1 ++ mdW T bm x) H := hP
  replace hD : va_D (AA s) (WL T h0 ho u Z1 g1 ++ mdW T bm x) := hD
  refine lv_istore (lv' := [(5, .int k), (4, .int (nI i)), (0, .ref b), (1, .ref h0), (2, .ref (bm 0)), (3, .ref ho)]) hx hb dL_law_578 hl (by decide) rfl (fun ls hl => ?_)
  refine lv_aload_n hx hb dL_law_580 rfl (lv_at hl 4 rfl) ?_
  have hF2 : ∀ q, va_A (mdW T bm x) H.size q → AA s q := va_self hD.rt hS hA
  refine va_calli (va_runV (As := []) (rest := []) ⟨hx, hb, hml, hown, hts⟩ (c_X5_removeLast l D T bm x _ (b1, x1) e2) (cwV 0 hts gL_law_X5_removeLast rfl rfl rfl hdV_X5_removeLast ⟨Nat.le_of_ble_eq_true rfl, Nat.le_of_ble_eq_true rfl⟩) ⟨PM_blind, va_recv hK.1 hP.rt (ci := 5) (q0 := 0) rfl rfl, PM_at hP.rt hD.rt hK⟩ rfl rfl hl.1 rfl (lv_room (Nat.le_of_ble_eq_true rfl)) dL_law_581 ⟨hc, hs⟩) hS (fun q _ h => hF2 q h) hF2 (fun r9 u9 t H locs ht hvm hw hB hz hk hS => ?_)
  replace hw := hw.symm
  subst hw
  rw [ht] at hB
  obtain ⟨hP, hD⟩ := fr_right hP hD hk hF2 hB.1 hB.2
  replace hP : va_P D vwCl (WL T h0 ho u Z1 g1 ++ mdW T bm x1) H := hP
  replace hD : va_D (AA s) (WL T h0 ho u Z1 g1 ++ mdW T bm x1) := hD
  refine lv_istore (lv' := [(6, .int b1), (5, .int k), (4, .int (nI i)), (0, .ref b), (1, .ref h0), (2, .ref (bm 0)), (3, .ref ho)]) hx hb dL_law_584 hl (by decide) rfl (fun ls hl => ?_)
  refine lv_aload_n hx hb dL_law_586 rfl (lv_at hl 5 rfl) ?_
  refine callRi (v := x1.1 1) (va_runV (As := []) (rest := []) ⟨hx, hb, hml, hown, hts⟩ (c_X5_thrown l D T bm x1 (x1.1 1) rfl) (cwV 0 hts gL_law_X5_thrown rfl rfl rfl hdV_X5_thrown ⟨Nat.le_of_ble_eq_true rfl, Nat.le_of_ble_eq_true rfl⟩) ⟨PB_blind, va_recv hK.1 hP.rt (ci := 5) (q0 := 0) rfl rfl, PB_at hP.rt hK⟩ rfl rfl hl.1 rfl (lv_room (Nat.le_of_ble_eq_true rfl)) dL_law_587 ⟨hc, hs⟩) ?_
  refine lv_iload hx hb dL_law_590 (lv_at hl 1 rfl) ?_
  refine lv_icmp_eq (tgt := 597) hx hb dL_law_592 (by decide) (fun _ => ?_) (fun q => absurd e3 q)
  refine lv_iload hx hb dL_law_597 (lv_at hl 1 rfl) ?_
  refine lv_if_ne (tgt := 614) hx hb dL_law_599 (by decide) (fun k0 => ?_) (fun k0 => ?_)
  · refine lv_goto (tgt := 1554) hx hb dL_law_614 (by decide) ?_
    exact kk _ _ g1 _ _ _ _ hI hP hD hS (lv_sub hl [2, 3, 4, 5, 6] rfl)
  refine lv_aload_n hx hb dL_law_602 rfl (lv_at hl 6 rfl) ?_
  refine lv_iconst (v := 0) hx hb dL_law_603 (by decide) ?_
  refine va_lald hx hb hK.1 hP.lf.rt 0 2 rfl rfl (show ¬ ((0 : Int32) < 0 ∨ 1 ≤ Int32.toNatClampNeg 0) from by decide) dL_law_604 ?_
  have e5 := e4 k0
  refine lv_iload hx hb dL_law_605 (lv_at hl 0 rfl) ?_
  refine lv_i2l (v := b1.toInt64) hx hb dL_law_607 rfl ?_
  refine W.lcmp hx hb dL_law_608 ?_
  refine eqi (y := 0) (by rw [show Int32.toNatClampNeg 0 = 0 from by decide, e5]; exact lg_same _) ?_
  refine lv_if_eq (tgt := 614) hx hb dL_law_609 (by decide) (fun _ => ?_) (fun q => absurd rfl q)
  refine lv_goto (tgt := 1554) hx hb dL_law_614 (by decide) ?_
  exact kk _ _ g1 _ _ _ _ hI hP hD hS (lv_sub hl [2, 3, 4, 5, 6] rfl)
set_option maxHeartbeats 4000000 in
set_option maxRecDepth 100000 in
theorem lawc_lies {p : Program} {l : Launch} {e : Env} {s : State} {m : MethodId} {below : List Frame} {meth : Method} {c : Code} {b L : Nat} {xs : Nat → Int32} {D : va_G} {T : Nat → ClassId} {h0 ho : Nat} {bm : Nat → Nat} {I : ZT → St → Prop} {Q : State → Prop} (hfl : l.stackTraces = false) (C0 : LX p s m c b L xs D T) {i : Nat} (hi : i + 5 ≤ L) (hL : L ≤ 2560) {A : AT} {Z : ZT} {x : St} {g : Nat → Int64} {H : Heap} {locs : List Loc} {cells slots : Nat} {ls : Array Slot}
    (hst : ∃ (k : Int32) (Z1 : ZT) (g1 : Nat → Int64) (b1 : Int32) (x1 : St), F_L_lies Z g (xs (nI i + 1).toNatClampNeg) = some (k, Z1, g1) ∧ F_X5_lies x (xs (nI i + 1).toNatClampNeg) = some (b1, x1) ∧ x1.1 1 = k ∧ (k = 0 → g1 0 = b1.toInt64) ∧ I Z1 x1) (hc : cells + 1 ≤ 601024) (hs : slots + 6 ≤ 7293034) (hP : va_P D vwCl (WL T h0 ho A Z g ++ mdW T bm x) H) (hD : va_D (AA s) (WL T h0 ho A Z g ++ mdW T bm x)) (hS : va_S (AA s) s.heap H locs) (hl : lv_has ls 9 [(4, .int (nI i)), (0, .ref b), (1, .ref h0), (2, .ref (bm 0)), (3, .ref ho)])
    (kk : LK p l e s m b below meth c D T h0 ho bm I i cells slots Q) : W p l e room_1 s m #[Value.ref b] below meth c H locs cells slots Q (F0 m 617 ls []) := by
  obtain ⟨hx, hb, hml, hown, hts, hX, hbl, hK, hE, hN⟩ := C0
  have hA : ∀ q : Nat, s.heap.size ≤ q → AA s q := fun _ h => h
  have hbA : ¬ AA s b := Nat.not_le.mpr hbl
  have hc0 : cells ≤ 601024 := by omega
  have hs0 : slots ≤ 7293034 := by omega
  obtain ⟨k, Z1, g1, b1, x1, e1, e2, e3, e4, hI⟩ := hst
  refine lv_aload_n hx hb dL_law_617 rfl (lv_at hl 2 rfl) ?_
  refine lv_aload_n hx hb dL_law_618 rfl (lv_at hl 1 rfl) ?_
  refine lv_iload hx hb dL_law_619 (lv_at hl 0 rfl) ?_
  refine lv_iconst (v := 1) hx hb dL_law_621 (by decide) ?_
  refine lv_iadd hx hb dL_law_622 ?_
  refine va_sld hx hb hX hbl hbA hS (ixl (j := 1) hi hL (by decide)) dL_law_623 ?_
  refine lv_aload_n hx hb dL_law_624 rfl (lv_at hl 4 rfl) ?_
  have hF : ∀ q, va_A (WL T h0 ho A Z g) H.size q → AA s q := va_self hD.lf hS hA
  refine va_calli (vx_runSW (As := [.ref h0, .int (xs (nI i + 1).toNatClampNeg), .ref ho]) (rest := []) ⟨hx, hb, hml, hown, hts⟩ (c_L_lies l hfl D T h0 A Z ho g (xs (nI i + 1).toNatClampNeg) _ (k, Z1, g1) e1) (vx_cwSW 3 hts gL_law_L_lies rfl rfl rfl hdS_L_lies ⟨Nat.le_of_ble_eq_true rfl, Nat.le_of_ble_eq_true rfl⟩) ⟨PW_blind, PW_at hP.lf hD.lf hK hE hN hS hF⟩ rfl rfl hl.1 rfl (lv_room (Nat.le_of_ble_eq_true rfl)) dL_law_625 ⟨hc, hs⟩) hS (fun q _ h => hF q h) hF (fun r9 u t H locs ht hvm hw hB hz hk hS => ?_)
  replace hw := hw.symm
  subst hw
  rw [ht] at hB
  obtain ⟨hP, hD⟩ := fr_left hP hD hk hF hB.1 hB.2
  replace hP : va_P D vwCl (WL T h0 ho u Z1 g1 ++ mdW T bm x) H := hP
  replace hD : va_D (AA s) (WL T h0 ho u Z1 g1 ++ mdW T bm x) := hD
  refine lv_istore (lv' := [(5, .int k), (4, .int (nI i)), (0, .ref b), (1, .ref h0), (2, .ref (bm 0)), (3, .ref ho)]) hx hb dL_law_628 hl (by decide) rfl (fun ls hl => ?_)
  refine lv_aload_n hx hb dL_law_630 rfl (lv_at hl 4 rfl) ?_
  refine lv_aload_n hx hb dL_law_631 rfl (lv_at hl 2 rfl) ?_
  refine lv_iload hx hb dL_law_632 (lv_at hl 1 rfl) ?_
  refine lv_iconst (v := 1) hx hb dL_law_634 (by decide) ?_
  refine lv_iadd hx hb dL_law_635 ?_
  refine va_sld hx hb hX hbl hbA hS (ixl (j := 1) hi hL (by decide)) dL_law_636 ?_
  have hF2 : ∀ q, va_A (mdW T bm x) H.size q → AA s q := va_self hD.rt hS hA
  refine va_calli (va_runV (As := [.int (xs (nI i + 1).toNatClampNeg)]) (rest := []) ⟨hx, hb, hml, hown, hts⟩ (c_X5_lies l D T bm x (xs (nI i + 1).toNatClampNeg) _ (b1, x1) e2) (cwV 1 hts gL_law_X5_lies rfl rfl rfl hdV_X5_lies ⟨Nat.le_of_ble_eq_true rfl, Nat.le_of_ble_eq_true rfl⟩) ⟨PM_blind, va_recv hK.1 hP.rt (ci := 5) (q0 := 0) rfl rfl, PM_at hP.rt hD.rt hK⟩ rfl rfl hl.1 rfl (lv_room (Nat.le_of_ble_eq_true rfl)) dL_law_637 ⟨hc, hs⟩) hS (fun q _ h => hF2 q h) hF2 (fun r9 u9 t H locs ht hvm hw hB hz hk hS => ?_)
  replace hw := hw.symm
  subst hw
  rw [ht] at hB
  obtain ⟨hP, hD⟩ := fr_right hP hD hk hF2 hB.1 hB.2
  replace hP : va_P D vwCl (WL T h0 ho u Z1 g1 ++ mdW T bm x1) H := hP
  replace hD : va_D (AA s) (WL T h0 ho u Z1 g1 ++ mdW T bm x1) := hD
  refine lv_istore (lv' := [(6, .int b1), (5, .int k), (4, .int (nI i)), (0, .ref b), (1, .ref h0), (2, .ref (bm 0)), (3, .ref ho)]) hx hb dL_law_640 hl (by decide) rfl (fun ls hl => ?_)
  refine lv_aload_n hx hb dL_law_642 rfl (lv_at hl 5 rfl) ?_
  refine callRi (v := x1.1 1) (va_runV (As := []) (rest := []) ⟨hx, hb, hml, hown, hts⟩ (c_X5_thrown l D T bm x1 (x1.1 1) rfl) (cwV 0 hts gL_law_X5_thrown rfl rfl rfl hdV_X5_thrown ⟨Nat.le_of_ble_eq_true rfl, Nat.le_of_ble_eq_true rfl⟩) ⟨PB_blind, va_recv hK.1 hP.rt (ci := 5) (q0 := 0) rfl rfl, PB_at hP.rt hK⟩ rfl rfl hl.1 rfl (lv_room (Nat.le_of_ble_eq_true rfl)) dL_law_643 ⟨hc, hs⟩) ?_
  refine lv_iload hx hb dL_law_646 (lv_at hl 1 rfl) ?_
  refine lv_icmp_eq (tgt := 653) hx hb dL_law_648 (by decide) (fun _ => ?_) (fun q => absurd e3 q)
  refine lv_iload hx hb dL_law_653 (lv_at hl 1 rfl) ?_
  refine lv_if_ne (tgt := 670) hx hb dL_law_655 (by decide) (fun k0 => ?_) (fun k0 => ?_)
  · refine lv_goto (tgt := 1554) hx hb dL_law_670 (by decide) ?_
    exact kk _ _ g1 _ _ _ _ hI hP hD hS (lv_sub hl [2, 3, 4, 5, 6] rfl)
  refine lv_aload_n hx hb dL_law_658 rfl (lv_at hl 6 rfl) ?_
  refine lv_iconst (v := 0) hx hb dL_law_659 (by decide) ?_
  refine va_lald hx hb hK.1 hP.lf.rt 0 2 rfl rfl (show ¬ ((0 : Int32) < 0 ∨ 1 ≤ Int32.toNatClampNeg 0) from by decide) dL_law_660 ?_
  have e5 := e4 k0
  refine lv_iload hx hb dL_law_661 (lv_at hl 0 rfl) ?_
  refine lv_i2l (v := b1.toInt64) hx hb dL_law_663 rfl ?_
  refine W.lcmp hx hb dL_law_664 ?_
  refine eqi (y := 0) (by rw [show Int32.toNatClampNeg 0 = 0 from by decide, e5]; exact lg_same _) ?_
  refine lv_if_eq (tgt := 670) hx hb dL_law_665 (by decide) (fun _ => ?_) (fun q => absurd rfl q)
  refine lv_goto (tgt := 1554) hx hb dL_law_670 (by decide) ?_
  exact kk _ _ g1 _ _ _ _ hI hP hD hS (lv_sub hl [2, 3, 4, 5, 6] rfl)
set_option maxHeartbeats 4000000 in
set_option maxRecDepth 100000 in
theorem lawc_answer {p : Program} {l : Launch} {e : Env} {s : State} {m : MethodId} {below : List Frame} {meth : Method} {c : Code} {b L : Nat} {xs : Nat → Int32} {D : va_G} {T : Nat → ClassId} {h0 ho : Nat} {bm : Nat → Nat} {I : ZT → St → Prop} {Q : State → Prop} (hfl : l.stackTraces = false) (C0 : LX p s m c b L xs D T) {i : Nat} (hi : i + 5 ≤ L) (hL : L ≤ 2560) {A : AT} {Z : ZT} {x : St} {g : Nat → Int64} {H : Heap} {locs : List Loc} {cells slots : Nat} {ls : Array Slot}
    (hst : ∃ (k : Int32) (Z1 : ZT) (g1 : Nat → Int64) (b1 : Int32) (x1 : St), F_L_answer Z g (xs (nI i + 1).toNatClampNeg) (xs (nI i + 2).toNatClampNeg) (xs (nI i + 3).toNatClampNeg) = some (k, Z1, g1) ∧ F_X5_answer x (xs (nI i + 1).toNatClampNeg) (xs (nI i + 2).toNatClampNeg) (xs (nI i + 3).toNatClampNeg) = some (b1, x1) ∧ x1.1 1 = k ∧ (k = 0 → g1 0 = b1.toInt64) ∧ I Z1 x1) (hc : cells + 1 ≤ 601024) (hs : slots + 6 ≤ 7293034) (hP : va_P D vwCl (WL T h0 ho A Z g ++ mdW T bm x) H) (hD : va_D (AA s) (WL T h0 ho A Z g ++ mdW T bm x)) (hS : va_S (AA s) s.heap H locs) (hl : lv_has ls 9 [(4, .int (nI i)), (0, .ref b), (1, .ref h0), (2, .ref (bm 0)), (3, .ref ho)])
    (kk : LK p l e s m b below meth c D T h0 ho bm I i cells slots Q) : W p l e room_1 s m #[Value.ref b] below meth c H locs cells slots Q (F0 m 673 ls []) := by
  obtain ⟨hx, hb, hml, hown, hts, hX, hbl, hK, hE, hN⟩ := C0
  have hA : ∀ q : Nat, s.heap.size ≤ q → AA s q := fun _ h => h
  have hbA : ¬ AA s b := Nat.not_le.mpr hbl
  have hc0 : cells ≤ 601024 := by omega
  have hs0 : slots ≤ 7293034 := by omega
  obtain ⟨k, Z1, g1, b1, x1, e1, e2, e3, e4, hI⟩ := hst
  refine lv_aload_n hx hb dL_law_673 rfl (lv_at hl 2 rfl) ?_
  refine lv_aload_n hx hb dL_law_674 rfl (lv_at hl 1 rfl) ?_
  refine lv_iload hx hb dL_law_675 (lv_at hl 0 rfl) ?_
  refine lv_iconst (v := 1) hx hb dL_law_677 (by decide) ?_
  refine lv_iadd hx hb dL_law_678 ?_
  refine va_sld hx hb hX hbl hbA hS (ixl (j := 1) hi hL (by decide)) dL_law_679 ?_
  refine lv_aload_n hx hb dL_law_680 rfl (lv_at hl 1 rfl) ?_
  refine lv_iload hx hb dL_law_681 (lv_at hl 0 rfl) ?_
  refine lv_iconst (v := 2) hx hb dL_law_683 (by decide) ?_
  refine lv_iadd hx hb dL_law_684 ?_
  refine va_sld hx hb hX hbl hbA hS (ixl (j := 2) hi hL (by decide)) dL_law_685 ?_
  refine lv_aload_n hx hb dL_law_686 rfl (lv_at hl 1 rfl) ?_
  refine lv_iload hx hb dL_law_687 (lv_at hl 0 rfl) ?_
  refine lv_iconst (v := 3) hx hb dL_law_689 (by decide) ?_
  refine lv_iadd hx hb dL_law_690 ?_
  refine va_sld hx hb hX hbl hbA hS (ixl (j := 3) hi hL (by decide)) dL_law_691 ?_
  refine lv_aload_n hx hb dL_law_692 rfl (lv_at hl 4 rfl) ?_
  have hF : ∀ q, va_A (WL T h0 ho A Z g) H.size q → AA s q := va_self hD.lf hS hA
  refine va_calli (vx_runSW (As := [.ref h0, .int (xs (nI i + 1).toNatClampNeg), .int (xs (nI i + 2).toNatClampNeg), .int (xs (nI i + 3).toNatClampNeg), .ref ho]) (rest := []) ⟨hx, hb, hml, hown, hts⟩ (c_L_answer l hfl D T h0 A Z ho g (xs (nI i + 1).toNatClampNeg) (xs (nI i + 2).toNatClampNeg) (xs (nI i + 3).toNatClampNeg) _ (k, Z1, g1) e1) (vx_cwSW 5 hts gL_law_L_answer rfl rfl rfl hdS_L_answer ⟨Nat.le_of_ble_eq_true rfl, Nat.le_of_ble_eq_true rfl⟩) ⟨PW_blind, PW_at hP.lf hD.lf hK hE hN hS hF⟩ rfl rfl hl.1 rfl (lv_room (Nat.le_of_ble_eq_true rfl)) dL_law_693 ⟨hc, hs⟩) hS (fun q _ h => hF q h) hF (fun r9 u t H locs ht hvm hw hB hz hk hS => ?_)
  replace hw := hw.symm
  subst hw
  rw [ht] at hB
  obtain ⟨hP, hD⟩ := fr_left hP hD hk hF hB.1 hB.2
  replace hP : va_P D vwCl (WL T h0 ho u Z1 g1 ++ mdW T bm x) H := hP
  replace hD : va_D (AA s) (WL T h0 ho u Z1 g1 ++ mdW T bm x) := hD
  refine lv_istore (lv' := [(5, .int k), (4, .int (nI i)), (0, .ref b), (1, .ref h0), (2, .ref (bm 0)), (3, .ref ho)]) hx hb dL_law_696 hl (by decide) rfl (fun ls hl => ?_)
  refine lv_aload_n hx hb dL_law_698 rfl (lv_at hl 4 rfl) ?_
  refine lv_aload_n hx hb dL_law_699 rfl (lv_at hl 2 rfl) ?_
  refine lv_iload hx hb dL_law_700 (lv_at hl 1 rfl) ?_
  refine lv_iconst (v := 1) hx hb dL_law_702 (by decide) ?_
  refine lv_iadd hx hb dL_law_703 ?_
  refine va_sld hx hb hX hbl hbA hS (ixl (j := 1) hi hL (by decide)) dL_law_704 ?_
  refine lv_aload_n hx hb dL_law_705 rfl (lv_at hl 2 rfl) ?_
  refine lv_iload hx hb dL_law_706 (lv_at hl 1 rfl) ?_
  refine lv_iconst (v := 2) hx hb dL_law_708 (by decide) ?_
  refine lv_iadd hx hb dL_law_709 ?_
  refine va_sld hx hb hX hbl hbA hS (ixl (j := 2) hi hL (by decide)) dL_law_710 ?_
  refine lv_aload_n hx hb dL_law_711 rfl (lv_at hl 2 rfl) ?_
  refine lv_iload hx hb dL_law_712 (lv_at hl 1 rfl) ?_
  refine lv_iconst (v := 3) hx hb dL_law_714 (by decide) ?_
  refine lv_iadd hx hb dL_law_715 ?_
  refine va_sld hx hb hX hbl hbA hS (ixl (j := 3) hi hL (by decide)) dL_law_716 ?_
  have hF2 : ∀ q, va_A (mdW T bm x) H.size q → AA s q := va_self hD.rt hS hA
  refine va_calli (va_runV (As := [.int (xs (nI i + 1).toNatClampNeg), .int (xs (nI i + 2).toNatClampNeg), .int (xs (nI i + 3).toNatClampNeg)]) (rest := []) ⟨hx, hb, hml, hown, hts⟩ (c_X5_answer l D T bm x (xs (nI i + 1).toNatClampNeg) (xs (nI i + 2).toNatClampNeg) (xs (nI i + 3).toNatClampNeg) _ (b1, x1) e2) (cwV 3 hts gL_law_X5_answer rfl rfl rfl hdV_X5_answer ⟨Nat.le_of_ble_eq_true rfl, Nat.le_of_ble_eq_true rfl⟩) ⟨PM_blind, va_recv hK.1 hP.rt (ci := 5) (q0 := 0) rfl rfl, PM_at hP.rt hD.rt hK⟩ rfl rfl hl.1 rfl (lv_room (Nat.le_of_ble_eq_true rfl)) dL_law_717 ⟨hc, hs⟩) hS (fun q _ h => hF2 q h) hF2 (fun r9 u9 t H locs ht hvm hw hB hz hk hS => ?_)
  replace hw := hw.symm
  subst hw
  rw [ht] at hB
  obtain ⟨hP, hD⟩ := fr_right hP hD hk hF2 hB.1 hB.2
  replace hP : va_P D vwCl (WL T h0 ho u Z1 g1 ++ mdW T bm x1) H := hP
  replace hD : va_D (AA s) (WL T h0 ho u Z1 g1 ++ mdW T bm x1) := hD
  refine lv_istore (lv' := [(6, .int b1), (5, .int k), (4, .int (nI i)), (0, .ref b), (1, .ref h0), (2, .ref (bm 0)), (3, .ref ho)]) hx hb dL_law_720 hl (by decide) rfl (fun ls hl => ?_)
  refine lv_aload_n hx hb dL_law_722 rfl (lv_at hl 5 rfl) ?_
  refine callRi (v := x1.1 1) (va_runV (As := []) (rest := []) ⟨hx, hb, hml, hown, hts⟩ (c_X5_thrown l D T bm x1 (x1.1 1) rfl) (cwV 0 hts gL_law_X5_thrown rfl rfl rfl hdV_X5_thrown ⟨Nat.le_of_ble_eq_true rfl, Nat.le_of_ble_eq_true rfl⟩) ⟨PB_blind, va_recv hK.1 hP.rt (ci := 5) (q0 := 0) rfl rfl, PB_at hP.rt hK⟩ rfl rfl hl.1 rfl (lv_room (Nat.le_of_ble_eq_true rfl)) dL_law_723 ⟨hc, hs⟩) ?_
  refine lv_iload hx hb dL_law_726 (lv_at hl 1 rfl) ?_
  refine lv_icmp_eq (tgt := 733) hx hb dL_law_728 (by decide) (fun _ => ?_) (fun q => absurd e3 q)
  refine lv_iload hx hb dL_law_733 (lv_at hl 1 rfl) ?_
  refine lv_if_ne (tgt := 750) hx hb dL_law_735 (by decide) (fun k0 => ?_) (fun k0 => ?_)
  · refine lv_goto (tgt := 1554) hx hb dL_law_750 (by decide) ?_
    exact kk _ _ g1 _ _ _ _ hI hP hD hS (lv_sub hl [2, 3, 4, 5, 6] rfl)
  refine lv_aload_n hx hb dL_law_738 rfl (lv_at hl 6 rfl) ?_
  refine lv_iconst (v := 0) hx hb dL_law_739 (by decide) ?_
  refine va_lald hx hb hK.1 hP.lf.rt 0 2 rfl rfl (show ¬ ((0 : Int32) < 0 ∨ 1 ≤ Int32.toNatClampNeg 0) from by decide) dL_law_740 ?_
  have e5 := e4 k0
  refine lv_iload hx hb dL_law_741 (lv_at hl 0 rfl) ?_
  refine lv_i2l (v := b1.toInt64) hx hb dL_law_743 rfl ?_
  refine W.lcmp hx hb dL_law_744 ?_
  refine eqi (y := 0) (by rw [show Int32.toNatClampNeg 0 = 0 from by decide, e5]; exact lg_same _) ?_
  refine lv_if_eq (tgt := 750) hx hb dL_law_745 (by decide) (fun _ => ?_) (fun q => absurd rfl q)
  refine lv_goto (tgt := 1554) hx hb dL_law_750 (by decide) ?_
  exact kk _ _ g1 _ _ _ _ hI hP hD hS (lv_sub hl [2, 3, 4, 5, 6] rfl)
set_option maxHeartbeats 4000000 in
set_option maxRecDepth 100000 in
theorem lawc_leftCase {p : Program} {l : Launch} {e : Env} {s : State} {m : MethodId} {below : List Frame} {meth : Method} {c : Code} {b L : Nat} {xs : Nat → Int32} {D : va_G} {T : Nat → ClassId} {h0 ho : Nat} {bm : Nat → Nat} {I : ZT → St → Prop} {Q : State → Prop} (hfl : l.stackTraces = false) (C0 : LX p s m c b L xs D T) {i : Nat} (hi : i + 5 ≤ L) (hL : L ≤ 2560) {A : AT} {Z : ZT} {x : St} {g : Nat → Int64} {H : Heap} {locs : List Loc} {cells slots : Nat} {ls : Array Slot}
    (hst : ∃ (k : Int32) (Z1 : ZT) (g1 : Nat → Int64) (b1 : Int32) (x1 : St), F_L_leftCase Z g (xs (nI i + 1).toNatClampNeg) = some (k, Z1, g1) ∧ F_X5_leftCase x (xs (nI i + 1).toNatClampNeg) = some (b1, x1) ∧ x1.1 1 = k ∧ (k = 0 → g1 0 = b1.toInt64) ∧ I Z1 x1) (hc : cells + 1 ≤ 601024) (hs : slots + 6 ≤ 7293034) (hP : va_P D vwCl (WL T h0 ho A Z g ++ mdW T bm x) H) (hD : va_D (AA s) (WL T h0 ho A Z g ++ mdW T bm x)) (hS : va_S (AA s) s.heap H locs) (hl : lv_has ls 9 [(4, .int (nI i)), (0, .ref b), (1, .ref h0), (2, .ref (bm 0)), (3, .ref ho)])
    (kk : LK p l e s m b below meth c D T h0 ho bm I i cells slots Q) : W p l e room_1 s m #[Value.ref b] below meth c H locs cells slots Q (F0 m 753 ls []) := by
  obtain ⟨hx, hb, hml, hown, hts, hX, hbl, hK, hE, hN⟩ := C0
  have hA : ∀ q : Nat, s.heap.size ≤ q → AA s q := fun _ h => h
  have hbA : ¬ AA s b := Nat.not_le.mpr hbl
  have hc0 : cells ≤ 601024 := by omega
  have hs0 : slots ≤ 7293034 := by omega
  obtain ⟨k, Z1, g1, b1, x1, e1, e2, e3, e4, hI⟩ := hst
  refine lv_aload_n hx hb dL_law_753 rfl (lv_at hl 2 rfl) ?_
  refine lv_aload_n hx hb dL_law_754 rfl (lv_at hl 1 rfl) ?_
  refine lv_iload hx hb dL_law_755 (lv_at hl 0 rfl) ?_
  refine lv_iconst (v := 1) hx hb dL_law_757 (by decide) ?_
  refine lv_iadd hx hb dL_law_758 ?_
  refine va_sld hx hb hX hbl hbA hS (ixl (j := 1) hi hL (by decide)) dL_law_759 ?_
  refine lv_aload_n hx hb dL_law_760 rfl (lv_at hl 4 rfl) ?_
  have hF : ∀ q, va_A (WL T h0 ho A Z g) H.size q → AA s q := va_self hD.lf hS hA
  refine va_calli (vx_runSW (As := [.ref h0, .int (xs (nI i + 1).toNatClampNeg), .ref ho]) (rest := []) ⟨hx, hb, hml, hown, hts⟩ (c_L_leftCase l hfl D T h0 A Z ho g (xs (nI i + 1).toNatClampNeg) _ (k, Z1, g1) e1) (vx_cwSW 3 hts gL_law_L_leftCase rfl rfl rfl hdS_L_leftCase ⟨Nat.le_of_ble_eq_true rfl, Nat.le_of_ble_eq_true rfl⟩) ⟨PW_blind, PW_at hP.lf hD.lf hK hE hN hS hF⟩ rfl rfl hl.1 rfl (lv_room (Nat.le_of_ble_eq_true rfl)) dL_law_761 ⟨hc, hs⟩) hS (fun q _ h => hF q h) hF (fun r9 u t H locs ht hvm hw hB hz hk hS => ?_)
  replace hw := hw.symm
  subst hw
  rw [ht] at hB
  obtain ⟨hP, hD⟩ := fr_left hP hD hk hF hB.1 hB.2
  replace hP : va_P D vwCl (WL T h0 ho u Z1 g1 ++ mdW T bm x) H := hP
  replace hD : va_D (AA s) (WL T h0 ho u Z1 g1 ++ mdW T bm x) := hD
  refine lv_istore (lv' := [(5, .int k), (4, .int (nI i)), (0, .ref b), (1, .ref h0), (2, .ref (bm 0)), (3, .ref ho)]) hx hb dL_law_764 hl (by decide) rfl (fun ls hl => ?_)
  refine lv_aload_n hx hb dL_law_766 rfl (lv_at hl 4 rfl) ?_
  refine lv_aload_n hx hb dL_law_767 rfl (lv_at hl 2 rfl) ?_
  refine lv_iload hx hb dL_law_768 (lv_at hl 1 rfl) ?_
  refine lv_iconst (v := 1) hx hb dL_law_770 (by decide) ?_
  refine lv_iadd hx hb dL_law_771 ?_
  refine va_sld hx hb hX hbl hbA hS (ixl (j := 1) hi hL (by decide)) dL_law_772 ?_
  have hF2 : ∀ q, va_A (mdW T bm x) H.size q → AA s q := va_self hD.rt hS hA
  refine va_calli (va_runV (As := [.int (xs (nI i + 1).toNatClampNeg)]) (rest := []) ⟨hx, hb, hml, hown, hts⟩ (c_X5_leftCase l D T bm x (xs (nI i + 1).toNatClampNeg) _ (b1, x1) e2) (cwV 1 hts gL_law_X5_leftCase rfl rfl rfl hdV_X5_leftCase ⟨Nat.le_of_ble_eq_true rfl, Nat.le_of_ble_eq_true rfl⟩) ⟨PM_blind, va_recv hK.1 hP.rt (ci := 5) (q0 := 0) rfl rfl, PM_at hP.rt hD.rt hK⟩ rfl rfl hl.1 rfl (lv_room (Nat.le_of_ble_eq_true rfl)) dL_law_773 ⟨hc, hs⟩) hS (fun q _ h => hF2 q h) hF2 (fun r9 u9 t H locs ht hvm hw hB hz hk hS => ?_)
  replace hw := hw.symm
  subst hw
  rw [ht] at hB
  obtain ⟨hP, hD⟩ := fr_right hP hD hk hF2 hB.1 hB.2
  replace hP : va_P D vwCl (WL T h0 ho u Z1 g1 ++ mdW T bm x1) H := hP
  replace hD : va_D (AA s) (WL T h0 ho u Z1 g1 ++ mdW T bm x1) := hD
  refine lv_istore (lv' := [(6, .int b1), (5, .int k), (4, .int (nI i)), (0, .ref b), (1, .ref h0), (2, .ref (bm 0)), (3, .ref ho)]) hx hb dL_law_776 hl (by decide) rfl (fun ls hl => ?_)
  refine lv_aload_n hx hb dL_law_778 rfl (lv_at hl 5 rfl) ?_
  refine callRi (v := x1.1 1) (va_runV (As := []) (rest := []) ⟨hx, hb, hml, hown, hts⟩ (c_X5_thrown l D T bm x1 (x1.1 1) rfl) (cwV 0 hts gL_law_X5_thrown rfl rfl rfl hdV_X5_thrown ⟨Nat.le_of_ble_eq_true rfl, Nat.le_of_ble_eq_true rfl⟩) ⟨PB_blind, va_recv hK.1 hP.rt (ci := 5) (q0 := 0) rfl rfl, PB_at hP.rt hK⟩ rfl rfl hl.1 rfl (lv_room (Nat.le_of_ble_eq_true rfl)) dL_law_779 ⟨hc, hs⟩) ?_
  refine lv_iload hx hb dL_law_782 (lv_at hl 1 rfl) ?_
  refine lv_icmp_eq (tgt := 789) hx hb dL_law_784 (by decide) (fun _ => ?_) (fun q => absurd e3 q)
  refine lv_iload hx hb dL_law_789 (lv_at hl 1 rfl) ?_
  refine lv_if_ne (tgt := 806) hx hb dL_law_791 (by decide) (fun k0 => ?_) (fun k0 => ?_)
  · refine lv_goto (tgt := 1554) hx hb dL_law_806 (by decide) ?_
    exact kk _ _ g1 _ _ _ _ hI hP hD hS (lv_sub hl [2, 3, 4, 5, 6] rfl)
  refine lv_aload_n hx hb dL_law_794 rfl (lv_at hl 6 rfl) ?_
  refine lv_iconst (v := 0) hx hb dL_law_795 (by decide) ?_
  refine va_lald hx hb hK.1 hP.lf.rt 0 2 rfl rfl (show ¬ ((0 : Int32) < 0 ∨ 1 ≤ Int32.toNatClampNeg 0) from by decide) dL_law_796 ?_
  have e5 := e4 k0
  refine lv_iload hx hb dL_law_797 (lv_at hl 0 rfl) ?_
  refine lv_i2l (v := b1.toInt64) hx hb dL_law_799 rfl ?_
  refine W.lcmp hx hb dL_law_800 ?_
  refine eqi (y := 0) (by rw [show Int32.toNatClampNeg 0 = 0 from by decide, e5]; exact lg_same _) ?_
  refine lv_if_eq (tgt := 806) hx hb dL_law_801 (by decide) (fun _ => ?_) (fun q => absurd rfl q)
  refine lv_goto (tgt := 1554) hx hb dL_law_806 (by decide) ?_
  exact kk _ _ g1 _ _ _ _ hI hP hD hS (lv_sub hl [2, 3, 4, 5, 6] rfl)
set_option maxHeartbeats 4000000 in
set_option maxRecDepth 100000 in
theorem lawc_weighing {p : Program} {l : Launch} {e : Env} {s : State} {m : MethodId} {below : List Frame} {meth : Method} {c : Code} {b L : Nat} {xs : Nat → Int32} {D : va_G} {T : Nat → ClassId} {h0 ho : Nat} {bm : Nat → Nat} {I : ZT → St → Prop} {Q : State → Prop} (hfl : l.stackTraces = false) (C0 : LX p s m c b L xs D T) {i : Nat} (hi : i + 5 ≤ L) (hL : L ≤ 2560) {A : AT} {Z : ZT} {x : St} {g : Nat → Int64} {H : Heap} {locs : List Loc} {cells slots : Nat} {ls : Array Slot}
    (hst : ∃ (k : Int32) (Z1 : ZT) (g1 : Nat → Int64) (b1 : Int32) (x1 : St), F_L_weighing Z g (xs (nI i + 1).toNatClampNeg) (xs (nI i + 2).toNatClampNeg) = some (k, Z1, g1) ∧ F_X5_weighing x (xs (nI i + 1).toNatClampNeg) (xs (nI i + 2).toNatClampNeg) = some (b1, x1) ∧ x1.1 1 = k ∧ (k = 0 → g1 0 = b1.toInt64) ∧ I Z1 x1) (hc : cells + 1 ≤ 601024) (hs : slots + 6 ≤ 7293034) (hP : va_P D vwCl (WL T h0 ho A Z g ++ mdW T bm x) H) (hD : va_D (AA s) (WL T h0 ho A Z g ++ mdW T bm x)) (hS : va_S (AA s) s.heap H locs) (hl : lv_has ls 9 [(4, .int (nI i)), (0, .ref b), (1, .ref h0), (2, .ref (bm 0)), (3, .ref ho)])
    (kk : LK p l e s m b below meth c D T h0 ho bm I i cells slots Q) : W p l e room_1 s m #[Value.ref b] below meth c H locs cells slots Q (F0 m 809 ls []) := by
  obtain ⟨hx, hb, hml, hown, hts, hX, hbl, hK, hE, hN⟩ := C0
  have hA : ∀ q : Nat, s.heap.size ≤ q → AA s q := fun _ h => h
  have hbA : ¬ AA s b := Nat.not_le.mpr hbl
  have hc0 : cells ≤ 601024 := by omega
  have hs0 : slots ≤ 7293034 := by omega
  obtain ⟨k, Z1, g1, b1, x1, e1, e2, e3, e4, hI⟩ := hst
  refine lv_aload_n hx hb dL_law_809 rfl (lv_at hl 2 rfl) ?_
  refine lv_aload_n hx hb dL_law_810 rfl (lv_at hl 1 rfl) ?_
  refine lv_iload hx hb dL_law_811 (lv_at hl 0 rfl) ?_
  refine lv_iconst (v := 1) hx hb dL_law_813 (by decide) ?_
  refine lv_iadd hx hb dL_law_814 ?_
  refine va_sld hx hb hX hbl hbA hS (ixl (j := 1) hi hL (by decide)) dL_law_815 ?_
  refine lv_aload_n hx hb dL_law_816 rfl (lv_at hl 1 rfl) ?_
  refine lv_iload hx hb dL_law_817 (lv_at hl 0 rfl) ?_
  refine lv_iconst (v := 2) hx hb dL_law_819 (by decide) ?_
  refine lv_iadd hx hb dL_law_820 ?_
  refine va_sld hx hb hX hbl hbA hS (ixl (j := 2) hi hL (by decide)) dL_law_821 ?_
  refine lv_aload_n hx hb dL_law_822 rfl (lv_at hl 4 rfl) ?_
  have hF : ∀ q, va_A (WL T h0 ho A Z g) H.size q → AA s q := va_self hD.lf hS hA
  refine va_calli (vx_runSW (As := [.ref h0, .int (xs (nI i + 1).toNatClampNeg), .int (xs (nI i + 2).toNatClampNeg), .ref ho]) (rest := []) ⟨hx, hb, hml, hown, hts⟩ (c_L_weighing l hfl D T h0 A Z ho g (xs (nI i + 1).toNatClampNeg) (xs (nI i + 2).toNatClampNeg) _ (k, Z1, g1) e1) (vx_cwSW 4 hts gL_law_L_weighing rfl rfl rfl hdS_L_weighing ⟨Nat.le_of_ble_eq_true rfl, Nat.le_of_ble_eq_true rfl⟩) ⟨PW_blind, PW_at hP.lf hD.lf hK hE hN hS hF⟩ rfl rfl hl.1 rfl (lv_room (Nat.le_of_ble_eq_true rfl)) dL_law_823 ⟨hc, hs⟩) hS (fun q _ h => hF q h) hF (fun r9 u t H locs ht hvm hw hB hz hk hS => ?_)
  replace hw := hw.symm
  subst hw
  rw [ht] at hB
  obtain ⟨hP, hD⟩ := fr_left hP hD hk hF hB.1 hB.2
  replace hP : va_P D vwCl (WL T h0 ho u Z1 g1 ++ mdW T bm x) H := hP
  replace hD : va_D (AA s) (WL T h0 ho u Z1 g1 ++ mdW T bm x) := hD
  refine lv_istore (lv' := [(5, .int k), (4, .int (nI i)), (0, .ref b), (1, .ref h0), (2, .ref (bm 0)), (3, .ref ho)]) hx hb dL_law_826 hl (by decide) rfl (fun ls hl => ?_)
  refine lv_aload_n hx hb dL_law_828 rfl (lv_at hl 4 rfl) ?_
  refine lv_aload_n hx hb dL_law_829 rfl (lv_at hl 2 rfl) ?_
  refine lv_iload hx hb dL_law_830 (lv_at hl 1 rfl) ?_
  refine lv_iconst (v := 1) hx hb dL_law_832 (by decide) ?_
  refine lv_iadd hx hb dL_law_833 ?_
  refine va_sld hx hb hX hbl hbA hS (ixl (j := 1) hi hL (by decide)) dL_law_834 ?_
  refine lv_aload_n hx hb dL_law_835 rfl (lv_at hl 2 rfl) ?_
  refine lv_iload hx hb dL_law_836 (lv_at hl 1 rfl) ?_
  refine lv_iconst (v := 2) hx hb dL_law_838 (by decide) ?_
  refine lv_iadd hx hb dL_law_839 ?_
  refine va_sld hx hb hX hbl hbA hS (ixl (j := 2) hi hL (by decide)) dL_law_840 ?_
  have hF2 : ∀ q, va_A (mdW T bm x) H.size q → AA s q := va_self hD.rt hS hA
  refine va_calli (va_runV (As := [.int (xs (nI i + 1).toNatClampNeg), .int (xs (nI i + 2).toNatClampNeg)]) (rest := []) ⟨hx, hb, hml, hown, hts⟩ (c_X5_weighing l D T bm x (xs (nI i + 1).toNatClampNeg) (xs (nI i + 2).toNatClampNeg) _ (b1, x1) e2) (cwV 2 hts gL_law_X5_weighing rfl rfl rfl hdV_X5_weighing ⟨Nat.le_of_ble_eq_true rfl, Nat.le_of_ble_eq_true rfl⟩) ⟨PM_blind, va_recv hK.1 hP.rt (ci := 5) (q0 := 0) rfl rfl, PM_at hP.rt hD.rt hK⟩ rfl rfl hl.1 rfl (lv_room (Nat.le_of_ble_eq_true rfl)) dL_law_841 ⟨hc, hs⟩) hS (fun q _ h => hF2 q h) hF2 (fun r9 u9 t H locs ht hvm hw hB hz hk hS => ?_)
  replace hw := hw.symm
  subst hw
  rw [ht] at hB
  obtain ⟨hP, hD⟩ := fr_right hP hD hk hF2 hB.1 hB.2
  replace hP : va_P D vwCl (WL T h0 ho u Z1 g1 ++ mdW T bm x1) H := hP
  replace hD : va_D (AA s) (WL T h0 ho u Z1 g1 ++ mdW T bm x1) := hD
  refine lv_istore (lv' := [(6, .int b1), (5, .int k), (4, .int (nI i)), (0, .ref b), (1, .ref h0), (2, .ref (bm 0)), (3, .ref ho)]) hx hb dL_law_844 hl (by decide) rfl (fun ls hl => ?_)
  refine lv_aload_n hx hb dL_law_846 rfl (lv_at hl 5 rfl) ?_
  refine callRi (v := x1.1 1) (va_runV (As := []) (rest := []) ⟨hx, hb, hml, hown, hts⟩ (c_X5_thrown l D T bm x1 (x1.1 1) rfl) (cwV 0 hts gL_law_X5_thrown rfl rfl rfl hdV_X5_thrown ⟨Nat.le_of_ble_eq_true rfl, Nat.le_of_ble_eq_true rfl⟩) ⟨PB_blind, va_recv hK.1 hP.rt (ci := 5) (q0 := 0) rfl rfl, PB_at hP.rt hK⟩ rfl rfl hl.1 rfl (lv_room (Nat.le_of_ble_eq_true rfl)) dL_law_847 ⟨hc, hs⟩) ?_
  refine lv_iload hx hb dL_law_850 (lv_at hl 1 rfl) ?_
  refine lv_icmp_eq (tgt := 857) hx hb dL_law_852 (by decide) (fun _ => ?_) (fun q => absurd e3 q)
  refine lv_iload hx hb dL_law_857 (lv_at hl 1 rfl) ?_
  refine lv_if_ne (tgt := 874) hx hb dL_law_859 (by decide) (fun k0 => ?_) (fun k0 => ?_)
  · refine lv_goto (tgt := 1554) hx hb dL_law_874 (by decide) ?_
    exact kk _ _ g1 _ _ _ _ hI hP hD hS (lv_sub hl [2, 3, 4, 5, 6] rfl)
  refine lv_aload_n hx hb dL_law_862 rfl (lv_at hl 6 rfl) ?_
  refine lv_iconst (v := 0) hx hb dL_law_863 (by decide) ?_
  refine va_lald hx hb hK.1 hP.lf.rt 0 2 rfl rfl (show ¬ ((0 : Int32) < 0 ∨ 1 ≤ Int32.toNatClampNeg 0) from by decide) dL_law_864 ?_
  have e5 := e4 k0
  refine lv_iload hx hb dL_law_865 (lv_at hl 0 rfl) ?_
  refine lv_i2l (v := b1.toInt64) hx hb dL_law_867 rfl ?_
  refine W.lcmp hx hb dL_law_868 ?_
  refine eqi (y := 0) (by rw [show Int32.toNatClampNeg 0 = 0 from by decide, e5]; exact lg_same _) ?_
  refine lv_if_eq (tgt := 874) hx hb dL_law_869 (by decide) (fun _ => ?_) (fun q => absurd rfl q)
  refine lv_goto (tgt := 1554) hx hb dL_law_874 (by decide) ?_
  exact kk _ _ g1 _ _ _ _ hI hP hD hS (lv_sub hl [2, 3, 4, 5, 6] rfl)
set_option maxHeartbeats 4000000 in
set_option maxRecDepth 100000 in
theorem lawc_value {p : Program} {l : Launch} {e : Env} {s : State} {m : MethodId} {below : List Frame} {meth : Method} {c : Code} {b L : Nat} {xs : Nat → Int32} {D : va_G} {T : Nat → ClassId} {h0 ho : Nat} {bm : Nat → Nat} {I : ZT → St → Prop} {Q : State → Prop} (hfl : l.stackTraces = false) (C0 : LX p s m c b L xs D T) {i : Nat} (hi : i + 5 ≤ L) (hL : L ≤ 2560) {A : AT} {Z : ZT} {x : St} {g : Nat → Int64} {H : Heap} {locs : List Loc} {cells slots : Nat} {ls : Array Slot}
    (hst : ∃ (k : Int32) (Z1 : ZT) (g1 : Nat → Int64) (b1 : Int32) (x1 : St), F_L_value Z g (xs (nI i + 1).toNatClampNeg) = some (k, Z1, g1) ∧ F_X5_value x (xs (nI i + 1).toNatClampNeg) = some (b1, x1) ∧ x1.1 1 = k ∧ (k = 0 → g1 0 = b1.toInt64) ∧ I Z1 x1) (hc : cells + 1 ≤ 601024) (hs : slots + 6 ≤ 7293034) (hP : va_P D vwCl (WL T h0 ho A Z g ++ mdW T bm x) H) (hD : va_D (AA s) (WL T h0 ho A Z g ++ mdW T bm x)) (hS : va_S (AA s) s.heap H locs) (hl : lv_has ls 9 [(4, .int (nI i)), (0, .ref b), (1, .ref h0), (2, .ref (bm 0)), (3, .ref ho)])
    (kk : LK p l e s m b below meth c D T h0 ho bm I i cells slots Q) : W p l e room_1 s m #[Value.ref b] below meth c H locs cells slots Q (F0 m 877 ls []) := by
  obtain ⟨hx, hb, hml, hown, hts, hX, hbl, hK, hE, hN⟩ := C0
  have hA : ∀ q : Nat, s.heap.size ≤ q → AA s q := fun _ h => h
  have hbA : ¬ AA s b := Nat.not_le.mpr hbl
  have hc0 : cells ≤ 601024 := by omega
  have hs0 : slots ≤ 7293034 := by omega
  obtain ⟨k, Z1, g1, b1, x1, e1, e2, e3, e4, hI⟩ := hst
  refine lv_aload_n hx hb dL_law_877 rfl (lv_at hl 2 rfl) ?_
  refine lv_aload_n hx hb dL_law_878 rfl (lv_at hl 1 rfl) ?_
  refine lv_iload hx hb dL_law_879 (lv_at hl 0 rfl) ?_
  refine lv_iconst (v := 1) hx hb dL_law_881 (by decide) ?_
  refine lv_iadd hx hb dL_law_882 ?_
  refine va_sld hx hb hX hbl hbA hS (ixl (j := 1) hi hL (by decide)) dL_law_883 ?_
  refine lv_aload_n hx hb dL_law_884 rfl (lv_at hl 4 rfl) ?_
  have hF : ∀ q, va_A (WL T h0 ho A Z g) H.size q → AA s q := va_self hD.lf hS hA
  refine va_calli (vx_runSW (As := [.ref h0, .int (xs (nI i + 1).toNatClampNeg), .ref ho]) (rest := []) ⟨hx, hb, hml, hown, hts⟩ (c_L_value l hfl D T h0 A Z ho g (xs (nI i + 1).toNatClampNeg) _ (k, Z1, g1) e1) (vx_cwSW 3 hts gL_law_L_value rfl rfl rfl hdS_L_value ⟨Nat.le_of_ble_eq_true rfl, Nat.le_of_ble_eq_true rfl⟩) ⟨PW_blind, PW_at hP.lf hD.lf hK hE hN hS hF⟩ rfl rfl hl.1 rfl (lv_room (Nat.le_of_ble_eq_true rfl)) dL_law_885 ⟨hc, hs⟩) hS (fun q _ h => hF q h) hF (fun r9 u t H locs ht hvm hw hB hz hk hS => ?_)
  replace hw := hw.symm
  subst hw
  rw [ht] at hB
  obtain ⟨hP, hD⟩ := fr_left hP hD hk hF hB.1 hB.2
  replace hP : va_P D vwCl (WL T h0 ho u Z1 g1 ++ mdW T bm x) H := hP
  replace hD : va_D (AA s) (WL T h0 ho u Z1 g1 ++ mdW T bm x) := hD
  refine lv_istore (lv' := [(5, .int k), (4, .int (nI i)), (0, .ref b), (1, .ref h0), (2, .ref (bm 0)), (3, .ref ho)]) hx hb dL_law_888 hl (by decide) rfl (fun ls hl => ?_)
  refine lv_aload_n hx hb dL_law_890 rfl (lv_at hl 4 rfl) ?_
  refine lv_aload_n hx hb dL_law_891 rfl (lv_at hl 2 rfl) ?_
  refine lv_iload hx hb dL_law_892 (lv_at hl 1 rfl) ?_
  refine lv_iconst (v := 1) hx hb dL_law_894 (by decide) ?_
  refine lv_iadd hx hb dL_law_895 ?_
  refine va_sld hx hb hX hbl hbA hS (ixl (j := 1) hi hL (by decide)) dL_law_896 ?_
  have hF2 : ∀ q, va_A (mdW T bm x) H.size q → AA s q := va_self hD.rt hS hA
  refine va_calli (va_runV (As := [.int (xs (nI i + 1).toNatClampNeg)]) (rest := []) ⟨hx, hb, hml, hown, hts⟩ (c_X5_value l D T bm x (xs (nI i + 1).toNatClampNeg) _ (b1, x1) e2) (cwV 1 hts gL_law_X5_value rfl rfl rfl hdV_X5_value ⟨Nat.le_of_ble_eq_true rfl, Nat.le_of_ble_eq_true rfl⟩) ⟨PM_blind, va_recv hK.1 hP.rt (ci := 5) (q0 := 0) rfl rfl, PM_at hP.rt hD.rt hK⟩ rfl rfl hl.1 rfl (lv_room (Nat.le_of_ble_eq_true rfl)) dL_law_897 ⟨hc, hs⟩) hS (fun q _ h => hF2 q h) hF2 (fun r9 u9 t H locs ht hvm hw hB hz hk hS => ?_)
  replace hw := hw.symm
  subst hw
  rw [ht] at hB
  obtain ⟨hP, hD⟩ := fr_right hP hD hk hF2 hB.1 hB.2
  replace hP : va_P D vwCl (WL T h0 ho u Z1 g1 ++ mdW T bm x1) H := hP
  replace hD : va_D (AA s) (WL T h0 ho u Z1 g1 ++ mdW T bm x1) := hD
  refine lv_istore (lv' := [(6, .int b1), (5, .int k), (4, .int (nI i)), (0, .ref b), (1, .ref h0), (2, .ref (bm 0)), (3, .ref ho)]) hx hb dL_law_900 hl (by decide) rfl (fun ls hl => ?_)
  refine lv_aload_n hx hb dL_law_902 rfl (lv_at hl 5 rfl) ?_
  refine callRi (v := x1.1 1) (va_runV (As := []) (rest := []) ⟨hx, hb, hml, hown, hts⟩ (c_X5_thrown l D T bm x1 (x1.1 1) rfl) (cwV 0 hts gL_law_X5_thrown rfl rfl rfl hdV_X5_thrown ⟨Nat.le_of_ble_eq_true rfl, Nat.le_of_ble_eq_true rfl⟩) ⟨PB_blind, va_recv hK.1 hP.rt (ci := 5) (q0 := 0) rfl rfl, PB_at hP.rt hK⟩ rfl rfl hl.1 rfl (lv_room (Nat.le_of_ble_eq_true rfl)) dL_law_903 ⟨hc, hs⟩) ?_
  refine lv_iload hx hb dL_law_906 (lv_at hl 1 rfl) ?_
  refine lv_icmp_eq (tgt := 913) hx hb dL_law_908 (by decide) (fun _ => ?_) (fun q => absurd e3 q)
  refine lv_iload hx hb dL_law_913 (lv_at hl 1 rfl) ?_
  refine lv_if_ne (tgt := 930) hx hb dL_law_915 (by decide) (fun k0 => ?_) (fun k0 => ?_)
  · refine lv_goto (tgt := 1554) hx hb dL_law_930 (by decide) ?_
    exact kk _ _ g1 _ _ _ _ hI hP hD hS (lv_sub hl [2, 3, 4, 5, 6] rfl)
  refine lv_aload_n hx hb dL_law_918 rfl (lv_at hl 6 rfl) ?_
  refine lv_iconst (v := 0) hx hb dL_law_919 (by decide) ?_
  refine va_lald hx hb hK.1 hP.lf.rt 0 2 rfl rfl (show ¬ ((0 : Int32) < 0 ∨ 1 ≤ Int32.toNatClampNeg 0) from by decide) dL_law_920 ?_
  have e5 := e4 k0
  refine lv_iload hx hb dL_law_921 (lv_at hl 0 rfl) ?_
  refine lv_i2l (v := b1.toInt64) hx hb dL_law_923 rfl ?_
  refine W.lcmp hx hb dL_law_924 ?_
  refine eqi (y := 0) (by rw [show Int32.toNatClampNeg 0 = 0 from by decide, e5]; exact lg_same _) ?_
  refine lv_if_eq (tgt := 930) hx hb dL_law_925 (by decide) (fun _ => ?_) (fun q => absurd rfl q)
  refine lv_goto (tgt := 1554) hx hb dL_law_930 (by decide) ?_
  exact kk _ _ g1 _ _ _ _ hI hP hD hS (lv_sub hl [2, 3, 4, 5, 6] rfl)
set_option maxHeartbeats 4000000 in
set_option maxRecDepth 100000 in
theorem lawc_weight {p : Program} {l : Launch} {e : Env} {s : State} {m : MethodId} {below : List Frame} {meth : Method} {c : Code} {b L : Nat} {xs : Nat → Int32} {D : va_G} {T : Nat → ClassId} {h0 ho : Nat} {bm : Nat → Nat} {I : ZT → St → Prop} {Q : State → Prop} (hfl : l.stackTraces = false) (C0 : LX p s m c b L xs D T) {i : Nat} (hi : i + 5 ≤ L) (hL : L ≤ 2560) {A : AT} {Z : ZT} {x : St} {g : Nat → Int64} {H : Heap} {locs : List Loc} {cells slots : Nat} {ls : Array Slot}
    (hst : ∃ (k : Int32) (Z1 : ZT) (g1 : Nat → Int64) (b1 : Int64) (x1 : St), F_L_weight Z g (xs (nI i + 1).toNatClampNeg) = some (k, Z1, g1) ∧ F_X5_weight x (xs (nI i + 1).toNatClampNeg) = some (b1, x1) ∧ x1.1 1 = k ∧ (k = 0 → g1 0 = b1) ∧ I Z1 x1) (hc : cells + 1 ≤ 601024) (hs : slots + 6 ≤ 7293034) (hP : va_P D vwCl (WL T h0 ho A Z g ++ mdW T bm x) H) (hD : va_D (AA s) (WL T h0 ho A Z g ++ mdW T bm x)) (hS : va_S (AA s) s.heap H locs) (hl : lv_has ls 9 [(4, .int (nI i)), (0, .ref b), (1, .ref h0), (2, .ref (bm 0)), (3, .ref ho)])
    (kk : LK p l e s m b below meth c D T h0 ho bm I i cells slots Q) : W p l e room_1 s m #[Value.ref b] below meth c H locs cells slots Q (F0 m 933 ls []) := by
  obtain ⟨hx, hb, hml, hown, hts, hX, hbl, hK, hE, hN⟩ := C0
  have hA : ∀ q : Nat, s.heap.size ≤ q → AA s q := fun _ h => h
  have hbA : ¬ AA s b := Nat.not_le.mpr hbl
  have hc0 : cells ≤ 601024 := by omega
  have hs0 : slots ≤ 7293034 := by omega
  obtain ⟨k, Z1, g1, b1, x1, e1, e2, e3, e4, hI⟩ := hst
  refine lv_aload_n hx hb dL_law_933 rfl (lv_at hl 2 rfl) ?_
  refine lv_aload_n hx hb dL_law_934 rfl (lv_at hl 1 rfl) ?_
  refine lv_iload hx hb dL_law_935 (lv_at hl 0 rfl) ?_
  refine lv_iconst (v := 1) hx hb dL_law_937 (by decide) ?_
  refine lv_iadd hx hb dL_law_938 ?_
  refine va_sld hx hb hX hbl hbA hS (ixl (j := 1) hi hL (by decide)) dL_law_939 ?_
  refine lv_aload_n hx hb dL_law_940 rfl (lv_at hl 4 rfl) ?_
  have hF : ∀ q, va_A (WL T h0 ho A Z g) H.size q → AA s q := va_self hD.lf hS hA
  refine va_calli (vx_runSW (As := [.ref h0, .int (xs (nI i + 1).toNatClampNeg), .ref ho]) (rest := []) ⟨hx, hb, hml, hown, hts⟩ (c_L_weight l hfl D T h0 A Z ho g (xs (nI i + 1).toNatClampNeg) _ (k, Z1, g1) e1) (vx_cwSW 3 hts gL_law_L_weight rfl rfl rfl hdS_L_weight ⟨Nat.le_of_ble_eq_true rfl, Nat.le_of_ble_eq_true rfl⟩) ⟨PW_blind, PW_at hP.lf hD.lf hK hE hN hS hF⟩ rfl rfl hl.1 rfl (lv_room (Nat.le_of_ble_eq_true rfl)) dL_law_941 ⟨hc, hs⟩) hS (fun q _ h => hF q h) hF (fun r9 u t H locs ht hvm hw hB hz hk hS => ?_)
  replace hw := hw.symm
  subst hw
  rw [ht] at hB
  obtain ⟨hP, hD⟩ := fr_left hP hD hk hF hB.1 hB.2
  replace hP : va_P D vwCl (WL T h0 ho u Z1 g1 ++ mdW T bm x) H := hP
  replace hD : va_D (AA s) (WL T h0 ho u Z1 g1 ++ mdW T bm x) := hD
  refine lv_istore (lv' := [(5, .int k), (4, .int (nI i)), (0, .ref b), (1, .ref h0), (2, .ref (bm 0)), (3, .ref ho)]) hx hb dL_law_944 hl (by decide) rfl (fun ls hl => ?_)
  refine lv_aload_n hx hb dL_law_946 rfl (lv_at hl 4 rfl) ?_
  refine lv_aload_n hx hb dL_law_947 rfl (lv_at hl 2 rfl) ?_
  refine lv_iload hx hb dL_law_948 (lv_at hl 1 rfl) ?_
  refine lv_iconst (v := 1) hx hb dL_law_950 (by decide) ?_
  refine lv_iadd hx hb dL_law_951 ?_
  refine va_sld hx hb hX hbl hbA hS (ixl (j := 1) hi hL (by decide)) dL_law_952 ?_
  have hF2 : ∀ q, va_A (mdW T bm x) H.size q → AA s q := va_self hD.rt hS hA
  refine va_calll (va_runV (As := [.int (xs (nI i + 1).toNatClampNeg)]) (rest := []) ⟨hx, hb, hml, hown, hts⟩ (c_X5_weight l D T bm x (xs (nI i + 1).toNatClampNeg) _ (b1, x1) e2) (cwV 1 hts gL_law_X5_weight rfl rfl rfl hdV_X5_weight ⟨Nat.le_of_ble_eq_true rfl, Nat.le_of_ble_eq_true rfl⟩) ⟨PM_blind, va_recv hK.1 hP.rt (ci := 5) (q0 := 0) rfl rfl, PM_at hP.rt hD.rt hK⟩ rfl rfl hl.1 rfl (lv_room (Nat.le_of_ble_eq_true rfl)) dL_law_953 ⟨hc, hs⟩) hS (fun q _ h => hF2 q h) hF2 (fun r9 u9 t H locs ht hvm hw hB hz hk hS => ?_)
  replace hw := hw.symm
  subst hw
  rw [ht] at hB
  obtain ⟨hP, hD⟩ := fr_right hP hD hk hF2 hB.1 hB.2
  replace hP : va_P D vwCl (WL T h0 ho u Z1 g1 ++ mdW T bm x1) H := hP
  replace hD : va_D (AA s) (WL T h0 ho u Z1 g1 ++ mdW T bm x1) := hD
  refine lv_lstore (lv' := [(6, .long b1), (5, .int k), (4, .int (nI i)), (0, .ref b), (1, .ref h0), (2, .ref (bm 0)), (3, .ref ho)]) hx hb dL_law_956 hl (by decide) rfl (fun ls hl => ?_)
  refine lv_aload_n hx hb dL_law_958 rfl (lv_at hl 5 rfl) ?_
  refine callRi (v := x1.1 1) (va_runV (As := []) (rest := []) ⟨hx, hb, hml, hown, hts⟩ (c_X5_thrown l D T bm x1 (x1.1 1) rfl) (cwV 0 hts gL_law_X5_thrown rfl rfl rfl hdV_X5_thrown ⟨Nat.le_of_ble_eq_true rfl, Nat.le_of_ble_eq_true rfl⟩) ⟨PB_blind, va_recv hK.1 hP.rt (ci := 5) (q0 := 0) rfl rfl, PB_at hP.rt hK⟩ rfl rfl hl.1 rfl (lv_room (Nat.le_of_ble_eq_true rfl)) dL_law_959 ⟨hc, hs⟩) ?_
  refine lv_iload hx hb dL_law_962 (lv_at hl 1 rfl) ?_
  refine lv_icmp_eq (tgt := 969) hx hb dL_law_964 (by decide) (fun _ => ?_) (fun q => absurd e3 q)
  refine lv_iload hx hb dL_law_969 (lv_at hl 1 rfl) ?_
  refine lv_if_ne (tgt := 985) hx hb dL_law_971 (by decide) (fun k0 => ?_) (fun k0 => ?_)
  · refine lv_goto (tgt := 1554) hx hb dL_law_985 (by decide) ?_
    exact kk _ _ g1 _ _ _ _ hI hP hD hS (lv_sub hl [2, 3, 4, 5, 6] rfl)
  refine lv_aload_n hx hb dL_law_974 rfl (lv_at hl 6 rfl) ?_
  refine lv_iconst (v := 0) hx hb dL_law_975 (by decide) ?_
  refine va_lald hx hb hK.1 hP.lf.rt 0 2 rfl rfl (show ¬ ((0 : Int32) < 0 ∨ 1 ≤ Int32.toNatClampNeg 0) from by decide) dL_law_976 ?_
  have e5 := e4 k0
  refine lv_lload hx hb dL_law_977 (lv_at hl 0 rfl) ?_
  refine W.lcmp hx hb dL_law_979 ?_
  refine eqi (y := 0) (by rw [show Int32.toNatClampNeg 0 = 0 from by decide, e5]; exact lg_same _) ?_
  refine lv_if_eq (tgt := 985) hx hb dL_law_980 (by decide) (fun _ => ?_) (fun q => absurd rfl q)
  refine lv_goto (tgt := 1554) hx hb dL_law_985 (by decide) ?_
  exact kk _ _ g1 _ _ _ _ hI hP hD hS (lv_sub hl [2, 3, 4, 5, 6] rfl)
set_option maxHeartbeats 4000000 in
set_option maxRecDepth 100000 in
theorem lawc_bound {p : Program} {l : Launch} {e : Env} {s : State} {m : MethodId} {below : List Frame} {meth : Method} {c : Code} {b L : Nat} {xs : Nat → Int32} {D : va_G} {T : Nat → ClassId} {h0 ho : Nat} {bm : Nat → Nat} {I : ZT → St → Prop} {Q : State → Prop} (hfl : l.stackTraces = false) (C0 : LX p s m c b L xs D T) {i : Nat} (hi : i + 5 ≤ L) (hL : L ≤ 2560) {A : AT} {Z : ZT} {x : St} {g : Nat → Int64} {H : Heap} {locs : List Loc} {cells slots : Nat} {ls : Array Slot}
    (hst : ∃ (v : Int32) (Z1 : ZT) (x1 : St), F_X4_bound Z = some (v, Z1) ∧ F_X5_bound x = some (v, x1) ∧ I Z1 x1) (hc : cells + 1 ≤ 601024) (hs : slots + 6 ≤ 7293034) (hP : va_P D vwCl (WL T h0 ho A Z g ++ mdW T bm x) H) (hD : va_D (AA s) (WL T h0 ho A Z g ++ mdW T bm x)) (hS : va_S (AA s) s.heap H locs) (hl : lv_has ls 9 [(4, .int (nI i)), (0, .ref b), (1, .ref h0), (2, .ref (bm 0)), (3, .ref ho)])
    (kk : LK p l e s m b below meth c D T h0 ho bm I i cells slots Q) : W p l e room_1 s m #[Value.ref b] below meth c H locs cells slots Q (F0 m 988 ls []) := by
  obtain ⟨hx, hb, hml, hown, hts, hX, hbl, hK, hE, hN⟩ := C0
  have hA : ∀ q : Nat, s.heap.size ≤ q → AA s q := fun _ h => h
  have hbA : ¬ AA s b := Nat.not_le.mpr hbl
  have hc0 : cells ≤ 601024 := by omega
  have hs0 : slots ≤ 7293034 := by omega
  obtain ⟨v, Z1, x1, e1, e2, hI⟩ := hst
  refine W.widen (k := cells + 1) (n := slots + 6) (Nat.le_succ _) (by omega) ?_
  refine lv_aload_n hx hb dL_law_988 rfl (lv_at hl 2 rfl) ?_
  have hF : ∀ q, va_A (scW T h0 A Z) H.size q → AA s q := va_self hD.lf.lf hS hA
  refine va_calli (va_runV (As := []) (rest := []) ⟨hx, hb, hml, hown, hts⟩ (c_X4_bound l D T h0 A Z _ (v, Z1) e1) (cwV 0 hts gL_law_X4_bound rfl rfl rfl hdV_X4_bound ⟨Nat.le_of_ble_eq_true rfl, Nat.le_of_ble_eq_true rfl⟩) ⟨PM_blind, va_recv hK.1 hP.lf.lf (ci := 4) (q0 := 0) rfl rfl, PM_at hP.lf.lf hD.lf.lf hK⟩ rfl rfl hl.1 rfl (lv_room (Nat.le_of_ble_eq_true rfl)) dL_law_989 ⟨hc, hs⟩) hS (fun q _ h => hF q h) hF (fun r9 u t H locs ht hvm hw hB hz hk hS => ?_)
  replace hw := hw.symm
  subst hw
  rw [ht] at hB
  obtain ⟨hP, hD⟩ := fr_ll hP hD hk hF hB.1 hB.2
  replace hP : va_P D vwCl (WL T h0 ho u Z1 g ++ mdW T bm x) H := hP
  replace hD : va_D (AA s) (WL T h0 ho u Z1 g ++ mdW T bm x) := hD
  refine lv_aload_n hx hb dL_law_992 rfl (lv_at hl 3 rfl) ?_
  have hF2 : ∀ q, va_A (mdW T bm x) H.size q → AA s q := va_self hD.rt hS hA
  refine va_calli (va_runV (As := []) (rest := [.int v]) ⟨hx, hb, hml, hown, hts⟩ (c_X5_bound l D T bm x _ (v, x1) e2) (cwV 0 hts gL_law_X5_bound rfl rfl rfl hdV_X5_bound ⟨Nat.le_of_ble_eq_true rfl, Nat.le_of_ble_eq_true rfl⟩) ⟨PM_blind, va_recv hK.1 hP.rt (ci := 5) (q0 := 0) rfl rfl, PM_at hP.rt hD.rt hK⟩ rfl rfl hl.1 rfl (lv_room (Nat.le_of_ble_eq_true rfl)) dL_law_993 ⟨hc, hs⟩) hS (fun q _ h => hF2 q h) hF2 (fun r9 u9 t H locs ht hvm hw hB hz hk hS => ?_)
  replace hw := hw.symm
  subst hw
  rw [ht] at hB
  obtain ⟨hP, hD⟩ := fr_right hP hD hk hF2 hB.1 hB.2
  replace hP : va_P D vwCl (WL T h0 ho u Z1 g ++ mdW T bm x1) H := hP
  replace hD : va_D (AA s) (WL T h0 ho u Z1 g ++ mdW T bm x1) := hD
  refine lv_icmp_eq (tgt := 1554) hx hb dL_law_996 (by decide) (fun _ => ?_) (fun q => absurd rfl q)
  exact kk _ _ g _ _ _ _ hI hP hD hS (lv_sub hl [0, 1, 2, 3, 4] rfl)
set_option maxHeartbeats 4000000 in
set_option maxRecDepth 100000 in
theorem lawc_weightBehind {p : Program} {l : Launch} {e : Env} {s : State} {m : MethodId} {below : List Frame} {meth : Method} {c : Code} {b L : Nat} {xs : Nat → Int32} {D : va_G} {T : Nat → ClassId} {h0 ho : Nat} {bm : Nat → Nat} {I : ZT → St → Prop} {Q : State → Prop} (hfl : l.stackTraces = false) (C0 : LX p s m c b L xs D T) {i : Nat} (hi : i + 5 ≤ L) (hL : L ≤ 2560) {A : AT} {Z : ZT} {x : St} {g : Nat → Int64} {H : Heap} {locs : List Loc} {cells slots : Nat} {ls : Array Slot}
    (hst : ∃ (k : Int32) (Z1 : ZT) (g1 : Nat → Int64) (b1 : Int64) (x1 : St), F_L_weightBehind Z g (xs (nI i + 1).toNatClampNeg) (xs (nI i + 2).toNatClampNeg) (xs (nI i + 3).toNatClampNeg) (xs (nI i + 4).toNatClampNeg) = some (k, Z1, g1) ∧ F_X5_weightBehind x (xs (nI i + 1).toNatClampNeg) (xs (nI i + 2).toNatClampNeg) (xs (nI i + 3).toNatClampNeg) (xs (nI i + 4).toNatClampNeg) = some (b1, x1) ∧ x1.1 1 = k ∧ (k = 0 → g1 0 = b1) ∧ I Z1 x1) (hc : cells + 1 ≤ 601024) (hs : slots + 6 ≤ 7293034) (hP : va_P D vwCl (WL T h0 ho A Z g ++ mdW T bm x) H) (hD : va_D (AA s) (WL T h0 ho A Z g ++ mdW T bm x)) (hS : va_S (AA s) s.heap H locs) (hl : lv_has ls 9 [(4, .int (nI i)), (0, .ref b), (1, .ref h0), (2, .ref (bm 0)), (3, .ref ho)])
    (kk : LK p l e s m b below meth c D T h0 ho bm I i cells slots Q) : W p l e room_1 s m #[Value.ref b] below meth c H locs cells slots Q (F0 m 1001 ls []) := by
  obtain ⟨hx, hb, hml, hown, hts, hX, hbl, hK, hE, hN⟩ := C0
  have hA : ∀ q : Nat, s.heap.size ≤ q → AA s q := fun _ h => h
  have hbA : ¬ AA s b := Nat.not_le.mpr hbl
  have hc0 : cells ≤ 601024 := by omega
  have hs0 : slots ≤ 7293034 := by omega
  obtain ⟨k, Z1, g1, b1, x1, e1, e2, e3, e4, hI⟩ := hst
  refine lv_aload_n hx hb dL_law_1001 rfl (lv_at hl 2 rfl) ?_
  refine lv_aload_n hx hb dL_law_1002 rfl (lv_at hl 1 rfl) ?_
  refine lv_iload hx hb dL_law_1003 (lv_at hl 0 rfl) ?_
  refine lv_iconst (v := 1) hx hb dL_law_1005 (by decide) ?_
  refine lv_iadd hx hb dL_law_1006 ?_
  refine va_sld hx hb hX hbl hbA hS (ixl (j := 1) hi hL (by decide)) dL_law_1007 ?_
  refine lv_aload_n hx hb dL_law_1008 rfl (lv_at hl 1 rfl) ?_
  refine lv_iload hx hb dL_law_1009 (lv_at hl 0 rfl) ?_
  refine lv_iconst (v := 2) hx hb dL_law_1011 (by decide) ?_
  refine lv_iadd hx hb dL_law_1012 ?_
  refine va_sld hx hb hX hbl hbA hS (ixl (j := 2) hi hL (by decide)) dL_law_1013 ?_
  refine lv_aload_n hx hb dL_law_1014 rfl (lv_at hl 1 rfl) ?_
  refine lv_iload hx hb dL_law_1015 (lv_at hl 0 rfl) ?_
  refine lv_iconst (v := 3) hx hb dL_law_1017 (by decide) ?_
  refine lv_iadd hx hb dL_law_1018 ?_
  refine va_sld hx hb hX hbl hbA hS (ixl (j := 3) hi hL (by decide)) dL_law_1019 ?_
  refine lv_aload_n hx hb dL_law_1020 rfl (lv_at hl 1 rfl) ?_
  refine lv_iload hx hb dL_law_1021 (lv_at hl 0 rfl) ?_
  refine lv_iconst (v := 4) hx hb dL_law_1023 (by decide) ?_
  refine lv_iadd hx hb dL_law_1024 ?_
  refine va_sld hx hb hX hbl hbA hS (ixl (j := 4) hi hL (by decide)) dL_law_1025 ?_
  refine lv_aload_n hx hb dL_law_1026 rfl (lv_at hl 4 rfl) ?_
  have hF : ∀ q, va_A (WL T h0 ho A Z g) H.size q → AA s q := va_self hD.lf hS hA
  refine va_calli (vx_runSW (As := [.ref h0, .int (xs (nI i + 1).toNatClampNeg), .int (xs (nI i + 2).toNatClampNeg), .int (xs (nI i + 3).toNatClampNeg), .int (xs (nI i + 4).toNatClampNeg), .ref ho]) (rest := []) ⟨hx, hb, hml, hown, hts⟩ (c_L_weightBehind l hfl D T h0 A Z ho g (xs (nI i + 1).toNatClampNeg) (xs (nI i + 2).toNatClampNeg) (xs (nI i + 3).toNatClampNeg) (xs (nI i + 4).toNatClampNeg) _ (k, Z1, g1) e1) (vx_cwSW 6 hts gL_law_L_weightBehind rfl rfl rfl hdS_L_weightBehind ⟨Nat.le_of_ble_eq_true rfl, Nat.le_of_ble_eq_true rfl⟩) ⟨PW_blind, PW_at hP.lf hD.lf hK hE hN hS hF⟩ rfl rfl hl.1 rfl (lv_room (Nat.le_of_ble_eq_true rfl)) dL_law_1027 ⟨hc, hs⟩) hS (fun q _ h => hF q h) hF (fun r9 u t H locs ht hvm hw hB hz hk hS => ?_)
  replace hw := hw.symm
  subst hw
  rw [ht] at hB
  obtain ⟨hP, hD⟩ := fr_left hP hD hk hF hB.1 hB.2
  replace hP : va_P D vwCl (WL T h0 ho u Z1 g1 ++ mdW T bm x) H := hP
  replace hD : va_D (AA s) (WL T h0 ho u Z1 g1 ++ mdW T bm x) := hD
  refine lv_istore (lv' := [(5, .int k), (4, .int (nI i)), (0, .ref b), (1, .ref h0), (2, .ref (bm 0)), (3, .ref ho)]) hx hb dL_law_1030 hl (by decide) rfl (fun ls hl => ?_)
  refine lv_aload_n hx hb dL_law_1032 rfl (lv_at hl 4 rfl) ?_
  refine lv_aload_n hx hb dL_law_1033 rfl (lv_at hl 2 rfl) ?_
  refine lv_iload hx hb dL_law_1034 (lv_at hl 1 rfl) ?_
  refine lv_iconst (v := 1) hx hb dL_law_1036 (by decide) ?_
  refine lv_iadd hx hb dL_law_1037 ?_
  refine va_sld hx hb hX hbl hbA hS (ixl (j := 1) hi hL (by decide)) dL_law_1038 ?_
  refine lv_aload_n hx hb dL_law_1039 rfl (lv_at hl 2 rfl) ?_
  refine lv_iload hx hb dL_law_1040 (lv_at hl 1 rfl) ?_
  refine lv_iconst (v := 2) hx hb dL_law_1042 (by decide) ?_
  refine lv_iadd hx hb dL_law_1043 ?_
  refine va_sld hx hb hX hbl hbA hS (ixl (j := 2) hi hL (by decide)) dL_law_1044 ?_
  refine lv_aload_n hx hb dL_law_1045 rfl (lv_at hl 2 rfl) ?_
  refine lv_iload hx hb dL_law_1046 (lv_at hl 1 rfl) ?_
  refine lv_iconst (v := 3) hx hb dL_law_1048 (by decide) ?_
  refine lv_iadd hx hb dL_law_1049 ?_
  refine va_sld hx hb hX hbl hbA hS (ixl (j := 3) hi hL (by decide)) dL_law_1050 ?_
  refine lv_aload_n hx hb dL_law_1051 rfl (lv_at hl 2 rfl) ?_
  refine lv_iload hx hb dL_law_1052 (lv_at hl 1 rfl) ?_
  refine lv_iconst (v := 4) hx hb dL_law_1054 (by decide) ?_
  refine lv_iadd hx hb dL_law_1055 ?_
  refine va_sld hx hb hX hbl hbA hS (ixl (j := 4) hi hL (by decide)) dL_law_1056 ?_
  have hF2 : ∀ q, va_A (mdW T bm x) H.size q → AA s q := va_self hD.rt hS hA
  refine va_calll (va_runV (As := [.int (xs (nI i + 1).toNatClampNeg), .int (xs (nI i + 2).toNatClampNeg), .int (xs (nI i + 3).toNatClampNeg), .int (xs (nI i + 4).toNatClampNeg)]) (rest := []) ⟨hx, hb, hml, hown, hts⟩ (c_X5_weightBehind l D T bm x (xs (nI i + 1).toNatClampNeg) (xs (nI i + 2).toNatClampNeg) (xs (nI i + 3).toNatClampNeg) (xs (nI i + 4).toNatClampNeg) _ (b1, x1) e2) (cwV 4 hts gL_law_X5_weightBehind rfl rfl rfl hdV_X5_weightBehind ⟨Nat.le_of_ble_eq_true rfl, Nat.le_of_ble_eq_true rfl⟩) ⟨PM_blind, va_recv hK.1 hP.rt (ci := 5) (q0 := 0) rfl rfl, PM_at hP.rt hD.rt hK⟩ rfl rfl hl.1 rfl (lv_room (Nat.le_of_ble_eq_true rfl)) dL_law_1057 ⟨hc, hs⟩) hS (fun q _ h => hF2 q h) hF2 (fun r9 u9 t H locs ht hvm hw hB hz hk hS => ?_)
  replace hw := hw.symm
  subst hw
  rw [ht] at hB
  obtain ⟨hP, hD⟩ := fr_right hP hD hk hF2 hB.1 hB.2
  replace hP : va_P D vwCl (WL T h0 ho u Z1 g1 ++ mdW T bm x1) H := hP
  replace hD : va_D (AA s) (WL T h0 ho u Z1 g1 ++ mdW T bm x1) := hD
  refine lv_lstore (lv' := [(6, .long b1), (5, .int k), (4, .int (nI i)), (0, .ref b), (1, .ref h0), (2, .ref (bm 0)), (3, .ref ho)]) hx hb dL_law_1060 hl (by decide) rfl (fun ls hl => ?_)
  refine lv_aload_n hx hb dL_law_1062 rfl (lv_at hl 5 rfl) ?_
  refine callRi (v := x1.1 1) (va_runV (As := []) (rest := []) ⟨hx, hb, hml, hown, hts⟩ (c_X5_thrown l D T bm x1 (x1.1 1) rfl) (cwV 0 hts gL_law_X5_thrown rfl rfl rfl hdV_X5_thrown ⟨Nat.le_of_ble_eq_true rfl, Nat.le_of_ble_eq_true rfl⟩) ⟨PB_blind, va_recv hK.1 hP.rt (ci := 5) (q0 := 0) rfl rfl, PB_at hP.rt hK⟩ rfl rfl hl.1 rfl (lv_room (Nat.le_of_ble_eq_true rfl)) dL_law_1063 ⟨hc, hs⟩) ?_
  refine lv_iload hx hb dL_law_1066 (lv_at hl 1 rfl) ?_
  refine lv_icmp_eq (tgt := 1073) hx hb dL_law_1068 (by decide) (fun _ => ?_) (fun q => absurd e3 q)
  refine lv_iload hx hb dL_law_1073 (lv_at hl 1 rfl) ?_
  refine lv_if_ne (tgt := 1089) hx hb dL_law_1075 (by decide) (fun k0 => ?_) (fun k0 => ?_)
  · refine lv_goto (tgt := 1554) hx hb dL_law_1089 (by decide) ?_
    exact kk _ _ g1 _ _ _ _ hI hP hD hS (lv_sub hl [2, 3, 4, 5, 6] rfl)
  refine lv_aload_n hx hb dL_law_1078 rfl (lv_at hl 6 rfl) ?_
  refine lv_iconst (v := 0) hx hb dL_law_1079 (by decide) ?_
  refine va_lald hx hb hK.1 hP.lf.rt 0 2 rfl rfl (show ¬ ((0 : Int32) < 0 ∨ 1 ≤ Int32.toNatClampNeg 0) from by decide) dL_law_1080 ?_
  have e5 := e4 k0
  refine lv_lload hx hb dL_law_1081 (lv_at hl 0 rfl) ?_
  refine W.lcmp hx hb dL_law_1083 ?_
  refine eqi (y := 0) (by rw [show Int32.toNatClampNeg 0 = 0 from by decide, e5]; exact lg_same _) ?_
  refine lv_if_eq (tgt := 1089) hx hb dL_law_1084 (by decide) (fun _ => ?_) (fun q => absurd rfl q)
  refine lv_goto (tgt := 1554) hx hb dL_law_1089 (by decide) ?_
  exact kk _ _ g1 _ _ _ _ hI hP hD hS (lv_sub hl [2, 3, 4, 5, 6] rfl)
set_option maxHeartbeats 4000000 in
set_option maxRecDepth 100000 in
theorem lawc_bestGroup {p : Program} {l : Launch} {e : Env} {s : State} {m : MethodId} {below : List Frame} {meth : Method} {c : Code} {b L : Nat} {xs : Nat → Int32} {D : va_G} {T : Nat → ClassId} {h0 ho : Nat} {bm : Nat → Nat} {I : ZT → St → Prop} {Q : State → Prop} (hfl : l.stackTraces = false) (C0 : LX p s m c b L xs D T) {i : Nat} (hi : i + 5 ≤ L) (hL : L ≤ 2560) {A : AT} {Z : ZT} {x : St} {g : Nat → Int64} {H : Heap} {locs : List Loc} {cells slots : Nat} {ls : Array Slot}
    (hst : ∃ (k : Int32) (Z1 : ZT) (g1 : Nat → Int64) (b1 : Int32) (x1 : St), F_L_bestGroup Z g (xs (nI i + 1).toNatClampNeg) = some (k, Z1, g1) ∧ F_X5_bestGroup x (xs (nI i + 1).toNatClampNeg) = some (b1, x1) ∧ x1.1 1 = k ∧ (k = 0 → g1 0 = b1.toInt64) ∧ I Z1 x1) (hc : cells + 1 ≤ 601024) (hs : slots + 6 ≤ 7293034) (hP : va_P D vwCl (WL T h0 ho A Z g ++ mdW T bm x) H) (hD : va_D (AA s) (WL T h0 ho A Z g ++ mdW T bm x)) (hS : va_S (AA s) s.heap H locs) (hl : lv_has ls 9 [(4, .int (nI i)), (0, .ref b), (1, .ref h0), (2, .ref (bm 0)), (3, .ref ho)])
    (kk : LK p l e s m b below meth c D T h0 ho bm I i cells slots Q) : W p l e room_1 s m #[Value.ref b] below meth c H locs cells slots Q (F0 m 1092 ls []) := by
  obtain ⟨hx, hb, hml, hown, hts, hX, hbl, hK, hE, hN⟩ := C0
  have hA : ∀ q : Nat, s.heap.size ≤ q → AA s q := fun _ h => h
  have hbA : ¬ AA s b := Nat.not_le.mpr hbl
  have hc0 : cells ≤ 601024 := by omega
  have hs0 : slots ≤ 7293034 := by omega
  obtain ⟨k, Z1, g1, b1, x1, e1, e2, e3, e4, hI⟩ := hst
  refine lv_aload_n hx hb dL_law_1092 rfl (lv_at hl 2 rfl) ?_
  refine lv_aload_n hx hb dL_law_1093 rfl (lv_at hl 1 rfl) ?_
  refine lv_iload hx hb dL_law_1094 (lv_at hl 0 rfl) ?_
  refine lv_iconst (v := 1) hx hb dL_law_1096 (by decide) ?_
  refine lv_iadd hx hb dL_law_1097 ?_
  refine va_sld hx hb hX hbl hbA hS (ixl (j := 1) hi hL (by decide)) dL_law_1098 ?_
  refine lv_aload_n hx hb dL_law_1099 rfl (lv_at hl 4 rfl) ?_
  have hF : ∀ q, va_A (WL T h0 ho A Z g) H.size q → AA s q := va_self hD.lf hS hA
  refine va_calli (vx_runSW (As := [.ref h0, .int (xs (nI i + 1).toNatClampNeg), .ref ho]) (rest := []) ⟨hx, hb, hml, hown, hts⟩ (c_L_bestGroup l hfl D T h0 A Z ho g (xs (nI i + 1).toNatClampNeg) _ (k, Z1, g1) e1) (vx_cwSW 3 hts gL_law_L_bestGroup rfl rfl rfl hdS_L_bestGroup ⟨Nat.le_of_ble_eq_true rfl, Nat.le_of_ble_eq_true rfl⟩) ⟨PW_blind, PW_at hP.lf hD.lf hK hE hN hS hF⟩ rfl rfl hl.1 rfl (lv_room (Nat.le_of_ble_eq_true rfl)) dL_law_1100 ⟨hc, hs⟩) hS (fun q _ h => hF q h) hF (fun r9 u t H locs ht hvm hw hB hz hk hS => ?_)
  replace hw := hw.symm
  subst hw
  rw [ht] at hB
  obtain ⟨hP, hD⟩ := fr_left hP hD hk hF hB.1 hB.2
  replace hP : va_P D vwCl (WL T h0 ho u Z1 g1 ++ mdW T bm x) H := hP
  replace hD : va_D (AA s) (WL T h0 ho u Z1 g1 ++ mdW T bm x) := hD
  refine lv_istore (lv' := [(5, .int k), (4, .int (nI i)), (0, .ref b), (1, .ref h0), (2, .ref (bm 0)), (3, .ref ho)]) hx hb dL_law_1103 hl (by decide) rfl (fun ls hl => ?_)
  refine lv_aload_n hx hb dL_law_1105 rfl (lv_at hl 4 rfl) ?_
  refine lv_aload_n hx hb dL_law_1106 rfl (lv_at hl 2 rfl) ?_
  refine lv_iload hx hb dL_law_1107 (lv_at hl 1 rfl) ?_
  refine lv_iconst (v := 1) hx hb dL_law_1109 (by decide) ?_
  refine lv_iadd hx hb dL_law_1110 ?_
  refine va_sld hx hb hX hbl hbA hS (ixl (j := 1) hi hL (by decide)) dL_law_1111 ?_
  have hF2 : ∀ q, va_A (mdW T bm x) H.size q → AA s q := va_self hD.rt hS hA
  refine va_calli (va_runV (As := [.int (xs (nI i + 1).toNatClampNeg)]) (rest := []) ⟨hx, hb, hml, hown, hts⟩ (c_X5_bestGroup l D T bm x (xs (nI i + 1).toNatClampNeg) _ (b1, x1) e2) (cwV 1 hts gL_law_X5_bestGroup rfl rfl rfl hdV_X5_bestGroup ⟨Nat.le_of_ble_eq_true rfl, Nat.le_of_ble_eq_true rfl⟩) ⟨PM_blind, va_recv hK.1 hP.rt (ci := 5) (q0 := 0) rfl rfl, PM_at hP.rt hD.rt hK⟩ rfl rfl hl.1 rfl (lv_room (Nat.le_of_ble_eq_true rfl)) dL_law_1112 ⟨hc, hs⟩) hS (fun q _ h => hF2 q h) hF2 (fun r9 u9 t H locs ht hvm hw hB hz hk hS => ?_)
  replace hw := hw.symm
  subst hw
  rw [ht] at hB
  obtain ⟨hP, hD⟩ := fr_right hP hD hk hF2 hB.1 hB.2
  replace hP : va_P D vwCl (WL T h0 ho u Z1 g1 ++ mdW T bm x1) H := hP
  replace hD : va_D (AA s) (WL T h0 ho u Z1 g1 ++ mdW T bm x1) := hD
  refine lv_istore (lv' := [(6, .int b1), (5, .int k), (4, .int (nI i)), (0, .ref b), (1, .ref h0), (2, .ref (bm 0)), (3, .ref ho)]) hx hb dL_law_1115 hl (by decide) rfl (fun ls hl => ?_)
  refine lv_aload_n hx hb dL_law_1117 rfl (lv_at hl 5 rfl) ?_
  refine callRi (v := x1.1 1) (va_runV (As := []) (rest := []) ⟨hx, hb, hml, hown, hts⟩ (c_X5_thrown l D T bm x1 (x1.1 1) rfl) (cwV 0 hts gL_law_X5_thrown rfl rfl rfl hdV_X5_thrown ⟨Nat.le_of_ble_eq_true rfl, Nat.le_of_ble_eq_true rfl⟩) ⟨PB_blind, va_recv hK.1 hP.rt (ci := 5) (q0 := 0) rfl rfl, PB_at hP.rt hK⟩ rfl rfl hl.1 rfl (lv_room (Nat.le_of_ble_eq_true rfl)) dL_law_1118 ⟨hc, hs⟩) ?_
  refine lv_iload hx hb dL_law_1121 (lv_at hl 1 rfl) ?_
  refine lv_icmp_eq (tgt := 1128) hx hb dL_law_1123 (by decide) (fun _ => ?_) (fun q => absurd e3 q)
  refine lv_iload hx hb dL_law_1128 (lv_at hl 1 rfl) ?_
  refine lv_if_ne (tgt := 1145) hx hb dL_law_1130 (by decide) (fun k0 => ?_) (fun k0 => ?_)
  · refine lv_goto (tgt := 1554) hx hb dL_law_1145 (by decide) ?_
    exact kk _ _ g1 _ _ _ _ hI hP hD hS (lv_sub hl [2, 3, 4, 5, 6] rfl)
  refine lv_aload_n hx hb dL_law_1133 rfl (lv_at hl 6 rfl) ?_
  refine lv_iconst (v := 0) hx hb dL_law_1134 (by decide) ?_
  refine va_lald hx hb hK.1 hP.lf.rt 0 2 rfl rfl (show ¬ ((0 : Int32) < 0 ∨ 1 ≤ Int32.toNatClampNeg 0) from by decide) dL_law_1135 ?_
  have e5 := e4 k0
  refine lv_iload hx hb dL_law_1136 (lv_at hl 0 rfl) ?_
  refine lv_i2l (v := b1.toInt64) hx hb dL_law_1138 rfl ?_
  refine W.lcmp hx hb dL_law_1139 ?_
  refine eqi (y := 0) (by rw [show Int32.toNatClampNeg 0 = 0 from by decide, e5]; exact lg_same _) ?_
  refine lv_if_eq (tgt := 1145) hx hb dL_law_1140 (by decide) (fun _ => ?_) (fun q => absurd rfl q)
  refine lv_goto (tgt := 1554) hx hb dL_law_1145 (by decide) ?_
  exact kk _ _ g1 _ _ _ _ hI hP hD hS (lv_sub hl [2, 3, 4, 5, 6] rfl)
set_option maxHeartbeats 4000000 in
set_option maxRecDepth 100000 in
theorem lawc_teaches {p : Program} {l : Launch} {e : Env} {s : State} {m : MethodId} {below : List Frame} {meth : Method} {c : Code} {b L : Nat} {xs : Nat → Int32} {D : va_G} {T : Nat → ClassId} {h0 ho : Nat} {bm : Nat → Nat} {I : ZT → St → Prop} {Q : State → Prop} (hfl : l.stackTraces = false) (C0 : LX p s m c b L xs D T) {i : Nat} (hi : i + 5 ≤ L) (hL : L ≤ 2560) {A : AT} {Z : ZT} {x : St} {g : Nat → Int64} {H : Heap} {locs : List Loc} {cells slots : Nat} {ls : Array Slot}
    (hst : ∃ (k : Int32) (Z1 : ZT) (g1 : Nat → Int64) (b1 : Int32) (x1 : St), F_L_teaches Z g (xs (nI i + 1).toNatClampNeg) (xs (nI i + 2).toNatClampNeg) = some (k, Z1, g1) ∧ F_X5_teaches x (xs (nI i + 1).toNatClampNeg) (xs (nI i + 2).toNatClampNeg) = some (b1, x1) ∧ x1.1 1 = k ∧ (k = 0 → g1 0 = (if b1 = 0 then 0 else 1)) ∧ I Z1 x1) (hc : cells + 1 ≤ 601024) (hs : slots + 6 ≤ 7293034) (hP : va_P D vwCl (WL T h0 ho A Z g ++ mdW T bm x) H) (hD : va_D (AA s) (WL T h0 ho A Z g ++ mdW T bm x)) (hS : va_S (AA s) s.heap H locs) (hl : lv_has ls 9 [(4, .int (nI i)), (0, .ref b), (1, .ref h0), (2, .ref (bm 0)), (3, .ref ho)])
    (kk : LK p l e s m b below meth c D T h0 ho bm I i cells slots Q) : W p l e room_1 s m #[Value.ref b] below meth c H locs cells slots Q (F0 m 1148 ls []) := by
  obtain ⟨hx, hb, hml, hown, hts, hX, hbl, hK, hE, hN⟩ := C0
  have hA : ∀ q : Nat, s.heap.size ≤ q → AA s q := fun _ h => h
  have hbA : ¬ AA s b := Nat.not_le.mpr hbl
  have hc0 : cells ≤ 601024 := by omega
  have hs0 : slots ≤ 7293034 := by omega
  obtain ⟨k, Z1, g1, b1, x1, e1, e2, e3, e4, hI⟩ := hst
  refine lv_aload_n hx hb dL_law_1148 rfl (lv_at hl 2 rfl) ?_
  refine lv_aload_n hx hb dL_law_1149 rfl (lv_at hl 1 rfl) ?_
  refine lv_iload hx hb dL_law_1150 (lv_at hl 0 rfl) ?_
  refine lv_iconst (v := 1) hx hb dL_law_1152 (by decide) ?_
  refine lv_iadd hx hb dL_law_1153 ?_
  refine va_sld hx hb hX hbl hbA hS (ixl (j := 1) hi hL (by decide)) dL_law_1154 ?_
  refine lv_aload_n hx hb dL_law_1155 rfl (lv_at hl 1 rfl) ?_
  refine lv_iload hx hb dL_law_1156 (lv_at hl 0 rfl) ?_
  refine lv_iconst (v := 2) hx hb dL_law_1158 (by decide) ?_
  refine lv_iadd hx hb dL_law_1159 ?_
  refine va_sld hx hb hX hbl hbA hS (ixl (j := 2) hi hL (by decide)) dL_law_1160 ?_
  refine lv_aload_n hx hb dL_law_1161 rfl (lv_at hl 4 rfl) ?_
  have hF : ∀ q, va_A (WL T h0 ho A Z g) H.size q → AA s q := va_self hD.lf hS hA
  refine va_calli (vx_runSW (As := [.ref h0, .int (xs (nI i + 1).toNatClampNeg), .int (xs (nI i + 2).toNatClampNeg), .ref ho]) (rest := []) ⟨hx, hb, hml, hown, hts⟩ (c_L_teaches l hfl D T h0 A Z ho g (xs (nI i + 1).toNatClampNeg) (xs (nI i + 2).toNatClampNeg) _ (k, Z1, g1) e1) (vx_cwSW 4 hts gL_law_L_teaches rfl rfl rfl hdS_L_teaches ⟨Nat.le_of_ble_eq_true rfl, Nat.le_of_ble_eq_true rfl⟩) ⟨PW_blind, PW_at hP.lf hD.lf hK hE hN hS hF⟩ rfl rfl hl.1 rfl (lv_room (Nat.le_of_ble_eq_true rfl)) dL_law_1162 ⟨hc, hs⟩) hS (fun q _ h => hF q h) hF (fun r9 u t H locs ht hvm hw hB hz hk hS => ?_)
  replace hw := hw.symm
  subst hw
  rw [ht] at hB
  obtain ⟨hP, hD⟩ := fr_left hP hD hk hF hB.1 hB.2
  replace hP : va_P D vwCl (WL T h0 ho u Z1 g1 ++ mdW T bm x) H := hP
  replace hD : va_D (AA s) (WL T h0 ho u Z1 g1 ++ mdW T bm x) := hD
  refine lv_istore (lv' := [(5, .int k), (4, .int (nI i)), (0, .ref b), (1, .ref h0), (2, .ref (bm 0)), (3, .ref ho)]) hx hb dL_law_1165 hl (by decide) rfl (fun ls hl => ?_)
  refine lv_aload_n hx hb dL_law_1167 rfl (lv_at hl 4 rfl) ?_
  refine lv_aload_n hx hb dL_law_1168 rfl (lv_at hl 2 rfl) ?_
  refine lv_iload hx hb dL_law_1169 (lv_at hl 1 rfl) ?_
  refine lv_iconst (v := 1) hx hb dL_law_1171 (by decide) ?_
  refine lv_iadd hx hb dL_law_1172 ?_
  refine va_sld hx hb hX hbl hbA hS (ixl (j := 1) hi hL (by decide)) dL_law_1173 ?_
  refine lv_aload_n hx hb dL_law_1174 rfl (lv_at hl 2 rfl) ?_
  refine lv_iload hx hb dL_law_1175 (lv_at hl 1 rfl) ?_
  refine lv_iconst (v := 2) hx hb dL_law_1177 (by decide) ?_
  refine lv_iadd hx hb dL_law_1178 ?_
  refine va_sld hx hb hX hbl hbA hS (ixl (j := 2) hi hL (by decide)) dL_law_1179 ?_
  have hF2 : ∀ q, va_A (mdW T bm x) H.size q → AA s q := va_self hD.rt hS hA
  refine va_calli (va_runV (As := [.int (xs (nI i + 1).toNatClampNeg), .int (xs (nI i + 2).toNatClampNeg)]) (rest := []) ⟨hx, hb, hml, hown, hts⟩ (c_X5_teaches l D T bm x (xs (nI i + 1).toNatClampNeg) (xs (nI i + 2).toNatClampNeg) _ (b1, x1) e2) (cwV 2 hts gL_law_X5_teaches rfl rfl rfl hdV_X5_teaches ⟨Nat.le_of_ble_eq_true rfl, Nat.le_of_ble_eq_true rfl⟩) ⟨PM_blind, va_recv hK.1 hP.rt (ci := 5) (q0 := 0) rfl rfl, PM_at hP.rt hD.rt hK⟩ rfl rfl hl.1 rfl (lv_room (Nat.le_of_ble_eq_true rfl)) dL_law_1180 ⟨hc, hs⟩) hS (fun q _ h => hF2 q h) hF2 (fun r9 u9 t H locs ht hvm hw hB hz hk hS => ?_)
  replace hw := hw.symm
  subst hw
  rw [ht] at hB
  obtain ⟨hP, hD⟩ := fr_right hP hD hk hF2 hB.1 hB.2
  replace hP : va_P D vwCl (WL T h0 ho u Z1 g1 ++ mdW T bm x1) H := hP
  replace hD : va_D (AA s) (WL T h0 ho u Z1 g1 ++ mdW T bm x1) := hD
  refine lv_istore (lv' := [(6, .int b1), (5, .int k), (4, .int (nI i)), (0, .ref b), (1, .ref h0), (2, .ref (bm 0)), (3, .ref ho)]) hx hb dL_law_1183 hl (by decide) rfl (fun ls hl => ?_)
  refine lv_aload_n hx hb dL_law_1185 rfl (lv_at hl 5 rfl) ?_
  refine callRi (v := x1.1 1) (va_runV (As := []) (rest := []) ⟨hx, hb, hml, hown, hts⟩ (c_X5_thrown l D T bm x1 (x1.1 1) rfl) (cwV 0 hts gL_law_X5_thrown rfl rfl rfl hdV_X5_thrown ⟨Nat.le_of_ble_eq_true rfl, Nat.le_of_ble_eq_true rfl⟩) ⟨PB_blind, va_recv hK.1 hP.rt (ci := 5) (q0 := 0) rfl rfl, PB_at hP.rt hK⟩ rfl rfl hl.1 rfl (lv_room (Nat.le_of_ble_eq_true rfl)) dL_law_1186 ⟨hc, hs⟩) ?_
  refine lv_iload hx hb dL_law_1189 (lv_at hl 1 rfl) ?_
  refine lv_icmp_eq (tgt := 1196) hx hb dL_law_1191 (by decide) (fun _ => ?_) (fun q => absurd e3 q)
  refine lv_iload hx hb dL_law_1196 (lv_at hl 1 rfl) ?_
  refine lv_if_ne (tgt := 1220) hx hb dL_law_1198 (by decide) (fun k0 => ?_) (fun k0 => ?_)
  · refine lv_goto (tgt := 1554) hx hb dL_law_1220 (by decide) ?_
    exact kk _ _ g1 _ _ _ _ hI hP hD hS (lv_sub hl [2, 3, 4, 5, 6] rfl)
  refine lv_aload_n hx hb dL_law_1201 rfl (lv_at hl 6 rfl) ?_
  refine lv_iconst (v := 0) hx hb dL_law_1202 (by decide) ?_
  refine va_lald hx hb hK.1 hP.lf.rt 0 2 rfl rfl (show ¬ ((0 : Int32) < 0 ∨ 1 ≤ Int32.toNatClampNeg 0) from by decide) dL_law_1203 ?_
  have e5 := e4 k0
  refine lv_iload hx hb dL_law_1204 (lv_at hl 0 rfl) ?_
  refine lv_if_eq (tgt := 1213) hx hb dL_law_1206 (by decide) (fun q0 => ?_) (fun q0 => ?_)
  · refine lv_lconst (v := 0) hx hb dL_law_1213 (by decide) ?_
    refine W.lcmp hx hb dL_law_1214 ?_
    refine eqi (y := 0) (by rw [show Int32.toNatClampNeg 0 = 0 from by decide, e5, if_pos q0]; exact lg_same _) ?_
    refine lv_if_eq (tgt := 1220) hx hb dL_law_1215 (by decide) (fun _ => ?_) (fun q => absurd rfl q)
    refine lv_goto (tgt := 1554) hx hb dL_law_1220 (by decide) ?_
    exact kk _ _ g1 _ _ _ _ hI hP hD hS (lv_sub hl [2, 3, 4, 5, 6] rfl)
  refine lv_lconst (v := 1) hx hb dL_law_1209 (by decide) ?_
  refine lv_goto (tgt := 1214) hx hb dL_law_1210 (by decide) ?_
  refine W.lcmp hx hb dL_law_1214 ?_
  refine eqi (y := 0) (by rw [show Int32.toNatClampNeg 0 = 0 from by decide, e5, if_neg q0]; exact lg_same _) ?_
  refine lv_if_eq (tgt := 1220) hx hb dL_law_1215 (by decide) (fun _ => ?_) (fun q => absurd rfl q)
  refine lv_goto (tgt := 1554) hx hb dL_law_1220 (by decide) ?_
  exact kk _ _ g1 _ _ _ _ hI hP hD hS (lv_sub hl [2, 3, 4, 5, 6] rfl)
set_option maxHeartbeats 4000000 in
set_option maxRecDepth 100000 in
theorem lawc_distance {p : Program} {l : Launch} {e : Env} {s : State} {m : MethodId} {below : List Frame} {meth : Method} {c : Code} {b L : Nat} {xs : Nat → Int32} {D : va_G} {T : Nat → ClassId} {h0 ho : Nat} {bm : Nat → Nat} {I : ZT → St → Prop} {Q : State → Prop} (hfl : l.stackTraces = false) (C0 : LX p s m c b L xs D T) {i : Nat} (hi : i + 5 ≤ L) (hL : L ≤ 2560) {A : AT} {Z : ZT} {x : St} {g : Nat → Int64} {H : Heap} {locs : List Loc} {cells slots : Nat} {ls : Array Slot}
    (hst : ∃ (k : Int32) (Z1 : ZT) (g1 : Nat → Int64) (b1 : Int32) (x1 : St), F_L_distance Z g (xs (nI i + 1).toNatClampNeg) (xs (nI i + 2).toNatClampNeg) = some (k, Z1, g1) ∧ F_X5_distance x (xs (nI i + 1).toNatClampNeg) (xs (nI i + 2).toNatClampNeg) = some (b1, x1) ∧ x1.1 1 = k ∧ (k = 0 → g1 0 = b1.toInt64) ∧ I Z1 x1) (hc : cells + 1 ≤ 601024) (hs : slots + 6 ≤ 7293034) (hP : va_P D vwCl (WL T h0 ho A Z g ++ mdW T bm x) H) (hD : va_D (AA s) (WL T h0 ho A Z g ++ mdW T bm x)) (hS : va_S (AA s) s.heap H locs) (hl : lv_has ls 9 [(4, .int (nI i)), (0, .ref b), (1, .ref h0), (2, .ref (bm 0)), (3, .ref ho)])
    (kk : LK p l e s m b below meth c D T h0 ho bm I i cells slots Q) : W p l e room_1 s m #[Value.ref b] below meth c H locs cells slots Q (F0 m 1223 ls []) := by
  obtain ⟨hx, hb, hml, hown, hts, hX, hbl, hK, hE, hN⟩ := C0
  have hA : ∀ q : Nat, s.heap.size ≤ q → AA s q := fun _ h => h
  have hbA : ¬ AA s b := Nat.not_le.mpr hbl
  have hc0 : cells ≤ 601024 := by omega
  have hs0 : slots ≤ 7293034 := by omega
  obtain ⟨k, Z1, g1, b1, x1, e1, e2, e3, e4, hI⟩ := hst
  refine lv_aload_n hx hb dL_law_1223 rfl (lv_at hl 2 rfl) ?_
  refine lv_aload_n hx hb dL_law_1224 rfl (lv_at hl 1 rfl) ?_
  refine lv_iload hx hb dL_law_1225 (lv_at hl 0 rfl) ?_
  refine lv_iconst (v := 1) hx hb dL_law_1227 (by decide) ?_
  refine lv_iadd hx hb dL_law_1228 ?_
  refine va_sld hx hb hX hbl hbA hS (ixl (j := 1) hi hL (by decide)) dL_law_1229 ?_
  refine lv_aload_n hx hb dL_law_1230 rfl (lv_at hl 1 rfl) ?_
  refine lv_iload hx hb dL_law_1231 (lv_at hl 0 rfl) ?_
  refine lv_iconst (v := 2) hx hb dL_law_1233 (by decide) ?_
  refine lv_iadd hx hb dL_law_1234 ?_
  refine va_sld hx hb hX hbl hbA hS (ixl (j := 2) hi hL (by decide)) dL_law_1235 ?_
  refine lv_aload_n hx hb dL_law_1236 rfl (lv_at hl 4 rfl) ?_
  have hF : ∀ q, va_A (WL T h0 ho A Z g) H.size q → AA s q := va_self hD.lf hS hA
  refine va_calli (vx_runSW (As := [.ref h0, .int (xs (nI i + 1).toNatClampNeg), .int (xs (nI i + 2).toNatClampNeg), .ref ho]) (rest := []) ⟨hx, hb, hml, hown, hts⟩ (c_L_distance l hfl D T h0 A Z ho g (xs (nI i + 1).toNatClampNeg) (xs (nI i + 2).toNatClampNeg) _ (k, Z1, g1) e1) (vx_cwSW 4 hts gL_law_L_distance rfl rfl rfl hdS_L_distance ⟨Nat.le_of_ble_eq_true rfl, Nat.le_of_ble_eq_true rfl⟩) ⟨PW_blind, PW_at hP.lf hD.lf hK hE hN hS hF⟩ rfl rfl hl.1 rfl (lv_room (Nat.le_of_ble_eq_true rfl)) dL_law_1237 ⟨hc, hs⟩) hS (fun q _ h => hF q h) hF (fun r9 u t H locs ht hvm hw hB hz hk hS => ?_)
  replace hw := hw.symm
  subst hw
  rw [ht] at hB
  obtain ⟨hP, hD⟩ := fr_left hP hD hk hF hB.1 hB.2
  replace hP : va_P D vwCl (WL T h0 ho u Z1 g1 ++ mdW T bm x) H := hP
  replace hD : va_D (AA s) (WL T h0 ho u Z1 g1 ++ mdW T bm x) := hD
  refine lv_istore (lv' := [(5, .int k), (4, .int (nI i)), (0, .ref b), (1, .ref h0), (2, .ref (bm 0)), (3, .ref ho)]) hx hb dL_law_1240 hl (by decide) rfl (fun ls hl => ?_)
  refine lv_aload_n hx hb dL_law_1242 rfl (lv_at hl 4 rfl) ?_
  refine lv_aload_n hx hb dL_law_1243 rfl (lv_at hl 2 rfl) ?_
  refine lv_iload hx hb dL_law_1244 (lv_at hl 1 rfl) ?_
  refine lv_iconst (v := 1) hx hb dL_law_1246 (by decide) ?_
  refine lv_iadd hx hb dL_law_1247 ?_
  refine va_sld hx hb hX hbl hbA hS (ixl (j := 1) hi hL (by decide)) dL_law_1248 ?_
  refine lv_aload_n hx hb dL_law_1249 rfl (lv_at hl 2 rfl) ?_
  refine lv_iload hx hb dL_law_1250 (lv_at hl 1 rfl) ?_
  refine lv_iconst (v := 2) hx hb dL_law_1252 (by decide) ?_
  refine lv_iadd hx hb dL_law_1253 ?_
  refine va_sld hx hb hX hbl hbA hS (ixl (j := 2) hi hL (by decide)) dL_law_1254 ?_
  have hF2 : ∀ q, va_A (mdW T bm x) H.size q → AA s q := va_self hD.rt hS hA
  refine va_calli (va_runV (As := [.int (xs (nI i + 1).toNatClampNeg), .int (xs (nI i + 2).toNatClampNeg)]) (rest := []) ⟨hx, hb, hml, hown, hts⟩ (c_X5_distance l D T bm x (xs (nI i + 1).toNatClampNeg) (xs (nI i + 2).toNatClampNeg) _ (b1, x1) e2) (cwV 2 hts gL_law_X5_distance rfl rfl rfl hdV_X5_distance ⟨Nat.le_of_ble_eq_true rfl, Nat.le_of_ble_eq_true rfl⟩) ⟨PM_blind, va_recv hK.1 hP.rt (ci := 5) (q0 := 0) rfl rfl, PM_at hP.rt hD.rt hK⟩ rfl rfl hl.1 rfl (lv_room (Nat.le_of_ble_eq_true rfl)) dL_law_1255 ⟨hc, hs⟩) hS (fun q _ h => hF2 q h) hF2 (fun r9 u9 t H locs ht hvm hw hB hz hk hS => ?_)
  replace hw := hw.symm
  subst hw
  rw [ht] at hB
  obtain ⟨hP, hD⟩ := fr_right hP hD hk hF2 hB.1 hB.2
  replace hP : va_P D vwCl (WL T h0 ho u Z1 g1 ++ mdW T bm x1) H := hP
  replace hD : va_D (AA s) (WL T h0 ho u Z1 g1 ++ mdW T bm x1) := hD
  refine lv_istore (lv' := [(6, .int b1), (5, .int k), (4, .int (nI i)), (0, .ref b), (1, .ref h0), (2, .ref (bm 0)), (3, .ref ho)]) hx hb dL_law_1258 hl (by decide) rfl (fun ls hl => ?_)
  refine lv_aload_n hx hb dL_law_1260 rfl (lv_at hl 5 rfl) ?_
  refine callRi (v := x1.1 1) (va_runV (As := []) (rest := []) ⟨hx, hb, hml, hown, hts⟩ (c_X5_thrown l D T bm x1 (x1.1 1) rfl) (cwV 0 hts gL_law_X5_thrown rfl rfl rfl hdV_X5_thrown ⟨Nat.le_of_ble_eq_true rfl, Nat.le_of_ble_eq_true rfl⟩) ⟨PB_blind, va_recv hK.1 hP.rt (ci := 5) (q0 := 0) rfl rfl, PB_at hP.rt hK⟩ rfl rfl hl.1 rfl (lv_room (Nat.le_of_ble_eq_true rfl)) dL_law_1261 ⟨hc, hs⟩) ?_
  refine lv_iload hx hb dL_law_1264 (lv_at hl 1 rfl) ?_
  refine lv_icmp_eq (tgt := 1271) hx hb dL_law_1266 (by decide) (fun _ => ?_) (fun q => absurd e3 q)
  refine lv_iload hx hb dL_law_1271 (lv_at hl 1 rfl) ?_
  refine lv_if_ne (tgt := 1288) hx hb dL_law_1273 (by decide) (fun k0 => ?_) (fun k0 => ?_)
  · refine lv_goto (tgt := 1554) hx hb dL_law_1288 (by decide) ?_
    exact kk _ _ g1 _ _ _ _ hI hP hD hS (lv_sub hl [2, 3, 4, 5, 6] rfl)
  refine lv_aload_n hx hb dL_law_1276 rfl (lv_at hl 6 rfl) ?_
  refine lv_iconst (v := 0) hx hb dL_law_1277 (by decide) ?_
  refine va_lald hx hb hK.1 hP.lf.rt 0 2 rfl rfl (show ¬ ((0 : Int32) < 0 ∨ 1 ≤ Int32.toNatClampNeg 0) from by decide) dL_law_1278 ?_
  have e5 := e4 k0
  refine lv_iload hx hb dL_law_1279 (lv_at hl 0 rfl) ?_
  refine lv_i2l (v := b1.toInt64) hx hb dL_law_1281 rfl ?_
  refine W.lcmp hx hb dL_law_1282 ?_
  refine eqi (y := 0) (by rw [show Int32.toNatClampNeg 0 = 0 from by decide, e5]; exact lg_same _) ?_
  refine lv_if_eq (tgt := 1288) hx hb dL_law_1283 (by decide) (fun _ => ?_) (fun q => absurd rfl q)
  refine lv_goto (tgt := 1554) hx hb dL_law_1288 (by decide) ?_
  exact kk _ _ g1 _ _ _ _ hI hP hD hS (lv_sub hl [2, 3, 4, 5, 6] rfl)
set_option maxHeartbeats 4000000 in
set_option maxRecDepth 100000 in
theorem lawc_leastDistance {p : Program} {l : Launch} {e : Env} {s : State} {m : MethodId} {below : List Frame} {meth : Method} {c : Code} {b L : Nat} {xs : Nat → Int32} {D : va_G} {T : Nat → ClassId} {h0 ho : Nat} {bm : Nat → Nat} {I : ZT → St → Prop} {Q : State → Prop} (hfl : l.stackTraces = false) (C0 : LX p s m c b L xs D T) {i : Nat} (hi : i + 5 ≤ L) (hL : L ≤ 2560) {A : AT} {Z : ZT} {x : St} {g : Nat → Int64} {H : Heap} {locs : List Loc} {cells slots : Nat} {ls : Array Slot}
    (hst : ∃ (v : Int32) (Z1 : ZT) (x1 : St), F_X4_leastDistance Z = some (v, Z1) ∧ F_X5_leastDistance x = some (v, x1) ∧ I Z1 x1) (hc : cells + 1 ≤ 601024) (hs : slots + 6 ≤ 7293034) (hP : va_P D vwCl (WL T h0 ho A Z g ++ mdW T bm x) H) (hD : va_D (AA s) (WL T h0 ho A Z g ++ mdW T bm x)) (hS : va_S (AA s) s.heap H locs) (hl : lv_has ls 9 [(4, .int (nI i)), (0, .ref b), (1, .ref h0), (2, .ref (bm 0)), (3, .ref ho)])
    (kk : LK p l e s m b below meth c D T h0 ho bm I i cells slots Q) : W p l e room_1 s m #[Value.ref b] below meth c H locs cells slots Q (F0 m 1291 ls []) := by
  obtain ⟨hx, hb, hml, hown, hts, hX, hbl, hK, hE, hN⟩ := C0
  have hA : ∀ q : Nat, s.heap.size ≤ q → AA s q := fun _ h => h
  have hbA : ¬ AA s b := Nat.not_le.mpr hbl
  have hc0 : cells ≤ 601024 := by omega
  have hs0 : slots ≤ 7293034 := by omega
  obtain ⟨v, Z1, x1, e1, e2, hI⟩ := hst
  refine W.widen (k := cells + 1) (n := slots + 6) (Nat.le_succ _) (by omega) ?_
  refine lv_aload_n hx hb dL_law_1291 rfl (lv_at hl 2 rfl) ?_
  have hF : ∀ q, va_A (scW T h0 A Z) H.size q → AA s q := va_self hD.lf.lf hS hA
  refine va_calli (va_runV (As := []) (rest := []) ⟨hx, hb, hml, hown, hts⟩ (c_X4_leastDistance l D T h0 A Z _ (v, Z1) e1) (cwV 0 hts gL_law_X4_leastDistance rfl rfl rfl hdV_X4_leastDistance ⟨Nat.le_of_ble_eq_true rfl, Nat.le_of_ble_eq_true rfl⟩) ⟨PM_blind, va_recv hK.1 hP.lf.lf (ci := 4) (q0 := 0) rfl rfl, PM_at hP.lf.lf hD.lf.lf hK⟩ rfl rfl hl.1 rfl (lv_room (Nat.le_of_ble_eq_true rfl)) dL_law_1292 ⟨hc, hs⟩) hS (fun q _ h => hF q h) hF (fun r9 u t H locs ht hvm hw hB hz hk hS => ?_)
  replace hw := hw.symm
  subst hw
  rw [ht] at hB
  obtain ⟨hP, hD⟩ := fr_ll hP hD hk hF hB.1 hB.2
  replace hP : va_P D vwCl (WL T h0 ho u Z1 g ++ mdW T bm x) H := hP
  replace hD : va_D (AA s) (WL T h0 ho u Z1 g ++ mdW T bm x) := hD
  refine lv_aload_n hx hb dL_law_1295 rfl (lv_at hl 3 rfl) ?_
  have hF2 : ∀ q, va_A (mdW T bm x) H.size q → AA s q := va_self hD.rt hS hA
  refine va_calli (va_runV (As := []) (rest := [.int v]) ⟨hx, hb, hml, hown, hts⟩ (c_X5_leastDistance l D T bm x _ (v, x1) e2) (cwV 0 hts gL_law_X5_leastDistance rfl rfl rfl hdV_X5_leastDistance ⟨Nat.le_of_ble_eq_true rfl, Nat.le_of_ble_eq_true rfl⟩) ⟨PM_blind, va_recv hK.1 hP.rt (ci := 5) (q0 := 0) rfl rfl, PM_at hP.rt hD.rt hK⟩ rfl rfl hl.1 rfl (lv_room (Nat.le_of_ble_eq_true rfl)) dL_law_1296 ⟨hc, hs⟩) hS (fun q _ h => hF2 q h) hF2 (fun r9 u9 t H locs ht hvm hw hB hz hk hS => ?_)
  replace hw := hw.symm
  subst hw
  rw [ht] at hB
  obtain ⟨hP, hD⟩ := fr_right hP hD hk hF2 hB.1 hB.2
  replace hP : va_P D vwCl (WL T h0 ho u Z1 g ++ mdW T bm x1) H := hP
  replace hD : va_D (AA s) (WL T h0 ho u Z1 g ++ mdW T bm x1) := hD
  refine lv_icmp_eq (tgt := 1554) hx hb dL_law_1299 (by decide) (fun _ => ?_) (fun q => absurd rfl q)
  exact kk _ _ g _ _ _ _ hI hP hD hS (lv_sub hl [0, 1, 2, 3, 4] rfl)
set_option maxHeartbeats 4000000 in
set_option maxRecDepth 100000 in
theorem lawc_bears {p : Program} {l : Launch} {e : Env} {s : State} {m : MethodId} {below : List Frame} {meth : Method} {c : Code} {b L : Nat} {xs : Nat → Int32} {D : va_G} {T : Nat → ClassId} {h0 ho : Nat} {bm : Nat → Nat} {I : ZT → St → Prop} {Q : State → Prop} (hfl : l.stackTraces = false) (C0 : LX p s m c b L xs D T) {i : Nat} (hi : i + 5 ≤ L) (hL : L ≤ 2560) {A : AT} {Z : ZT} {x : St} {g : Nat → Int64} {H : Heap} {locs : List Loc} {cells slots : Nat} {ls : Array Slot}
    (hst : ∃ (v : Int32) (Z1 : ZT) (x1 : St), F_X4_bears Z = some (v, Z1) ∧ F_X5_bears x = some (v, x1) ∧ I Z1 x1) (hc : cells + 1 ≤ 601024) (hs : slots + 6 ≤ 7293034) (hP : va_P D vwCl (WL T h0 ho A Z g ++ mdW T bm x) H) (hD : va_D (AA s) (WL T h0 ho A Z g ++ mdW T bm x)) (hS : va_S (AA s) s.heap H locs) (hl : lv_has ls 9 [(4, .int (nI i)), (0, .ref b), (1, .ref h0), (2, .ref (bm 0)), (3, .ref ho)])
    (kk : LK p l e s m b below meth c D T h0 ho bm I i cells slots Q) : W p l e room_1 s m #[Value.ref b] below meth c H locs cells slots Q (F0 m 1304 ls []) := by
  obtain ⟨hx, hb, hml, hown, hts, hX, hbl, hK, hE, hN⟩ := C0
  have hA : ∀ q : Nat, s.heap.size ≤ q → AA s q := fun _ h => h
  have hbA : ¬ AA s b := Nat.not_le.mpr hbl
  have hc0 : cells ≤ 601024 := by omega
  have hs0 : slots ≤ 7293034 := by omega
  obtain ⟨v, Z1, x1, e1, e2, hI⟩ := hst
  refine W.widen (k := cells + 1) (n := slots + 6) (Nat.le_succ _) (by omega) ?_
  refine lv_aload_n hx hb dL_law_1304 rfl (lv_at hl 2 rfl) ?_
  have hF : ∀ q, va_A (scW T h0 A Z) H.size q → AA s q := va_self hD.lf.lf hS hA
  refine va_calli (va_runV (As := []) (rest := []) ⟨hx, hb, hml, hown, hts⟩ (c_X4_bears l D T h0 A Z _ (v, Z1) e1) (cwV 0 hts gL_law_X4_bears rfl rfl rfl hdV_X4_bears ⟨Nat.le_of_ble_eq_true rfl, Nat.le_of_ble_eq_true rfl⟩) ⟨PM_blind, va_recv hK.1 hP.lf.lf (ci := 4) (q0 := 0) rfl rfl, PM_at hP.lf.lf hD.lf.lf hK⟩ rfl rfl hl.1 rfl (lv_room (Nat.le_of_ble_eq_true rfl)) dL_law_1305 ⟨hc, hs⟩) hS (fun q _ h => hF q h) hF (fun r9 u t H locs ht hvm hw hB hz hk hS => ?_)
  replace hw := hw.symm
  subst hw
  rw [ht] at hB
  obtain ⟨hP, hD⟩ := fr_ll hP hD hk hF hB.1 hB.2
  replace hP : va_P D vwCl (WL T h0 ho u Z1 g ++ mdW T bm x) H := hP
  replace hD : va_D (AA s) (WL T h0 ho u Z1 g ++ mdW T bm x) := hD
  refine lv_aload_n hx hb dL_law_1308 rfl (lv_at hl 3 rfl) ?_
  have hF2 : ∀ q, va_A (mdW T bm x) H.size q → AA s q := va_self hD.rt hS hA
  refine va_calli (va_runV (As := []) (rest := [.int v]) ⟨hx, hb, hml, hown, hts⟩ (c_X5_bears l D T bm x _ (v, x1) e2) (cwV 0 hts gL_law_X5_bears rfl rfl rfl hdV_X5_bears ⟨Nat.le_of_ble_eq_true rfl, Nat.le_of_ble_eq_true rfl⟩) ⟨PM_blind, va_recv hK.1 hP.rt (ci := 5) (q0 := 0) rfl rfl, PM_at hP.rt hD.rt hK⟩ rfl rfl hl.1 rfl (lv_room (Nat.le_of_ble_eq_true rfl)) dL_law_1309 ⟨hc, hs⟩) hS (fun q _ h => hF2 q h) hF2 (fun r9 u9 t H locs ht hvm hw hB hz hk hS => ?_)
  replace hw := hw.symm
  subst hw
  rw [ht] at hB
  obtain ⟨hP, hD⟩ := fr_right hP hD hk hF2 hB.1 hB.2
  replace hP : va_P D vwCl (WL T h0 ho u Z1 g ++ mdW T bm x1) H := hP
  replace hD : va_D (AA s) (WL T h0 ho u Z1 g ++ mdW T bm x1) := hD
  refine lv_icmp_eq (tgt := 1554) hx hb dL_law_1312 (by decide) (fun _ => ?_) (fun q => absurd rfl q)
  exact kk _ _ g _ _ _ _ hI hP hD hS (lv_sub hl [0, 1, 2, 3, 4] rfl)
set_option maxHeartbeats 4000000 in
set_option maxRecDepth 100000 in
theorem lawc_decode {p : Program} {l : Launch} {e : Env} {s : State} {m : MethodId} {below : List Frame} {meth : Method} {c : Code} {b L : Nat} {xs : Nat → Int32} {D : va_G} {T : Nat → ClassId} {h0 ho : Nat} {bm : Nat → Nat} {I : ZT → St → Prop} {Q : State → Prop} (hfl : l.stackTraces = false) (C0 : LX p s m c b L xs D T) {i : Nat} (hi : i + 5 ≤ L) (hL : L ≤ 2560) {A : AT} {Z : ZT} {x : St} {g : Nat → Int64} {H : Heap} {locs : List Loc} {cells slots : Nat} {ls : Array Slot}
    (hst : ∃ (k : Int32) (Z1 : ZT) (g1 : Nat → Int64) (b1 : Int32) (x1 : St), F_L_decode Z g (xs (nI i + 1).toNatClampNeg) = some (k, Z1, g1) ∧ F_X5_decode x (xs (nI i + 1).toNatClampNeg) = some (b1, x1) ∧ x1.1 1 = k ∧ (k = 0 → g1 0 = b1.toInt64) ∧ I Z1 x1) (hc : cells + 1 ≤ 601024) (hs : slots + 6 ≤ 7293034) (hP : va_P D vwCl (WL T h0 ho A Z g ++ mdW T bm x) H) (hD : va_D (AA s) (WL T h0 ho A Z g ++ mdW T bm x)) (hS : va_S (AA s) s.heap H locs) (hl : lv_has ls 9 [(4, .int (nI i)), (0, .ref b), (1, .ref h0), (2, .ref (bm 0)), (3, .ref ho)])
    (kk : LK p l e s m b below meth c D T h0 ho bm I i cells slots Q) : W p l e room_1 s m #[Value.ref b] below meth c H locs cells slots Q (F0 m 1317 ls []) := by
  obtain ⟨hx, hb, hml, hown, hts, hX, hbl, hK, hE, hN⟩ := C0
  have hA : ∀ q : Nat, s.heap.size ≤ q → AA s q := fun _ h => h
  have hbA : ¬ AA s b := Nat.not_le.mpr hbl
  have hc0 : cells ≤ 601024 := by omega
  have hs0 : slots ≤ 7293034 := by omega
  obtain ⟨k, Z1, g1, b1, x1, e1, e2, e3, e4, hI⟩ := hst
  refine lv_aload_n hx hb dL_law_1317 rfl (lv_at hl 2 rfl) ?_
  refine lv_aload_n hx hb dL_law_1318 rfl (lv_at hl 1 rfl) ?_
  refine lv_iload hx hb dL_law_1319 (lv_at hl 0 rfl) ?_
  refine lv_iconst (v := 1) hx hb dL_law_1321 (by decide) ?_
  refine lv_iadd hx hb dL_law_1322 ?_
  refine va_sld hx hb hX hbl hbA hS (ixl (j := 1) hi hL (by decide)) dL_law_1323 ?_
  refine lv_aload_n hx hb dL_law_1324 rfl (lv_at hl 4 rfl) ?_
  have hF : ∀ q, va_A (WL T h0 ho A Z g) H.size q → AA s q := va_self hD.lf hS hA
  refine va_calli (vx_runSW (As := [.ref h0, .int (xs (nI i + 1).toNatClampNeg), .ref ho]) (rest := []) ⟨hx, hb, hml, hown, hts⟩ (c_L_decode l hfl D T h0 A Z ho g (xs (nI i + 1).toNatClampNeg) _ (k, Z1, g1) e1) (vx_cwSW 3 hts gL_law_L_decode rfl rfl rfl hdS_L_decode ⟨Nat.le_of_ble_eq_true rfl, Nat.le_of_ble_eq_true rfl⟩) ⟨PW_blind, PW_at hP.lf hD.lf hK hE hN hS hF⟩ rfl rfl hl.1 rfl (lv_room (Nat.le_of_ble_eq_true rfl)) dL_law_1325 ⟨hc, hs⟩) hS (fun q _ h => hF q h) hF (fun r9 u t H locs ht hvm hw hB hz hk hS => ?_)
  replace hw := hw.symm
  subst hw
  rw [ht] at hB
  obtain ⟨hP, hD⟩ := fr_left hP hD hk hF hB.1 hB.2
  replace hP : va_P D vwCl (WL T h0 ho u Z1 g1 ++ mdW T bm x) H := hP
  replace hD : va_D (AA s) (WL T h0 ho u Z1 g1 ++ mdW T bm x) := hD
  refine lv_istore (lv' := [(5, .int k), (4, .int (nI i)), (0, .ref b), (1, .ref h0), (2, .ref (bm 0)), (3, .ref ho)]) hx hb dL_law_1328 hl (by decide) rfl (fun ls hl => ?_)
  refine lv_aload_n hx hb dL_law_1330 rfl (lv_at hl 4 rfl) ?_
  refine lv_aload_n hx hb dL_law_1331 rfl (lv_at hl 2 rfl) ?_
  refine lv_iload hx hb dL_law_1332 (lv_at hl 1 rfl) ?_
  refine lv_iconst (v := 1) hx hb dL_law_1334 (by decide) ?_
  refine lv_iadd hx hb dL_law_1335 ?_
  refine va_sld hx hb hX hbl hbA hS (ixl (j := 1) hi hL (by decide)) dL_law_1336 ?_
  have hF2 : ∀ q, va_A (mdW T bm x) H.size q → AA s q := va_self hD.rt hS hA
  refine va_calli (va_runV (As := [.int (xs (nI i + 1).toNatClampNeg)]) (rest := []) ⟨hx, hb, hml, hown, hts⟩ (c_X5_decode l D T bm x (xs (nI i + 1).toNatClampNeg) _ (b1, x1) e2) (cwV 1 hts gL_law_X5_decode rfl rfl rfl hdV_X5_decode ⟨Nat.le_of_ble_eq_true rfl, Nat.le_of_ble_eq_true rfl⟩) ⟨PM_blind, va_recv hK.1 hP.rt (ci := 5) (q0 := 0) rfl rfl, PM_at hP.rt hD.rt hK⟩ rfl rfl hl.1 rfl (lv_room (Nat.le_of_ble_eq_true rfl)) dL_law_1337 ⟨hc, hs⟩) hS (fun q _ h => hF2 q h) hF2 (fun r9 u9 t H locs ht hvm hw hB hz hk hS => ?_)
  replace hw := hw.symm
  subst hw
  rw [ht] at hB
  obtain ⟨hP, hD⟩ := fr_right hP hD hk hF2 hB.1 hB.2
  replace hP : va_P D vwCl (WL T h0 ho u Z1 g1 ++ mdW T bm x1) H := hP
  replace hD : va_D (AA s) (WL T h0 ho u Z1 g1 ++ mdW T bm x1) := hD
  refine lv_istore (lv' := [(6, .int b1), (5, .int k), (4, .int (nI i)), (0, .ref b), (1, .ref h0), (2, .ref (bm 0)), (3, .ref ho)]) hx hb dL_law_1340 hl (by decide) rfl (fun ls hl => ?_)
  refine lv_aload_n hx hb dL_law_1342 rfl (lv_at hl 5 rfl) ?_
  refine callRi (v := x1.1 1) (va_runV (As := []) (rest := []) ⟨hx, hb, hml, hown, hts⟩ (c_X5_thrown l D T bm x1 (x1.1 1) rfl) (cwV 0 hts gL_law_X5_thrown rfl rfl rfl hdV_X5_thrown ⟨Nat.le_of_ble_eq_true rfl, Nat.le_of_ble_eq_true rfl⟩) ⟨PB_blind, va_recv hK.1 hP.rt (ci := 5) (q0 := 0) rfl rfl, PB_at hP.rt hK⟩ rfl rfl hl.1 rfl (lv_room (Nat.le_of_ble_eq_true rfl)) dL_law_1343 ⟨hc, hs⟩) ?_
  refine lv_iload hx hb dL_law_1346 (lv_at hl 1 rfl) ?_
  refine lv_icmp_eq (tgt := 1353) hx hb dL_law_1348 (by decide) (fun _ => ?_) (fun q => absurd e3 q)
  refine lv_iload hx hb dL_law_1353 (lv_at hl 1 rfl) ?_
  refine lv_if_ne (tgt := 1370) hx hb dL_law_1355 (by decide) (fun k0 => ?_) (fun k0 => ?_)
  · refine lv_goto (tgt := 1554) hx hb dL_law_1370 (by decide) ?_
    exact kk _ _ g1 _ _ _ _ hI hP hD hS (lv_sub hl [2, 3, 4, 5, 6] rfl)
  refine lv_aload_n hx hb dL_law_1358 rfl (lv_at hl 6 rfl) ?_
  refine lv_iconst (v := 0) hx hb dL_law_1359 (by decide) ?_
  refine va_lald hx hb hK.1 hP.lf.rt 0 2 rfl rfl (show ¬ ((0 : Int32) < 0 ∨ 1 ≤ Int32.toNatClampNeg 0) from by decide) dL_law_1360 ?_
  have e5 := e4 k0
  refine lv_iload hx hb dL_law_1361 (lv_at hl 0 rfl) ?_
  refine lv_i2l (v := b1.toInt64) hx hb dL_law_1363 rfl ?_
  refine W.lcmp hx hb dL_law_1364 ?_
  refine eqi (y := 0) (by rw [show Int32.toNatClampNeg 0 = 0 from by decide, e5]; exact lg_same _) ?_
  refine lv_if_eq (tgt := 1370) hx hb dL_law_1365 (by decide) (fun _ => ?_) (fun q => absurd rfl q)
  refine lv_goto (tgt := 1554) hx hb dL_law_1370 (by decide) ?_
  exact kk _ _ g1 _ _ _ _ hI hP hD hS (lv_sub hl [2, 3, 4, 5, 6] rfl)
set_option maxHeartbeats 4000000 in
set_option maxRecDepth 100000 in
theorem lawc_share {p : Program} {l : Launch} {e : Env} {s : State} {m : MethodId} {below : List Frame} {meth : Method} {c : Code} {b L : Nat} {xs : Nat → Int32} {D : va_G} {T : Nat → ClassId} {h0 ho : Nat} {bm : Nat → Nat} {I : ZT → St → Prop} {Q : State → Prop} (hfl : l.stackTraces = false) (C0 : LX p s m c b L xs D T) {i : Nat} (hi : i + 5 ≤ L) (hL : L ≤ 2560) {A : AT} {Z : ZT} {x : St} {g : Nat → Int64} {H : Heap} {locs : List Loc} {cells slots : Nat} {ls : Array Slot}
    (hst : ∃ (v : UInt64) (Z1 : ZT) (x1 : St), F_X4_share Z = some (v, Z1) ∧ F_X5_share x = some (v, x1) ∧ I Z1 x1) (hc : cells + 1 ≤ 601024) (hs : slots + 6 ≤ 7293034) (hP : va_P D vwCl (WL T h0 ho A Z g ++ mdW T bm x) H) (hD : va_D (AA s) (WL T h0 ho A Z g ++ mdW T bm x)) (hS : va_S (AA s) s.heap H locs) (hl : lv_has ls 9 [(4, .int (nI i)), (0, .ref b), (1, .ref h0), (2, .ref (bm 0)), (3, .ref ho)])
    (kk : LK p l e s m b below meth c D T h0 ho bm I i cells slots Q) : W p l e room_1 s m #[Value.ref b] below meth c H locs cells slots Q (F0 m 1373 ls []) := by
  obtain ⟨hx, hb, hml, hown, hts, hX, hbl, hK, hE, hN⟩ := C0
  have hA : ∀ q : Nat, s.heap.size ≤ q → AA s q := fun _ h => h
  have hbA : ¬ AA s b := Nat.not_le.mpr hbl
  have hc0 : cells ≤ 601024 := by omega
  have hs0 : slots ≤ 7293034 := by omega
  obtain ⟨v, Z1, x1, e1, e2, hI⟩ := hst
  refine W.widen (k := cells + 1) (n := slots + 6) (Nat.le_succ _) (by omega) ?_
  refine lv_aload_n hx hb dL_law_1373 rfl (lv_at hl 2 rfl) ?_
  have hF : ∀ q, va_A (scW T h0 A Z) H.size q → AA s q := va_self hD.lf.lf hS hA
  refine va_calld (va_runV (As := []) (rest := []) ⟨hx, hb, hml, hown, hts⟩ (c_X4_share l D T h0 A Z _ (v, Z1) e1) (cwV 0 hts gL_law_X4_share rfl rfl rfl hdV_X4_share ⟨Nat.le_of_ble_eq_true rfl, Nat.le_of_ble_eq_true rfl⟩) ⟨PM_blind, va_recv hK.1 hP.lf.lf (ci := 4) (q0 := 0) rfl rfl, PM_at hP.lf.lf hD.lf.lf hK⟩ rfl rfl hl.1 rfl (lv_room (Nat.le_of_ble_eq_true rfl)) dL_law_1374 ⟨hc, hs⟩) hS (fun q _ h => hF q h) hF (fun r9 u t H locs ht hvm hw hB hz hk hS => ?_)
  replace hw := hw.symm
  subst hw
  rw [ht] at hB
  obtain ⟨hP, hD⟩ := fr_ll hP hD hk hF hB.1 hB.2
  replace hP : va_P D vwCl (WL T h0 ho u Z1 g ++ mdW T bm x) H := hP
  replace hD : va_D (AA s) (WL T h0 ho u Z1 g ++ mdW T bm x) := hD
  refine lv_dstore (lv' := [(5, .double v), (4, .int (nI i)), (0, .ref b), (1, .ref h0), (2, .ref (bm 0)), (3, .ref ho)]) hx hb dL_law_1377 hl (by decide) rfl (fun ls hl => ?_)
  refine lv_aload_n hx hb dL_law_1379 rfl (lv_at hl 4 rfl) ?_
  have hF2 : ∀ q, va_A (mdW T bm x) H.size q → AA s q := va_self hD.rt hS hA
  refine va_calld (va_runV (As := []) (rest := []) ⟨hx, hb, hml, hown, hts⟩ (c_X5_share l D T bm x _ (v, x1) e2) (cwV 0 hts gL_law_X5_share rfl rfl rfl hdV_X5_share ⟨Nat.le_of_ble_eq_true rfl, Nat.le_of_ble_eq_true rfl⟩) ⟨PM_blind, va_recv hK.1 hP.rt (ci := 5) (q0 := 0) rfl rfl, PM_at hP.rt hD.rt hK⟩ rfl rfl hl.1 rfl (lv_room (Nat.le_of_ble_eq_true rfl)) dL_law_1380 ⟨hc, hs⟩) hS (fun q _ h => hF2 q h) hF2 (fun r9 u9 t H locs ht hvm hw hB hz hk hS => ?_)
  replace hw := hw.symm
  subst hw
  rw [ht] at hB
  obtain ⟨hP, hD⟩ := fr_right hP hD hk hF2 hB.1 hB.2
  replace hP : va_P D vwCl (WL T h0 ho u Z1 g ++ mdW T bm x1) H := hP
  replace hD : va_D (AA s) (WL T h0 ho u Z1 g ++ mdW T bm x1) := hD
  refine lv_dstore (lv' := [(7, .double v), (5, .double v), (4, .int (nI i)), (0, .ref b), (1, .ref h0), (2, .ref (bm 0)), (3, .ref ho)]) hx hb dL_law_1383 hl (by decide) rfl (fun ls hl => ?_)
  refine lv_dload hx hb dL_law_1385 (lv_at hl 1 rfl) ?_
  refine lv_dload hx hb dL_law_1387 (lv_at hl 0 rfl) ?_
  refine lv_dcmp hx hb dL_law_1389 ?_
  obtain ⟨w, hw0⟩ : ∃ w, Op.cmpValue (FP.dcmp v v) CmpOp.l = w := ⟨_, rfl⟩
  refine eqi hw0 ?_
  refine lv_if_eq (tgt := 1411) hx hb dL_law_1390 (by decide) (fun q0 => ?_) (fun q0 => ?_)
  · refine lv_goto (tgt := 1554) hx hb dL_law_1411 (by decide) ?_
    exact kk _ _ g _ _ _ _ hI hP hD hS (lv_sub hl [2, 3, 4, 5, 6] rfl)
  refine lv_dload hx hb dL_law_1393 (lv_at hl 1 rfl) ?_
  refine lv_dload hx hb dL_law_1395 (lv_at hl 1 rfl) ?_
  refine lv_dcmp hx hb dL_law_1397 ?_
  refine eqi hw0 ?_
  refine lv_if_eq (tgt := 1409) hx hb dL_law_1398 (by decide) (fun q1 => absurd q1 q0) (fun _ => ?_)
  refine lv_dload hx hb dL_law_1401 (lv_at hl 0 rfl) ?_
  refine lv_dload hx hb dL_law_1403 (lv_at hl 0 rfl) ?_
  refine lv_dcmp hx hb dL_law_1405 ?_
  refine eqi hw0 ?_
  refine lv_if_ne (tgt := 1411) hx hb dL_law_1406 (by decide) (fun _ => ?_) (fun q1 => absurd q1 q0)
  refine lv_goto (tgt := 1554) hx hb dL_law_1411 (by decide) ?_
  exact kk _ _ g _ _ _ _ hI hP hD hS (lv_sub hl [2, 3, 4, 5, 6] rfl)
set_option maxHeartbeats 4000000 in
set_option maxRecDepth 100000 in
theorem lawc_append {p : Program} {l : Launch} {e : Env} {s : State} {m : MethodId} {below : List Frame} {meth : Method} {c : Code} {b L : Nat} {xs : Nat → Int32} {D : va_G} {T : Nat → ClassId} {h0 ho : Nat} {bm : Nat → Nat} {I : ZT → St → Prop} {Q : State → Prop} (hfl : l.stackTraces = false) (C0 : LX p s m c b L xs D T) {i : Nat} (hi : i + 5 ≤ L) (hL : L ≤ 2560) {A : AT} {Z : ZT} {x : St} {g : Nat → Int64} {H : Heap} {locs : List Loc} {cells slots : Nat} {ls : Array Slot}
    (hst : ∃ (k : Int32) (Z1 : ZT) (g1 : Nat → Int64) (b1 : Int32) (x1 : St), F_L_append Z g (xs (nI i + 1).toNatClampNeg) = some (k, Z1, g1) ∧ F_X5_append x (xs (nI i + 1).toNatClampNeg) = some (b1, x1) ∧ x1.1 1 = k ∧ (k = 0 → g1 0 = b1.toInt64) ∧ I Z1 x1) (hc : cells + 1 ≤ 601024) (hs : slots + 6 ≤ 7293034) (hP : va_P D vwCl (WL T h0 ho A Z g ++ mdW T bm x) H) (hD : va_D (AA s) (WL T h0 ho A Z g ++ mdW T bm x)) (hS : va_S (AA s) s.heap H locs) (hl : lv_has ls 9 [(4, .int (nI i)), (0, .ref b), (1, .ref h0), (2, .ref (bm 0)), (3, .ref ho)])
    (kk : LK p l e s m b below meth c D T h0 ho bm I i cells slots Q) : W p l e room_1 s m #[Value.ref b] below meth c H locs cells slots Q (F0 m 1414 ls []) := by
  obtain ⟨hx, hb, hml, hown, hts, hX, hbl, hK, hE, hN⟩ := C0
  have hA : ∀ q : Nat, s.heap.size ≤ q → AA s q := fun _ h => h
  have hbA : ¬ AA s b := Nat.not_le.mpr hbl
  have hc0 : cells ≤ 601024 := by omega
  have hs0 : slots ≤ 7293034 := by omega
  obtain ⟨k, Z1, g1, b1, x1, e1, e2, e3, e4, hI⟩ := hst
  refine lv_aload_n hx hb dL_law_1414 rfl (lv_at hl 2 rfl) ?_
  refine lv_aload_n hx hb dL_law_1415 rfl (lv_at hl 1 rfl) ?_
  refine lv_iload hx hb dL_law_1416 (lv_at hl 0 rfl) ?_
  refine lv_iconst (v := 1) hx hb dL_law_1418 (by decide) ?_
  refine lv_iadd hx hb dL_law_1419 ?_
  refine va_sld hx hb hX hbl hbA hS (ixl (j := 1) hi hL (by decide)) dL_law_1420 ?_
  refine lv_aload_n hx hb dL_law_1421 rfl (lv_at hl 4 rfl) ?_
  have hF : ∀ q, va_A (WL T h0 ho A Z g) H.size q → AA s q := va_self hD.lf hS hA
  refine va_calli (vx_runSW (As := [.ref h0, .int (xs (nI i + 1).toNatClampNeg), .ref ho]) (rest := []) ⟨hx, hb, hml, hown, hts⟩ (c_L_append l hfl D T h0 A Z ho g (xs (nI i + 1).toNatClampNeg) _ (k, Z1, g1) e1) (vx_cwSW 3 hts gL_law_L_append rfl rfl rfl hdS_L_append ⟨Nat.le_of_ble_eq_true rfl, Nat.le_of_ble_eq_true rfl⟩) ⟨PW_blind, PW_at hP.lf hD.lf hK hE hN hS hF⟩ rfl rfl hl.1 rfl (lv_room (Nat.le_of_ble_eq_true rfl)) dL_law_1422 ⟨hc, hs⟩) hS (fun q _ h => hF q h) hF (fun r9 u t H locs ht hvm hw hB hz hk hS => ?_)
  replace hw := hw.symm
  subst hw
  rw [ht] at hB
  obtain ⟨hP, hD⟩ := fr_left hP hD hk hF hB.1 hB.2
  replace hP : va_P D vwCl (WL T h0 ho u Z1 g1 ++ mdW T bm x) H := hP
  replace hD : va_D (AA s) (WL T h0 ho u Z1 g1 ++ mdW T bm x) := hD
  refine lv_istore (lv' := [(5, .int k), (4, .int (nI i)), (0, .ref b), (1, .ref h0), (2, .ref (bm 0)), (3, .ref ho)]) hx hb dL_law_1425 hl (by decide) rfl (fun ls hl => ?_)
  refine lv_aload_n hx hb dL_law_1427 rfl (lv_at hl 4 rfl) ?_
  refine lv_aload_n hx hb dL_law_1428 rfl (lv_at hl 2 rfl) ?_
  refine lv_iload hx hb dL_law_1429 (lv_at hl 1 rfl) ?_
  refine lv_iconst (v := 1) hx hb dL_law_1431 (by decide) ?_
  refine lv_iadd hx hb dL_law_1432 ?_
  refine va_sld hx hb hX hbl hbA hS (ixl (j := 1) hi hL (by decide)) dL_law_1433 ?_
  have hF2 : ∀ q, va_A (mdW T bm x) H.size q → AA s q := va_self hD.rt hS hA
  refine va_calli (va_runV (As := [.int (xs (nI i + 1).toNatClampNeg)]) (rest := []) ⟨hx, hb, hml, hown, hts⟩ (c_X5_append l D T bm x (xs (nI i + 1).toNatClampNeg) _ (b1, x1) e2) (cwV 1 hts gL_law_X5_append rfl rfl rfl hdV_X5_append ⟨Nat.le_of_ble_eq_true rfl, Nat.le_of_ble_eq_true rfl⟩) ⟨PM_blind, va_recv hK.1 hP.rt (ci := 5) (q0 := 0) rfl rfl, PM_at hP.rt hD.rt hK⟩ rfl rfl hl.1 rfl (lv_room (Nat.le_of_ble_eq_true rfl)) dL_law_1434 ⟨hc, hs⟩) hS (fun q _ h => hF2 q h) hF2 (fun r9 u9 t H locs ht hvm hw hB hz hk hS => ?_)
  replace hw := hw.symm
  subst hw
  rw [ht] at hB
  obtain ⟨hP, hD⟩ := fr_right hP hD hk hF2 hB.1 hB.2
  replace hP : va_P D vwCl (WL T h0 ho u Z1 g1 ++ mdW T bm x1) H := hP
  replace hD : va_D (AA s) (WL T h0 ho u Z1 g1 ++ mdW T bm x1) := hD
  refine lv_istore (lv' := [(6, .int b1), (5, .int k), (4, .int (nI i)), (0, .ref b), (1, .ref h0), (2, .ref (bm 0)), (3, .ref ho)]) hx hb dL_law_1437 hl (by decide) rfl (fun ls hl => ?_)
  refine lv_aload_n hx hb dL_law_1439 rfl (lv_at hl 5 rfl) ?_
  refine callRi (v := x1.1 1) (va_runV (As := []) (rest := []) ⟨hx, hb, hml, hown, hts⟩ (c_X5_thrown l D T bm x1 (x1.1 1) rfl) (cwV 0 hts gL_law_X5_thrown rfl rfl rfl hdV_X5_thrown ⟨Nat.le_of_ble_eq_true rfl, Nat.le_of_ble_eq_true rfl⟩) ⟨PB_blind, va_recv hK.1 hP.rt (ci := 5) (q0 := 0) rfl rfl, PB_at hP.rt hK⟩ rfl rfl hl.1 rfl (lv_room (Nat.le_of_ble_eq_true rfl)) dL_law_1440 ⟨hc, hs⟩) ?_
  refine lv_iload hx hb dL_law_1443 (lv_at hl 1 rfl) ?_
  refine lv_icmp_eq (tgt := 1450) hx hb dL_law_1445 (by decide) (fun _ => ?_) (fun q => absurd e3 q)
  refine lv_iload hx hb dL_law_1450 (lv_at hl 1 rfl) ?_
  refine lv_if_ne (tgt := 1467) hx hb dL_law_1452 (by decide) (fun k0 => ?_) (fun k0 => ?_)
  · refine lv_goto (tgt := 1554) hx hb dL_law_1467 (by decide) ?_
    exact kk _ _ g1 _ _ _ _ hI hP hD hS (lv_sub hl [2, 3, 4, 5, 6] rfl)
  refine lv_aload_n hx hb dL_law_1455 rfl (lv_at hl 6 rfl) ?_
  refine lv_iconst (v := 0) hx hb dL_law_1456 (by decide) ?_
  refine va_lald hx hb hK.1 hP.lf.rt 0 2 rfl rfl (show ¬ ((0 : Int32) < 0 ∨ 1 ≤ Int32.toNatClampNeg 0) from by decide) dL_law_1457 ?_
  have e5 := e4 k0
  refine lv_iload hx hb dL_law_1458 (lv_at hl 0 rfl) ?_
  refine lv_i2l (v := b1.toInt64) hx hb dL_law_1460 rfl ?_
  refine W.lcmp hx hb dL_law_1461 ?_
  refine eqi (y := 0) (by rw [show Int32.toNatClampNeg 0 = 0 from by decide, e5]; exact lg_same _) ?_
  refine lv_if_eq (tgt := 1467) hx hb dL_law_1462 (by decide) (fun _ => ?_) (fun q => absurd rfl q)
  refine lv_goto (tgt := 1554) hx hb dL_law_1467 (by decide) ?_
  exact kk _ _ g1 _ _ _ _ hI hP hD hS (lv_sub hl [2, 3, 4, 5, 6] rfl)
set_option maxHeartbeats 4000000 in
set_option maxRecDepth 100000 in
theorem lawc_clearText {p : Program} {l : Launch} {e : Env} {s : State} {m : MethodId} {below : List Frame} {meth : Method} {c : Code} {b L : Nat} {xs : Nat → Int32} {D : va_G} {T : Nat → ClassId} {h0 ho : Nat} {bm : Nat → Nat} {I : ZT → St → Prop} {Q : State → Prop} (hfl : l.stackTraces = false) (C0 : LX p s m c b L xs D T) {i : Nat} (hi : i + 5 ≤ L) (hL : L ≤ 2560) {A : AT} {Z : ZT} {x : St} {g : Nat → Int64} {H : Heap} {locs : List Loc} {cells slots : Nat} {ls : Array Slot}
    (hst : ∃ (v : Int32) (Z1 : ZT) (x1 : St), F_X4_clearText Z = some (v, Z1) ∧ F_X5_clearText x = some (v, x1) ∧ I Z1 x1) (hc : cells + 1 ≤ 601024) (hs : slots + 6 ≤ 7293034) (hP : va_P D vwCl (WL T h0 ho A Z g ++ mdW T bm x) H) (hD : va_D (AA s) (WL T h0 ho A Z g ++ mdW T bm x)) (hS : va_S (AA s) s.heap H locs) (hl : lv_has ls 9 [(4, .int (nI i)), (0, .ref b), (1, .ref h0), (2, .ref (bm 0)), (3, .ref ho)])
    (kk : LK p l e s m b below meth c D T h0 ho bm I i cells slots Q) : W p l e room_1 s m #[Value.ref b] below meth c H locs cells slots Q (F0 m 1470 ls []) := by
  obtain ⟨hx, hb, hml, hown, hts, hX, hbl, hK, hE, hN⟩ := C0
  have hA : ∀ q : Nat, s.heap.size ≤ q → AA s q := fun _ h => h
  have hbA : ¬ AA s b := Nat.not_le.mpr hbl
  have hc0 : cells ≤ 601024 := by omega
  have hs0 : slots ≤ 7293034 := by omega
  obtain ⟨v, Z1, x1, e1, e2, hI⟩ := hst
  refine W.widen (k := cells + 1) (n := slots + 6) (Nat.le_succ _) (by omega) ?_
  refine lv_aload_n hx hb dL_law_1470 rfl (lv_at hl 2 rfl) ?_
  have hF : ∀ q, va_A (scW T h0 A Z) H.size q → AA s q := va_self hD.lf.lf hS hA
  refine va_calli (va_runV (As := []) (rest := []) ⟨hx, hb, hml, hown, hts⟩ (c_X4_clearText l D T h0 A Z _ (v, Z1) e1) (cwV 0 hts gL_law_X4_clearText rfl rfl rfl hdV_X4_clearText ⟨Nat.le_of_ble_eq_true rfl, Nat.le_of_ble_eq_true rfl⟩) ⟨PM_blind, va_recv hK.1 hP.lf.lf (ci := 4) (q0 := 0) rfl rfl, PM_at hP.lf.lf hD.lf.lf hK⟩ rfl rfl hl.1 rfl (lv_room (Nat.le_of_ble_eq_true rfl)) dL_law_1471 ⟨hc, hs⟩) hS (fun q _ h => hF q h) hF (fun r9 u t H locs ht hvm hw hB hz hk hS => ?_)
  replace hw := hw.symm
  subst hw
  rw [ht] at hB
  obtain ⟨hP, hD⟩ := fr_ll hP hD hk hF hB.1 hB.2
  replace hP : va_P D vwCl (WL T h0 ho u Z1 g ++ mdW T bm x) H := hP
  replace hD : va_D (AA s) (WL T h0 ho u Z1 g ++ mdW T bm x) := hD
  refine lv_aload_n hx hb dL_law_1474 rfl (lv_at hl 3 rfl) ?_
  have hF2 : ∀ q, va_A (mdW T bm x) H.size q → AA s q := va_self hD.rt hS hA
  refine va_calli (va_runV (As := []) (rest := [.int v]) ⟨hx, hb, hml, hown, hts⟩ (c_X5_clearText l D T bm x _ (v, x1) e2) (cwV 0 hts gL_law_X5_clearText rfl rfl rfl hdV_X5_clearText ⟨Nat.le_of_ble_eq_true rfl, Nat.le_of_ble_eq_true rfl⟩) ⟨PM_blind, va_recv hK.1 hP.rt (ci := 5) (q0 := 0) rfl rfl, PM_at hP.rt hD.rt hK⟩ rfl rfl hl.1 rfl (lv_room (Nat.le_of_ble_eq_true rfl)) dL_law_1475 ⟨hc, hs⟩) hS (fun q _ h => hF2 q h) hF2 (fun r9 u9 t H locs ht hvm hw hB hz hk hS => ?_)
  replace hw := hw.symm
  subst hw
  rw [ht] at hB
  obtain ⟨hP, hD⟩ := fr_right hP hD hk hF2 hB.1 hB.2
  replace hP : va_P D vwCl (WL T h0 ho u Z1 g ++ mdW T bm x1) H := hP
  replace hD : va_D (AA s) (WL T h0 ho u Z1 g ++ mdW T bm x1) := hD
  refine lv_icmp_eq (tgt := 1554) hx hb dL_law_1478 (by decide) (fun _ => ?_) (fun q => absurd rfl q)
  exact kk _ _ g _ _ _ _ hI hP hD hS (lv_sub hl [0, 1, 2, 3, 4] rfl)
set_option maxHeartbeats 4000000 in
set_option maxRecDepth 100000 in
theorem lawc_carryOut {p : Program} {l : Launch} {e : Env} {s : State} {m : MethodId} {below : List Frame} {meth : Method} {c : Code} {b L : Nat} {xs : Nat → Int32} {D : va_G} {T : Nat → ClassId} {h0 ho : Nat} {bm : Nat → Nat} {I : ZT → St → Prop} {Q : State → Prop} (hfl : l.stackTraces = false) (C0 : LX p s m c b L xs D T) {i : Nat} (hi : i + 5 ≤ L) (hL : L ≤ 2560) {A : AT} {Z : ZT} {x : St} {g : Nat → Int64} {H : Heap} {locs : List Loc} {cells slots : Nat} {ls : Array Slot}
    (hst : ∃ (v : Int32) (Z1 : ZT) (x1 : St), F_X4_carryOut Z = some (v, Z1) ∧ F_X5_carryOut x = some (v, x1) ∧ I Z1 x1) (hc : cells + 1 ≤ 601024) (hs : slots + 6 ≤ 7293034) (hP : va_P D vwCl (WL T h0 ho A Z g ++ mdW T bm x) H) (hD : va_D (AA s) (WL T h0 ho A Z g ++ mdW T bm x)) (hS : va_S (AA s) s.heap H locs) (hl : lv_has ls 9 [(4, .int (nI i)), (0, .ref b), (1, .ref h0), (2, .ref (bm 0)), (3, .ref ho)])
    (kk : LK p l e s m b below meth c D T h0 ho bm I i cells slots Q) : W p l e room_1 s m #[Value.ref b] below meth c H locs cells slots Q (F0 m 1483 ls []) := by
  obtain ⟨hx, hb, hml, hown, hts, hX, hbl, hK, hE, hN⟩ := C0
  have hA : ∀ q : Nat, s.heap.size ≤ q → AA s q := fun _ h => h
  have hbA : ¬ AA s b := Nat.not_le.mpr hbl
  have hc0 : cells ≤ 601024 := by omega
  have hs0 : slots ≤ 7293034 := by omega
  obtain ⟨v, Z1, x1, e1, e2, hI⟩ := hst
  refine W.widen (k := cells + 1) (n := slots + 6) (Nat.le_succ _) (by omega) ?_
  refine lv_aload_n hx hb dL_law_1483 rfl (lv_at hl 2 rfl) ?_
  have hF : ∀ q, va_A (scW T h0 A Z) H.size q → AA s q := va_self hD.lf.lf hS hA
  refine va_calli (va_runV (As := []) (rest := []) ⟨hx, hb, hml, hown, hts⟩ (c_X4_carryOut l D T h0 A Z _ (v, Z1) e1) (cwV 0 hts gL_law_X4_carryOut rfl rfl rfl hdV_X4_carryOut ⟨Nat.le_of_ble_eq_true rfl, Nat.le_of_ble_eq_true rfl⟩) ⟨PM_blind, va_recv hK.1 hP.lf.lf (ci := 4) (q0 := 0) rfl rfl, PM_at hP.lf.lf hD.lf.lf hK⟩ rfl rfl hl.1 rfl (lv_room (Nat.le_of_ble_eq_true rfl)) dL_law_1484 ⟨hc, hs⟩) hS (fun q _ h => hF q h) hF (fun r9 u t H locs ht hvm hw hB hz hk hS => ?_)
  replace hw := hw.symm
  subst hw
  rw [ht] at hB
  obtain ⟨hP, hD⟩ := fr_ll hP hD hk hF hB.1 hB.2
  replace hP : va_P D vwCl (WL T h0 ho u Z1 g ++ mdW T bm x) H := hP
  replace hD : va_D (AA s) (WL T h0 ho u Z1 g ++ mdW T bm x) := hD
  refine lv_aload_n hx hb dL_law_1487 rfl (lv_at hl 3 rfl) ?_
  have hF2 : ∀ q, va_A (mdW T bm x) H.size q → AA s q := va_self hD.rt hS hA
  refine va_calli (va_runV (As := []) (rest := [.int v]) ⟨hx, hb, hml, hown, hts⟩ (c_X5_carryOut l D T bm x _ (v, x1) e2) (cwV 0 hts gL_law_X5_carryOut rfl rfl rfl hdV_X5_carryOut ⟨Nat.le_of_ble_eq_true rfl, Nat.le_of_ble_eq_true rfl⟩) ⟨PM_blind, va_recv hK.1 hP.rt (ci := 5) (q0 := 0) rfl rfl, PM_at hP.rt hD.rt hK⟩ rfl rfl hl.1 rfl (lv_room (Nat.le_of_ble_eq_true rfl)) dL_law_1488 ⟨hc, hs⟩) hS (fun q _ h => hF2 q h) hF2 (fun r9 u9 t H locs ht hvm hw hB hz hk hS => ?_)
  replace hw := hw.symm
  subst hw
  rw [ht] at hB
  obtain ⟨hP, hD⟩ := fr_right hP hD hk hF2 hB.1 hB.2
  replace hP : va_P D vwCl (WL T h0 ho u Z1 g ++ mdW T bm x1) H := hP
  replace hD : va_D (AA s) (WL T h0 ho u Z1 g ++ mdW T bm x1) := hD
  refine lv_icmp_eq (tgt := 1554) hx hb dL_law_1491 (by decide) (fun _ => ?_) (fun q => absurd rfl q)
  exact kk _ _ g _ _ _ _ hI hP hD hS (lv_sub hl [0, 1, 2, 3, 4] rfl)
set_option maxHeartbeats 4000000 in
set_option maxRecDepth 100000 in
theorem lawc_undo {p : Program} {l : Launch} {e : Env} {s : State} {m : MethodId} {below : List Frame} {meth : Method} {c : Code} {b L : Nat} {xs : Nat → Int32} {D : va_G} {T : Nat → ClassId} {h0 ho : Nat} {bm : Nat → Nat} {I : ZT → St → Prop} {Q : State → Prop} (hfl : l.stackTraces = false) (C0 : LX p s m c b L xs D T) {i : Nat} (hi : i + 5 ≤ L) (hL : L ≤ 2560) {A : AT} {Z : ZT} {x : St} {g : Nat → Int64} {H : Heap} {locs : List Loc} {cells slots : Nat} {ls : Array Slot}
    (hst : ∃ (k : Int32) (Z1 : ZT) (g1 : Nat → Int64) (b1 : Int32) (x1 : St), F_L_undo Z g = some (k, Z1, g1) ∧ F_X5_undo x = some (b1, x1) ∧ x1.1 1 = k ∧ (k = 0 → g1 0 = b1.toInt64) ∧ I Z1 x1) (hc : cells + 1 ≤ 601024) (hs : slots + 6 ≤ 7293034) (hP : va_P D vwCl (WL T h0 ho A Z g ++ mdW T bm x) H) (hD : va_D (AA s) (WL T h0 ho A Z g ++ mdW T bm x)) (hS : va_S (AA s) s.heap H locs) (hl : lv_has ls 9 [(4, .int (nI i)), (0, .ref b), (1, .ref h0), (2, .ref (bm 0)), (3, .ref ho)])
    (kk : LK p l e s m b below meth c D T h0 ho bm I i cells slots Q) : W p l e room_1 s m #[Value.ref b] below meth c H locs cells slots Q (F0 m 1496 ls []) := by
  obtain ⟨hx, hb, hml, hown, hts, hX, hbl, hK, hE, hN⟩ := C0
  have hA : ∀ q : Nat, s.heap.size ≤ q → AA s q := fun _ h => h
  have hbA : ¬ AA s b := Nat.not_le.mpr hbl
  have hc0 : cells ≤ 601024 := by omega
  have hs0 : slots ≤ 7293034 := by omega
  obtain ⟨k, Z1, g1, b1, x1, e1, e2, e3, e4, hI⟩ := hst
  refine lv_aload_n hx hb dL_law_1496 rfl (lv_at hl 2 rfl) ?_
  refine lv_aload_n hx hb dL_law_1497 rfl (lv_at hl 4 rfl) ?_
  have hF : ∀ q, va_A (WL T h0 ho A Z g) H.size q → AA s q := va_self hD.lf hS hA
  refine va_calli (vx_runSW (As := [.ref h0, .ref ho]) (rest := []) ⟨hx, hb, hml, hown, hts⟩ (c_L_undo l hfl D T h0 A Z ho g _ (k, Z1, g1) e1) (vx_cwSW 2 hts gL_law_L_undo rfl rfl rfl hdS_L_undo ⟨Nat.le_of_ble_eq_true rfl, Nat.le_of_ble_eq_true rfl⟩) ⟨PW_blind, PW_at hP.lf hD.lf hK hE hN hS hF⟩ rfl rfl hl.1 rfl (lv_room (Nat.le_of_ble_eq_true rfl)) dL_law_1498 ⟨hc, hs⟩) hS (fun q _ h => hF q h) hF (fun r9 u t H locs ht hvm hw hB hz hk hS => ?_)
  replace hw := hw.symm
  subst hw
  rw [ht] at hB
  obtain ⟨hP, hD⟩ := fr_left hP hD hk hF hB.1 hB.2
  replace hP : va_P D vwCl (WL T h0 ho u Z1 g1 ++ mdW T bm x) H := hP
  replace hD : va_D (AA s) (WL T h0 ho u Z1 g1 ++ mdW T bm x) := hD
  refine lv_istore (lv' := [(5, .int k), (4, .int (nI i)), (0, .ref b), (1, .ref h0), (2, .ref (bm 0)), (3, .ref ho)]) hx hb dL_law_1501 hl (by decide) rfl (fun ls hl => ?_)
  refine lv_aload_n hx hb dL_law_1503 rfl (lv_at hl 4 rfl) ?_
  have hF2 : ∀ q, va_A (mdW T bm x) H.size q → AA s q := va_self hD.rt hS hA
  refine va_calli (va_runV (As := []) (rest := []) ⟨hx, hb, hml, hown, hts⟩ (c_X5_undo l D T bm x _ (b1, x1) e2) (cwV 0 hts gL_law_X5_undo rfl rfl rfl hdV_X5_undo ⟨Nat.le_of_ble_eq_true rfl, Nat.le_of_ble_eq_true rfl⟩) ⟨PM_blind, va_recv hK.1 hP.rt (ci := 5) (q0 := 0) rfl rfl, PM_at hP.rt hD.rt hK⟩ rfl rfl hl.1 rfl (lv_room (Nat.le_of_ble_eq_true rfl)) dL_law_1504 ⟨hc, hs⟩) hS (fun q _ h => hF2 q h) hF2 (fun r9 u9 t H locs ht hvm hw hB hz hk hS => ?_)
  replace hw := hw.symm
  subst hw
  rw [ht] at hB
  obtain ⟨hP, hD⟩ := fr_right hP hD hk hF2 hB.1 hB.2
  replace hP : va_P D vwCl (WL T h0 ho u Z1 g1 ++ mdW T bm x1) H := hP
  replace hD : va_D (AA s) (WL T h0 ho u Z1 g1 ++ mdW T bm x1) := hD
  refine lv_istore (lv' := [(6, .int b1), (5, .int k), (4, .int (nI i)), (0, .ref b), (1, .ref h0), (2, .ref (bm 0)), (3, .ref ho)]) hx hb dL_law_1507 hl (by decide) rfl (fun ls hl => ?_)
  refine lv_aload_n hx hb dL_law_1509 rfl (lv_at hl 5 rfl) ?_
  refine callRi (v := x1.1 1) (va_runV (As := []) (rest := []) ⟨hx, hb, hml, hown, hts⟩ (c_X5_thrown l D T bm x1 (x1.1 1) rfl) (cwV 0 hts gL_law_X5_thrown rfl rfl rfl hdV_X5_thrown ⟨Nat.le_of_ble_eq_true rfl, Nat.le_of_ble_eq_true rfl⟩) ⟨PB_blind, va_recv hK.1 hP.rt (ci := 5) (q0 := 0) rfl rfl, PB_at hP.rt hK⟩ rfl rfl hl.1 rfl (lv_room (Nat.le_of_ble_eq_true rfl)) dL_law_1510 ⟨hc, hs⟩) ?_
  refine lv_iload hx hb dL_law_1513 (lv_at hl 1 rfl) ?_
  refine lv_icmp_eq (tgt := 1520) hx hb dL_law_1515 (by decide) (fun _ => ?_) (fun q => absurd e3 q)
  refine lv_iload hx hb dL_law_1520 (lv_at hl 1 rfl) ?_
  refine lv_if_ne (tgt := 1537) hx hb dL_law_1522 (by decide) (fun k0 => ?_) (fun k0 => ?_)
  · refine lv_goto (tgt := 1554) hx hb dL_law_1537 (by decide) ?_
    exact kk _ _ g1 _ _ _ _ hI hP hD hS (lv_sub hl [2, 3, 4, 5, 6] rfl)
  refine lv_aload_n hx hb dL_law_1525 rfl (lv_at hl 6 rfl) ?_
  refine lv_iconst (v := 0) hx hb dL_law_1526 (by decide) ?_
  refine va_lald hx hb hK.1 hP.lf.rt 0 2 rfl rfl (show ¬ ((0 : Int32) < 0 ∨ 1 ≤ Int32.toNatClampNeg 0) from by decide) dL_law_1527 ?_
  have e5 := e4 k0
  refine lv_iload hx hb dL_law_1528 (lv_at hl 0 rfl) ?_
  refine lv_i2l (v := b1.toInt64) hx hb dL_law_1530 rfl ?_
  refine W.lcmp hx hb dL_law_1531 ?_
  refine eqi (y := 0) (by rw [show Int32.toNatClampNeg 0 = 0 from by decide, e5]; exact lg_same _) ?_
  refine lv_if_eq (tgt := 1537) hx hb dL_law_1532 (by decide) (fun _ => ?_) (fun q => absurd rfl q)
  refine lv_goto (tgt := 1554) hx hb dL_law_1537 (by decide) ?_
  exact kk _ _ g1 _ _ _ _ hI hP hD hS (lv_sub hl [2, 3, 4, 5, 6] rfl)
set_option maxHeartbeats 4000000 in
set_option maxRecDepth 100000 in
theorem lawc_digest {p : Program} {l : Launch} {e : Env} {s : State} {m : MethodId} {below : List Frame} {meth : Method} {c : Code} {b L : Nat} {xs : Nat → Int32} {D : va_G} {T : Nat → ClassId} {h0 ho : Nat} {bm : Nat → Nat} {I : ZT → St → Prop} {Q : State → Prop} (hfl : l.stackTraces = false) (C0 : LX p s m c b L xs D T) {i : Nat} (hi : i + 5 ≤ L) (hL : L ≤ 2560) {A : AT} {Z : ZT} {x : St} {g : Nat → Int64} {H : Heap} {locs : List Loc} {cells slots : Nat} {ls : Array Slot}
    (hst : ∃ (v : Int64) (Z1 : ZT) (x1 : St), F_X4_digest Z = some (v, Z1) ∧ F_X5_digest x = some (v, x1) ∧ I Z1 x1) (hc : cells + 1 ≤ 601024) (hs : slots + 6 ≤ 7293034) (hP : va_P D vwCl (WL T h0 ho A Z g ++ mdW T bm x) H) (hD : va_D (AA s) (WL T h0 ho A Z g ++ mdW T bm x)) (hS : va_S (AA s) s.heap H locs) (hl : lv_has ls 9 [(4, .int (nI i)), (0, .ref b), (1, .ref h0), (2, .ref (bm 0)), (3, .ref ho)])
    (kk : LK p l e s m b below meth c D T h0 ho bm I i cells slots Q) : W p l e room_1 s m #[Value.ref b] below meth c H locs cells slots Q (F0 m 1540 ls []) := by
  obtain ⟨hx, hb, hml, hown, hts, hX, hbl, hK, hE, hN⟩ := C0
  have hA : ∀ q : Nat, s.heap.size ≤ q → AA s q := fun _ h => h
  have hbA : ¬ AA s b := Nat.not_le.mpr hbl
  have hc0 : cells ≤ 601024 := by omega
  have hs0 : slots ≤ 7293034 := by omega
  obtain ⟨v, Z1, x1, e1, e2, hI⟩ := hst
  refine W.widen (k := cells + 1) (n := slots + 6) (Nat.le_succ _) (by omega) ?_
  refine lv_aload_n hx hb dL_law_1540 rfl (lv_at hl 2 rfl) ?_
  have hF : ∀ q, va_A (scW T h0 A Z) H.size q → AA s q := va_self hD.lf.lf hS hA
  refine va_calll (va_runV (As := []) (rest := []) ⟨hx, hb, hml, hown, hts⟩ (c_X4_digest l D T h0 A Z _ (v, Z1) e1) (cwV 0 hts gL_law_X4_digest rfl rfl rfl hdV_X4_digest ⟨Nat.le_of_ble_eq_true rfl, Nat.le_of_ble_eq_true rfl⟩) ⟨PM_blind, va_recv hK.1 hP.lf.lf (ci := 4) (q0 := 0) rfl rfl, PM_at hP.lf.lf hD.lf.lf hK⟩ rfl rfl hl.1 rfl (lv_room (Nat.le_of_ble_eq_true rfl)) dL_law_1541 ⟨hc, hs⟩) hS (fun q _ h => hF q h) hF (fun r9 u t H locs ht hvm hw hB hz hk hS => ?_)
  replace hw := hw.symm
  subst hw
  rw [ht] at hB
  obtain ⟨hP, hD⟩ := fr_ll hP hD hk hF hB.1 hB.2
  replace hP : va_P D vwCl (WL T h0 ho u Z1 g ++ mdW T bm x) H := hP
  replace hD : va_D (AA s) (WL T h0 ho u Z1 g ++ mdW T bm x) := hD
  refine lv_aload_n hx hb dL_law_1544 rfl (lv_at hl 3 rfl) ?_
  have hF2 : ∀ q, va_A (mdW T bm x) H.size q → AA s q := va_self hD.rt hS hA
  refine va_calll (va_runV (As := []) (rest := [.long v]) ⟨hx, hb, hml, hown, hts⟩ (c_X5_digest l D T bm x _ (v, x1) e2) (cwV 0 hts gL_law_X5_digest rfl rfl rfl hdV_X5_digest ⟨Nat.le_of_ble_eq_true rfl, Nat.le_of_ble_eq_true rfl⟩) ⟨PM_blind, va_recv hK.1 hP.rt (ci := 5) (q0 := 0) rfl rfl, PM_at hP.rt hD.rt hK⟩ rfl rfl hl.1 rfl (lv_room (Nat.le_of_ble_eq_true rfl)) dL_law_1545 ⟨hc, hs⟩) hS (fun q _ h => hF2 q h) hF2 (fun r9 u9 t H locs ht hvm hw hB hz hk hS => ?_)
  replace hw := hw.symm
  subst hw
  rw [ht] at hB
  obtain ⟨hP, hD⟩ := fr_right hP hD hk hF2 hB.1 hB.2
  replace hP : va_P D vwCl (WL T h0 ho u Z1 g ++ mdW T bm x1) H := hP
  replace hD : va_D (AA s) (WL T h0 ho u Z1 g ++ mdW T bm x1) := hD
  refine W.lcmp hx hb dL_law_1548 ?_
  refine eqi (y := 0) (lg_same _) ?_
  refine lv_if_eq (tgt := 1554) hx hb dL_law_1549 (by decide) (fun _ => ?_) (fun q => absurd rfl q)
  exact kk _ _ g _ _ _ _ hI hP hD hS (lv_sub hl [0, 1, 2, 3, 4] rfl)
