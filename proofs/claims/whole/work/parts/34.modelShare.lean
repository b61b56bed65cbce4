def QMd (D : va_G) (w1 : va_W) (v : UInt64) (A : Nat → Prop) : Array Value → State → Outcome → State → Prop := va_Qd (fun (r : UInt64) (_ : Unit) => r = v) (fun _ t => va_P D vwCl w1 t.heap ∧ va_D A w1) A
def F_X5_share (x0 : St) : Option (UInt64 × St) :=
  (F_X5_lefts (sI x0 1 0)).bind fun t1 => (F_X5_cases (sI x0 1 0)).bind fun t2 => if ¬ (FP.ddiv (FP.i2d t1) (FP.i2d t2)) &&& 0x7fffffffffffffff ≤ 0x7ff0000000000000 then none else some (FP.ddiv (FP.i2d t1) (FP.i2d t2), sI x0 1 0)
theorem inX5_share_5 : ∀ w ∈ u_ws RX5 TX5 11, w ∈ wsX5_share := by decide +kernel
theorem hdS_X5_share : yX5_share.cls ≠ "java/lang/invoke/MethodHandle" ∧ yX5_share.cls ≠ "java/lang/invoke/VarHandle" ∧ (parseMethodDescriptor yX5_share.desc).map (fun d => d.parameters.length) = some 0 := by decide +kernel
theorem hdV_X5_share : yX5_share.cls = RX5 ∧ yX5_share.cls ≠ "java/lang/invoke/MethodHandle" ∧ yX5_share.cls ≠ "java/lang/invoke/VarHandle" ∧ (parseMethodDescriptor yX5_share.desc).map (fun d => d.parameters.length) = some 0 := by decide +kernel
set_option maxHeartbeats 4000000 in
set_option maxRecDepth 100000 in
theorem c_X5_share (l : Launch) (D : va_G) (T : Nat → ClassId) (a0 : Nat → Nat) (x0 : St) (sz : Nat) (r : UInt64 × St) (h : F_X5_share x0 = some r) : Met l yX5_share wsX5_share ({ frames := 2, cells := 0, slots := 0, locals := 43 } : Room) (va_Pc [.ref (a0 0)] (PM D T (mdW T a0 (x0)) sz)) (QMd D (mdW T a0 (r.2)) r.1 (va_A (mdW T a0 (x0)) sz)) 0 0 (va_A (mdW T a0 (x0)) sz) := by
  refine met_of (cc := cX5_share) (maxL := 1) (ret := (some .double)) (lv := [(0, .ref (a0 0))]) (by decide) rfl (Nat.le_of_ble_eq_true rfl) rfl ?_
  intro p e s m args below meth c ls C0 hl hB
  obtain ⟨hx, hb, hr, hml, hown, hts, hlocks, hname⟩ := C0
  obtain ⟨hsz, hP, hK, hD0⟩ := hB
  subst hsz
  have hD := hD0.self (sz := s.heap.size)
  generalize hAe : va_A (mdW T a0 (x0)) s.heap.size = A at hD ⊢
  have hA : ∀ q : Nat, s.heap.size ≤ q → A q := fun q h => by rw [← hAe]; exact Or.inr h
  obtain ⟨H, hH⟩ : ∃ H, H = s.heap := ⟨_, rfl⟩
  obtain ⟨locs, hlo⟩ : ∃ L : List Loc, L = [] := ⟨_, rfl⟩
  have hS : va_S A s.heap s.heap [] := va_S.rf
  rw [← hH] at hP ⊢
  rw [← hlo]
  replace hS : va_S A s.heap H locs := by rw [hH, hlo]; exact hS
  clear hH hlo
  unfold F_X5_share at h
  refine lv_aload_n hx hb dX5_share_0 rfl (lv_at hl 0 rfl) ?_
  refine lv_iconst (v := 0) hx hb dX5_share_1 (by decide) ?_
  refine va_put (D := D) (ci := 5) (v := .int 0) (ty := .int) (C := RX5) (T := TX5) (N := 11) hx hb hts inX5_share_5 tyX5 tyX5_ok nmX5 hown hK.1 hP hD hS 0 rfl rfl 4 (by decide) (hts (.fieldLink RX5 27 "LyingScaleModel" "thrown" "I") (List.mem_of_getElem? (i := 1) rfl)) (fun _ h9 => h9) rfl (by decide +kernel) rfl rfl (Nat.le_of_ble_eq_true rfl) dX5_share_2 (fun H locs hP hD hS => ?_)
  replace hP : va_P D vwCl (mdW T a0 (sI x0 1 0)) H := hP
  replace hD : va_D A (mdW T a0 (sI x0 1 0)) := hD
  refine lv_aload_n hx hb dX5_share_5 rfl (lv_at hl 0 rfl) ?_
  replace h := bd h
  obtain ⟨t1, et1, h⟩ := h
  refine callRi (v := t1) (va_runV (As := []) (rest := []) ⟨hx, hb, hml, hown, hts⟩ (c_X5_lefts l D T a0 (sI x0 1 0) t1 et1) (cwV 0 hts gX5_share_X5_lefts rfl rfl rfl hdV_X5_lefts ⟨Nat.le_of_ble_eq_true rfl, Nat.le_of_ble_eq_true rfl⟩) ⟨PB_blind, va_recv hK.1 hP (ci := 5) (q0 := 0) rfl rfl, PB_at hP hK⟩ rfl rfl hl.1 rfl (lv_room (Nat.le_of_ble_eq_true rfl)) dX5_share_6 ⟨Nat.zero_le _, Nat.zero_le _⟩) ?_
  refine lv_i2d hx hb dX5_share_9 ?_
  refine lv_aload_n hx hb dX5_share_10 rfl (lv_at hl 0 rfl) ?_
  replace h := bd h
  obtain ⟨t2, et2, h⟩ := h
  refine callRi (v := t2) (va_runV (As := []) (rest := [.double (FP.i2d t1)]) ⟨hx, hb, hml, hown, hts⟩ (c_X5_cases l D T a0 (sI x0 1 0) t2 et2) (cwV 0 hts gX5_share_X5_cases rfl rfl rfl hdV_X5_cases ⟨Nat.le_of_ble_eq_true rfl, Nat.le_of_ble_eq_true rfl⟩) ⟨PB_blind, va_recv hK.1 hP (ci := 5) (q0 := 0) rfl rfl, PB_at hP hK⟩ rfl rfl hl.1 rfl (lv_room (Nat.le_of_ble_eq_true rfl)) dX5_share_11 ⟨Nat.zero_le _, Nat.zero_le _⟩) ?_
  refine lv_i2d hx hb dX5_share_14 ?_
  replace h := gd h
  obtain ⟨g3, h⟩ := h
  refine lv_ddiv hx hb dX5_share_15 (nnD g3) ?_
  obtain rfl := Option.some.inj h
  exact W.dret hx hb hr (fun t ht hW => ⟨⟨_, (), rfl, rfl, by rw [ht]; exact hP, hD⟩, hS.F ht⟩) hS.2.2 dX5_share_16 hlocks
