/-! the pure layer, J: what both sides ask and do -/
theorem wb_of32 (x : Int32) : ∃ n, n < 2 ^ 32 ∧ x = nI n := ⟨x.toBitVec.toNat, x.toBitVec.isLt, Int32.toBitVec_inj.mp (by show _ = BitVec.ofNat 32 _; simp)⟩
section S1
variable {n e T P a : Nat} {lo : Nat → Nat} {x y : St}
theorem OKs.cy (g : OKs n e T P a lo y) : CYy n e lo y := ⟨g.2.1.1, g.2.1.2.1, fun c hc => (g.2.2.1 c hc).1⟩
theorem OKs.sz (g : OKs n e T P a lo y) : SZ n e lo := ⟨g.1.1, g.1.2.1, g.1.2.2.1, fun c hc => by have := (g.2.2.1 c hc).2; have := g.1.2.2.2.1; omega⟩
theorem OKs.cx (g : OKs n e T P a lo y) (m : MSs T P y (x.2 0)) : CXx n e lo x := ⟨by rw [m.1.1]; exact g.2.1.1, by rw [m.1.2.1]; exact g.2.1.2.1, fun c hc => by rw [m.2.1 c hc]; exact (g.2.2.1 c hc).1⟩
theorem OKs.py (g : OKs n e T P a lo y) : PYs P (y.2 3) (y.2 4) y := ⟨g.1.2.2.2.2.1, g.2.1.2.2.2.1, fun _ _ => ⟨rfl, rfl⟩⟩
theorem OKs.px (g : OKs n e T P a lo y) (m : MSs T P y (x.2 0)) : PXs P (y.2 3) (y.2 4) x := ⟨g.1.2.2.2.2.1, by rw [m.1.2.2.2.1]; exact g.2.1.2.2.2.1, fun k hk => m.2.2.2 k hk⟩
theorem all_n : ∀ n, n < 17 → ((1 : Int32) <<< (nI n &&& 31)) - 1 = nI (2 ^ n - 1) ∧ 2 ^ n ≤ 65536 ∧ 1 ≤ 2 ^ n := by decide +kernel
theorem both_sides (hn1 : 2 ≤ n) (hn : n ≤ 16) (h : y.1 0 = nI n) (h' : x.2 0 0 = nI n) (l r : Int32) : ∃ b : Int32, F_X2_isWeighing y l r = some b ∧ F_X5_areSides x l r = some b ∧ (b = 0 ∨ (b = 1 ∧ ¬ l ≤ 0)) := by
  obtain ⟨k1, k2, k3⟩ := all_n n (by omega)
  unfold F_X2_isWeighing F_X5_areSides
  rw [h, h', k1]
  have hp : 2 ^ n - 1 < 2 ^ 31 := by omega
  obtain ⟨A, hA, rfl⟩ := wb_of32 l
  obtain ⟨B, hB, rfl⟩ := wb_of32 r
  have hor : A ||| B < 2 ^ 32 := Nat.or_lt_two_pow hA hB
  have hl := Nat.left_le_or (n := A) (m := B)
  have hr := Nat.right_le_or (n := A) (m := B)
  rw [fa_or, pk_ushrN hor (nI n) n (s_u n (by omega))]
  have hq : (A ||| B) / 2 ^ n < 2 ^ 31 := by
    have h4 : 2 ^ 2 ≤ 2 ^ n := Nat.pow_le_pow_right (by omega) hn1
    have : (A ||| B) / 2 ^ n ≤ (A ||| B) / 2 ^ 2 := Nat.div_le_div_left h4 (by omega)
    omega
  by_cases hs : (A ||| B) < 2 ^ n
  · have hA2 : A < 65536 := by omega
    have hB2 : B < 65536 := by omega
    have hz0 : nI ((A ||| B) / 2 ^ n) = 0 := by rw [Nat.div_eq_of_lt hs]; rfl
    have bA := q_bc hA2
    have bB := q_bc hB2
    have oA := q_ones hA2
    have oB := q_ones hB2
    obtain ⟨pa, pa0⟩ := pc_on hA2
    obtain ⟨pb, pb0⟩ := pc_on hB2
    rw [← pa] at oA
    rw [← pb] at oB
    have bd64 : ∀ v, pcN v < 64 := fun v => Nat.lt_of_le_of_lt (show pcN v ≤ 63 from Nat.and_le_right) (by omega)
    have ba := bd64 A
    have bb := bd64 B
    by_cases a0 : A = 0
    · subst a0
      exact ⟨0, if_pos rfl, (be (show F_X5_in (nI 0) 1 (nI (2 ^ n - 1)) = some 0 from rfl)).trans (if_pos rfl), .inl rfl⟩
    · have eA : F_X5_in (nI A) 1 (nI (2 ^ n - 1)) = some 1 := by
        rcases q_in (v := nI A) (a := 1) (b := 2 ^ n - 1) (by omega) hp with ⟨z, _⟩ | ⟨_, z⟩
        · exact z
        · rcases z with z | z
          · rw [nI_ltI (by omega) (by omega)] at z; omega
          · rw [nI_ltI (by omega) (by omega)] at z; omega
      have nA : ¬ nI A = 0 := nI_ne0 (by omega) (by omega)
      by_cases b0 : B = 0
      · subst b0
        have eB : F_X5_in (nI 0) 1 (nI (2 ^ n - 1)) = some 0 := rfl
        refine ⟨0, (if_neg nA).trans ((if_pos (show nI A &&& nI 0 = 0 from and0 _)).trans ((if_pos hz0).trans ((be bA).trans ((be bB).trans (if_neg (fun z => ?_)))))), (be eA).trans ((if_neg one0).trans ((be eB).trans (if_pos rfl))), .inl rfl⟩
        have z2 := (nI_eq (by omega) (by omega)).mp z
        rw [show pcN 0 = 0 from rfl] at z2
        exact pa0 a0 z2
      · have eB : F_X5_in (nI B) 1 (nI (2 ^ n - 1)) = some 1 := by
          rcases q_in (v := nI B) (a := 1) (b := 2 ^ n - 1) (by omega) hp with ⟨z, _⟩ | ⟨_, z⟩
          · exact z
          · rcases z with z | z
            · rw [nI_ltI (by omega) (by omega)] at z; omega
            · rw [nI_ltI (by omega) (by omega)] at z; omega
        by_cases g : nI A &&& nI B = 0
        · by_cases g2 : nI (pcN A) = nI (pcN B)
          · exact ⟨1, (if_neg nA).trans ((if_pos g).trans ((if_pos hz0).trans ((be bA).trans ((be bB).trans (if_pos g2))))), (be eA).trans ((if_neg one0).trans ((be eB).trans ((if_neg one0).trans ((if_pos g).trans ((be oA).trans ((be oB).trans (if_pos g2))))))), .inr ⟨rfl, nI_nle (by omega) (by omega)⟩⟩
          · exact ⟨0, (if_neg nA).trans ((if_pos g).trans ((if_pos hz0).trans ((be bA).trans ((be bB).trans (if_neg g2))))), (be eA).trans ((if_neg one0).trans ((be eB).trans ((if_neg one0).trans ((if_pos g).trans ((be oA).trans ((be oB).trans (if_neg g2))))))), .inl rfl⟩
        · exact ⟨0, (if_neg nA).trans (if_neg g), (be eA).trans ((if_neg one0).trans ((be eB).trans ((if_neg one0).trans (if_neg g)))), .inl rfl⟩
  · have n0 : ¬ nI ((A ||| B) / 2 ^ n) = 0 := nI_ne0 (Nat.div_pos (by omega) (by omega)) hq
    refine ⟨0, ?_, ?_, .inl rfl⟩
    · rw [if_neg n0]
      split
      · rfl
      · split <;> rfl
    · rcases q_in (v := nI A) (a := 1) (b := 2 ^ n - 1) (by omega) hp with ⟨z, j, j1, j2, j3⟩ | ⟨z, _⟩
      · have zA : F_X5_in (nI A) 1 (nI (2 ^ n - 1)) = some 1 := z
        have eA : A = j := by
          have e1 := congrArg (fun z : Int32 => z.toBitVec.toNat) j3
          rw [pk_tn hA, pk_tn (by omega)] at e1
          exact e1
        rw [zA, sb, if_neg one0]
        rcases q_in (v := nI B) (a := 1) (b := 2 ^ n - 1) (by omega) hp with ⟨z2, i, i1, i2, i3⟩ | ⟨z2, _⟩
        · have eB : B = i := by
            have e1 := congrArg (fun z : Int32 => z.toBitVec.toNat) i3
            rw [pk_tn hB, pk_tn (by omega)] at e1
            exact e1
          exact absurd (Nat.or_lt_two_pow (show A < 2 ^ n by omega) (show B < 2 ^ n by omega)) hs
        · have zB : F_X5_in (nI B) 1 (nI (2 ^ n - 1)) = some 0 := z2
          rw [zB, sb, if_pos rfl]
      · have zA : F_X5_in (nI A) 1 (nI (2 ^ n - 1)) = some 0 := z
        rw [zA, sb, if_pos rfl]
theorem both_case (hn : n ≤ 16) (h : y.1 0 = nI n) (h' : x.2 0 0 = nI n) (v : Int32) : (F_X2_isCase y v = some 1 ∧ F_X5_isCase x v = some 1 ∧ ∃ c, c < 2 * n + 1 ∧ v = nI c) ∨ (F_X2_isCase y v = some 0 ∧ F_X5_isCase x v = some 0) := by
  unfold F_X2_isCase F_X5_isCase
  rw [y_cases0 h, x_cases0 h', sb, sb, nI_pred]
  rcases q_in (v := v) (a := 0) (b := 2 * n) (by omega) (by omega) with ⟨z, c, c1, c2, rfl⟩ | ⟨z, z2⟩
  · have z' : F_X5_in (nI c) 0 (nI (2 * n)) = some 1 := z
    left
    rw [if_neg (nI_pos (by omega)), if_neg (nI_ge (by omega) (by omega))]
    exact ⟨rfl, (be z').trans rfl, c, by omega, rfl⟩
  · have z' : F_X5_in v 0 (nI (2 * n)) = some 0 := z
    right
    refine ⟨?_, (be z').trans rfl⟩
    by_cases q : v < 0
    · rw [if_pos q]
    · rw [if_neg q]
      obtain ⟨j, hj, rfl⟩ := nI_of q
      rcases z2 with z2 | z2
      · exact absurd z2 (nI_pos hj)
      · rw [nI_ltI (by omega) hj] at z2
        rw [if_pos (nI_le (by omega) hj)]
theorem both_ans (v : Int32) : (F_X4_isAnswer v = some 1 ∧ F_X5_in v 0 2 = some 1 ∧ ∃ c, c ≤ 2 ∧ v = nI c) ∨ (F_X4_isAnswer v = some 0 ∧ F_X5_in v 0 2 = some 0) := by
  unfold F_X4_isAnswer
  rcases q_in (v := v) (a := 0) (b := 2) (by omega) (by omega) with ⟨z, c, c1, c2, rfl⟩ | ⟨z, z2⟩
  · left
    rw [if_neg (nI_pos (by omega)), if_neg (show ¬ (3 : Int32) ≤ nI c from nI_ge (b := 3) (by omega) (by omega))]
    exact ⟨rfl, z, c, c2, rfl⟩
  · right
    refine ⟨?_, z⟩
    by_cases q : v < 0
    · rw [if_pos q]
    · rw [if_neg q]
      obtain ⟨j, hj, rfl⟩ := nI_of q
      rcases z2 with z2 | z2
      · exact absurd z2 (nI_pos hj)
      · rw [nI_ltI (by omega) hj] at z2
        rw [if_pos (show (3 : Int32) ≤ nI j from nI_le (a := 3) (by omega) hj)]
theorem both_far (v : Int32) : (F_X4_isAhead v = some 1 ∧ F_X5_in v 0 20 = some 1 ∧ ∃ c, c < 21 ∧ v = nI c) ∨ (F_X4_isAhead v = some 0 ∧ F_X5_in v 0 20 = some 0) := by
  unfold F_X4_isAhead
  rcases q_in (v := v) (a := 0) (b := 20) (by omega) (by omega) with ⟨z, c, c1, c2, rfl⟩ | ⟨z, z2⟩
  · left
    rw [if_neg (nI_pos (by omega)), if_neg (show ¬ (20 : Int32) < nI c from nI_nlt (a := 20) (by omega) (by omega))]
    exact ⟨rfl, z, c, by omega, rfl⟩
  · right
    refine ⟨?_, z⟩
    by_cases q : v < 0
    · rw [if_pos q]
    · rw [if_neg q]
      rcases z2 with z2 | z2
      · exact absurd z2 q
      · rw [if_pos (show (20 : Int32) < v from z2)]
theorem both_num (g : OKs n e T P a lo y) (m : MSs T P y (x.2 0)) {w : Nat} (hw : w < 9) : ∃ v, F_X2_number y (nI w) = some v ∧ F_X5_number x (nI w) = some v := by
  unfold F_X2_number F_X5_number
  have c1 := g.cy; have c2 := g.cx m; have c3 := g.sz
  obtain ⟨m0, m1, m2, m3, m4, m5, m6⟩ := m.1
  rcases (show w = 0 ∨ w = 1 ∨ w = 2 ∨ w = 3 ∨ w = 4 ∨ w = 5 ∨ w = 6 ∨ w = 7 ∨ w = 8 by omega) with q | q | q | q | q | q | q | q | q <;> subst q
  · exact ⟨_, rfl, by rw [← m0]; rfl⟩
  · exact ⟨_, rfl, by rw [← m1]; rfl⟩
  · exact ⟨_, rfl, by rw [← m2]; rfl⟩
  · exact ⟨_, (be (y_count c1 c3)).trans rfl, (be (x_lefts c2 c3)).trans rfl⟩
  · exact ⟨_, rfl, by rw [← m3]; rfl⟩
  · exact ⟨_, rfl, by rw [← m4]; rfl⟩
  · exact ⟨_, rfl, by rw [← m5]; rfl⟩
  · exact ⟨_, (be (y_false c1 c3)).trans rfl, (be (x_false c2 c3)).trans rfl⟩
  · have a1 := y_isLeft c1 c3 (c := 0) (by omega)
    have a2 := x_isLeft c2 c3 (c := 0) (by omega)
    by_cases hl : lo 0 ≤ e
    · rw [if_pos hl] at a1 a2
      exact ⟨1, (be a1).trans (if_neg one0), (be a2).trans (if_neg one0)⟩
    · rw [if_neg hl] at a1 a2
      exact ⟨0, (be a1).trans (if_pos rfl), (be a2).trans (if_pos rfl)⟩
/-- the hidden case answers on both sides -/
theorem lie_bit {s a : Nat} (hs : s ≤ 1073741823) (ha : a < 30) : ((nI s).toUInt32 >>> ((nI a).toUInt32 &&& Int32.toUInt32 31)).toInt32 &&& 1 = nI (s / 2 ^ a % 2) ∧ (nI s >>> (nI a &&& 31)) &&& 1 = nI (s / 2 ^ a % 2) := by
  rw [pk_ushrN (by omega) (nI a) a (s_u a (by omega)), pk_shrN (by omega) _ a (s_l a (by omega))]
  have : nI (s / 2 ^ a) &&& 1 = nI (s / 2 ^ a % 2) := fa_mask _ 1
  exact ⟨this, this⟩
theorem both_ask (g : OKs n e T P a lo y) (m : MSs T P y (x.2 0)) (hT : T < 40) (ha : a < 30) (hh : ¬ y.1 2 = -1) (l r : Int32) : ∃ v y' x' lo', F_X2_reply y l r = some (v, y') ∧ F_X5_asks x l r = some (v, x') ∧ x'.1 = x.1 ∧ (∀ k, k ≠ 0 → x'.2 k = x.2 k) ∧ OKs n e (T + 1) P (a + 1) lo' y' ∧ MSs (T + 1) P y' (x'.2 0) := by
  obtain ⟨b, ⟨q0, q1, q5, q6, q4⟩, hl, hid, s, hs, hs2⟩ := g
  obtain ⟨h, hh1, hh2⟩ := hid.resolve_left hh
  obtain ⟨m0, m1, m2, m3, m4, m5, m6⟩ := m.1
  have hh3 : h < 33 := by have := b.2.1; omega
  have ux5 : ∀ k, k ≠ 5 → (sA x 0 (upd (x.2 0) 5 (x.2 0 5 + 1))).2 0 k = x.2 0 k := fun k hk => by
    show upd (x.2 0) 5 _ k = _
    exact ux_ne _ _ hk
  have key : ∀ v : Int32, ∃ y' x' lo', F_X2_learn (sI y 4 (y.1 4 + 1)) l r v = some y' ∧ F_X5_lays (sA x 0 (upd (x.2 0) 5 (x.2 0 5 + 1))) l r v = some x' ∧ x'.1 = x.1 ∧ (∀ k, k ≠ 0 → x'.2 k = x.2 k) ∧ OKs n e (T + 1) P (a + 1) lo' y' ∧ MSs (T + 1) P y' (x'.2 0) := fun v => by
    obtain ⟨y', x', lo', e1, e2, x1, x2, o, mm⟩ := both_learn (n := n) (e := e) (T := T) (P := P) (a := a + 1) (lo := lo) (y := sI y 4 (y.1 4 + 1)) (x := sA x 0 (upd (x.2 0) 5 (x.2 0 5 + 1))) ⟨⟨b.1, b.2.1, b.2.2.1, b.2.2.2.1, b.2.2.2.2.1, by omega⟩, ⟨q0, q1, q5, q6, by show y.1 4 + 1 = _; rw [q4, nI_1]⟩, hl, hid, s, hs, hs2⟩ ⟨⟨(ux5 _ (by omega)).trans m0, (ux5 _ (by omega)).trans m1, (ux5 _ (by omega)).trans m2, (ux5 _ (by omega)).trans m3, (ux5 _ (by omega)).trans m4, by show upd (x.2 0) 5 (x.2 0 5 + 1) 5 = y.1 4 + 1; rw [ux_at, m5], (ux5 _ (by omega)).trans m6⟩, fun c hc => (ux5 _ (by omega)).trans (m.2.1 c hc), fun i hi => ⟨(ux5 _ (by omega)).trans (m.2.2.1 i hi).1, (ux5 _ (by omega)).trans (m.2.2.1 i hi).2.1, (ux5 _ (by omega)).trans (m.2.2.1 i hi).2.2⟩, fun i hi => ⟨(ux5 _ (by omega)).trans (m.2.2.2 i hi).1, (ux5 _ (by omega)).trans (m.2.2.2 i hi).2⟩⟩ hT l r v
    exact ⟨y', x', lo', e1, e2, x1, fun k hk => by rw [x2 k hk]; exact if_neg hk, o, mm⟩
  obtain ⟨lb1, lb2⟩ := lie_bit hs2 ha
  have ht := tr_le h l r
  have e1 : F_X4_trueAnswer (y.1 2) l r = some (nI (tr h l r)) := by rw [hh1, q_ta hh3]
  have e2 : F_X5_truth (x.2 0 4) l r = some (nI (tr h l r)) := by rw [m4, hh1, q_tm hh3]
  have e3 : ((x.2 0 6) >>> ((x.2 0 5) &&& 31)) &&& 1 = nI (s / 2 ^ a % 2) := by rw [m6, m5, hs, q4]; exact lb2
  have e4 : ((y.1 3).toUInt32 >>> ((y.1 4).toUInt32 &&& Int32.toUInt32 31)).toInt32 &&& 1 = nI (s / 2 ^ a % 2) := by rw [hs, q4]; exact lb1
  unfold F_X2_reply F_X5_asks
  rw [e1, e2, sb, sb, e3, e4]
  have hb : s / 2 ^ a % 2 = 0 ∨ s / 2 ^ a % 2 = 1 := by omega
  have e5 : (nI (tr h l r) + nI (s / 2 ^ a % 2)) - (nI (tr h l r) + nI (s / 2 ^ a % 2)) / 3 * 3 = nI ((tr h l r + s / 2 ^ a % 2) % 3) := by
    rw [nI_add]
    exact pk_rem (d := 3) (by omega) (by omega) (by omega)
  rw [e5, sb, sb]
  rcases hb with hb | hb
  · rw [hb, if_neg (show ¬ nI 0 = 1 by decide), Nat.add_zero, Nat.mod_eq_of_lt (by omega)]
    obtain ⟨y', x', lo', k1, k2, k3, k4, k5, k6⟩ := key (nI (tr h l r))
    exact ⟨_, y', x', lo', (be k1).trans rfl, (be k2).trans rfl, k3, k4, k5, k6⟩
  · rw [hb, if_pos (show nI 1 = 1 from rfl)]
    by_cases t2 : tr h l r = 2
    · rw [t2, if_pos (show nI 2 = 2 from rfl)]
      obtain ⟨y', x', lo', k1, k2, k3, k4, k5, k6⟩ := key 0
      exact ⟨0, y', x', lo', (be k1).trans rfl, (be k2).trans rfl, k3, k4, k5, k6⟩
    · rw [if_neg (show ¬ nI (tr h l r) = 2 from fun z => t2 ((nI_eq (b := 2) (by omega) (by omega)).mp z)), Nat.mod_eq_of_lt (by omega)]
      obtain ⟨y', x', lo', k1, k2, k3, k4, k5, k6⟩ := key (nI (tr h l r) + 1)
      exact ⟨_, y', x', lo', (be k1).trans rfl, by rw [← nI_1]; exact (be k2).trans rfl, k3, k4, k5, k6⟩
/-- why not -/
theorem y_learnable (h5 : y.1 5 = nI T) (hT : T ≤ 40) : F_X2_canLearn y = some (if T < 40 then 1 else 0) := by
  unfold F_X2_canLearn
  rw [h5]
  by_cases q : T < 40
  · rw [if_pos q, if_neg (show ¬ (40 : Int32) ≤ nI T from nI_ge (b := 40) q (by omega))]
  · rw [if_neg q, if_pos (show (40 : Int32) ≤ nI T from nI_le (a := 40) (by omega) (by omega))]
theorem y_plannable (h6 : y.1 6 = nI P) (hP : P ≤ 8) : F_X2_canPlan y = some (if P < 8 then 1 else 0) := by
  unfold F_X2_canPlan
  rw [h6]
  by_cases q : P < 8
  · rw [if_pos q, if_neg (show ¬ (8 : Int32) ≤ nI P from nI_ge (b := 8) q (by omega))]
  · rw [if_neg q, if_pos (show (8 : Int32) ≤ nI P from nI_le (a := 8) (by omega) (by omega))]
theorem y_replies (g : OKs n e T P a lo y) : F_X2_canReply y = some (if y.1 2 = -1 then 0 else if T < 40 then (if a < 30 then 1 else 0) else 0) := by
  unfold F_X2_canReply
  by_cases q : y.1 2 = -1
  · rw [if_pos q, if_pos q]
  · rw [if_neg q, if_neg q, y_learnable g.2.1.2.2.1 g.1.2.2.2.1, sb]
    have ha := g.1.2.2.2.2.2
    by_cases q2 : T < 40
    · rw [if_pos q2, if_pos q2, if_neg one0, g.2.1.2.2.2.2]
      by_cases q3 : a < 30
      · rw [if_pos q3, if_neg (show ¬ (30 : Int32) ≤ nI a from nI_ge (b := 30) q3 (by omega))]
      · rw [if_neg q3, if_pos (show (30 : Int32) ≤ nI a from nI_le (a := 30) (by omega) (by omega))]
    · rw [if_neg q2, if_neg q2, if_pos rfl]
theorem x_tellable {l r v b : Int32} (g : OKs n e T P a lo y) (m : MSs T P y (x.2 0)) (hs : F_X5_areSides x l r = some b) (hb : b = 0 ∨ (b = 1 ∧ ¬ l ≤ 0)) {w : Int32} (hv : F_X5_in v 0 2 = some w) (hw : w = 0 ∨ w = 1) : F_X5_whyNotTell x l r v = some (if b = 0 then 1 else if w = 0 then 1 else if T < 40 then 0 else 2) := by
  unfold F_X5_whyNotTell
  have hT := g.1.2.2.2.1
  rw [hs, sb]
  rcases hb with rfl | ⟨rfl, -⟩
  · rw [if_pos rfl, if_pos rfl]
  · rw [if_neg one0, if_neg one0, hv, sb]
    rcases hw with rfl | rfl
    · rw [if_pos rfl, if_pos rfl]
    · rw [if_neg one0, if_neg one0, m.1.2.2.1, g.2.1.2.2.1]
      by_cases q : T < 40
      · rw [if_pos q, if_neg (fun z => by have := (nI_eq (b := 40) (by omega) (by omega)).mp z; omega)]
      · rw [if_neg q, if_pos (show nI T = 40 by rw [show T = 40 by omega]; rfl)]
theorem x_askable {l r b : Int32} (g : OKs n e T P a lo y) (m : MSs T P y (x.2 0)) (hs : F_X5_areSides x l r = some b) (hb : b = 0 ∨ (b = 1 ∧ ¬ l ≤ 0)) : F_X5_whyNotAsk x l r = some (if b = 0 then 1 else if y.1 2 = -1 then 2 else if T < 40 then (if a < 30 then 0 else 2) else 2) := by
  unfold F_X5_whyNotAsk
  have hT := g.1.2.2.2.1; have ha := g.1.2.2.2.2.2; have hn := g.1.2.1
  rw [hs, sb]
  rcases hb with rfl | ⟨rfl, -⟩
  · rw [if_pos rfl, if_pos rfl]
  · rw [if_neg one0, if_neg one0, m.1.2.2.2.2.1, m.1.2.2.1, m.1.2.2.2.2.2.1, g.2.1.2.2.1, g.2.1.2.2.2.2]
    by_cases q : y.1 2 = -1
    · rw [if_pos q, q, if_pos (show (-1 : Int32) < 0 by decide)]
    · obtain ⟨h, hh, hh2⟩ := g.2.2.2.1.resolve_left q
      rw [if_neg q, hh, if_neg (nI_pos (by omega))]
      by_cases q2 : T < 40
      · rw [if_pos q2, if_neg (fun z => by have := (nI_eq (b := 40) (by omega) (by omega)).mp z; omega)]
        by_cases q3 : a < 30
        · rw [if_pos q3, if_neg (fun z => by have := (nI_eq (b := 30) (by omega) (by omega)).mp z; omega)]
        · rw [if_neg q3, if_pos (show nI a = 30 by rw [show a = 30 by omega]; rfl)]
      · rw [if_neg q2, if_pos (show nI T = 40 by rw [show T = 40 by omega]; rfl)]
theorem x_addable {l r b : Int32} (g : OKs n e T P a lo y) (m : MSs T P y (x.2 0)) (hs : F_X5_areSides x l r = some b) (hb : b = 0 ∨ (b = 1 ∧ ¬ l ≤ 0)) : F_X5_whyNotAdd x l r = some (if b = 0 then 1 else if P < 8 then 0 else 2) := by
  unfold F_X5_whyNotAdd
  have hP := g.1.2.2.2.2.1
  rw [hs, sb]
  rcases hb with rfl | ⟨rfl, -⟩
  · rw [if_pos rfl, if_pos rfl]
  · rw [if_neg one0, if_neg one0, m.1.2.2.2.1, g.2.1.2.2.2.1]
    by_cases q : P < 8
    · rw [if_pos q, if_neg (fun z => by have := (nI_eq (b := 8) (by omega) (by omega)).mp z; omega)]
    · rw [if_neg q, if_pos (show nI P = 8 by rw [show P = 8 by omega]; rfl)]
end S1
