/-! the pure layer, G: what changes both states -/
theorem y_cases0 {n : Nat} {y : St} (h : y.1 0 = nI n) : F_X2_cases y = some (nI (2 * n + 1)) := by
  unfold F_X2_cases
  rw [h]
  show some (nI 2 * nI n + nI 1) = _
  rw [pk_mul, nI_add]
theorem x_cases0 {n : Nat} {x : St} (h : x.2 0 0 = nI n) : F_X5_cases x = some (nI (2 * n + 1)) := by
  unfold F_X5_cases
  rw [h]
  show some (nI 2 * nI n + nI 1) = _
  rw [pk_mul, nI_add]
theorem w_write {m T : Nat} {w : St} (hT : T < m) (hm : m < 2 ^ 31) (h : w.1 0 = nI T) (l r a : Int32) : ∃ w', F_X3_write m w l r a = some w' ∧ w'.1 0 = nI (T + 1) ∧ w'.2 0 = upd (w.2 0) T l ∧ w'.2 1 = upd (w.2 1) T r ∧ w'.2 2 = upd (w.2 2) T a := by
  unfold F_X3_write
  have e1 : F_X4_put m (w.2 0) (w.1 0) l = some (upd (w.2 0) T l) := by rw [h, q_put hT hm]
  rw [if_neg (by rw [h]; exact nI_ge hT hm), e1, sb]
  have e2 : F_X4_put m ((sA w 0 (upd (w.2 0) T l)).2 1) ((sA w 0 (upd (w.2 0) T l)).1 0) r = some (upd (w.2 1) T r) := by
    show F_X4_put m (w.2 1) (w.1 0) r = _
    rw [h, q_put hT hm]
  rw [e2, sb]
  have e3 : F_X4_put m ((sA (sA w 0 (upd (w.2 0) T l)) 1 (upd (w.2 1) T r)).2 2) ((sA (sA w 0 (upd (w.2 0) T l)) 1 (upd (w.2 1) T r)).1 0) a = some (upd (w.2 2) T a) := by
    show F_X4_put m (w.2 2) (w.1 0) a = _
    rw [h, q_put hT hm]
  rw [e3, sb]
  refine ⟨_, rfl, ?_, rfl, rfl, rfl⟩
  show w.1 0 + 1 = _
  rw [h, nI_1]
theorem y_learn {n T : Nat} {lo : Nat → Nat} {y : St} (hn : n ≤ 16) (h0 : y.1 0 = nI n) (h5 : y.1 5 = nI T) (hT : T < 40) (hc : ∀ c, c < 33 → y.2 6 c = nI (lo c)) (l r a : Int32) :
    ∃ y', F_X2_learn y l r a = some y' ∧ (∀ k, k ≠ 5 → y'.1 k = y.1 k) ∧ y'.1 5 = nI (T + 1) ∧ y'.2 0 = upd (y.2 0) T l ∧ y'.2 1 = upd (y.2 1) T r ∧ y'.2 2 = upd (y.2 2) T a ∧ (∀ k, k = 3 ∨ k = 4 ∨ k = 5 → y'.2 k = y.2 k) ∧ (∀ c, c < 2 * n + 1 → y'.2 6 c = nI (lt1 lo l r a c)) ∧ (∀ c, 2 * n + 1 ≤ c → y'.2 6 c = y.2 6 c) := by
  unfold F_X2_learn
  obtain ⟨w, e1, w0, w1, w2, w3⟩ := w_write (w := tdS y) hT (by omega) h5 l r a
  rw [e1, sb]
  have k := ind (m := 2 * n + 1) (Q := fun N i (s : St) => ∃ y', fx2 (B_X2_learn_13 l r a) N (nI i) s = some y' ∧ (y'.1 = (tdU y w).1 ∧ (∀ k, k ≠ 6 → y'.2 k = (tdU y w).2 k) ∧ (∀ c, c < 2 * n + 1 → y'.2 6 c = nI (lt1 lo l r a c)) ∧ (∀ c, 2 * n + 1 ≤ c → y'.2 6 c = y.2 6 c))) (fun i s => s.1 = (tdU y w).1 ∧ (∀ k, k ≠ 6 → s.2 k = (tdU y w).2 k) ∧ (∀ c, c < i → s.2 6 c = nI (lt1 lo l r a c)) ∧ (∀ c, i ≤ c → s.2 6 c = y.2 6 c)) (by
    intro N i s hi hs ih
    show ∃ y', B_X2_learn_13 l r a (fx2 (B_X2_learn_13 l r a) N) (nI i) s = some y' ∧ _
    unfold B_X2_learn_13
    rw [y_cases0 (n := n) (by rw [hs.1]; exact h0), sb]
    rcases Nat.lt_or_ge i (2 * n + 1) with q | q
    · have e2 : F_X2_liesIfTold s (nI i) l r a = some (nI (lt1 lo l r a i)) := by
        unfold F_X2_liesIfTold lt1
        rw [q_at (by omega) (by omega), sb, q_ta (by omega), sb, hs.2.2.2 i (Nat.le_refl i), hc i (by omega)]
        split
        · rfl
        · rw [nI_1]
      rw [if_neg (nI_ge q (by omega)), e2, sb, q_put (by omega) (by omega), sb, nI_1]
      refine ih _ q ⟨hs.1, fun k hk => ?_, fun c hc => ?_, fun c hc => ?_⟩
      · show (if k = 6 then _ else s.2 k) = _
        rw [if_neg hk]; exact hs.2.1 k hk
      · show upd (s.2 6) i _ c = _
        by_cases g : c = i
        · subst g; exact ux_at _ _ _
        · rw [ux_ne _ _ g]; exact hs.2.2.1 c (by omega)
      · show upd (s.2 6) i _ c = _
        rw [ux_ne _ _ (by omega)]; exact hs.2.2.2 c (by omega)
    · rw [show i = 2 * n + 1 by omega] at hs ⊢
      rw [if_pos (nI_le (Nat.le_refl _) (by omega))]
      exact ⟨s, rfl, hs⟩) (2 * n + 1) 0 (tdU y w) 1000 rfl (by omega) ⟨rfl, fun _ _ => rfl, fun c hc => absurd hc (Nat.not_lt_zero c), fun c _ => rfl⟩
  obtain ⟨y', k1, k2, k3, k4, k5⟩ := k
  refine ⟨y', k1, fun k hk => ?_, ?_, ?_, ?_, ?_, fun k hk => ?_, k4, k5⟩
  · rw [k2]; exact if_neg hk
  · rw [k2]; exact w0
  · rw [k3 0 (by omega)]; exact w1
  · rw [k3 1 (by omega)]; exact w2
  · rw [k3 2 (by omega)]; exact w3
  · rcases hk with q | q | q <;> subst q <;> exact k3 _ (by omega)
theorem x_lays {n T : Nat} {lo : Nat → Nat} {x : St} (hn : n ≤ 16) (h0 : x.2 0 0 = nI n) (h2 : x.2 0 2 = nI T) (hT : T < 40) (hc : ∀ c, c < 33 → x.2 0 (143 + c) = nI (lo c)) (l r a : Int32) :
    ∃ x', F_X5_lays x l r a = some x' ∧ x'.1 = x.1 ∧ (∀ k, k ≠ 0 → x'.2 k = x.2 k) ∧ x'.2 0 2 = nI (T + 1) ∧ x'.2 0 (7 + 3 * T) = l ∧ x'.2 0 (7 + 3 * T + 1) = r ∧ x'.2 0 (7 + 3 * T + 2) = a ∧ (∀ c, c < 2 * n + 1 → x'.2 0 (143 + c) = nI (lt1 lo l r a c)) ∧ (∀ j, j ≠ 2 → j ≠ 7 + 3 * T → j ≠ 7 + 3 * T + 1 → j ≠ 7 + 3 * T + 2 → (j < 143 ∨ 143 + (2 * n + 1) ≤ j) → x'.2 0 j = x.2 0 j) := by
  unfold F_X5_lays
  have p0 : (7 : Int32) + 3 * nI T = nI (7 + 3 * T) := by
    show nI 7 + nI 3 * nI T = _
    rw [pk_mul, nI_add]
  have p2 : nI (7 + 3 * T) + 2 = nI (7 + 3 * T + 2) := nI_add _ 2
  rw [h2, p0, nI_1, p2, if_neg (nI_in (by omega) (by omega)), sb, if_neg (nI_in (by omega) (by omega)), sb, if_neg (nI_in (by omega) (by omega)), sb, sb, nI_clamp (by omega), nI_clamp (by omega), nI_clamp (by omega)]
  have hσ : ∃ σ : Nat → Int32, σ = upd (upd (upd (upd (x.2 0) (7 + 3 * T) l) (7 + 3 * T + 1) r) (7 + 3 * T + 2) a) 2 (upd (upd (upd (x.2 0) (7 + 3 * T) l) (7 + 3 * T + 1) r) (7 + 3 * T + 2) a 2 + 1) := ⟨_, rfl⟩
  obtain ⟨σ, eσ⟩ := hσ
  have s2 : σ 2 = nI (T + 1) := by rw [eσ, ux_at, ux_ne _ _ (by omega), ux_ne _ _ (by omega), ux_ne _ _ (by omega), h2, nI_1]
  have sl : σ (7 + 3 * T) = l := by rw [eσ, ux_ne _ _ (by omega), ux_ne _ _ (by omega), ux_ne _ _ (by omega), ux_at]
  have sr : σ (7 + 3 * T + 1) = r := by rw [eσ, ux_ne _ _ (by omega), ux_ne _ _ (by omega), ux_at]
  have sa : σ (7 + 3 * T + 2) = a := by rw [eσ, ux_ne _ _ (by omega), ux_at]
  have so : ∀ j, j ≠ 2 → j ≠ 7 + 3 * T → j ≠ 7 + 3 * T + 1 → j ≠ 7 + 3 * T + 2 → σ j = x.2 0 j := fun j q1 q2 q3 q4 => by rw [eσ, ux_ne _ _ q1, ux_ne _ _ q4, ux_ne _ _ q3, ux_ne _ _ q2]
  have k := ind (m := 2 * n + 1) (Q := fun N i (s : St) => ∃ x', fx2 (B_X5_lays_54 l r a) N (nI i) s = some x' ∧ (x'.1 = x.1 ∧ (∀ k, k ≠ 0 → x'.2 k = x.2 k) ∧ (∀ c, c < 2 * n + 1 → x'.2 0 (143 + c) = nI (lt1 lo l r a c)) ∧ (∀ j, j < 143 ∨ 143 + (2 * n + 1) ≤ j → x'.2 0 j = σ j))) (fun i s => s.1 = x.1 ∧ (∀ k, k ≠ 0 → s.2 k = x.2 k) ∧ (∀ c, c < i → s.2 0 (143 + c) = nI (lt1 lo l r a c)) ∧ (∀ j, j < 143 ∨ 143 + i ≤ j → s.2 0 j = σ j)) (by
    intro N i s hi hs ih
    show ∃ x', B_X5_lays_54 l r a (fx2 (B_X5_lays_54 l r a) N) (nI i) s = some x' ∧ _
    unfold B_X5_lays_54
    rw [x_cases0 (n := n) (by rw [hs.2.2.2 0 (by omega), so 0 (by omega) (by omega) (by omega) (by omega)]; exact h0), sb]
    rcases Nat.lt_or_ge i (2 * n + 1) with q | q
    · have ec : s.2 0 (143 + i) = nI (lo i) := by rw [hs.2.2.2 _ (by omega), so _ (by omega) (by omega) (by omega) (by omega)]; exact hc i (by omega)
      have nx : ∀ v : Int32, v = nI (lt1 lo l r a i) → ∃ x', fx2 (B_X5_lays_54 l r a) N (nI (i + 1)) (sA s 0 (upd (s.2 0) (143 + i) v)) = some x' ∧ (x'.1 = x.1 ∧ (∀ k, k ≠ 0 → x'.2 k = x.2 k) ∧ (∀ c, c < 2 * n + 1 → x'.2 0 (143 + c) = nI (lt1 lo l r a c)) ∧ (∀ j, j < 143 ∨ 143 + (2 * n + 1) ≤ j → x'.2 0 j = σ j)) := by
        intro v hv
        refine ih _ q ⟨hs.1, fun k hk => ?_, fun c hc => ?_, fun j hj => ?_⟩
        · show (if k = 0 then _ else s.2 k) = _
          rw [if_neg hk]; exact hs.2.1 k hk
        · show upd (s.2 0) (143 + i) v (143 + c) = _
          by_cases g : c = i
          · subst g; rw [ux_at]; exact hv
          · rw [ux_ne _ _ (by omega)]; exact hs.2.2.1 c (by omega)
        · show upd (s.2 0) (143 + i) v j = _
          rw [ux_ne _ _ (by omega)]; exact hs.2.2.2 j (by omega)
      rw [if_neg (nI_ge q (by omega)), g143 (by omega), if_neg (nI_in (by omega) (by omega)), q_tm (by omega), sb, if_neg (nI_in (by omega) (by omega)), if_neg (nI_in (by omega) (by omega)), sb, sb, nI_clamp (by omega), ec, nI_1]
      by_cases g : nI (tr i l r) = a
      · rw [if_pos g]
        exact nx _ (by unfold lt1; rw [if_pos g, add0])
      · rw [if_neg g]
        exact nx _ (by unfold lt1; rw [if_neg g, nI_1])
    · rw [show i = 2 * n + 1 by omega] at hs ⊢
      rw [if_pos (nI_le (Nat.le_refl _) (by omega))]
      exact ⟨s, rfl, hs⟩) (2 * n + 1) 0 (sA (sA (sA (sA x 0 (upd (x.2 0) (7 + 3 * T) l)) 0 (upd ((sA x 0 (upd (x.2 0) (7 + 3 * T) l)).2 0) (7 + 3 * T + 1) r)) 0 (upd ((sA (sA x 0 (upd (x.2 0) (7 + 3 * T) l)) 0 (upd ((sA x 0 (upd (x.2 0) (7 + 3 * T) l)).2 0) (7 + 3 * T + 1) r)).2 0) (7 + 3 * T + 2) a)) 0 (upd ((sA (sA (sA x 0 (upd (x.2 0) (7 + 3 * T) l)) 0 (upd ((sA x 0 (upd (x.2 0) (7 + 3 * T) l)).2 0) (7 + 3 * T + 1) r)) 0 (upd ((sA (sA x 0 (upd (x.2 0) (7 + 3 * T) l)) 0 (upd ((sA x 0 (upd (x.2 0) (7 + 3 * T) l)).2 0) (7 + 3 * T + 1) r)).2 0) (7 + 3 * T + 2) a)).2 0) 2 ((sA (sA (sA x 0 (upd (x.2 0) (7 + 3 * T) l)) 0 (upd ((sA x 0 (upd (x.2 0) (7 + 3 * T) l)).2 0) (7 + 3 * T + 1) r)) 0 (upd ((sA (sA x 0 (upd (x.2 0) (7 + 3 * T) l)) 0 (upd ((sA x 0 (upd (x.2 0) (7 + 3 * T) l)).2 0) (7 + 3 * T + 1) r)).2 0) (7 + 3 * T + 2) a)).2 0 2 + 1))) 1000 rfl (by omega) ⟨rfl, fun k hk => by
        show (if k = 0 then _ else if k = 0 then _ else if k = 0 then _ else if k = 0 then _ else x.2 k) = x.2 k
        rw [if_neg hk, if_neg hk, if_neg hk, if_neg hk], fun c hc => absurd hc (Nat.not_lt_zero c), fun j _ => by rw [eσ]; rfl⟩
  obtain ⟨x', k1, k2, k3, k4, k5⟩ := k
  refine ⟨x', k1, k2, k3, ?_, ?_, ?_, ?_, k4, fun j q1 q2 q3 q4 q5 => ?_⟩
  · rw [k5 _ (by omega)]; exact s2
  · rw [k5 _ (by omega)]; exact sl
  · rw [k5 _ (by omega)]; exact sr
  · rw [k5 _ (by omega)]; exact sa
  · rw [k5 j q5]; exact so j q1 q2 q3 q4
/-- a weighing is told on both sides -/
theorem both_learn {n e T P a : Nat} {lo : Nat → Nat} {y x : St} (g : OKs n e T P a lo y) (m : MSs T P y (x.2 0)) (hT : T < 40) (l r an : Int32) : ∃ y' x' lo', F_X2_learn y l r an = some y' ∧ F_X5_lays x l r an = some x' ∧ x'.1 = x.1 ∧ (∀ k, k ≠ 0 → x'.2 k = x.2 k) ∧ OKs n e (T + 1) P a lo' y' ∧ MSs (T + 1) P y' (x'.2 0) := by
  obtain ⟨b, ⟨q0, q1, q5, q6, q4⟩, hl, hh, hs3⟩ := g
  obtain ⟨⟨m0, m1, m2, m3, m4, m5, m6⟩, mc, mt, mp⟩ := m
  obtain ⟨y', e1, y1, y2, y3, y4, y5, y6, y7, y8⟩ := y_learn (lo := lo) b.2.1 q0 q5 hT (fun c hc => (hl c hc).1) l r an
  obtain ⟨x', e2, x1, x2, x3, x4, x5, x6, x7, x8⟩ := x_lays (lo := lo) (x := x) b.2.1 (by rw [m0, q0]) (by rw [m2, q5]) hT (fun c hc => by rw [mc c hc]; exact (hl c hc).1) l r an
  have hP := b.2.2.2.2.1
  refine ⟨y', x', fun c => if c < 2 * n + 1 then lt1 lo l r an c else lo c, e1, e2, x1, x2, ⟨⟨b.1, b.2.1, b.2.2.1, by omega, b.2.2.2.2⟩, ⟨by rw [y1 0 (by omega), q0], by rw [y1 1 (by omega), q1], y2, by rw [y1 6 (by omega), q6], by rw [y1 4 (by omega), q4]⟩, fun c hc => ?_, by rw [y1 2 (by omega)]; exact hh, by rw [y1 3 (by omega)]; exact hs3⟩, ⟨?_, ?_, ?_, ?_, ?_, ?_, ?_⟩, fun c hc => ?_, fun i hi => ?_, fun i hi => ?_⟩
  · show y'.2 6 c = nI (if c < 2 * n + 1 then lt1 lo l r an c else lo c) ∧ (if c < 2 * n + 1 then lt1 lo l r an c else lo c) ≤ T + 1
    have := (hl c hc).2
    by_cases z : c < 2 * n + 1
    · rw [if_pos z]
      refine ⟨y7 c z, ?_⟩
      unfold lt1; split <;> omega
    · rw [if_neg z, y8 c (by omega)]
      exact ⟨(hl c hc).1, by omega⟩
  · rw [x8 0 (by omega) (by omega) (by omega) (by omega) (by omega), y1 0 (by omega), m0]
  · rw [x8 1 (by omega) (by omega) (by omega) (by omega) (by omega), y1 1 (by omega), m1]
  · rw [x3, y2]
  · rw [x8 3 (by omega) (by omega) (by omega) (by omega) (by omega), y1 6 (by omega), m3]
  · rw [x8 4 (by omega) (by omega) (by omega) (by omega) (by omega), y1 2 (by omega), m4]
  · rw [x8 5 (by omega) (by omega) (by omega) (by omega) (by omega), y1 4 (by omega), m5]
  · rw [x8 6 (by omega) (by omega) (by omega) (by omega) (by omega), y1 3 (by omega), m6]
  · by_cases z : c < 2 * n + 1
    · rw [x7 c z, y7 c z]
    · rw [x8 _ (by omega) (by omega) (by omega) (by omega) (by omega), y8 c (by omega), mc c hc]
  · by_cases z : i = T
    · subst z; rw [x4, x5, x6, y3, y4, y5, ux_at, ux_at, ux_at]; exact ⟨rfl, rfl, rfl⟩
    · rw [x8 _ (by omega) (by omega) (by omega) (by omega) (by omega), x8 _ (by omega) (by omega) (by omega) (by omega) (by omega), x8 _ (by omega) (by omega) (by omega) (by omega) (by omega), y3, y4, y5, ux_ne _ _ z, ux_ne _ _ z, ux_ne _ _ z]
      exact mt i (by omega)
  · rw [x8 _ (by omega) (by omega) (by omega) (by omega) (by omega), x8 _ (by omega) (by omega) (by omega) (by omega) (by omega), y6 3 (.inl rfl), y6 4 (.inr (.inl rfl))]
    exact mp i hi
/-- a weighing is put into the plan on both sides -/
theorem both_plan {n e T P a : Nat} {lo : Nat → Nat} {y x : St} (g : OKs n e T P a lo y) (m : MSs T P y (x.2 0)) (hP8 : P < 8) (l r : Int32) : ∃ y' x', F_X2_planWeighing y l r = some y' ∧ F_X5_adds x l r = some (nI P, x') ∧ x'.1 = x.1 ∧ (∀ k, k ≠ 0 → x'.2 k = x.2 k) ∧ OKs n e T (P + 1) a lo y' ∧ MSs T (P + 1) y' (x'.2 0) := by
  obtain ⟨b, ⟨q0, q1, q5, q6, q4⟩, hl, hh, hs3⟩ := g
  obtain ⟨⟨m0, m1, m2, m3, m4, m5, m6⟩, mc, mt, mp⟩ := m
  unfold F_X2_planWeighing
  obtain ⟨w, e1, w0, w1, w2, w3⟩ := w_write (w := plS y) hP8 (by omega) q6 l r 2
  rw [e1, sb]
  have x3 : x.2 0 3 = nI P := by rw [m3, q6]
  have hT := b.2.2.2.1
  have u9 : ∀ k, k ≠ 3 → k ≠ 127 + 2 * P → k ≠ 127 + 2 * P + 1 → upd (upd (upd (x.2 0) (127 + 2 * P) l) (127 + 2 * P + 1) r) 3 (nI (P + 1)) k = x.2 0 k := fun k z1 z2 z3 => by rw [ux_ne _ _ z1, ux_ne _ _ z3, ux_ne _ _ z2]
  refine ⟨_, ?_, rfl, ?_⟩
  · exact sA x 0 (upd (upd (upd (x.2 0) (127 + 2 * P) l) (127 + 2 * P + 1) r) 3 (nI (P + 1)))
  refine ⟨?_, rfl, fun k hk => if_neg hk, ⟨⟨b.1, b.2.1, b.2.2.1, b.2.2.2.1, by omega, b.2.2.2.2.2⟩, ⟨q0, q1, q5, w0, q4⟩, hl, hh, hs3⟩, ⟨?_, ?_, ?_, ?_, ?_, ?_, ?_⟩, fun c hc => ?_, fun i hi => ?_, fun i hi => ?_⟩
  · unfold F_X5_adds
    have z3 : upd (x.2 0) (127 + 2 * P) l 3 = nI P := by rw [ux_ne _ _ (by omega), x3]
    rw [x3, g127, if_neg (nI_in (by omega) (by omega)), sb, nI_clamp (by omega)]
    have e2 : (sA x 0 (upd (x.2 0) (127 + 2 * P) l)).2 0 3 = nI P := z3
    rw [e2, g127, nI_1, if_neg (nI_in (by omega) (by omega)), sb, sb, nI_clamp (by omega)]
    have e3 : (sA (sA x 0 (upd (x.2 0) (127 + 2 * P) l)) 0 (upd ((sA x 0 (upd (x.2 0) (127 + 2 * P) l)).2 0) (127 + 2 * P + 1) r)).2 0 3 = nI P := by
      show upd (upd (x.2 0) (127 + 2 * P) l) (127 + 2 * P + 1) r 3 = _
      rw [ux_ne _ _ (by omega), z3]
    rw [e3, nI_1]
    have e4 : ∀ z : St, (sA z 0 (upd (z.2 0) 3 (nI (P + 1)))).2 0 3 = nI (P + 1) := fun _ => rfl
    rw [e4, nI_pred]
    congr 2
    refine Prod.ext rfl (funext fun k => ?_)
    show (if k = 0 then _ else if k = 0 then _ else if k = 0 then _ else x.2 k) = (if k = 0 then _ else x.2 k)
    by_cases hk : k = 0
    · rw [if_pos hk, if_pos hk]; rfl
    · rw [if_neg hk, if_neg hk, if_neg hk, if_neg hk]
  · exact (u9 0 (by omega) (by omega) (by omega)).trans m0
  · exact (u9 1 (by omega) (by omega) (by omega)).trans m1
  · exact (u9 2 (by omega) (by omega) (by omega)).trans m2
  · exact w0.symm
  · exact (u9 4 (by omega) (by omega) (by omega)).trans m4
  · exact (u9 5 (by omega) (by omega) (by omega)).trans m5
  · exact (u9 6 (by omega) (by omega) (by omega)).trans m6
  · exact (u9 _ (by omega) (by omega) (by omega)).trans (mc c hc)
  · exact ⟨(u9 _ (by omega) (by omega) (by omega)).trans (mt i hi).1, (u9 _ (by omega) (by omega) (by omega)).trans (mt i hi).2.1, (u9 _ (by omega) (by omega) (by omega)).trans (mt i hi).2.2⟩
  · have a3 : (plU y w).2 3 = upd (y.2 3) P l := w1
    have a4 : (plU y w).2 4 = upd (y.2 4) P r := w2
    rw [a3, a4]
    show upd _ 3 _ (127 + 2 * i) = _ ∧ upd _ 3 _ (127 + 2 * i + 1) = _
    have u1 : upd (upd (upd (x.2 0) (127 + 2 * P) l) (127 + 2 * P + 1) r) 3 (nI (P + 1)) (127 + 2 * i) = upd (upd (x.2 0) (127 + 2 * P) l) (127 + 2 * P + 1) r (127 + 2 * i) := ux_ne _ _ (by omega)
    have u2 : upd (upd (upd (x.2 0) (127 + 2 * P) l) (127 + 2 * P + 1) r) 3 (nI (P + 1)) (127 + 2 * i + 1) = upd (upd (x.2 0) (127 + 2 * P) l) (127 + 2 * P + 1) r (127 + 2 * i + 1) := ux_ne _ _ (by omega)
    by_cases z : i = P
    · subst z
      exact ⟨(u1.trans ((ux_ne _ _ (by omega)).trans (ux_at _ _ _))).trans (ux_at _ _ _).symm, (u2.trans (ux_at _ _ _)).trans (ux_at _ _ _).symm⟩
    · exact ⟨(u1.trans ((ux_ne _ _ (by omega)).trans (ux_ne _ _ (by omega)))).trans ((mp i (by omega)).1.trans (ux_ne _ _ z).symm), (u2.trans ((ux_ne _ _ (by omega)).trans (ux_ne _ _ (by omega)))).trans ((mp i (by omega)).2.trans (ux_ne _ _ z).symm)⟩
