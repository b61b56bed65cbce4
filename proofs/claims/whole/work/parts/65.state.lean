/-! the pure layer, F: both states, what is saved, what is told -/
def OKs (n e T P a : Nat) (lo : Nat → Nat) (y : St) : Prop :=
  (2 ≤ n ∧ n ≤ 16 ∧ e ≤ 2 ∧ T ≤ 40 ∧ P ≤ 8 ∧ a ≤ 30) ∧ (y.1 0 = nI n ∧ y.1 1 = nI e ∧ y.1 5 = nI T ∧ y.1 6 = nI P ∧ y.1 4 = nI a) ∧ (∀ c, c < 33 → y.2 6 c = nI (lo c) ∧ lo c ≤ T) ∧ (y.1 2 = -1 ∨ ∃ h, y.1 2 = nI h ∧ h < 2 * n + 1) ∧ (∃ s, y.1 3 = nI s ∧ s ≤ 1073741823)
def MSs (T P : Nat) (y : St) (σ : Nat → Int32) : Prop :=
  (σ 0 = y.1 0 ∧ σ 1 = y.1 1 ∧ σ 2 = y.1 5 ∧ σ 3 = y.1 6 ∧ σ 4 = y.1 2 ∧ σ 5 = y.1 4 ∧ σ 6 = y.1 3) ∧ (∀ c, c < 33 → σ (143 + c) = y.2 6 c) ∧ (∀ i, i < T → σ (7 + 3 * i) = y.2 0 i ∧ σ (7 + 3 * i + 1) = y.2 1 i ∧ σ (7 + 3 * i + 2) = y.2 2 i) ∧ (∀ i, i < P → σ (127 + 2 * i) = y.2 3 i ∧ σ (127 + 2 * i + 1) = y.2 4 i)
def Good (y : St) (σ : Nat → Int32) : Prop := ∃ n e T P a lo, OKs n e T P a lo y ∧ MSs T P y σ
/-- two states of the class that hold the same -/
def AGs (y y' : St) : Prop := (∀ k, k < 7 → y'.1 k = y.1 k) ∧ (∀ c, c < 33 → y'.2 6 c = y.2 6 c) ∧ (∀ i, i < 40 → y'.2 0 i = y.2 0 i ∧ y'.2 1 i = y.2 1 i ∧ y'.2 2 i = y.2 2 i) ∧ (∀ i, i < 8 → y'.2 3 i = y.2 3 i ∧ y'.2 4 i = y.2 4 i)
theorem AGs.rfl' (y : St) : AGs y y := ⟨fun _ _ => rfl, fun _ _ => rfl, fun _ _ => ⟨rfl, rfl, rfl⟩, fun _ _ => ⟨rfl, rfl⟩⟩
theorem AG7.ag {y y' : St} (h : AG7 y y') : AGs y y' := ⟨fun k _ => by rw [h.1], fun c _ => by rw [h.2 6 (by omega)], fun i _ => by rw [h.2 0 (by omega), h.2 1 (by omega), h.2 2 (by omega)]; exact ⟨rfl, rfl, rfl⟩, fun i _ => by rw [h.2 3 (by omega), h.2 4 (by omega)]; exact ⟨rfl, rfl⟩⟩
theorem Good.ag {y y' : St} {σ σ' : Nat → Int32} (g : Good y σ) (h : AGs y y') (hs : ∀ j, j < 176 → σ' j = σ j) : Good y' σ' := by
  obtain ⟨n, e, T, P, a, lo, ⟨b, ⟨q0, q1, q5, q6, q4⟩, hl, hh, hs3⟩, ⟨m0, m1, m2, m3, m4, m5, m6⟩, mc, mt, mp⟩ := g
  obtain ⟨h1, h2, h3, h4⟩ := h
  refine ⟨n, e, T, P, a, lo, ⟨b, ⟨?_, ?_, ?_, ?_, ?_⟩, fun c hc => ?_, ?_, ?_⟩, ⟨?_, ?_, ?_, ?_, ?_, ?_, ?_⟩, fun c hc => ?_, fun i hi => ?_, fun i hi => ?_⟩
  · rw [h1 0 (by omega), q0]
  · rw [h1 1 (by omega), q1]
  · rw [h1 5 (by omega), q5]
  · rw [h1 6 (by omega), q6]
  · rw [h1 4 (by omega), q4]
  · rw [h2 c hc]; exact hl c hc
  · rw [h1 2 (by omega)]; exact hh
  · rw [h1 3 (by omega)]; exact hs3
  · rw [hs 0 (by omega), h1 0 (by omega), m0]
  · rw [hs 1 (by omega), h1 1 (by omega), m1]
  · rw [hs 2 (by omega), h1 5 (by omega), m2]
  · rw [hs 3 (by omega), h1 6 (by omega), m3]
  · rw [hs 4 (by omega), h1 2 (by omega), m4]
  · rw [hs 5 (by omega), h1 4 (by omega), m5]
  · rw [hs 6 (by omega), h1 3 (by omega), m6]
  · rw [hs _ (by omega), h2 c hc]; exact mc c hc
  · have := b.2.2.2.1
    obtain ⟨z1, z2, z3⟩ := h3 i (by omega)
    rw [hs _ (by omega), hs _ (by omega), hs _ (by omega), z1, z2, z3]; exact mt i hi
  · have := b.2.2.2.2.1
    obtain ⟨z1, z2⟩ := h4 i (by omega)
    rw [hs _ (by omega), hs _ (by omega), z1, z2]; exact mp i hi
theorem cpy_at {f g : Nat → Int32} {n i : Nat} (h : i < n) : va_cpy f g 0 0 n i = f i := by
  rw [pk_cpy_in (Nat.zero_le i) (by omega), Nat.zero_add, Nat.sub_zero]
theorem y_copy (y0 y1 : St) : ∃ y', F_X2_copyFrom y0 y1 = some y' ∧ AGs y1 y' := by
  refine ⟨_, rfl, ⟨fun k hk => ?_, fun c hc => ?_, fun i hi => ?_, fun i hi => ?_⟩⟩
  · rcases (show k = 0 ∨ k = 1 ∨ k = 2 ∨ k = 3 ∨ k = 4 ∨ k = 5 ∨ k = 6 by omega) with q | q | q | q | q | q | q <;> subst q <;> rfl
  · exact cpy_at hc
  · exact ⟨cpy_at hi, cpy_at hi, cpy_at hi⟩
  · exact ⟨cpy_at hi, cpy_at hi⟩
/-- the saved states -/
def HI (k : Nat) (Z : ZT) (past : Nat → Int32) : Prop := ∀ j, j < k → Good (Z (1 + j)) (fun i => past (176 * j + i))
theorem z_save {Z : ZT} {k : Nat} (hk : k ≤ 4) (h6 : (Z 6).1 0 = nI k) : ∃ Z' y', F_X0_save Z = some Z' ∧ AGs (Z 0) y' ∧ Z' 0 = Z 0 ∧ Z' 5 = Z 5 ∧ ((k < 4 ∧ (Z' 6).1 0 = nI (k + 1) ∧ Z' (1 + k) = y' ∧ ∀ j, j < k → Z' (1 + j) = Z (1 + j)) ∨ (k = 4 ∧ (Z' 6).1 0 = nI 4 ∧ Z' 4 = y' ∧ ∀ j, j < 3 → Z' (1 + j) = Z (2 + j))) := by
  unfold F_X0_save
  rcases (show k = 0 ∨ k = 1 ∨ k = 2 ∨ k = 3 ∨ k = 4 by omega) with q | q | q | q | q <;> subst q
  · obtain ⟨y', e, h⟩ := y_copy (Z 1) (Z 0)
    rw [if_pos (by rw [h6]; rfl), e]
    exact ⟨_, y', rfl, h, rfl, rfl, .inl ⟨by omega, by show (Z 6).1 0 + 1 = _; rw [h6, nI_1], rfl, fun j hj => absurd hj (Nat.not_lt_zero j)⟩⟩
  · obtain ⟨y', e, h⟩ := y_copy (Z 2) (Z 0)
    rw [if_neg (by rw [h6]; decide), if_pos (by rw [h6]; rfl), e]
    exact ⟨_, y', rfl, h, rfl, rfl, .inl ⟨by omega, by show (Z 6).1 0 + 1 = _; rw [h6, nI_1], rfl, fun j hj => by rw [show j = 0 by omega]; rfl⟩⟩
  · obtain ⟨y', e, h⟩ := y_copy (Z 3) (Z 0)
    rw [if_neg (by rw [h6]; decide), if_neg (by rw [h6]; decide), if_pos (by rw [h6]; rfl), e]
    exact ⟨_, y', rfl, h, rfl, rfl, .inl ⟨by omega, by show (Z 6).1 0 + 1 = _; rw [h6, nI_1], rfl, fun j hj => by rcases (show j = 0 ∨ j = 1 by omega) with q | q <;> subst q <;> rfl⟩⟩
  · obtain ⟨y', e, h⟩ := y_copy (Z 4) (Z 0)
    rw [if_neg (by rw [h6]; decide), if_neg (by rw [h6]; decide), if_neg (by rw [h6]; decide), if_pos (by rw [h6]; rfl), e]
    exact ⟨_, y', rfl, h, rfl, rfl, .inl ⟨by omega, by show (Z 6).1 0 + 1 = _; rw [h6, nI_1], rfl, fun j hj => by rcases (show j = 0 ∨ j = 1 ∨ j = 2 by omega) with q | q | q <;> subst q <;> rfl⟩⟩
  · obtain ⟨y', e, h⟩ := y_copy (rotZ (zU Z 6 (sI (Z 6) 0 3)) 4) (rotZ (zU Z 6 (sI (Z 6) 0 3)) 0)
    rw [if_neg (by rw [h6]; decide), if_neg (by rw [h6]; decide), if_neg (by rw [h6]; decide), if_neg (by rw [h6]; decide), if_pos (by rw [h6]; rfl), e]
    exact ⟨_, y', rfl, h, rfl, rfl, .inr ⟨rfl, rfl, rfl, fun j hj => by rcases (show j = 0 ∨ j = 1 ∨ j = 2 by omega) with q | q | q <;> subst q <;> rfl⟩⟩
theorem z_restore {Z : ZT} {k : Nat} (hk : k < 4) (h6 : (Z 6).1 0 = nI (k + 1)) : ∃ Z', F_X0_restore Z = some Z' ∧ AGs (Z (1 + k)) (Z' 0) ∧ Z' 5 = Z 5 ∧ (Z' 6).1 0 = nI k ∧ ∀ j, j < k → Z' (1 + j) = Z (1 + j) := by
  unfold F_X0_restore
  rcases (show k = 0 ∨ k = 1 ∨ k = 2 ∨ k = 3 by omega) with q | q | q | q <;> subst q
  · obtain ⟨y', e, h⟩ := y_copy (Z 0) (Z 1)
    rw [if_pos (by rw [h6]; rfl), e]
    exact ⟨_, rfl, h, rfl, by show (Z 6).1 0 - 1 = _; rw [h6, nI_pred], fun j hj => absurd hj (Nat.not_lt_zero j)⟩
  · obtain ⟨y', e, h⟩ := y_copy (Z 0) (Z 2)
    rw [if_neg (by rw [h6]; decide), if_pos (by rw [h6]; rfl), e]
    exact ⟨_, rfl, h, rfl, by show (Z 6).1 0 - 1 = _; rw [h6, nI_pred], fun j hj => by rw [show j = 0 by omega]; rfl⟩
  · obtain ⟨y', e, h⟩ := y_copy (Z 0) (Z 3)
    rw [if_neg (by rw [h6]; decide), if_neg (by rw [h6]; decide), if_pos (by rw [h6]; rfl), e]
    exact ⟨_, rfl, h, rfl, by show (Z 6).1 0 - 1 = _; rw [h6, nI_pred], fun j hj => by rcases (show j = 0 ∨ j = 1 by omega) with q | q <;> subst q <;> rfl⟩
  · obtain ⟨y', e, h⟩ := y_copy (Z 0) (Z 4)
    rw [if_neg (by rw [h6]; decide), if_neg (by rw [h6]; decide), if_neg (by rw [h6]; decide), if_pos (by rw [h6]; rfl), e]
    exact ⟨_, rfl, h, rfl, by show (Z 6).1 0 - 1 = _; rw [h6, nI_pred], fun j hj => by rcases (show j = 0 ∨ j = 1 ∨ j = 2 by omega) with q | q | q <;> subst q <;> rfl⟩
/-- what the reference saves -/
theorem x_begins (x : St) : ∃ b, F_X5_begins x = some b ∧ b.1 = x.1 ∧ (∀ k, k ≠ 2 → b.2 k = x.2 k) ∧ ∀ i, i < 176 → b.2 2 i = x.2 0 i := by
  unfold F_X5_begins
  refine ind (m := 176) (Q := fun N i (s : St) => ∃ b, fx2 B_X5_begins_2 N (nI i) s = some b ∧ b.1 = x.1 ∧ (∀ k, k ≠ 2 → b.2 k = x.2 k) ∧ ∀ i, i < 176 → b.2 2 i = x.2 0 i) (fun i s => s.1 = x.1 ∧ (∀ k, k ≠ 2 → s.2 k = x.2 k) ∧ ∀ j, j < i → s.2 2 j = x.2 0 j) ?_ 176 0 x 1000 rfl (by omega) ⟨rfl, fun _ _ => rfl, fun j hj => absurd hj (Nat.not_lt_zero j)⟩
  intro N i s hi hs ih
  show ∃ b, B_X5_begins_2 (fx2 B_X5_begins_2 N) (nI i) s = some b ∧ _
  unfold B_X5_begins_2
  rcases Nat.lt_or_ge i 176 with q | q
  · rw [if_neg (show ¬ (176 : Int32) ≤ nI i from nI_ge (b := 176) q (by omega)), if_neg (nI_in q (by omega)), if_neg (nI_in q (by omega)), sb, nI_1, nI_clamp (by omega)]
    refine ih _ q ⟨hs.1, fun k hk => ?_, fun j hj => ?_⟩
    · show (if k = 2 then _ else s.2 k) = x.2 k
      rw [if_neg hk]; exact hs.2.1 k hk
    · show upd (s.2 2) i (s.2 0 i) j = x.2 0 j
      by_cases g : j = i
      · subst g; rw [ux_at, hs.2.1 0 (by omega)]
      · rw [ux_ne _ _ g]; exact hs.2.2 j (by omega)
  · rw [show i = 176 by omega] at hs ⊢
    exact ⟨s, rfl, hs⟩
/-- what saving keeps, and where the past lies behind it -/
def SVx (x x' : St) (v : Int32) (k : Nat) : Prop := x'.1 0 = nI (k + 1) ∧ x'.1 1 = 0 ∧ x'.1 2 = x.1 2 ∧ x'.2 0 = x.2 0 ∧ x'.2 3 = x.2 3 ∧ ∀ i, i < 176 → x'.2 1 (176 * k + i) = x.2 2 i
theorem g176 (k i : Nat) : 176 * nI k + nI i = nI (176 * k + i) := by
  show nI 176 * nI k + nI i = _
  rw [pk_mul, nI_add]
theorem x_put {x : St} {k : Nat} (hk : k < 4) (h0 : x.1 0 = nI k) (v : Int32) : (∃ x', fx2 (B_X5_saved_51 v) 1000 0 x = some (v, x') ∧ SVx x x' v k ∧ ∀ i, i < 176 * k → x'.2 1 i = x.2 1 i) ∧ (∃ x', fx2 (B_X5_saved_51b v) 1000 0 x = some (v, x') ∧ SVx x x' v k ∧ ∀ i, i < 176 * k → x'.2 1 i = x.2 1 i) := by
  constructor
  · refine ind (m := 176) (Q := fun N i (s : St) => ∃ x', fx2 (B_X5_saved_51 v) N (nI i) s = some (v, x') ∧ SVx x x' v k ∧ ∀ i, i < 176 * k → x'.2 1 i = x.2 1 i) (fun i s => s.1 = x.1 ∧ (∀ j, j ≠ 1 → s.2 j = x.2 j) ∧ (∀ j, j < i → s.2 1 (176 * k + j) = x.2 2 j) ∧ ∀ i, i < 176 * k → s.2 1 i = x.2 1 i) ?_ 176 0 x 1000 rfl (by omega) ⟨rfl, fun _ _ => rfl, fun j hj => absurd hj (Nat.not_lt_zero j), fun _ _ => rfl⟩
    intro N i s hi hs ih
    show ∃ x', B_X5_saved_51 v (fx2 (B_X5_saved_51 v) N) (nI i) s = some (v, x') ∧ _
    unfold B_X5_saved_51
    rcases Nat.lt_or_ge i 176 with q | q
    · rw [if_neg (show ¬ (176 : Int32) ≤ nI i from nI_ge (b := 176) q (by omega)), if_neg (nI_in q (by omega)), hs.1, h0, g176, if_neg (nI_in (by omega) (by omega)), sb, nI_1, nI_clamp (by omega), nI_clamp (by omega)]
      refine ih _ q ⟨hs.1, fun j hj => ?_, fun j hj => ?_, fun j hj => ?_⟩
      · show (if j = 1 then _ else s.2 j) = x.2 j
        rw [if_neg hj]; exact hs.2.1 j hj
      · show upd (s.2 1) (176 * k + i) (s.2 2 i) (176 * k + j) = x.2 2 j
        by_cases g : j = i
        · subst g; rw [ux_at, hs.2.1 2 (by omega)]
        · rw [ux_ne _ _ (by omega)]; exact hs.2.2.1 j (by omega)
      · show upd (s.2 1) (176 * k + i) (s.2 2 i) j = x.2 1 j
        rw [ux_ne _ _ (by omega)]; exact hs.2.2.2 j hj
    · rw [show i = 176 by omega] at hs ⊢
      refine ⟨_, rfl, ⟨?_, rfl, ?_, ?_, ?_, hs.2.2.1⟩, hs.2.2.2⟩
      · show s.1 0 + 1 = _
        rw [hs.1, h0, nI_1]
      · show s.1 2 = _; rw [hs.1]
      · exact hs.2.1 0 (by omega)
      · exact hs.2.1 3 (by omega)
  · refine ind (m := 176) (Q := fun N i (s : St) => ∃ x', fx2 (B_X5_saved_51b v) N (nI i) s = some (v, x') ∧ SVx x x' v k ∧ ∀ i, i < 176 * k → x'.2 1 i = x.2 1 i) (fun i s => s.1 = x.1 ∧ (∀ j, j ≠ 1 → s.2 j = x.2 j) ∧ (∀ j, j < i → s.2 1 (176 * k + j) = x.2 2 j) ∧ ∀ i, i < 176 * k → s.2 1 i = x.2 1 i) ?_ 176 0 x 1000 rfl (by omega) ⟨rfl, fun _ _ => rfl, fun j hj => absurd hj (Nat.not_lt_zero j), fun _ _ => rfl⟩
    intro N i s hi hs ih
    show ∃ x', B_X5_saved_51b v (fx2 (B_X5_saved_51b v) N) (nI i) s = some (v, x') ∧ _
    unfold B_X5_saved_51b
    rcases Nat.lt_or_ge i 176 with q | q
    · rw [if_neg (show ¬ (176 : Int32) ≤ nI i from nI_ge (b := 176) q (by omega)), if_neg (nI_in q (by omega)), hs.1, h0, g176, if_neg (nI_in (by omega) (by omega)), sb, nI_1, nI_clamp (by omega), nI_clamp (by omega)]
      refine ih _ q ⟨hs.1, fun j hj => ?_, fun j hj => ?_, fun j hj => ?_⟩
      · show (if j = 1 then _ else s.2 j) = x.2 j
        rw [if_neg hj]; exact hs.2.1 j hj
      · show upd (s.2 1) (176 * k + i) (s.2 2 i) (176 * k + j) = x.2 2 j
        by_cases g : j = i
        · subst g; rw [ux_at, hs.2.1 2 (by omega)]
        · rw [ux_ne _ _ (by omega)]; exact hs.2.2.1 j (by omega)
      · show upd (s.2 1) (176 * k + i) (s.2 2 i) j = x.2 1 j
        rw [ux_ne _ _ (by omega)]; exact hs.2.2.2 j hj
    · rw [show i = 176 by omega] at hs ⊢
      refine ⟨_, rfl, ⟨?_, rfl, ?_, ?_, ?_, hs.2.2.1⟩, hs.2.2.2⟩
      · show s.1 0 + 1 = _
        rw [hs.1, h0, nI_1]
      · show s.1 2 = _; rw [hs.1]
      · exact hs.2.1 0 (by omega)
      · exact hs.2.1 3 (by omega)
theorem x_saved {x : St} {k : Nat} (hk : k ≤ 4) (h0 : x.1 0 = nI k) (v : Int32) : ∃ x', F_X5_saved x v = some (v, x') ∧ ((k < 4 ∧ SVx x x' v k ∧ ∀ i, i < 176 * k → x'.2 1 i = x.2 1 i) ∨ (k = 4 ∧ SVx x x' v 3 ∧ ∀ i, i < 528 → x'.2 1 i = x.2 1 (i + 176))) := by
  unfold F_X5_saved
  rcases Nat.lt_or_ge k 4 with q | q
  · rw [if_neg (by rw [h0]; intro z; have := (nI_eq (a := k) (b := 4) (by omega) (by omega)).mp z; omega)]
    obtain ⟨x', z1, z2, z3⟩ := (x_put q h0 v).1
    exact ⟨x', z1, .inl ⟨q, z2, z3⟩⟩
  · have q4 : k = 4 := by omega
    subst q4
    rw [if_pos (by rw [h0]; rfl)]
    have k2 := ind (m := 528) (Q := fun N i (s : St) => ∃ x', fx2 (B_X5_saved_10 v) N (nI i) s = some (v, x') ∧ (SVx x x' v 3 ∧ ∀ i, i < 528 → x'.2 1 i = x.2 1 (i + 176))) (fun i s => s.1 = x.1 ∧ (∀ j, j ≠ 1 → s.2 j = x.2 j) ∧ (∀ j, j < i → s.2 1 j = x.2 1 (j + 176)) ∧ ∀ j, i ≤ j → s.2 1 j = x.2 1 j) (by
      intro N i s hi hs ih
      show ∃ x', B_X5_saved_10 v (fx2 (B_X5_saved_10 v) N) (nI i) s = some (v, x') ∧ _
      unfold B_X5_saved_10
      rcases Nat.lt_or_ge i 528 with q | q
      · rw [if_neg (show ¬ (528 : Int32) ≤ nI i from nI_ge (b := 528) q (by omega)), show nI i + 176 = nI (i + 176) from nI_add i 176, if_neg (nI_in (by omega) (by omega)), if_neg (nI_in (by omega) (by omega)), sb, nI_1, nI_clamp (by omega), nI_clamp (by omega)]
        refine ih _ q ⟨hs.1, fun j hj => ?_, fun j hj => ?_, fun j hj => ?_⟩
        · show (if j = 1 then _ else s.2 j) = x.2 j
          rw [if_neg hj]; exact hs.2.1 j hj
        · show upd (s.2 1) i (s.2 1 (i + 176)) j = x.2 1 (j + 176)
          by_cases g : j = i
          · subst g; rw [ux_at]; exact hs.2.2.2 _ (by omega)
          · rw [ux_ne _ _ g]; exact hs.2.2.1 j (by omega)
        · show upd (s.2 1) i (s.2 1 (i + 176)) j = x.2 1 j
          rw [ux_ne _ _ (by omega)]; exact hs.2.2.2 j (by omega)
      · have q5 : i = 528 := by omega
        subst q5
        rw [if_pos (show (528 : Int32) ≤ nI 528 by decide)]
        obtain ⟨x', z1, ⟨y1, y2, y3, y4, y5, y6⟩, z3⟩ := (x_put (x := sI s 0 (s.1 0 - 1)) (k := 3) (by omega) (by show s.1 0 - 1 = _; rw [hs.1, h0]; rfl) v).2
        refine ⟨x', z1, ⟨y1, y2, ?_, ?_, ?_, ?_⟩, ?_⟩
        · rw [y3]; show s.1 2 = _; rw [hs.1]
        · rw [y4]; exact hs.2.1 0 (by omega)
        · rw [y5]; exact hs.2.1 3 (by omega)
        · intro i hi; rw [y6 i hi]; show s.2 2 i = _; rw [hs.2.1 2 (by omega)]
        · intro i hi; rw [z3 i hi]; exact hs.2.2.1 i hi) 528 0 x 1000 rfl (by omega) ⟨rfl, fun _ _ => rfl, fun j hj => absurd hj (Nat.not_lt_zero j), fun _ _ => rfl⟩
    obtain ⟨x', z1, z2⟩ := k2
    exact ⟨x', z1, .inr ⟨rfl, z2⟩⟩
/-- the text -/
def TI (t : Nat) (y : St) (f : Nat → Int32) : Prop := ∀ i, i < t → ∃ b, b < 128 ∧ y.2 0 i = nI b ∧ f i = nI b
/-- both sides hold the same -/
def Inv (Z : ZT) (x : St) : Prop := Good (Z 0) (x.2 0) ∧ (∃ k, k ≤ 4 ∧ (Z 6).1 0 = nI k ∧ x.1 0 = nI k ∧ HI k Z (x.2 1)) ∧ (∃ t, t ≤ 100 ∧ (Z 5).1 0 = nI t ∧ x.1 2 = nI t ∧ TI t (Z 5) (x.2 3))
/-- a call that saves: the class's save ahead, the reference's begins ahead and saved behind -/
theorem keeps {Z : ZT} {x : St} (h : Inv Z x) : ∃ Z' b, F_X0_save Z = some Z' ∧ Z' 0 = Z 0 ∧ F_X5_begins x = some b ∧ b.1 = x.1 ∧ (∀ k, k ≠ 2 → b.2 k = x.2 k) ∧ ∀ (x1 y' : St) (v : Int32), x1.1 0 = b.1 0 → x1.1 2 = b.1 2 → x1.2 1 = b.2 1 → x1.2 2 = b.2 2 → x1.2 3 = b.2 3 → Good y' (x1.2 0) → ∃ x', F_X5_saved x1 v = some (v, x') ∧ x'.1 1 = 0 ∧ Inv (zU Z' 0 y') x' := by
  obtain ⟨hg, ⟨k, hk, h6, hx0, hh⟩, ⟨t, ht, h5, hx2, hti⟩⟩ := h
  obtain ⟨Z', yc, e1, hag, hz0, hz5, hc⟩ := z_save hk h6
  obtain ⟨b, e2, b1, b2, b3⟩ := x_begins x
  refine ⟨Z', b, e1, hz0, e2, b1, b2, ?_⟩
  intro x1 y' v i0 i2 a1 a2 a3 hg'
  obtain ⟨x', e3, hs⟩ := x_saved (x := x1) hk (by rw [i0, b1]; exact hx0) v
  have htx : ∀ x' : St, x'.1 2 = x1.1 2 → x'.2 3 = x1.2 3 → ∃ t, t ≤ 100 ∧ (zU Z' 0 y' 5).1 0 = nI t ∧ x'.1 2 = nI t ∧ TI t (zU Z' 0 y' 5) (x'.2 3) := by
    intro x' q1 q2
    have q5 : zU Z' 0 y' 5 = Z 5 := hz5
    refine ⟨t, ht, by rw [q5]; exact h5, by rw [q1, i2, b1]; exact hx2, ?_⟩
    rw [q5, q2, a3, b2 3 (by omega)]; exact hti
  rcases hs with ⟨q, ⟨s0, s1, s2, s3, s4, s5⟩, s6⟩ | ⟨q, ⟨s0, s1, s2, s3, s4, s5⟩, s6⟩
  · rcases hc with ⟨_, c6, cy, cj⟩ | ⟨q4, _⟩
    · refine ⟨x', e3, s1, by rw [s3]; exact hg', ⟨k + 1, by omega, c6, s0, fun j hj => ?_⟩, htx x' s2 s4⟩
      have ez : zU Z' 0 y' (1 + j) = Z' (1 + j) := if_neg (by omega)
      rw [ez]
      by_cases g : j = k
      · subst g; rw [cy]
        exact hg.ag hag (fun i hi => by show x'.2 1 (176 * j + i) = _; rw [s5 i hi, a2, b3 i hi])
      · rw [cj j (by omega)]
        exact (hh j (by omega)).ag (AGs.rfl' _) (fun i hi => by show x'.2 1 (176 * j + i) = x.2 1 (176 * j + i); rw [s6 _ (by omega), a1, b2 1 (by omega)])
    · omega
  · rcases hc with ⟨q4, _⟩ | ⟨_, c6, cy, cj⟩
    · omega
    · subst q
      refine ⟨x', e3, s1, by rw [s3]; exact hg', ⟨4, Nat.le_refl 4, c6, s0, fun j hj => ?_⟩, htx x' s2 s4⟩
      have ez : zU Z' 0 y' (1 + j) = Z' (1 + j) := if_neg (by omega)
      rw [ez]
      by_cases g : j = 3
      · subst g; rw [show Z' (1 + 3) = yc from cy]
        exact hg.ag hag (fun i hi => by show x'.2 1 (176 * 3 + i) = _; rw [s5 i hi, a2, b3 i hi])
      · rw [cj j (by omega), show 2 + j = 1 + (j + 1) by omega]
        exact (hh (j + 1) (by omega)).ag (AGs.rfl' _) (fun i hi => by show x'.2 1 (176 * j + i) = x.2 1 (176 * (j + 1) + i); rw [s6 _ (by omega), a1, b2 1 (by omega), show 176 * j + i + 176 = 176 * (j + 1) + i by omega])
