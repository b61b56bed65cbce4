/-! the pure layer: states (as in whole) -/
def OKs (n e T P a : Nat) (lo : Nat → Nat) (y : St) : Prop :=
  (2 ≤ n ∧ n ≤ 16 ∧ e ≤ 2 ∧ T ≤ 40 ∧ P ≤ 8 ∧ a ≤ 30) ∧ (y.1 0 = nI n ∧ y.1 1 = nI e ∧ y.1 5 = nI T ∧ y.1 6 = nI P ∧ y.1 4 = nI a) ∧ (∀ c, c < 33 → y.2 6 c = nI (lo c) ∧ lo c ≤ T) ∧ (y.1 2 = -1 ∨ ∃ h, y.1 2 = nI h ∧ h < 2 * n + 1) ∧ (∃ s, y.1 3 = nI s ∧ s ≤ 1073741823)
/-- two states of the class that hold the same -/
def AGs (y y' : St) : Prop := (∀ k, k < 7 → y'.1 k = y.1 k) ∧ (∀ c, c < 33 → y'.2 6 c = y.2 6 c) ∧ (∀ i, i < 40 → y'.2 0 i = y.2 0 i ∧ y'.2 1 i = y.2 1 i ∧ y'.2 2 i = y.2 2 i) ∧ (∀ i, i < 8 → y'.2 3 i = y.2 3 i ∧ y'.2 4 i = y.2 4 i)
theorem AGs.rfl' (y : St) : AGs y y := ⟨fun _ _ => rfl, fun _ _ => rfl, fun _ _ => ⟨rfl, rfl, rfl⟩, fun _ _ => ⟨rfl, rfl⟩⟩
theorem cpy_at {f g : Nat → Int32} {n i : Nat} (h : i < n) : va_cpy f g 0 0 n i = f i := by
  rw [pk_cpy_in (Nat.zero_le i) (by omega), Nat.zero_add, Nat.sub_zero]
theorem y_copy (y0 y1 : St) : ∃ y', F_X2_copyFrom y0 y1 = some y' ∧ AGs y1 y' := by
  refine ⟨_, rfl, ⟨fun k hk => ?_, fun c hc => ?_, fun i hi => ?_, fun i hi => ?_⟩⟩
  · rcases (show k = 0 ∨ k = 1 ∨ k = 2 ∨ k = 3 ∨ k = 4 ∨ k = 5 ∨ k = 6 by omega) with q | q | q | q | q | q | q <;> subst q <;> rfl
  · exact cpy_at hc
  · exact ⟨cpy_at hi, cpy_at hi, cpy_at hi⟩
  · exact ⟨cpy_at hi, cpy_at hi⟩
theorem z_save {Z : ZT} {k : Nat} (hk : k ≤ 4) (h6 : (Z 6).1 0 = nI k) : ∃ Z' y', F_X0_save Z = some Z' ∧ AGs (Z 0) y' ∧ Z' 0 = Z 0 ∧ Z' 5 = Z 5 ∧ ((k < 4 ∧ (Z' 6).1 0 = nI (k + 1) ∧ Z' (1 + k) = y' ∧ ∀ j, j < k → Z' (1 + j) = Z (1 + j)) ∨ (k = 4 ∧ (Z' 6).1 0 = nI 4 ∧ Z' 4 = y' ∧ ∀ j, j < 3 → Z' (1 + j) = Z (2 + j))) := by
  unfold F_X0_save
  rcases (show k = 0 ∨ k = 1 ∨ k = 2 ∨ k = 3 ∨ k = 4 by omega) with q | q | q | q | q <;> subst q
  · obtain ⟨y', e, h⟩ := y_copy (Z 1) (Z 0)
    rw [if_pos (by rw [h6]; rfl), e]
    exact ⟨_, y', rfl, h, rfl, rfl, .inl ⟨by omega, by show (Z 6).1 0 + 1 = _; rw [h6, nI_1], rfl, fun j hj => absurd hj (Nat.not_lt_zero j)⟩⟩
  · obtain ⟨y', e, h⟩ := y_copy (Z 2) (Z 0)
    rw [if_neg (by rw [h6]; decide), if_pos (by rw [h6]; rfl), e]
    exact ⟨_, y', rfl, h, rfl, rfl, .inl ⟨by omega, by show (Z 6).1 0 + 1 = _; rw [h6, nI_1], rfl, fun j hj => by rw [show j = 0 by omega]; rfl⟩⟩
  · obtain ⟨y', e, h⟩ := y_copy (Z 3) (Z 0)
    rw [if_neg (by rw [h6]; decide), if_neg (by rw [h6]; decide), if_pos (by rw [h6]; rfl), e]
    exact ⟨_, y', rfl, h, rfl, rfl, .inl ⟨by omega, by show (Z 6).1 0 + 1 = _; rw [h6, nI_1], rfl, fun j hj => by rcases (show j = 0 ∨ j = 1 by omega) with q | q <;> subst q <;> rfl⟩⟩
  · obtain ⟨y', e, h⟩ := y_copy (Z 4) (Z 0)
    rw [if_neg (by rw [h6]; decide), if_neg (by rw [h6]; decide), if_neg (by rw [h6]; decide), if_pos (by rw [h6]; rfl), e]
    exact ⟨_, y', rfl, h, rfl, rfl, .inl ⟨by omega, by show (Z 6).1 0 + 1 = _; rw [h6, nI_1], rfl, fun j hj => by rcases (show j = 0 ∨ j = 1 ∨ j = 2 by omega) with q | q | q <;> subst q <;> rfl⟩⟩
  · obtain ⟨y', e, h⟩ := y_copy (rotZ (zU Z 6 (sI (Z 6) 0 3)) 4) (rotZ (zU Z 6 (sI (Z 6) 0 3)) 0)
    rw [if_neg (by rw [h6]; decide), if_neg (by rw [h6]; decide), if_neg (by rw [h6]; decide), if_neg (by rw [h6]; decide), if_pos (by rw [h6]; rfl), e]
    exact ⟨_, y', rfl, h, rfl, rfl, .inr ⟨rfl, rfl, rfl, fun j hj => by rcases (show j = 0 ∨ j = 1 ∨ j = 2 by omega) with q | q | q <;> subst q <;> rfl⟩⟩
theorem z_restore {Z : ZT} {k : Nat} (hk : k < 4) (h6 : (Z 6).1 0 = nI (k + 1)) : ∃ Z', F_X0_restore Z = some Z' ∧ AGs (Z (1 + k)) (Z' 0) ∧ Z' 5 = Z 5 ∧ (Z' 6).1 0 = nI k ∧ ∀ j, j < k → Z' (1 + j) = Z (1 + j) := by
  unfold F_X0_restore
  rcases (show k = 0 ∨ k = 1 ∨ k = 2 ∨ k = 3 by omega) with q | q | q | q <;> subst q
  · obtain ⟨y', e, h⟩ := y_copy (Z 0) (Z 1)
    rw [if_pos (by rw [h6]; rfl), e]
    exact ⟨_, rfl, h, rfl, by show (Z 6).1 0 - 1 = _; rw [h6, nI_pred], fun j hj => absurd hj (Nat.not_lt_zero j)⟩
  · obtain ⟨y', e, h⟩ := y_copy (Z 0) (Z 2)
    rw [if_neg (by rw [h6]; decide), if_pos (by rw [h6]; rfl), e]
    exact ⟨_, rfl, h, rfl, by show (Z 6).1 0 - 1 = _; rw [h6, nI_pred], fun j hj => by rw [show j = 0 by omega]; rfl⟩
  · obtain ⟨y', e, h⟩ := y_copy (Z 0) (Z 3)
    rw [if_neg (by rw [h6]; decide), if_neg (by rw [h6]; decide), if_pos (by rw [h6]; rfl), e]
    exact ⟨_, rfl, h, rfl, by show (Z 6).1 0 - 1 = _; rw [h6, nI_pred], fun j hj => by rcases (show j = 0 ∨ j = 1 by omega) with q | q <;> subst q <;> rfl⟩
  · obtain ⟨y', e, h⟩ := y_copy (Z 0) (Z 4)
    rw [if_neg (by rw [h6]; decide), if_neg (by rw [h6]; decide), if_neg (by rw [h6]; decide), if_pos (by rw [h6]; rfl), e]
    exact ⟨_, rfl, h, rfl, by show (Z 6).1 0 - 1 = _; rw [h6, nI_pred], fun j hj => by rcases (show j = 0 ∨ j = 1 ∨ j = 2 by omega) with q | q | q <;> subst q <;> rfl⟩
theorem y_cases0 {n : Nat} {y : St} (h : y.1 0 = nI n) : F_X2_cases y = some (nI (2 * n + 1)) := by
  unfold F_X2_cases
  rw [h]
  show some (nI 2 * nI n + nI 1) = _
  rw [pk_mul, nI_add]
theorem w_write {m T : Nat} {w : St} (hT : T < m) (hm : m < 2 ^ 31) (h : w.1 0 = nI T) (l r a : Int32) : ∃ w', F_X3_write m w l r a = some w' ∧ w'.1 0 = nI (T + 1) ∧ w'.2 0 = upd (w.2 0) T l ∧ w'.2 1 = upd (w.2 1) T r ∧ w'.2 2 = upd (w.2 2) T a := by
  unfold F_X3_write
  have e1 : F_X4_put m (w.2 0) (w.1 0) l = some (upd (w.2 0) T l) := by rw [h, q_put hT hm]
  rw [if_neg (by rw [h]; exact nI_ge hT hm), e1, sb]
  have e2 : F_X4_put m ((sA w 0 (upd (w.2 0) T l)).2 1) ((sA w 0 (upd (w.2 0) T l)).1 0) r = some (upd (w.2 1) T r) := by
    show F_X4_put m (w.2 1) (w.1 0) r = _
    rw [h, q_put hT hm]
  rw [e2, sb]
  have e3 : F_X4_put m ((sA (sA w 0 (upd (w.2 0) T l)) 1 (upd (w.2 1) T r)).2 2) ((sA (sA w 0 (upd (w.2 0) T l)) 1 (upd (w.2 1) T r)).1 0) a = some (upd (w.2 2) T a) := by
    show F_X4_put m (w.2 2) (w.1 0) a = _
    rw [h, q_put hT hm]
  rw [e3, sb]
  refine ⟨_, rfl, ?_, rfl, rfl, rfl⟩
  show w.1 0 + 1 = _
  rw [h, nI_1]
theorem y_learn {n T : Nat} {lo : Nat → Nat} {y : St} (hn : n ≤ 16) (h0 : y.1 0 = nI n) (h5 : y.1 5 = nI T) (hT : T < 40) (hc : ∀ c, c < 33 → y.2 6 c = nI (lo c)) (l r a : Int32) :
    ∃ y', F_X2_learn y l r a = some y' ∧ (∀ k, k ≠ 5 → y'.1 k = y.1 k) ∧ y'.1 5 = nI (T + 1) ∧ y'.2 0 = upd (y.2 0) T l ∧ y'.2 1 = upd (y.2 1) T r ∧ y'.2 2 = upd (y.2 2) T a ∧ (∀ k, k = 3 ∨ k = 4 ∨ k = 5 → y'.2 k = y.2 k) ∧ (∀ c, c < 2 * n + 1 → y'.2 6 c = nI (lt1 lo l r a c)) ∧ (∀ c, 2 * n + 1 ≤ c → y'.2 6 c = y.2 6 c) := by
  unfold F_X2_learn
  obtain ⟨w, e1, w0, w1, w2, w3⟩ := w_write (w := tdS y) hT (by omega) h5 l r a
  rw [e1, sb]
  have k := ind (m := 2 * n + 1) (Q := fun N i (s : St) => ∃ y', fx2 (B_X2_learn_13 l r a) N (nI i) s = some y' ∧ (y'.1 = (tdU y w).1 ∧ (∀ k, k ≠ 6 → y'.2 k = (tdU y w).2 k) ∧ (∀ c, c < 2 * n + 1 → y'.2 6 c = nI (lt1 lo l r a c)) ∧ (∀ c, 2 * n + 1 ≤ c → y'.2 6 c = y.2 6 c))) (fun i s => s.1 = (tdU y w).1 ∧ (∀ k, k ≠ 6 → s.2 k = (tdU y w).2 k) ∧ (∀ c, c < i → s.2 6 c = nI (lt1 lo l r a c)) ∧ (∀ c, i ≤ c → s.2 6 c = y.2 6 c)) (by
    intro N i s hi hs ih
    show ∃ y', B_X2_learn_13 l r a (fx2 (B_X2_learn_13 l r a) N) (nI i) s = some y' ∧ _
    unfold B_X2_learn_13
    rw [y_cases0 (n := n) (by rw [hs.1]; exact h0), sb]
    rcases Nat.lt_or_ge i (2 * n + 1) with q | q
    · have e2 : F_X2_liesIfTold s (nI i) l r a = some (nI (lt1 lo l r a i)) := by
        unfold F_X2_liesIfTold lt1
        rw [q_at (by omega) (by omega), sb, q_ta (by omega), sb, hs.2.2.2 i (Nat.le_refl i), hc i (by omega)]
        split
        · rfl
        · rw [nI_1]
      rw [if_neg (nI_ge q (by omega)), e2, sb, q_put (by omega) (by omega), sb, nI_1]
      refine ih _ q ⟨hs.1, fun k hk => ?_, fun c hc => ?_, fun c hc => ?_⟩
      · show (if k = 6 then _ else s.2 k) = _
        rw [if_neg hk]; exact hs.2.1 k hk
      · show upd (s.2 6) i _ c = _
        by_cases g : c = i
        · subst g; exact ux_at _ _ _
        · rw [ux_ne _ _ g]; exact hs.2.2.1 c (by omega)
      · show upd (s.2 6) i _ c = _
        rw [ux_ne _ _ (by omega)]; exact hs.2.2.2 c (by omega)
    · rw [show i = 2 * n + 1 by omega] at hs ⊢
      rw [if_pos (nI_le (Nat.le_refl _) (by omega))]
      exact ⟨s, rfl, hs⟩) (2 * n + 1) 0 (tdU y w) 1000 rfl (by omega) ⟨rfl, fun _ _ => rfl, fun c hc => absurd hc (Nat.not_lt_zero c), fun c _ => rfl⟩
  obtain ⟨y', k1, k2, k3, k4, k5⟩ := k
  refine ⟨y', k1, fun k hk => ?_, ?_, ?_, ?_, ?_, fun k hk => ?_, k4, k5⟩
  · rw [k2]; exact if_neg hk
  · rw [k2]; exact w0
  · rw [k3 0 (by omega)]; exact w1
  · rw [k3 1 (by omega)]; exact w2
  · rw [k3 2 (by omega)]; exact w3
  · rcases hk with q | q | q <;> subst q <;> exact k3 _ (by omega)
section S1
variable {n e T P a : Nat} {lo : Nat → Nat} {x y : St}
theorem OKs.cy (g : OKs n e T P a lo y) : CYy n e lo y := ⟨g.2.1.1, g.2.1.2.1, fun c hc => (g.2.2.1 c hc).1⟩
theorem OKs.sz (g : OKs n e T P a lo y) : SZ n e lo := ⟨g.1.1, g.1.2.1, g.1.2.2.1, fun c hc => by have := (g.2.2.1 c hc).2; have := g.1.2.2.2.1; omega⟩
/-- the hidden case answers on both sides -/
theorem lie_bit {s a : Nat} (hs : s ≤ 1073741823) (ha : a < 30) : ((nI s).toUInt32 >>> ((nI a).toUInt32 &&& Int32.toUInt32 31)).toInt32 &&& 1 = nI (s / 2 ^ a % 2) ∧ (nI s >>> (nI a &&& 31)) &&& 1 = nI (s / 2 ^ a % 2) := by
  rw [pk_ushrN (by omega) (nI a) a (s_u a (by omega)), pk_shrN (by omega) _ a (s_l a (by omega))]
  have : nI (s / 2 ^ a) &&& 1 = nI (s / 2 ^ a % 2) := fa_mask _ 1
  exact ⟨this, this⟩
/-- why not -/
theorem y_learnable (h5 : y.1 5 = nI T) (hT : T ≤ 40) : F_X2_canLearn y = some (if T < 40 then 1 else 0) := by
  unfold F_X2_canLearn
  rw [h5]
  by_cases q : T < 40
  · rw [if_pos q, if_neg (show ¬ (40 : Int32) ≤ nI T from nI_ge (b := 40) q (by omega))]
  · rw [if_neg q, if_pos (show (40 : Int32) ≤ nI T from nI_le (a := 40) (by omega) (by omega))]
theorem y_replies (g : OKs n e T P a lo y) : F_X2_canReply y = some (if y.1 2 = -1 then 0 else if T < 40 then (if a < 30 then 1 else 0) else 0) := by
  unfold F_X2_canReply
  by_cases q : y.1 2 = -1
  · rw [if_pos q, if_pos q]
  · rw [if_neg q, if_neg q, y_learnable g.2.1.2.2.1 g.1.2.2.2.1, sb]
    have ha := g.1.2.2.2.2.2
    by_cases q2 : T < 40
    · rw [if_pos q2, if_pos q2, if_neg one0, g.2.1.2.2.2.2]
      by_cases q3 : a < 30
      · rw [if_pos q3, if_neg (show ¬ (30 : Int32) ≤ nI a from nI_ge (b := 30) q3 (by omega))]
      · rw [if_neg q3, if_pos (show (30 : Int32) ≤ nI a from nI_le (a := 30) (by omega) (by omega))]
    · rw [if_neg q2, if_neg q2, if_pos rfl]
end S1
theorem y_forget (y : St) : ∃ y', F_X2_forgetTold y = some y' ∧ (∀ k, k ≠ 5 → y'.1 k = y.1 k) ∧ y'.1 5 = 0 ∧ (∀ k, k ≠ 6 → y'.2 k = y.2 k) ∧ ∀ c, c < 33 → y'.2 6 c = 0 := by
  unfold F_X2_forgetTold
  have k := ind (m := 33) (Q := fun N i (s : St) => ∃ y', fx2 B_X2_forgetTold_10 N (nI i) s = some y' ∧ y'.1 = (sI y 5 0).1 ∧ (∀ k, k ≠ 6 → y'.2 k = y.2 k) ∧ ∀ c, c < 33 → y'.2 6 c = 0) (fun i s => s.1 = (sI y 5 0).1 ∧ (∀ k, k ≠ 6 → s.2 k = y.2 k) ∧ ∀ c, c < i → s.2 6 c = 0) (by
    intro N i s hi hs ih
    show ∃ y', B_X2_forgetTold_10 (fx2 B_X2_forgetTold_10 N) (nI i) s = some y' ∧ _
    unfold B_X2_forgetTold_10
    rcases Nat.lt_or_ge i 33 with q | q
    · rw [if_neg (show ¬ (33 : Int32) ≤ nI i from nI_ge (b := 33) q (by omega)), q_put q (by omega), sb, nI_1]
      refine ih _ q ⟨hs.1, fun k hk => ?_, fun c hc => ?_⟩
      · show (if k = 6 then _ else s.2 k) = _
        rw [if_neg hk]; exact hs.2.1 k hk
      · show upd (s.2 6) i 0 c = 0
        by_cases g : c = i
        · subst g; exact ux_at _ _ _
        · rw [ux_ne _ _ g]; exact hs.2.2 c (by omega)
    · rw [show i = 33 by omega] at hs ⊢
      exact ⟨s, rfl, hs⟩) 33 0 (sI y 5 0) 1000 rfl (by omega) ⟨rfl, fun _ _ => rfl, fun c hc => absurd hc (Nat.not_lt_zero c)⟩
  obtain ⟨y', k1, k2, k3, k4⟩ := k
  exact ⟨y', k1, fun k hk => by rw [k2]; exact if_neg hk, by rw [k2]; rfl, k3, k4⟩
theorem y_start {n : Nat} (h1 : 2 ≤ n) (h2 : n ≤ 16) (y : St) : ∃ y', F_X2_start y (nI n) = some y' ∧ OKs n 1 0 0 0 (fun _ => 0) y' ∧ y'.1 2 = -1 ∧ y'.1 3 = 0 := by
  unfold F_X2_start
  obtain ⟨y', e, k1, k2, k3, k4⟩ := y_forget (sI (sI (sI (sI (sI (sI y 0 (nI n)) 1 1) 6 0) 2 (-1)) 3 0) 4 0)
  have a2 : y'.1 2 = -1 := by rw [k1 2 (by omega)]; rfl
  have a3 : y'.1 3 = 0 := by rw [k1 3 (by omega)]; rfl
  refine ⟨y', (be (show F_X2_hideCase _ _ _ = some _ from rfl)).trans ((be e).trans rfl), ⟨⟨h1, h2, by omega, by omega, by omega, by omega⟩, ⟨?_, ?_, k2, ?_, ?_⟩, fun c hc => ⟨k4 c hc, Nat.le_refl 0⟩, .inl a2, 0, a3, by omega⟩, a2, a3⟩
  · rw [k1 0 (by omega)]; rfl
  · rw [k1 1 (by omega)]; rfl
  · rw [k1 6 (by omega)]; rfl
  · rw [k1 4 (by omega)]; rfl
