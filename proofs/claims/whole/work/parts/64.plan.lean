/-! the pure layer, E: distances of the plan -/
def dg (pl pr : Nat → Int32) (c : Nat) : Nat → Nat := fun k => tr c (pl k) (pr k)
theorem dg_lt (pl pr : Nat → Int32) (c k : Nat) : dg pl pr c k < 4 := by have := tr_le c (pl k) (pr k); show tr c _ _ < 4; omega
/-- both sides hold the plan -/
def PYs (P : Nat) (pl pr : Nat → Int32) (y : St) : Prop := P ≤ 8 ∧ y.1 6 = nI P ∧ (∀ k, k < P → y.2 3 k = pl k ∧ y.2 4 k = pr k)
def PXs (P : Nat) (pl pr : Nat → Int32) (x : St) : Prop := P ≤ 8 ∧ x.2 0 3 = nI P ∧ (∀ k, k < P → x.2 0 (127 + 2 * k) = pl k ∧ x.2 0 (127 + 2 * k + 1) = pr k)
section L3
variable {n e P : Nat} {lo : Nat → Nat} {x y : St} {pl pr : Nat → Int32}
theorem y_word (hp : PYs P pl pr y) {c : Nat} (hc : c < 33) : F_X3_codeWord 8 (plS y) (nI c) = some (nI (W4 (dg pl pr c) P)) := by
  rw [q_word (x := plS y) hp.1 hp.2.1 hc]
  congr 2
  refine W4_cong (fun k hk => ?_)
  show tr c (y.2 3 k) (y.2 4 k) = tr c (pl k) (pr k)
  rw [(hp.2.2 k hk).1, (hp.2.2 k hk).2]
theorem g127 {k : Nat} : (127 : Int32) + 2 * nI k = nI (127 + 2 * k) := by
  show nI 127 + nI 2 * nI k = _
  rw [pk_mul, nI_add]
theorem x_apart (hp : PXs P pl pr x) {a b : Nat} (ha : a < 33) (hb : b < 33) : F_X5_apart x (nI a) (nI b) = some (nI (cn (dg pl pr a) (dg pl pr b) P)) := by
  unfold F_X5_apart
  have hP := hp.1
  refine ind (m := P) (Q := fun N i (_ : Unit) => fx2 (B_X5_apart_5 x (nI a) (nI b)) N (nI (cn (dg pl pr a) (dg pl pr b) i)) (nI i) = some (nI (cn (dg pl pr a) (dg pl pr b) P))) (fun _ _ => True) ?_ P 0 () 1000 rfl (by omega) trivial
  intro N i s hi _ ih
  show B_X5_apart_5 x (nI a) (nI b) (fx2 (B_X5_apart_5 x (nI a) (nI b)) N) _ _ = _
  obtain ⟨K0, hK0⟩ : ∃ K, K = fx2 (B_X5_apart_5 x (nI a) (nI b)) N := ⟨_, rfl⟩
  rw [← hK0]
  unfold B_X5_apart_5
  rw [hp.2.1]
  rcases Nat.lt_or_ge i P with q | q
  · have ih' := ih () q trivial
    have e1 : cn (dg pl pr a) (dg pl pr b) (i + 1) = cn (dg pl pr a) (dg pl pr b) i + if dg pl pr a i = dg pl pr b i then 0 else 1 := rfl
    rw [e1] at ih'
    obtain ⟨h3, h4⟩ := hp.2.2 i q
    rw [if_neg (nI_ge q (by omega)), g127, nI_1, if_neg (nI_in (by omega) (by omega)), if_neg (nI_in (by omega) (by omega)), nI_clamp (by omega), nI_clamp (by omega), h3, h4, q_tm ha, q_tm hb, sb, sb, nI_1]
    have la := tr_le a (pl i) (pr i)
    have lb := tr_le b (pl i) (pr i)
    by_cases g : tr a (pl i) (pr i) = tr b (pl i) (pr i)
    · rw [if_pos (show dg pl pr a i = dg pl pr b i from g)] at ih'
      rw [g, if_pos rfl, add0]; subst hK0; exact ih'
    · rw [if_neg (show ¬ dg pl pr a i = dg pl pr b i from g)] at ih'
      rw [if_neg (fun z => g ((nI_eq (by omega) (by omega)).mp z)), nI_1]; subst hK0; exact ih'
  · rw [show i = P by omega, if_pos (nI_le (Nat.le_refl P) (by omega))]
theorem x_differs (hp : PXs P pl pr x) {c a : Nat} (hc : c < 33) (ha : a < 2 ^ 31) : F_X5_differs x (nI c) (nI a) = some (nI (cn (dg pl pr c) (fun k => a / 3 ^ k % 3) P)) := by
  unfold F_X5_differs
  have hP := hp.1
  have k := ind (m := P) (Q := fun N i (_ : Unit) => fx3 (B_X5_differs_8 x (nI c)) N (nI (cn (dg pl pr c) (fun k => a / 3 ^ k % 3) i)) (nI (a / 3 ^ i)) (nI i) = some (nI (cn (dg pl pr c) (fun k => a / 3 ^ k % 3) P))) (fun _ _ => True) (by
    intro N i s hi _ ih
    show B_X5_differs_8 x (nI c) (fx3 (B_X5_differs_8 x (nI c)) N) _ _ _ = _
    obtain ⟨K0, hK0⟩ : ∃ K, K = fx3 (B_X5_differs_8 x (nI c)) N := ⟨_, rfl⟩
    rw [← hK0]
    unfold B_X5_differs_8
    rw [hp.2.1]
    rcases Nat.lt_or_ge i P with q | q
    · have ih' := ih () q trivial
      have e1 : cn (dg pl pr c) (fun k => a / 3 ^ k % 3) (i + 1) = cn (dg pl pr c) (fun k => a / 3 ^ k % 3) i + if dg pl pr c i = a / 3 ^ i % 3 then 0 else 1 := rfl
      rw [e1] at ih'
      obtain ⟨h3, h4⟩ := hp.2.2 i q
      have hl : a / 3 ^ i < 2 ^ 31 := Nat.lt_of_le_of_lt (Nat.div_le_self _ _) ha
      rw [if_neg (nI_ge q (by omega)), g127, nI_1, if_neg (nI_in (by omega) (by omega)), if_neg (nI_in (by omega) (by omega)), nI_clamp (by omega), nI_clamp (by omega), h3, h4, q_tm hc, sb, nI_1]
      rw [show nI (a / 3 ^ i) - nI (a / 3 ^ i) / 3 * 3 = nI (a / 3 ^ i % 3) from pk_rem (d := 3) hl (by omega) (by omega), show nI (a / 3 ^ i) / 3 = nI (a / 3 ^ i / 3) from pk_div (d := 3) hl (by omega) (by omega), Nat.div_div_eq_div_mul, ← Nat.pow_succ]
      have la := tr_le c (pl i) (pr i)
      by_cases g : tr c (pl i) (pr i) = a / 3 ^ i % 3
      · rw [if_pos (show dg pl pr c i = a / 3 ^ i % 3 from g)] at ih'
        rw [g, if_pos rfl, add0]; subst hK0; exact ih'
      · rw [if_neg (show ¬ dg pl pr c i = a / 3 ^ i % 3 from g)] at ih'
        rw [if_neg (fun z => g ((nI_eq (by omega) (by omega)).mp z)), nI_1]; subst hK0; exact ih'
    · rw [show i = P by omega, if_pos (nI_le (Nat.le_refl P) (by omega))]) P 0 () 1000 rfl (by omega) trivial
  rw [Nat.pow_zero, Nat.div_one] at k
  exact k
/-- the least distance -/
def AG7 (y y' : St) : Prop := y'.1 = y.1 ∧ ∀ k, k ≠ 7 → y'.2 k = y.2 k
def inr1 (pl pr : Nat → Int32) (P a : Nat) (s : Int32) : Int32 := up (fun b s => if nI (cn (dg pl pr a) (dg pl pr b) P) < s then nI (cn (dg pl pr a) (dg pl pr b) P) else s) a 0 s
theorem AG7.cy {y y' : St} (h : AG7 y y') (hc : CYy n e lo y) : CYy n e lo y' := ⟨by rw [h.1]; exact hc.1, by rw [h.1]; exact hc.2.1, fun c h3 => by rw [h.2 6 (by omega)]; exact hc.2.2 c h3⟩
theorem AG7.py {y y' : St} (h : AG7 y y') (hp : PYs P pl pr y) : PYs P pl pr y' := ⟨hp.1, by rw [h.1]; exact hp.2.1, fun k hk => by rw [h.2 3 (by omega), h.2 4 (by omega)]; exact hp.2.2 k hk⟩
theorem y_least (h : CYy n e lo y) (hn : n ≤ 16) (hp : PYs P pl pr y) : ∃ y', F_X2_leastDifferences y = some (up (inr1 pl pr P) (2 * n + 1) 0 8, y') ∧ AG7 y y' := by
  unfold F_X2_leastDifferences
  have k := ind (m := 2 * n + 1) (Q := fun N i (s : Int32 × St) => ∃ y', fx3 B_X2_leastDifferences_5 N s.1 (nI i) s.2 = some (up (inr1 pl pr P) (2 * n + 1 - i) i s.1, y') ∧ AG7 y y') (fun i s => AG7 y s.2 ∧ ∀ c, c < i → s.2.2 7 c = nI (W4 (dg pl pr c) P)) (by
    intro N i s hi hs ih
    show ∃ y', B_X2_leastDifferences_5 (fx3 B_X2_leastDifferences_5 N) s.1 (nI i) s.2 = some (up (inr1 pl pr P) (2 * n + 1 - i) i s.1, y') ∧ AG7 y y'
    obtain ⟨K0, hK0⟩ : ∃ K, K = fx3 B_X2_leastDifferences_5 N := ⟨_, rfl⟩
    rw [← hK0]
    unfold B_X2_leastDifferences_5
    have hc := hs.1.cy h
    have hq := hs.1.py hp
    rw [y_cases hc, sb]
    rcases Nat.lt_or_ge i (2 * n + 1) with q | q
    · rw [if_neg (nI_ge q (by omega)), y_word hq (by omega), sb, q_put (by omega) (by omega), sb]
      have hw : ∀ c, c < i + 1 → upd (s.2.2 7) i (nI (W4 (dg pl pr i) P)) c = nI (W4 (dg pl pr c) P) := by
        intro c hc
        by_cases e1 : c = i
        · subst e1; exact ux_at _ _ _
        · rw [ux_ne _ _ e1]; exact hs.2 c (by omega)
      have e9 : fx2 (B_X2_leastDifferences_31 (nI i) s.2 K0 (upd (s.2.2 7) i (nI (W4 (dg pl pr i) P)))) 1000 s.1 0 = K0 (inr1 pl pr P i s.1) (nI (i + 1)) (sA s.2 7 (upd (s.2.2 7) i (nI (W4 (dg pl pr i) P)))) := fx2_upE (B := B_X2_leastDifferences_31 (nI i) s.2 K0 (upd (s.2.2 7) i (nI (W4 (dg pl pr i) P)))) (m := i) (f := fun b s => if nI (cn (dg pl pr i) (dg pl pr b) P) < s then nI (cn (dg pl pr i) (dg pl pr b) P) else s) (E := fun v => K0 v (nI (i + 1)) (sA s.2 7 (upd (s.2.2 7) i (nI (W4 (dg pl pr i) P))))) (by
        intro k b v hb
        unfold B_X2_leastDifferences_31
        rw [if_neg (nI_ge hb (by omega))]
        show ((F_X4_at 33 (upd (s.2.2 7) i (nI (W4 (dg pl pr i) P))) (nI i)).bind fun t6 => (F_X4_at 33 (upd (s.2.2 7) i (nI (W4 (dg pl pr i) P))) (nI b)).bind fun t7 => _) = _
        rw [q_at (by omega) (by omega), q_at (by omega) (by omega), hw i (by omega), hw b (by omega), sb, sb, q_apart hp.1 (dg_lt pl pr i) (dg_lt pl pr b), sb, nI_1]) (by
        intro k v
        unfold B_X2_leastDifferences_31
        rw [if_pos (nI_le (Nat.le_refl i) (by omega)), nI_1]) i 0 s.1 1000 rfl (by omega)
      rw [e9]
      subst hK0; obtain ⟨y', z1, z2⟩ := ih (inr1 pl pr P i s.1, sA s.2 7 (upd (s.2.2 7) i (nI (W4 (dg pl pr i) P)))) q ⟨⟨hs.1.1, fun k hk => by
        show (if k = 7 then _ else s.2.2 k) = y.2 k
        rw [if_neg hk]; exact hs.1.2 k hk⟩, hw⟩
      refine ⟨y', ?_, z2⟩
      rw [show 2 * n + 1 - i = (2 * n + 1 - (i + 1)) + 1 by omega]
      exact z1
    · rw [show i = 2 * n + 1 by omega, if_pos (nI_le (Nat.le_refl _) (by omega)), Nat.sub_self]
      exact ⟨s.2, rfl, hs.1⟩) (2 * n + 1) 0 (8, y) 1000 rfl (by omega) ⟨⟨rfl, fun _ _ => rfl⟩, fun c hc => absurd hc (Nat.not_lt_zero c)⟩
  exact k
theorem x_nearest (h : CXx n e lo x) (hn : n ≤ 16) (hp : PXs P pl pr x) : F_X5_nearest x = some (up (inr1 pl pr P) (2 * n + 1) 0 8) := by
  unfold F_X5_nearest
  refine fx2_upE (B := B_X5_nearest_5 x) (m := 2 * n + 1) (f := inr1 pl pr P) (E := fun s => some s) ?_ ?_ (2 * n + 1) 0 8 1000 rfl (by omega)
  · intro k i s hi
    unfold B_X5_nearest_5
    rw [x_cases h, sb, if_neg (nI_ge hi (by omega))]
    refine fx2_upE (B := B_X5_nearest_15 x (nI i) k) (m := i) (f := fun b s => if nI (cn (dg pl pr i) (dg pl pr b) P) < s then nI (cn (dg pl pr i) (dg pl pr b) P) else s) (E := fun v => k v (nI (i + 1))) ?_ ?_ i 0 s 1000 rfl (by omega)
    · intro k2 b v hb
      unfold B_X5_nearest_15
      rw [if_neg (nI_ge hb (by omega)), x_apart hp (by omega) (by omega), sb, nI_1]
      by_cases g : v ≤ nI (cn (dg pl pr i) (dg pl pr b) P)
      · rw [if_pos g, if_neg (Int32.not_lt.mpr g)]
      · rw [if_neg g, if_pos (Int32.not_le.mp g)]
    · intro k2 v
      unfold B_X5_nearest_15
      rw [if_pos (nI_le (Nat.le_refl i) (by omega)), nI_1]
  · intro k s
    unfold B_X5_nearest_5
    rw [x_cases h, sb, if_pos (nI_le (Nat.le_refl _) (by omega))]
/-- the case that decodes -/
theorem both_dec (h : CYy n e lo y) (h' : CXx n e lo x) (hn : n ≤ 16) (hp : PYs P pl pr y) (hp' : PXs P pl pr x) {a : Nat} (ha : a < 3 ^ P) : ∃ v, F_X2_nearestCase y (nI (W4 (fun k => a / 3 ^ k % 3) 8)) = some v ∧ fx3 (B_X5_decode_50 x (nI a)) 1000 (-1) 9 0 = some (v, sI x 1 0) := by
  unfold F_X2_nearestCase
  have hP := hp.1
  have ha2 : a < 2 ^ 31 := by have := Nat.pow_le_pow_right (n := 3) (by omega) hP; omega
  refine ind (m := 2 * n + 1) (Q := fun N i (s : Int32 × Int32) => ∃ v, fx3 (B_X2_nearestCase_8 y (nI (W4 (fun k => a / 3 ^ k % 3) 8))) N s.1 s.2 (nI i) = some v ∧ fx3 (B_X5_decode_50 x (nI a)) N s.1 s.2 (nI i) = some (v, sI x 1 0)) (fun _ _ => True) ?_ (2 * n + 1) 0 (-1, 9) 1000 rfl (by omega) trivial
  intro N i s hi _ ih
  show ∃ v, B_X2_nearestCase_8 y (nI (W4 (fun k => a / 3 ^ k % 3) 8)) (fx3 (B_X2_nearestCase_8 y (nI (W4 (fun k => a / 3 ^ k % 3) 8))) N) s.1 s.2 (nI i) = some v ∧ B_X5_decode_50 x (nI a) (fx3 (B_X5_decode_50 x (nI a)) N) s.1 s.2 (nI i) = some (v, sI x 1 0)
  obtain ⟨K0, hK0⟩ : ∃ K, K = fx3 (B_X2_nearestCase_8 y (nI (W4 (fun k => a / 3 ^ k % 3) 8))) N := ⟨_, rfl⟩
  obtain ⟨K1, hK1⟩ : ∃ K, K = fx3 (B_X5_decode_50 x (nI a)) N := ⟨_, rfl⟩
  rw [← hK0, ← hK1]
  unfold B_X2_nearestCase_8 B_X5_decode_50
  rw [y_cases h, x_cases h', sb, sb]
  rcases Nat.lt_or_ge i (2 * n + 1) with q | q
  · rw [if_neg (nI_ge q (by omega)), if_neg (nI_ge q (by omega)), y_word hp (by omega), sb, q_near hP (dg_lt pl pr i) ha, sb, x_differs hp' (by omega) ha2, sb, nI_1]
    by_cases g : s.2 ≤ nI (cn (dg pl pr i) (fun k => a / 3 ^ k % 3) P)
    · rw [if_pos g, if_pos g, if_pos g]
      by_cases g2 : nI (cn (dg pl pr i) (fun k => a / 3 ^ k % 3) P) = s.2
      · rw [if_pos g2, if_pos g2]; subst hK0; subst hK1; exact ih (-1, s.2) q trivial
      · rw [if_neg g2, if_neg g2, if_pos g]; subst hK0; subst hK1; exact ih s q trivial
    · rw [if_neg g, if_neg g, if_neg g]; subst hK0; subst hK1; exact ih (nI i, _) q trivial
  · rw [show i = 2 * n + 1 by omega, if_pos (nI_le (Nat.le_refl _) (by omega)), if_pos (nI_le (Nat.le_refl _) (by omega))]
    exact ⟨_, rfl, rfl⟩
end L3
