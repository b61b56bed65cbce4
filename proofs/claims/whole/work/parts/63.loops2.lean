/-! the pure layer, D: the group, what teaches, the left case, the plan's distances -/
theorem fx2_upE {α ρ : Type} {B : (α → Int32 → Option ρ) → α → Int32 → Option ρ} {m : Nat} {f : Nat → α → α} {E : α → Option ρ} (h1 : ∀ k i s, i < m → B k s (nI i) = k (f i s) (nI (i + 1))) (h2 : ∀ k s, B k s (nI m) = E s) : ∀ d i s N, d + i = m → d < N → fx2 B N s (nI i) = E (up f d i s)
  | d, _, _, 0, _, hN => absurd hN (Nat.not_lt_zero d)
  | 0, i, s, N + 1, he, _ => by
    rw [show i = m by omega]
    exact h2 _ s
  | d + 1, i, s, N + 1, he, hN => by
    show B (fx2 B N) s (nI i) = _
    rw [h1 _ i s (by omega)]
    exact fx2_upE h1 h2 d (i + 1) _ N (by omega) (by omega)
def gl (g : Nat) : Int32 := ((1 : Int32) <<< (nI g &&& 31)) - 1
def gr1 (g : Nat) : Int32 := gl g <<< (nI g &&& 31)
theorem gl_pos : ∀ g, g < 9 → 1 ≤ g → ¬ gl g ≤ 0 := by decide +kernel
/-- the worst weight of a group -/
def bdw (n e : Nat) (lo : Nat → Nat) (w g : Nat) : Int64 := up (fun k s => if wa w e (lt1 lo (gl g) (gr1 g) (nI k)) (2 * n + 1) < s then s else wa w e (lt1 lo (gl g) (gr1 g) (nI k)) (2 * n + 1)) 3 0 0
section L2
variable {n e : Nat} {lo : Nat → Nat} {x y : St}
theorem y_bad (h : CYy n e lo y) (hz : SZ n e lo) {w : Nat} (hw : w < 21) (g : Nat) : F_X2_badness y (nI g) (nI w) = some (bdw n e lo w g) := by
  unfold F_X2_badness bdw
  refine fx2_upE (B := B_X2_badness_17 y (nI g) (nI w)) (m := 3) (E := fun s => some s) ?_ (fun k s => rfl) 3 0 0 1000 rfl (by omega)
  intro k i s hi
  unfold B_X2_badness_17
  rw [if_neg (show ¬ (3 : Int32) ≤ nI i from nI_ge (b := 3) hi (by omega)), show ((1 : Int32) <<< (nI g &&& 31)) - 1 = gl g from rfl, show gl g <<< (nI g &&& 31) = gr1 g from rfl, y_behind h hz hw, sb, nI_1]
theorem x_bad (h : CXx n e lo x) (hz : SZ n e lo) {w : Nat} (hw : w < 21) {g : Nat} (hg : g < 9) (h1 : 1 ≤ g) (f : Int32) (fw : Int64) (k7 : Int32 → Int64 → Int32 → Option Int32) : fx2 (B_X5_best_34 x (nI w) f fw (nI g) k7) 1000 0 0 = B_X5_best_34 x (nI w) f fw (nI g) k7 (fun _ _ => none) (bdw n e lo w g) 3 := by
  unfold bdw
  refine fx2_upE (B := B_X5_best_34 x (nI w) f fw (nI g) k7) (m := 3) (E := fun s => B_X5_best_34 x (nI w) f fw (nI g) k7 (fun _ _ => none) s 3) ?_ (fun k s => rfl) 3 0 0 1000 rfl (by omega)
  intro k i s hi
  unfold B_X5_best_34
  rw [if_neg (show ¬ (3 : Int32) ≤ nI i from nI_ge (b := 3) hi (by omega)), show ((1 : Int32) <<< (nI g &&& 31)) - 1 = gl g from rfl, show gl g <<< (nI g &&& 31) = gr1 g from rfl, x_behind h hz hw (gl_pos g hg h1), sb, nI_1]
  by_cases q : lg_cmp (wa w e (lt1 lo (gl g) (gr1 g) (nI i)) (2 * n + 1)) s ≤ 0
  · rw [if_pos q]
    rcases Int64.lt_or_eq_of_le ((lg_cmp_le _ _).mp q) with z | z
    · rw [if_pos z]
    · rw [z]; split <;> rfl
  · rw [if_neg q, if_neg (fun z => q ((lg_cmp_le _ _).mpr (Int64.le_of_lt z)))]
theorem both_best (h : CYy n e lo y) (h' : CXx n e lo x) (hz : SZ n e lo) {w : Nat} (hw : w < 21) : ∃ v, F_X2_findGroup y (nI w) = some v ∧ F_X5_best x (nI w) = some v := by
  have hn := hz.1; have hn2 := hz.2.1
  have hd : (nI n) / 2 = nI (n / 2) := pk_div (d := 2) (by omega) (by omega) (by omega)
  have k := ind (m := n / 2 + 1) (Q := fun N i (s : Nat × Int64) => ∃ v, fx3 (B_X2_findGroup_12 y (nI w)) (N + 1) (nI s.1) s.2 (nI i) = some v ∧ fx3 (B_X5_best_7 x (nI w)) N (nI s.1) s.2 (nI i) = some v) (fun i s => 1 ≤ s.1 ∧ s.1 < i) (by
    intro N i s hi hs ih
    show ∃ v, B_X2_findGroup_12 y (nI w) (fx3 (B_X2_findGroup_12 y (nI w)) (N + 1)) (nI s.1) s.2 (nI i) = some v ∧ B_X5_best_7 x (nI w) (fx3 (B_X5_best_7 x (nI w)) N) (nI s.1) s.2 (nI i) = some v
    obtain ⟨K0, hK0⟩ : ∃ K, K = fx3 (B_X2_findGroup_12 y (nI w)) (N + 1) := ⟨_, rfl⟩
    obtain ⟨K1, hK1⟩ : ∃ K, K = fx3 (B_X5_best_7 x (nI w)) N := ⟨_, rfl⟩
    rw [← hK0, ← hK1]
    unfold B_X2_findGroup_12 B_X5_best_7
    rw [h.1, h'.1, hd]
    rcases Nat.lt_or_ge i (n / 2 + 1) with q | q
    · have e1 : ¬ nI (n / 2) < nI i := nI_nlt (by omega) (by omega)
      rw [if_neg e1, if_neg e1, show nI i = nI i from rfl, y_bad h hz hw, sb, x_bad h' hz hw (by omega) (by omega)]
      unfold B_X5_best_34
      rw [if_pos (show (3 : Int32) ≤ 3 by decide), if_neg (nI_ne0 hs.1 (by omega))]
      by_cases g : 0 ≤ lg_cmp (bdw n e lo w i) s.2
      · rw [if_pos g, if_pos g, if_neg (fun z => by rw [nI_eq (by omega) (by omega)] at z; omega), nI_1]
        subst hK0; subst hK1; exact ih (s.1, s.2) q ⟨hs.1, by omega⟩
      · rw [if_neg g, if_neg g, if_pos rfl, nI_1]
        obtain ⟨bw, hbw⟩ : ∃ z, z = bdw n e lo w i := ⟨_, rfl⟩
        rw [← hbw]
        subst hK0; subst hK1; exact ih (i, bw) q ⟨by omega, by omega⟩
    · rw [show i = n / 2 + 1 by omega, if_pos (nI_lt (by omega) (by omega)), if_pos (nI_lt (by omega) (by omega))]
      exact ⟨_, rfl, rfl⟩) 
  obtain ⟨b1, hb1⟩ : ∃ z, z = bdw n e lo w 1 := ⟨_, rfl⟩
  obtain ⟨v, k1, k2⟩ := k (n / 2 - 1) 2 (1, b1) 999 (by omega) (by omega) ⟨by omega, by omega⟩
  have k1' : fx3 (B_X2_findGroup_12 y (nI w)) 1000 1 b1 2 = some v := k1
  have k2' : fx3 (B_X5_best_7 x (nI w)) 999 (nI 1) b1 (nI 1 + 1) = some v := k2
  refine ⟨v, ?_, ?_⟩
  · unfold F_X2_findGroup
    have e0 : F_X2_badness y 1 (nI w) = some b1 := by rw [hb1]; exact y_bad h hz hw 1
    rw [e0, sb]
    exact k1'
  · unfold F_X5_best
    show B_X5_best_7 x (nI w) (fx3 (B_X5_best_7 x (nI w)) 999) 0 0 (nI 1) = some v
    obtain ⟨K, hK⟩ : ∃ K, K = fx3 (B_X5_best_7 x (nI w)) 999 := ⟨_, rfl⟩
    rw [← hK] at k2' ⊢
    unfold B_X5_best_7
    rw [h'.1, hd, if_neg (nI_nlt (by omega) (by omega)), x_bad h' hz hw (by omega) (by omega), ← hb1]
    unfold B_X5_best_34
    rw [if_pos (show (3 : Int32) ≤ 3 by decide), if_pos (show (0 : Int32) = 0 from rfl), if_pos (show nI 1 = nI 1 from rfl)]
    exact k2'
/-- the case that is left -/
theorem both_left (h : CYy n e lo y) (h' : CXx n e lo x) (hz : SZ n e lo) (v : Int32) : (∃ c, c < 33 ∧ F_X2_findLeft y v = some (nI c) ∧ F_X5_leftCase x v = some (nI c, sI x 1 0)) ∨ (F_X2_findLeft y v = some (-1) ∧ F_X5_leftCase x v = some (0, sI x 1 1)) := by
  have hn := hz.2.1
  by_cases hv : v < 0
  · right
    constructor
    · unfold F_X2_findLeft
      refine ind (m := 2 * n + 1) (Q := fun N i (s : Nat) => fx2 (B_X2_findLeft_4 y v) N (nI s) (nI i) = some (-1)) (fun i s => s ≤ i) ?_ (2 * n + 1) 0 0 1000 rfl (by omega) (Nat.le_refl 0)
      intro N i s hi hs ih
      show B_X2_findLeft_4 y v (fx2 (B_X2_findLeft_4 y v) N) _ _ = _
      obtain ⟨K0, hK0⟩ : ∃ K, K = fx2 (B_X2_findLeft_4 y v) N := ⟨_, rfl⟩
      rw [← hK0]
      unfold B_X2_findLeft_4
      rw [y_cases h, sb]
      rcases Nat.lt_or_ge i (2 * n + 1) with q | q
      · rw [if_neg (nI_ge q (by omega)), y_isLeft h hz (by omega), sb, nI_1]
        by_cases hl : lo i ≤ e
        · rw [if_pos hl, if_neg one0, if_neg (show ¬ nI s = v from fun z => nI_pos (n := s) (by omega) (by rw [z]; exact hv)), nI_1]
          subst hK0; exact ih (s + 1) q (by omega)
        · rw [if_neg hl, if_pos rfl]
          subst hK0; exact ih s q (by omega)
      · rw [show i = 2 * n + 1 by omega, if_pos (nI_le (Nat.le_refl _) (by omega))]
    · unfold F_X5_leftCase
      show B_X5_leftCase_4 x v (fx2 (B_X5_leftCase_4 x v) 999) v (nI 0) = _
      unfold B_X5_leftCase_4
      rw [x_cases h', sb, if_neg (nI_ge (by omega) (by omega)), if_pos hv]
      rfl
  · obtain ⟨j, hj, rfl⟩ := nI_of hv
    unfold F_X2_findLeft F_X5_leftCase
    have k := ind (m := 2 * n + 1) (Q := fun N i (s : Nat) => (∃ c, c < 33 ∧ fx2 (B_X2_findLeft_4 y (nI j)) N (nI s) (nI i) = some (nI c) ∧ fx2 (B_X5_leftCase_4 x (nI j)) N (nI (j - s)) (nI i) = some (nI c, sI x 1 0)) ∨ (fx2 (B_X2_findLeft_4 y (nI j)) N (nI s) (nI i) = some (-1) ∧ fx2 (B_X5_leftCase_4 x (nI j)) N (nI (j - s)) (nI i) = some (0, sI x 1 1))) (fun i s => s ≤ i ∧ s ≤ j) (by
      intro N i s hi hs ih
      show (∃ c, c < 33 ∧ B_X2_findLeft_4 y (nI j) (fx2 (B_X2_findLeft_4 y (nI j)) N) (nI s) (nI i) = some (nI c) ∧ B_X5_leftCase_4 x (nI j) (fx2 (B_X5_leftCase_4 x (nI j)) N) (nI (j - s)) (nI i) = some (nI c, sI x 1 0)) ∨ (B_X2_findLeft_4 y (nI j) (fx2 (B_X2_findLeft_4 y (nI j)) N) (nI s) (nI i) = some (-1) ∧ B_X5_leftCase_4 x (nI j) (fx2 (B_X5_leftCase_4 x (nI j)) N) (nI (j - s)) (nI i) = some (0, sI x 1 1))
      obtain ⟨K0, hK0⟩ : ∃ K, K = fx2 (B_X2_findLeft_4 y (nI j)) N := ⟨_, rfl⟩
      obtain ⟨K1, hK1⟩ : ∃ K, K = fx2 (B_X5_leftCase_4 x (nI j)) N := ⟨_, rfl⟩
      rw [← hK0, ← hK1]
      unfold B_X2_findLeft_4 B_X5_leftCase_4
      rw [y_cases h, x_cases h', sb, sb]
      rcases Nat.lt_or_ge i (2 * n + 1) with q | q
      · rw [if_neg (nI_ge q (by omega)), if_neg (nI_ge q (by omega)), if_neg (nI_pos hj), y_isLeft h hz (by omega), x_isLeft h' hz (by omega), sb, sb, nI_1]
        by_cases hl : lo i ≤ e
        · rw [if_pos hl, if_neg one0, if_neg one0]
          by_cases hsj : s = j
          · subst hsj
            rw [if_pos rfl, if_pos (by rw [Nat.sub_self]; rfl)]
            exact .inl ⟨i, by omega, rfl, rfl⟩
          · rw [if_neg (fun z => hsj ((nI_eq (by omega) hj).mp z)), if_neg (nI_ne0 (by omega) (by omega)), nI_1, show nI (j - s) + (-1) = nI (j - (s + 1)) by rw [sb_m1 (by omega)]; rfl]
            subst hK0; subst hK1; exact ih (s + 1) q ⟨by omega, by omega⟩
        · rw [if_neg hl, if_pos rfl, if_pos rfl]
          subst hK0; subst hK1; exact ih s q ⟨by omega, hs.2⟩
      · rw [show i = 2 * n + 1 by omega, if_pos (nI_le (Nat.le_refl _) (by omega)), if_pos (nI_le (Nat.le_refl _) (by omega))]
        exact .inr ⟨rfl, rfl⟩) (2 * n + 1) 0 0 1000 rfl (by omega) ⟨Nat.le_refl 0, Nat.zero_le j⟩
    exact k
/-- what teaches -/
theorem tb_or : ∀ S, S < 8 → ∀ t, t < 3 → nI S ||| ((1 : Int32) <<< (nI t &&& 31)) = nI (S ||| 2 ^ t) ∧ S ||| 2 ^ t < 8 ∧ (S ||| 2 ^ t ≠ 0) := by decide +kernel
theorem tb_end : ∀ S, S < 8 → (nI S &&& (nI S - 1) = 0 ↔ (S = 0 ∨ S = 1 ∨ S = 2 ∨ S = 4)) := by decide +kernel
theorem tb_two : ∀ S, S < 8 → ¬ (S = 0 ∨ S = 1 ∨ S = 2 ∨ S = 4) → ∀ t, t < 3 → ¬ (S ||| 2 ^ t = 0 ∨ S ||| 2 ^ t = 1 ∨ S ||| 2 ^ t = 2 ∨ S ||| 2 ^ t = 4) := by decide +kernel
theorem tb_ne : ∀ f, f < 3 → ∀ t, t < 3 → f ≠ t → ¬ (2 ^ f ||| 2 ^ t = 0 ∨ 2 ^ f ||| 2 ^ t = 1 ∨ 2 ^ f ||| 2 ^ t = 2 ∨ 2 ^ f ||| 2 ^ t = 4) := by decide +kernel
theorem tb_one : ∀ f, f < 3 → (2 ^ f = 1 ∨ 2 ^ f = 2 ∨ 2 ^ f = 4) ∧ 2 ^ f < 8 ∧ 0 ||| 2 ^ f = 2 ^ f ∧ 2 ^ f ||| 2 ^ f = 2 ^ f ∧ nI f ≠ -1 := by decide +kernel
theorem x_two (h' : CXx n e lo x) (hz : SZ n e lo) (l r : Int32) : ∀ d i S N, d + i = 2 * n + 1 → d < N → S < 8 ∧ ¬ (S = 0 ∨ S = 1 ∨ S = 2 ∨ S = 4) → fx2 (B_X5_teaches_23b x l r) N (nI S) (nI i) = some (1, sI x 1 0) := by
  have hn := hz.2.1
  have h0 : CXx n e lo (sI x 1 0) := h'
  refine ind (m := 2 * n + 1) (Q := fun N i S => fx2 (B_X5_teaches_23b x l r) N (nI S) (nI i) = some (1, sI x 1 0)) (fun _ S => S < 8 ∧ ¬ (S = 0 ∨ S = 1 ∨ S = 2 ∨ S = 4)) ?_
  intro N i S hi hS ih
  show B_X5_teaches_23b x l r (fx2 (B_X5_teaches_23b x l r) N) _ _ = _
  obtain ⟨K0, hK0⟩ : ∃ K, K = fx2 (B_X5_teaches_23b x l r) N := ⟨_, rfl⟩
  rw [← hK0]
  unfold B_X5_teaches_23b
  rw [x_cases h0, sb]
  rcases Nat.lt_or_ge i (2 * n + 1) with q | q
  · rw [if_neg (nI_ge q (by omega)), x_isLeft h0 hz (by omega), sb, nI_1]
    by_cases hl : lo i ≤ e
    · have ht : tr i l r < 3 := by have := tr_le i l r; omega
      rw [if_pos hl, if_neg one0, q_tm (by omega), sb, (tb_or S hS.1 _ ht).1]
      subst hK0; exact ih _ q ⟨(tb_or S hS.1 _ ht).2.1, tb_two S hS.1 hS.2 _ ht⟩
    · rw [if_neg hl, if_pos rfl, or0]
      subst hK0; exact ih _ q hS
  · rw [show i = 2 * n + 1 by omega, if_pos (nI_le (Nat.le_refl _) (by omega)), if_pos (show (sI x 1 0).1 1 = 0 from rfl), if_neg (fun z => hS.2 ((tb_end S hS.1).mp z))]
theorem x_teach0 (h' : CXx n e lo x) (hz : SZ n e lo) (l r : Int32) : fx2 (B_X5_teaches_23 x l r) 1000 0 0 = some (0, sI x 1 1) := by
  have hn := hz.2.1
  have h0 : CXx n e lo (sI x 1 1) := h'
  refine ind (m := 2 * n + 1) (Q := fun N i (S : Int32) => fx2 (B_X5_teaches_23 x l r) N S (nI i) = some (0, sI x 1 1)) (fun _ _ => True) ?_ (2 * n + 1) 0 0 1000 rfl (by omega) trivial
  intro N i S hi _ ih
  show B_X5_teaches_23 x l r (fx2 (B_X5_teaches_23 x l r) N) _ _ = _
  obtain ⟨K0, hK0⟩ : ∃ K, K = fx2 (B_X5_teaches_23 x l r) N := ⟨_, rfl⟩
  rw [← hK0]
  unfold B_X5_teaches_23
  rw [x_cases h0, sb]
  rcases Nat.lt_or_ge i (2 * n + 1) with q | q
  · rw [if_neg (nI_ge q (by omega)), x_isLeft h0 hz (by omega), sb, nI_1]
    by_cases hl : lo i ≤ e
    · rw [if_pos hl, if_neg one0, q_tm (by omega), sb]
      subst hK0; exact ih _ q trivial
    · rw [if_neg hl, if_pos rfl]
      subst hK0; exact ih _ q trivial
  · rw [show i = 2 * n + 1 by omega, if_pos (nI_le (Nat.le_refl _) (by omega)), if_neg (show ¬ (sI x 1 1).1 1 = 0 by show ¬ (1 : Int32) = 0; decide)]
def mF : Option Nat → Int32
  | none => -1
  | some f => nI f
def mS : Option Nat → Int32
  | none => nI 0
  | some f => nI (2 ^ f)
theorem both_teach (h : CYy n e lo y) (h' : CXx n e lo x) (hz : SZ n e lo) (l r : Int32) : ∃ b : Int32, (b = 0 ∨ b = 1) ∧ F_X2_differs y l r = some b ∧ fx2 (B_X5_teaches_23b x l r) 1000 0 0 = some (b, sI x 1 0) := by
  have hn := hz.2.1
  have h0 : CXx n e lo (sI x 1 0) := h'
  unfold F_X2_differs
  have k := ind (m := 2 * n + 1) (Q := fun N i (s : Option Nat) => 2 * n + 1 - i < N → ∃ b : Int32, (b = 0 ∨ b = 1) ∧ fx2 (B_X2_differs_5 y l r) N (mF s) (nI i) = some b ∧ fx2 (B_X5_teaches_23b x l r) N (mS s) (nI i) = some (b, sI x 1 0)) (fun _ s => ∀ f, s = some f → f < 3) (by
    intro N i s hi hs ih hN
    show ∃ b : Int32, (b = 0 ∨ b = 1) ∧ B_X2_differs_5 y l r (fx2 (B_X2_differs_5 y l r) N) (mF s) (nI i) = some b ∧ B_X5_teaches_23b x l r (fx2 (B_X5_teaches_23b x l r) N) (mS s) (nI i) = some (b, sI x 1 0)
    obtain ⟨K0, hK0⟩ : ∃ K, K = fx2 (B_X2_differs_5 y l r) N := ⟨_, rfl⟩
    obtain ⟨K1, hK1⟩ : ∃ K, K = fx2 (B_X5_teaches_23b x l r) N := ⟨_, rfl⟩
    rw [← hK0, ← hK1]
    unfold B_X2_differs_5 B_X5_teaches_23b
    rw [y_cases h, x_cases h0, sb, sb]
    rcases Nat.lt_or_ge i (2 * n + 1) with q | q
    · rw [if_neg (nI_ge q (by omega)), if_neg (nI_ge q (by omega)), y_isLeft h hz (by omega), x_isLeft h0 hz (by omega), sb, sb, nI_1]
      by_cases hl : lo i ≤ e
      · have ht : tr i l r < 3 := by have := tr_le i l r; omega
        rw [if_pos hl, if_neg one0, if_neg one0, q_ta (by omega), q_tm (by omega), sb, sb]
        cases s with
        | none =>
          rw [if_pos (show mF none = -1 from rfl), show mS none = nI 0 from rfl]
          rw [(tb_or 0 (by omega) _ ht).1, (tb_one _ ht).2.2.1]
          subst hK0; subst hK1; exact ih (some (tr i l r)) q (fun f hf => by cases hf; exact ht) (by omega)
        | some f =>
          have hf := hs f rfl
          rw [if_neg (show ¬ mF (some f) = -1 from (tb_one f hf).2.2.2.2), show mF (some f) = nI f from rfl, show mS (some f) = nI (2 ^ f) from rfl]
          rw [(tb_or _ (tb_one f hf).2.1 _ ht).1]
          by_cases hft : f = tr i l r
          · subst hft
            rw [if_pos rfl, (tb_one _ ht).2.2.2.1]
            subst hK0; subst hK1; exact ih (some (tr i l r)) q (fun f hf => by cases hf; exact ht) (by omega)
          · rw [if_neg (fun z => hft ((nI_eq (by omega) (by omega)).mp z).symm)]
            subst hK0; subst hK1; exact ⟨1, .inr rfl, rfl, x_two h' hz l r (2 * n + 1 - (i + 1)) (i + 1) _ N (by omega) (by omega) ⟨(tb_or _ (tb_one f hf).2.1 _ ht).2.1, tb_ne f hf _ ht hft⟩⟩
      · rw [if_neg hl, if_pos rfl, if_pos rfl, or0]
        subst hK0; subst hK1; exact ih s q hs (by omega)
    · rw [show i = 2 * n + 1 by omega, if_pos (nI_le (Nat.le_refl _) (by omega)), if_pos (nI_le (Nat.le_refl _) (by omega)), if_pos (show (sI x 1 0).1 1 = 0 from rfl)]
      refine ⟨0, .inl rfl, rfl, ?_⟩
      cases s with
      | none => exact if_pos (show nI 0 &&& (nI 0 - 1) = 0 by decide)
      | some f => exact if_pos ((tb_end _ (tb_one f (hs f rfl)).2.1).mpr (.inr (tb_one f (hs f rfl)).1))) (2 * n + 1) 0 none 1000 rfl (by omega) (fun f hf => nomatch hf) (by omega)
  exact k
end L2
