/-! the pure layer, C: what both sides count -/
/-- both sides hold n coins, the limit e, the lies lo -/
def CYy (n e : Nat) (lo : Nat → Nat) (y : St) : Prop := y.1 0 = nI n ∧ y.1 1 = nI e ∧ ∀ c, c < 33 → y.2 6 c = nI (lo c)
def CXx (n e : Nat) (lo : Nat → Nat) (x : St) : Prop := x.2 0 0 = nI n ∧ x.2 0 1 = nI e ∧ ∀ c, c < 33 → x.2 0 (143 + c) = nI (lo c)
def SZ (n e : Nat) (lo : Nat → Nat) : Prop := 2 ≤ n ∧ n ≤ 16 ∧ e ≤ 2 ∧ ∀ c, c < 33 → lo c ≤ 40
section L1
variable {n e : Nat} {lo : Nat → Nat} {x y : St}
theorem y_cases (h : CYy n e lo y) : F_X2_cases y = some (nI (2 * n + 1)) := by
  unfold F_X2_cases
  rw [h.1]
  show some (nI 2 * nI n + nI 1) = _
  rw [pk_mul, nI_add]
theorem x_cases (h : CXx n e lo x) : F_X5_cases x = some (nI (2 * n + 1)) := by
  unfold F_X5_cases
  rw [h.1]
  show some (nI 2 * nI n + nI 1) = _
  rw [pk_mul, nI_add]
theorem g143 {c : Nat} (h : c < 33) : (143 : Int32) + nI c = nI (143 + c) := nI_add 143 c
theorem y_isLeft (h : CYy n e lo y) (hz : SZ n e lo) {c : Nat} (hc : c < 33) : F_X2_isLeft y (nI c) = some (if lo c ≤ e then 1 else 0) := by
  unfold F_X2_isLeft
  have := hz.2.2.2 c hc; have := hz.2.2.1
  rw [q_at hc (by omega), sb, h.2.2 c hc, h.2.1]
  by_cases q : lo c ≤ e
  · rw [if_pos q, if_neg (nI_nlt q (by omega))]
  · rw [if_neg q, if_pos (nI_lt (by omega) (by omega))]
theorem x_isLeft (h : CXx n e lo x) (hz : SZ n e lo) {c : Nat} (hc : c < 33) : F_X5_isLeft x (nI c) = some (if lo c ≤ e then 1 else 0) := by
  unfold F_X5_isLeft
  have := hz.2.2.2 c hc; have := hz.2.2.1
  rw [g143 hc, if_neg (nI_in (by omega) (by omega)), nI_clamp (by omega), h.2.2 c hc, h.2.1]
  by_cases q : lo c ≤ e
  · rw [if_pos q, if_neg (nI_nlt q (by omega))]
  · rw [if_neg q, if_pos (nI_lt (by omega) (by omega))]
theorem one0 : ¬ (1 : Int32) = 0 := by decide
/-- how many are left -/
def nl (e : Nat) (lo : Nat → Nat) : Nat → Nat
  | 0 => 0
  | m + 1 => nl e lo m + if lo m ≤ e then 1 else 0
theorem nl_le (e : Nat) (lo : Nat → Nat) : ∀ m, nl e lo m ≤ m
  | 0 => Nat.le_refl 0
  | m + 1 => by
    have := nl_le e lo m
    show nl e lo m + _ ≤ _
    split <;> omega
theorem y_count (h : CYy n e lo y) (hz : SZ n e lo) : F_X2_countLeft y = some (nI (nl e lo (2 * n + 1))) := by
  unfold F_X2_countLeft
  have hn := hz.2.1
  refine ind (m := 2 * n + 1) (Q := fun N i (_ : Unit) => fx2 (B_X2_countLeft_4 y) N (nI (nl e lo i)) (nI i) = some (nI (nl e lo (2 * n + 1)))) (fun _ _ => True) ?_ (2 * n + 1) 0 () 1000 rfl (by omega) trivial
  intro N i s hi _ ih
  show B_X2_countLeft_4 y (fx2 (B_X2_countLeft_4 y) N) _ _ = _
  obtain ⟨K0, hK0⟩ : ∃ K, K = fx2 (B_X2_countLeft_4 y) N := ⟨_, rfl⟩
  rw [← hK0]
  unfold B_X2_countLeft_4
  rw [y_cases h, sb]
  rcases Nat.lt_or_ge i (2 * n + 1) with q | q
  · have ih' := ih () q trivial
    have e1 : nl e lo (i + 1) = nl e lo i + if lo i ≤ e then 1 else 0 := rfl
    rw [if_neg (nI_ge q (by omega)), y_isLeft h hz (by omega), sb, nI_1]
    by_cases hl : lo i ≤ e
    · rw [if_pos hl, if_neg one0, nI_1]; rw [e1, if_pos hl] at ih'; subst hK0; exact ih'
    · rw [if_neg hl, if_pos rfl]; rw [e1, if_neg hl] at ih'; subst hK0; exact ih'
  · rw [show i = 2 * n + 1 by omega, if_pos (nI_le (Nat.le_refl _) (by omega))]
theorem x_lefts (h : CXx n e lo x) (hz : SZ n e lo) : F_X5_lefts x = some (nI (nl e lo (2 * n + 1))) := by
  unfold F_X5_lefts
  have hn := hz.2.1
  refine ind (m := 2 * n + 1) (Q := fun N i (_ : Unit) => fx2 (B_X5_lefts_4 x) N (nI (nl e lo i)) (nI i) = some (nI (nl e lo (2 * n + 1)))) (fun _ _ => True) ?_ (2 * n + 1) 0 () 1000 rfl (by omega) trivial
  intro N i s hi _ ih
  show B_X5_lefts_4 x (fx2 (B_X5_lefts_4 x) N) _ _ = _
  obtain ⟨K0, hK0⟩ : ∃ K, K = fx2 (B_X5_lefts_4 x) N := ⟨_, rfl⟩
  rw [← hK0]
  unfold B_X5_lefts_4
  rw [x_cases h, sb]
  rcases Nat.lt_or_ge i (2 * n + 1) with q | q
  · have ih' := ih () q trivial
    have e1 : nl e lo (i + 1) = nl e lo i + if lo i ≤ e then 1 else 0 := rfl
    rw [if_neg (nI_ge q (by omega)), x_isLeft h hz (by omega), sb, nI_1]
    by_cases hl : lo i ≤ e
    · rw [if_pos hl, if_neg one0, nI_1]; rw [e1, if_pos hl] at ih'; subst hK0; exact ih'
    · rw [if_neg hl, if_pos rfl, add0]; rw [e1, if_neg hl] at ih'; subst hK0; exact ih'
  · rw [show i = 2 * n + 1 by omega, if_pos (nI_le (Nat.le_refl _) (by omega))]
/-- the coins that may be false -/
def fo (e : Nat) (lo : Nat → Nat) : Nat → Int32
  | 0 => 0
  | m + 1 => if lo m ≤ e then fo e lo m ||| (if m = 0 then 0 else (1 : Int32) <<< (nI ((m - 1) / 2) &&& 31)) else fo e lo m
theorem y_false (h : CYy n e lo y) (hz : SZ n e lo) : F_X2_falseCoins y = some (fo e lo (2 * n + 1)) := by
  unfold F_X2_falseCoins
  have hn := hz.2.1
  refine ind (m := 2 * n + 1) (Q := fun N i (_ : Unit) => fx2 (B_X2_falseCoins_4 y) N (fo e lo i) (nI i) = some (fo e lo (2 * n + 1))) (fun _ _ => True) ?_ (2 * n + 1) 0 () 1000 rfl (by omega) trivial
  intro N i s hi _ ih
  show B_X2_falseCoins_4 y (fx2 (B_X2_falseCoins_4 y) N) _ _ = _
  obtain ⟨K0, hK0⟩ : ∃ K, K = fx2 (B_X2_falseCoins_4 y) N := ⟨_, rfl⟩
  rw [← hK0]
  unfold B_X2_falseCoins_4
  rw [y_cases h, sb]
  rcases Nat.lt_or_ge i (2 * n + 1) with q | q
  · have ih' := ih () q trivial
    have e1 : fo e lo (i + 1) = if lo i ≤ e then fo e lo i ||| (if i = 0 then 0 else (1 : Int32) <<< (nI ((i - 1) / 2) &&& 31)) else fo e lo i := rfl
    rw [if_neg (nI_ge q (by omega)), y_isLeft h hz (by omega), sb, nI_1]
    by_cases hl : lo i ≤ e
    · rw [if_pos hl, if_neg one0]; rw [e1, if_pos hl] at ih'
      by_cases h0 : i = 0
      · subst h0; subst hK0; exact ih'
      · rw [q_coin (by omega) h0, sb]; rw [if_neg h0] at ih'; subst hK0; exact ih'
    · rw [if_neg hl, if_pos rfl]; rw [e1, if_neg hl] at ih'; subst hK0; exact ih'
  · rw [show i = 2 * n + 1 by omega, if_pos (nI_le (Nat.le_refl _) (by omega))]
theorem x_false (h : CXx n e lo x) (hz : SZ n e lo) : F_X5_falseOnes x = some (fo e lo (2 * n + 1)) := by
  unfold F_X5_falseOnes
  have hn := hz.2.1
  have h1 : fo e lo 1 = 0 := by
    show (if lo 0 ≤ e then (0 : Int32) ||| 0 else 0) = 0
    split <;> rfl
  have k := ind (m := 2 * n + 1) (Q := fun N i (_ : Unit) => fx2 (B_X5_falseOnes_4 x) N (fo e lo i) (nI i) = some (fo e lo (2 * n + 1))) (fun i _ => 1 ≤ i) (by
    intro N i s hi h0 ih
    show B_X5_falseOnes_4 x (fx2 (B_X5_falseOnes_4 x) N) _ _ = _
    obtain ⟨K0, hK0⟩ : ∃ K, K = fx2 (B_X5_falseOnes_4 x) N := ⟨_, rfl⟩
    rw [← hK0]
    unfold B_X5_falseOnes_4
    rw [x_cases h, sb]
    rcases Nat.lt_or_ge i (2 * n + 1) with q | q
    · have ih' := ih () q (by omega)
      have e1 : fo e lo (i + 1) = if lo i ≤ e then fo e lo i ||| (if i = 0 then 0 else (1 : Int32) <<< (nI ((i - 1) / 2) &&& 31)) else fo e lo i := rfl
      rw [if_neg (nI_ge q (by omega)), x_isLeft h hz (by omega), sb, nI_1]
      by_cases hl : lo i ≤ e
      · rw [if_pos hl, if_neg one0, (tr_num i (by omega) (by omega)).2.1]; rw [e1, if_pos hl, if_neg (by omega)] at ih'; subst hK0; exact ih'
      · rw [if_neg hl, if_pos rfl, or0]; rw [e1, if_neg hl] at ih'; subst hK0; exact ih'
    · rw [show i = 2 * n + 1 by omega, if_pos (nI_le (Nat.le_refl _) (by omega))]) (2 * n) 1 () 1000 (by omega) (by omega) (by omega)
  rw [h1] at k
  exact k
/-- weights -/
def vl (w e l : Nat) : Int64 := if l ≤ e then (F_X5_volume (nI w) (nI (e - l))).getD 0 else 0
theorem vl_some {w e l : Nat} (hw : w < 21) (he : e ≤ 2) (h : l ≤ e) : F_X4_volume (nI w) (nI (e - l)) = some (vl w e l) ∧ F_X5_volume (nI w) (nI (e - l)) = some (vl w e l) := by
  obtain ⟨v, h1, h2⟩ := q_vol2 hw (show e - l < 3 by omega)
  unfold vl
  rw [if_pos h, h1, h2]
  exact ⟨rfl, rfl⟩
theorem y_vol (h : CYy n e lo y) (hz : SZ n e lo) {w l : Nat} (hw : w < 21) (hl : l ≤ 41) : F_X2_volumeLeft y (nI l) (nI w) = some (vl w e l) := by
  unfold F_X2_volumeLeft
  have he := hz.2.2.1
  rw [h.2.1]
  by_cases q : l ≤ e
  · rw [if_pos (nI_le q (by omega)), pk_sub q, (vl_some hw he q).1, sb]
  · rw [if_neg (nI_ge (by omega) (by omega))]
    unfold vl
    rw [if_neg q]
def wa (w e : Nat) (lo : Nat → Nat) : Nat → Int64
  | 0 => 0
  | m + 1 => wa w e lo m + vl w e (lo m)
def lt1 (lo : Nat → Nat) (l r a : Int32) (c : Nat) : Nat := if nI (tr c l r) = a then lo c else lo c + 1
theorem y_lit (h : CYy n e lo y) {c : Nat} (hc : c < 33) (l r a : Int32) : F_X2_liesIfTold y (nI c) l r a = some (nI (lt1 lo l r a c)) := by
  unfold F_X2_liesIfTold lt1
  rw [q_at hc (by omega), sb, q_ta hc, sb, h.2.2 c hc]
  split
  · rfl
  · rw [nI_1]
theorem lt1_le (hz : SZ n e lo) {c : Nat} (hc : c < 33) (l r a : Int32) : lt1 lo l r a c ≤ 41 := by
  have := hz.2.2.2 c hc
  unfold lt1; split <;> omega
theorem y_ahead (h : CYy n e lo y) (hz : SZ n e lo) {w : Nat} (hw : w < 21) : F_X2_weightAhead y (nI w) = some (wa w e lo (2 * n + 1)) := by
  unfold F_X2_weightAhead
  have hn := hz.2.1
  refine ind (m := 2 * n + 1) (Q := fun N i (_ : Unit) => fx2 (B_X2_weightAhead_5 y (nI w)) N (wa w e lo i) (nI i) = some (wa w e lo (2 * n + 1))) (fun _ _ => True) ?_ (2 * n + 1) 0 () 1000 rfl (by omega) trivial
  intro N i s hi _ ih
  show B_X2_weightAhead_5 y (nI w) (fx2 (B_X2_weightAhead_5 y (nI w)) N) _ _ = _
  obtain ⟨K0, hK0⟩ : ∃ K, K = fx2 (B_X2_weightAhead_5 y (nI w)) N := ⟨_, rfl⟩
  rw [← hK0]
  unfold B_X2_weightAhead_5
  rw [y_cases h, sb]
  rcases Nat.lt_or_ge i (2 * n + 1) with q | q
  · rw [if_neg (nI_ge q (by omega)), q_at (by omega) (by omega), sb, h.2.2 i (by omega), y_vol h hz hw (Nat.le_succ_of_le (hz.2.2.2 i (by omega))), sb, nI_1]
    subst hK0; exact ih () q trivial
  · rw [show i = 2 * n + 1 by omega, if_pos (nI_le (Nat.le_refl _) (by omega))]
theorem y_behind (h : CYy n e lo y) (hz : SZ n e lo) {w : Nat} (hw : w < 21) (l r a : Int32) : F_X2_weightIfTold y l r a (nI w) = some (wa w e (lt1 lo l r a) (2 * n + 1)) := by
  unfold F_X2_weightIfTold
  have hn := hz.2.1
  refine ind (m := 2 * n + 1) (Q := fun N i (_ : Unit) => fx2 (B_X2_weightIfTold_6 y l r a (nI w)) N (wa w e (lt1 lo l r a) i) (nI i) = some (wa w e (lt1 lo l r a) (2 * n + 1))) (fun _ _ => True) ?_ (2 * n + 1) 0 () 1000 rfl (by omega) trivial
  intro N i s hi _ ih
  show B_X2_weightIfTold_6 y l r a (nI w) (fx2 (B_X2_weightIfTold_6 y l r a (nI w)) N) _ _ = _
  obtain ⟨K0, hK0⟩ : ∃ K, K = fx2 (B_X2_weightIfTold_6 y l r a (nI w)) N := ⟨_, rfl⟩
  rw [← hK0]
  unfold B_X2_weightIfTold_6
  rw [y_cases h, sb]
  rcases Nat.lt_or_ge i (2 * n + 1) with q | q
  · rw [if_neg (nI_ge q (by omega)), y_lit h (by omega), sb, y_vol h hz hw (lt1_le hz (by omega) l r a), sb, nI_1]
    subst hK0; exact ih () q trivial
  · rw [show i = 2 * n + 1 by omega, if_pos (nI_le (Nat.le_refl _) (by omega))]
theorem x_ahead (h : CXx n e lo x) (hz : SZ n e lo) {w : Nat} (hw : w < 21) : F_X5_weighs x 0 0 0 (nI w) = some (wa w e lo (2 * n + 1)) := by
  unfold F_X5_weighs
  have hn := hz.2.1; have he := hz.2.2.1
  refine ind (m := 2 * n + 1) (Q := fun N i (_ : Unit) => fx2 (B_X5_weighs_6 x 0 0 0 (nI w)) N (wa w e lo i) (nI i) = some (wa w e lo (2 * n + 1))) (fun _ _ => True) ?_ (2 * n + 1) 0 () 1000 rfl (by omega) trivial
  intro N i s hi _ ih
  show B_X5_weighs_6 x 0 0 0 (nI w) (fx2 (B_X5_weighs_6 x 0 0 0 (nI w)) N) _ _ = _
  obtain ⟨K0, hK0⟩ : ∃ K, K = fx2 (B_X5_weighs_6 x 0 0 0 (nI w)) N := ⟨_, rfl⟩
  rw [← hK0]
  unfold B_X5_weighs_6
  rw [x_cases h, sb]
  rcases Nat.lt_or_ge i (2 * n + 1) with q | q
  · have ih' := ih () q trivial
    have e1 : wa w e lo (i + 1) = wa w e lo i + vl w e (lo i) := rfl
    have hb := hz.2.2.2 i (by omega)
    rw [if_neg (nI_ge q (by omega)), g143 (by omega), if_neg (nI_in (by omega) (by omega)), if_pos (show (0 : Int32) ≤ 0 by decide), nI_clamp (by omega), h.2.2 i (by omega), h.2.1, add0, nI_1]
    rw [e1] at ih'
    by_cases hl : lo i ≤ e
    · rw [if_neg (nI_nlt hl (by omega)), pk_sub hl, (vl_some hw he hl).2, sb]; subst hK0; exact ih'
    · rw [if_pos (nI_lt (by omega) (by omega))]
      rw [show vl w e (lo i) = 0 by unfold vl; rw [if_neg hl]] at ih'
      subst hK0; exact ih'
  · rw [show i = 2 * n + 1 by omega, if_pos (nI_le (Nat.le_refl _) (by omega))]
theorem x_behind (h : CXx n e lo x) (hz : SZ n e lo) {w : Nat} (hw : w < 21) {l : Int32} (hl0 : ¬ l ≤ 0) (r a : Int32) : F_X5_weighs x l r a (nI w) = some (wa w e (lt1 lo l r a) (2 * n + 1)) := by
  unfold F_X5_weighs
  have hn := hz.2.1; have he := hz.2.2.1
  refine ind (m := 2 * n + 1) (Q := fun N i (_ : Unit) => fx2 (B_X5_weighs_6 x l r a (nI w)) N (wa w e (lt1 lo l r a) i) (nI i) = some (wa w e (lt1 lo l r a) (2 * n + 1))) (fun _ _ => True) ?_ (2 * n + 1) 0 () 1000 rfl (by omega) trivial
  intro N i s hi _ ih
  show B_X5_weighs_6 x l r a (nI w) (fx2 (B_X5_weighs_6 x l r a (nI w)) N) _ _ = _
  obtain ⟨K0, hK0⟩ : ∃ K, K = fx2 (B_X5_weighs_6 x l r a (nI w)) N := ⟨_, rfl⟩
  rw [← hK0]
  unfold B_X5_weighs_6
  rw [x_cases h, sb]
  rcases Nat.lt_or_ge i (2 * n + 1) with q | q
  · have ih' := ih () q trivial
    have e1 : wa w e (lt1 lo l r a) (i + 1) = wa w e (lt1 lo l r a) i + vl w e (lt1 lo l r a i) := rfl
    have hb := hz.2.2.2 i (by omega)
    rw [if_neg (nI_ge q (by omega)), g143 (by omega), if_neg (nI_in (by omega) (by omega)), if_neg hl0, q_tm (by omega), sb, nI_clamp (by omega), h.2.2 i (by omega), h.2.1, add0, nI_1, nI_1]
    rw [e1] at ih'
    by_cases ht : nI (tr i l r) = a
    · rw [if_pos ht]
      have e2 : lt1 lo l r a i = lo i := by unfold lt1; rw [if_pos ht]
      rw [e2] at ih'
      by_cases hl : lo i ≤ e
      · rw [if_neg (nI_nlt hl (by omega)), pk_sub hl, (vl_some hw he hl).2, sb]; subst hK0; exact ih'
      · rw [if_pos (nI_lt (by omega) (by omega))]
        rw [show vl w e (lo i) = 0 by unfold vl; rw [if_neg hl]] at ih'
        subst hK0; exact ih'
    · rw [if_neg ht]
      have e2 : lt1 lo l r a i = lo i + 1 := by unfold lt1; rw [if_neg ht]
      rw [e2] at ih'
      by_cases hl : lo i + 1 ≤ e
      · rw [if_neg (nI_nlt hl (by omega)), pk_sub hl, (vl_some hw he hl).2, sb]; subst hK0; exact ih'
      · rw [if_pos (nI_lt (by omega) (by omega))]
        rw [show vl w e (lo i + 1) = 0 by unfold vl; rw [if_neg hl]] at ih'
        subst hK0; exact ih'
  · rw [show i = 2 * n + 1 by omega, if_pos (nI_le (Nat.le_refl _) (by omega))]
/-- the bound -/
theorem both_bound {Z : Nat → St} (h : CYy n e lo (Z 0)) (h' : CXx n e lo x) (hz : SZ n e lo) : ∃ v, F_X4_bound Z = some (v, Z) ∧ F_X5_least x = some v := by
  unfold F_X4_bound F_X5_least
  refine ind (m := 21) (Q := fun N i (s : Int64) => ∃ v, fx2 (B_X4_bound_4 Z) N s (nI i) = some (v, Z) ∧ fx2 (B_X5_least_4 x) N s (nI i) = some v) (fun _ _ => True) ?_ 21 0 1 1000 rfl (by omega) trivial
  intro N i s hi _ ih
  show ∃ v, B_X4_bound_4 Z (fx2 (B_X4_bound_4 Z) N) s (nI i) = some (v, Z) ∧ B_X5_least_4 x (fx2 (B_X5_least_4 x) N) s (nI i) = some v
  obtain ⟨K0, hK0⟩ : ∃ K, K = fx2 (B_X4_bound_4 Z) N := ⟨_, rfl⟩
  obtain ⟨K1, hK1⟩ : ∃ K, K = fx2 (B_X5_least_4 x) N := ⟨_, rfl⟩
  rw [← hK0, ← hK1]
  unfold B_X4_bound_4 B_X5_least_4
  rcases Nat.lt_or_ge i 21 with q | q
  · have e20 : ¬ (20 : Int32) < nI i := nI_nlt (b := i) (a := 20) (by omega) (by omega)
    rw [if_neg e20, if_neg e20, y_ahead h hz q, sb, x_ahead h' hz q, sb]
    by_cases g : 0 < lg_cmp (wa i e lo (2 * n + 1)) s
    · rw [if_pos g, if_pos g, nI_1]; subst hK0; subst hK1; exact ih _ q trivial
    · rw [if_neg g, if_neg g]; exact ⟨_, rfl, rfl⟩
  · rw [show i = 21 by omega]
    exact ⟨_, rfl, rfl⟩
end L1
