/-! the pure layer: what the class counts (as in whole) -/
/-- both sides hold n coins, the limit e, the lies lo -/
def CYy (n e : Nat) (lo : Nat → Nat) (y : St) : Prop := y.1 0 = nI n ∧ y.1 1 = nI e ∧ ∀ c, c < 33 → y.2 6 c = nI (lo c)
def SZ (n e : Nat) (lo : Nat → Nat) : Prop := 2 ≤ n ∧ n ≤ 16 ∧ e ≤ 2 ∧ ∀ c, c < 33 → lo c ≤ 40
section L1
variable {n e : Nat} {lo : Nat → Nat} {x y : St}
theorem y_cases (h : CYy n e lo y) : F_X2_cases y = some (nI (2 * n + 1)) := by
  unfold F_X2_cases
  rw [h.1]
  show some (nI 2 * nI n + nI 1) = _
  rw [pk_mul, nI_add]
theorem y_isLeft (h : CYy n e lo y) (hz : SZ n e lo) {c : Nat} (hc : c < 33) : F_X2_isLeft y (nI c) = some (if lo c ≤ e then 1 else 0) := by
  unfold F_X2_isLeft
  have := hz.2.2.2 c hc; have := hz.2.2.1
  rw [q_at hc (by omega), sb, h.2.2 c hc, h.2.1]
  by_cases q : lo c ≤ e
  · rw [if_pos q, if_neg (nI_nlt q (by omega))]
  · rw [if_neg q, if_pos (nI_lt (by omega) (by omega))]
theorem one0 : ¬ (1 : Int32) = 0 := by decide
/-- how many are left -/
def nl (e : Nat) (lo : Nat → Nat) : Nat → Nat
  | 0 => 0
  | m + 1 => nl e lo m + if lo m ≤ e then 1 else 0
theorem nl_le (e : Nat) (lo : Nat → Nat) : ∀ m, nl e lo m ≤ m
  | 0 => Nat.le_refl 0
  | m + 1 => by
    have := nl_le e lo m
    show nl e lo m + _ ≤ _
    split <;> omega
theorem y_count (h : CYy n e lo y) (hz : SZ n e lo) : F_X2_countLeft y = some (nI (nl e lo (2 * n + 1))) := by
  unfold F_X2_countLeft
  have hn := hz.2.1
  refine ind (m := 2 * n + 1) (Q := fun N i (_ : Unit) => fx2 (B_X2_countLeft_4 y) N (nI (nl e lo i)) (nI i) = some (nI (nl e lo (2 * n + 1)))) (fun _ _ => True) ?_ (2 * n + 1) 0 () 1000 rfl (by omega) trivial
  intro N i s hi _ ih
  show B_X2_countLeft_4 y (fx2 (B_X2_countLeft_4 y) N) _ _ = _
  obtain ⟨K0, hK0⟩ : ∃ K, K = fx2 (B_X2_countLeft_4 y) N := ⟨_, rfl⟩
  rw [← hK0]
  unfold B_X2_countLeft_4
  rw [y_cases h, sb]
  rcases Nat.lt_or_ge i (2 * n + 1) with q | q
  · have ih' := ih () q trivial
    have e1 : nl e lo (i + 1) = nl e lo i + if lo i ≤ e then 1 else 0 := rfl
    rw [if_neg (nI_ge q (by omega)), y_isLeft h hz (by omega), sb, nI_1]
    by_cases hl : lo i ≤ e
    · rw [if_pos hl, if_neg one0, nI_1]; rw [e1, if_pos hl] at ih'; subst hK0; exact ih'
    · rw [if_neg hl, if_pos rfl]; rw [e1, if_neg hl] at ih'; subst hK0; exact ih'
  · rw [show i = 2 * n + 1 by omega, if_pos (nI_le (Nat.le_refl _) (by omega))]
/-- volumes -/
def vE (w d : Nat) : Option Int64 := F_X4_volume (nI w) (nI d)
theorem q_vol31 : ∀ w, w < 21 → ∀ d, d < 3 → (vE w d).isSome = true ∧ vE 0 d = some 1 ∧ (w < 20 → vE (w + 1) d = some ((vE w d).getD 0 + (if d = 0 then 0 else (vE w (d - 1)).getD 0 + (vE w (d - 1)).getD 0))) := by decide +kernel
def vl (w e l : Nat) : Int64 := if l ≤ e then (vE w (e - l)).getD 0 else 0
theorem vl_some {w e l : Nat} (hw : w < 21) (he : e ≤ 2) (h : l ≤ e) : F_X4_volume (nI w) (nI (e - l)) = some (vl w e l) := by
  obtain ⟨v, hv⟩ := Option.isSome_iff_exists.mp (q_vol31 w hw (e - l) (by omega)).1
  unfold vl
  rw [if_pos h, hv]
  exact hv

theorem y_vol (h : CYy n e lo y) (hz : SZ n e lo) {w l : Nat} (hw : w < 21) (hl : l ≤ 41) : F_X2_volumeLeft y (nI l) (nI w) = some (vl w e l) := by
  unfold F_X2_volumeLeft
  have he := hz.2.2.1
  rw [h.2.1]
  by_cases q : l ≤ e
  · rw [if_pos (nI_le q (by omega)), pk_sub q, (vl_some hw he q), sb]
  · rw [if_neg (nI_ge (by omega) (by omega))]
    unfold vl
    rw [if_neg q]
def wa (w e : Nat) (lo : Nat → Nat) : Nat → Int64
  | 0 => 0
  | m + 1 => wa w e lo m + vl w e (lo m)
def lt1 (lo : Nat → Nat) (l r a : Int32) (c : Nat) : Nat := if nI (tr c l r) = a then lo c else lo c + 1
theorem y_lit (h : CYy n e lo y) {c : Nat} (hc : c < 33) (l r a : Int32) : F_X2_liesIfTold y (nI c) l r a = some (nI (lt1 lo l r a c)) := by
  unfold F_X2_liesIfTold lt1
  rw [q_at hc (by omega), sb, q_ta hc, sb, h.2.2 c hc]
  split
  · rfl
  · rw [nI_1]
theorem lt1_le (hz : SZ n e lo) {c : Nat} (hc : c < 33) (l r a : Int32) : lt1 lo l r a c ≤ 41 := by
  have := hz.2.2.2 c hc
  unfold lt1; split <;> omega
theorem y_ahead (h : CYy n e lo y) (hz : SZ n e lo) {w : Nat} (hw : w < 21) : F_X2_weightAhead y (nI w) = some (wa w e lo (2 * n + 1)) := by
  unfold F_X2_weightAhead
  have hn := hz.2.1
  refine ind (m := 2 * n + 1) (Q := fun N i (_ : Unit) => fx2 (B_X2_weightAhead_5 y (nI w)) N (wa w e lo i) (nI i) = some (wa w e lo (2 * n + 1))) (fun _ _ => True) ?_ (2 * n + 1) 0 () 1000 rfl (by omega) trivial
  intro N i s hi _ ih
  show B_X2_weightAhead_5 y (nI w) (fx2 (B_X2_weightAhead_5 y (nI w)) N) _ _ = _
  obtain ⟨K0, hK0⟩ : ∃ K, K = fx2 (B_X2_weightAhead_5 y (nI w)) N := ⟨_, rfl⟩
  rw [← hK0]
  unfold B_X2_weightAhead_5
  rw [y_cases h, sb]
  rcases Nat.lt_or_ge i (2 * n + 1) with q | q
  · rw [if_neg (nI_ge q (by omega)), q_at (by omega) (by omega), sb, h.2.2 i (by omega), y_vol h hz hw (Nat.le_succ_of_le (hz.2.2.2 i (by omega))), sb, nI_1]
    subst hK0; exact ih () q trivial
  · rw [show i = 2 * n + 1 by omega, if_pos (nI_le (Nat.le_refl _) (by omega))]
theorem y_behind (h : CYy n e lo y) (hz : SZ n e lo) {w : Nat} (hw : w < 21) (l r a : Int32) : F_X2_weightIfTold y l r a (nI w) = some (wa w e (lt1 lo l r a) (2 * n + 1)) := by
  unfold F_X2_weightIfTold
  have hn := hz.2.1
  refine ind (m := 2 * n + 1) (Q := fun N i (_ : Unit) => fx2 (B_X2_weightIfTold_6 y l r a (nI w)) N (wa w e (lt1 lo l r a) i) (nI i) = some (wa w e (lt1 lo l r a) (2 * n + 1))) (fun _ _ => True) ?_ (2 * n + 1) 0 () 1000 rfl (by omega) trivial
  intro N i s hi _ ih
  show B_X2_weightIfTold_6 y l r a (nI w) (fx2 (B_X2_weightIfTold_6 y l r a (nI w)) N) _ _ = _
  obtain ⟨K0, hK0⟩ : ∃ K, K = fx2 (B_X2_weightIfTold_6 y l r a (nI w)) N := ⟨_, rfl⟩
  rw [← hK0]
  unfold B_X2_weightIfTold_6
  rw [y_cases h, sb]
  rcases Nat.lt_or_ge i (2 * n + 1) with q | q
  · rw [if_neg (nI_ge q (by omega)), y_lit h (by omega), sb, y_vol h hz hw (lt1_le hz (by omega) l r a), sb, nI_1]
    subst hK0; exact ih () q trivial
  · rw [show i = 2 * n + 1 by omega, if_pos (nI_le (Nat.le_refl _) (by omega))]
end L1
