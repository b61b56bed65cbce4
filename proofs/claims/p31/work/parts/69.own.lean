/-! the pure layer of the property: what the law's helpers answer -/
def HC (Z : ZT) : Prop := ∃ c, c ≤ 4 ∧ (Z 6).1 0 = nI c
theorem add0 (x : Int32) : x + 0 = x := Int32.add_zero x
theorem lg_same (x : Int64) : lg_cmp x x = 0 := by
  unfold lg_cmp
  rw [if_neg (show ¬ x > x from Int64.lt_irrefl), if_pos rfl]
theorem OKs.ag {n e T P a : Nat} {lo : Nat → Nat} {y y' : St} (g : OKs n e T P a lo y) (h : AGs y y') : OKs n e T P a lo y' := by
  obtain ⟨b, ⟨q0, q1, q5, q6, q4⟩, hl, hh, hs3⟩ := g
  obtain ⟨h1, h2, h3, h4⟩ := h
  refine ⟨b, ⟨?_, ?_, ?_, ?_, ?_⟩, fun c hc => ?_, ?_, ?_⟩
  · rw [h1 0 (by omega), q0]
  · rw [h1 1 (by omega), q1]
  · rw [h1 5 (by omega), q5]
  · rw [h1 6 (by omega), q6]
  · rw [h1 4 (by omega), q4]
  · rw [h2 c hc]; exact hl c hc
  · rw [h1 2 (by omega)]; exact hh
  · rw [h1 3 (by omega)]; exact hs3
theorem AGs.trans {a b c : St} (h : AGs a b) (k : AGs b c) : AGs a c := ⟨fun i hi => (k.1 i hi).trans (h.1 i hi), fun i hi => (k.2.1 i hi).trans (h.2.1 i hi), fun i hi => ⟨(k.2.2.1 i hi).1.trans (h.2.2.1 i hi).1, (k.2.2.1 i hi).2.1.trans (h.2.2.1 i hi).2.1, (k.2.2.1 i hi).2.2.trans (h.2.2.1 i hi).2.2⟩, fun i hi => ⟨(k.2.2.2 i hi).1.trans (h.2.2.2 i hi).1, (k.2.2.2 i hi).2.trans (h.2.2.2 i hi).2⟩⟩
/-! numbers -/
theorem vl0 {e l : Nat} (he : e ≤ 2) : vl 0 e l = if l ≤ e then 1 else 0 := by
  unfold vl
  by_cases q : l ≤ e
  · rw [if_pos q, if_pos q, (q_vol31 0 (by omega) (e - l) (by omega)).2.1]; rfl
  · rw [if_neg q, if_neg q]
theorem wa0 {e : Nat} (he : e ≤ 2) (lo : Nat → Nat) : ∀ m, wa 0 e lo m = lN (nl e lo m)
  | 0 => rfl
  | m + 1 => by
    show wa 0 e lo m + vl 0 e (lo m) = lN (nl e lo m + if lo m ≤ e then 1 else 0)
    rw [wa0 he lo m, vl0 he]
    by_cases q : lo m ≤ e
    · rw [if_pos q, if_pos q, lN_1]
    · rw [if_neg q, if_neg q, Int64.add_zero, Nat.add_zero]
theorem vl_step {w e l : Nat} (hw : w < 20) (he : e ≤ 2) : vl (w + 1) e l = vl w e l + (vl w e (l + 1) + vl w e (l + 1)) := by
  unfold vl
  by_cases q : l ≤ e
  · obtain ⟨-, -, h⟩ := q_vol31 w (by omega) (e - l) (by omega)
    rw [if_pos q, if_pos q, h hw]
    by_cases q2 : l + 1 ≤ e
    · rw [if_pos q2, if_neg (show ¬ e - l = 0 by omega), show e - (l + 1) = e - l - 1 by omega]; rfl
    · rw [if_neg q2, if_pos (show e - l = 0 by omega)]
      show (vE w (e - l)).getD 0 + (0 : Int64) = _ + ((0 : Int64) + 0)
      rw [Int64.add_zero (0 : Int64)]
  · rw [if_neg q, if_neg q, if_neg (show ¬ l + 1 ≤ e by omega), Int64.add_zero, Int64.add_zero]
theorem lt_sum {w e : Nat} (hw : w < 20) (he : e ≤ 2) (lo : Nat → Nat) (l r : Int32) (c : Nat) : vl w e (lt1 lo l r (nI 0) c) + vl w e (lt1 lo l r (nI 1) c) + vl w e (lt1 lo l r (nI 2) c) = vl (w + 1) e (lo c) := by
  rw [vl_step hw he]
  unfold lt1
  have ht := tr_le c l r
  generalize tr c l r = t at ht
  rcases (show t = 0 ∨ t = 1 ∨ t = 2 by omega) with q | q | q <;> subst q
  · rw [if_pos (show nI 0 = nI 0 from rfl), if_neg (show ¬ nI 0 = nI 1 by decide), if_neg (show ¬ nI 0 = nI 2 by decide), Int64.add_assoc]
  · rw [if_pos (show nI 1 = nI 1 from rfl), if_neg (show ¬ nI 1 = nI 0 by decide), if_neg (show ¬ nI 1 = nI 2 by decide)]
    generalize vl w e (lo c + 1) = p
    generalize vl w e (lo c) = q0
    rw [Int64.add_comm p q0, Int64.add_assoc]
  · rw [if_pos (show nI 2 = nI 2 from rfl), if_neg (show ¬ nI 2 = nI 0 by decide), if_neg (show ¬ nI 2 = nI 1 by decide), Int64.add_comm]
theorem six (a b c x y z : Int64) : (a + x) + (b + y) + (c + z) = (a + b + c) + (x + y + z) := by ac_rfl
theorem wa_sum {w e : Nat} (hw : w < 20) (he : e ≤ 2) (lo : Nat → Nat) (l r : Int32) : ∀ m, wa w e (lt1 lo l r (nI 0)) m + wa w e (lt1 lo l r (nI 1)) m + wa w e (lt1 lo l r (nI 2)) m = wa (w + 1) e lo m
  | 0 => rfl
  | m + 1 => by
    show (wa w e (lt1 lo l r (nI 0)) m + vl w e (lt1 lo l r (nI 0) m)) + (wa w e (lt1 lo l r (nI 1)) m + vl w e (lt1 lo l r (nI 1) m)) + (wa w e (lt1 lo l r (nI 2)) m + vl w e (lt1 lo l r (nI 2) m)) = wa (w + 1) e lo m + vl (w + 1) e (lo m)
    rw [← wa_sum hw he lo l r m, ← lt_sum hw he lo l r m, six]
theorem nl_pos {e : Nat} {lo : Nat → Nat} {c : Nat} : ∀ m, c < m → lo c ≤ e → 0 < nl e lo m
  | 0, h, _ => absurd h (Nat.not_lt_zero c)
  | m + 1, h, q => by
    show 0 < nl e lo m + if lo m ≤ e then 1 else 0
    rcases Nat.lt_or_ge c m with z | z
    · have := nl_pos m z q; omega
    · rw [show m = c by omega, if_pos q]; omega
theorem nl_mono {e : Nat} {lo lo' : Nat → Nat} : ∀ m, (∀ c, c < m → lo c ≤ lo' c) → nl e lo' m ≤ nl e lo m
  | 0, _ => Nat.le_refl 0
  | m + 1, h => by
    have h1 := nl_mono (e := e) (lo := lo) (lo' := lo') m (fun c hc => h c (by omega))
    have h2 := h m (by omega)
    show (nl e lo' m + if lo' m ≤ e then 1 else 0) ≤ nl e lo m + if lo m ≤ e then 1 else 0
    by_cases q : lo' m ≤ e
    · rw [if_pos q, if_pos (show lo m ≤ e by omega)]; omega
    · rw [if_neg q]; omega
theorem nl_all (e : Nat) : ∀ m, nl e (fun _ => 0) m = m
  | 0 => rfl
  | m + 1 => by
    show nl e (fun _ => 0) m + (if 0 ≤ e then 1 else 0) = _
    rw [nl_all e m, if_pos (Nat.zero_le e)]
/-! the numbers that the helpers ask for -/
section O1
variable {n e T P a : Nat} {lo : Nat → Nat} {Z : ZT}
theorem l_v0 (Z : ZT) : F_L_value Z 0 = some ((Z 0).1 0, Z) := rfl
theorem l_v1 (Z : ZT) : F_L_value Z 1 = some ((Z 0).1 1, Z) := rfl
theorem l_v2 (Z : ZT) : F_L_value Z 2 = some ((Z 0).1 5, Z) := rfl
theorem l_v5 (Z : ZT) : F_L_value Z 5 = some ((Z 0).1 2, Z) := rfl
theorem l_v6 (Z : ZT) : F_L_value Z 6 = some ((Z 0).1 4, Z) := rfl
theorem l_v3 (g : OKs n e T P a lo (Z 0)) : F_L_value Z 3 = some (nI (nl e lo (2 * n + 1)), Z) := by
  have h1 : F_X2_number (Z 0) 3 = some (nI (nl e lo (2 * n + 1))) := (be (y_count g.cy g.sz)).trans rfl
  have h2 : F_X4_value Z 3 = some (nI (nl e lo (2 * n + 1)), Z) := by
    unfold F_X4_value
    rw [if_neg (show ¬ (3 : Int32) < 0 by decide), if_pos (show (3 : Int32) < 9 by decide), h1]; rfl
  exact (be h2).trans rfl
theorem l_case {y : St} (h0 : y.1 0 = nI n) (hn : n ≤ 16) {c : Nat} (hc : c < 2 * n + 1) : F_X2_isCase y (nI c) = some 1 := by
  unfold F_X2_isCase
  rw [if_neg (nI_pos (by omega)), y_cases0 h0, sb, if_neg (nI_ge hc (by omega))]
theorem l_lies (g : OKs n e T P a lo (Z 0)) {c : Nat} (hc : c < 2 * n + 1) : F_L_liesOf Z (nI c) = some (nI (lo c), Z) := by
  have hn := g.1.2.1
  have h2 : F_X4_lies Z (nI c) = some (nI (lo c), Z) := by
    unfold F_X4_lies
    rw [l_case g.2.1.1 hn hc, sb, if_neg one0, q_at (by omega) (by omega), (g.2.2.1 c (by omega)).1]; rfl
  exact (be h2).trans rfl
theorem l_far {w : Nat} (hw : w < 21) : F_X4_isAhead (nI w) = some 1 := by
  unfold F_X4_isAhead
  rw [if_neg (nI_pos (by omega)), if_neg (show ¬ (20 : Int32) < nI w from nI_nlt (a := 20) (by omega) (by omega))]
theorem l_ans {w : Nat} (hw : w ≤ 2) : F_X4_isAnswer (nI w) = some 1 := by
  unfold F_X4_isAnswer
  rw [if_neg (nI_pos (by omega)), if_neg (show ¬ (3 : Int32) ≤ nI w from nI_ge (b := 3) (by omega) (by omega))]
theorem l_weighs (g : OKs n e T P a lo (Z 0)) {w : Nat} (hw : w < 21) : F_L_weighs Z (nI w) = some (wa w e lo (2 * n + 1), Z) := by
  have h2 : F_X4_weight Z (nI w) = some (wa w e lo (2 * n + 1), Z) := by
    unfold F_X4_weight
    rw [l_far hw, sb, if_neg one0, y_ahead g.cy g.sz hw]; rfl
  exact (be h2).trans rfl
theorem l_behind (g : OKs n e T P a lo (Z 0)) {l r : Int32} (hs : F_X2_isWeighing (Z 0) l r = some 1) {c : Nat} (hc : c ≤ 2) {w : Nat} (hw : w < 21) : F_L_behind Z l r (nI c) (nI w) = some (wa w e (lt1 lo l r (nI c)) (2 * n + 1), Z) := by
  have h2 : F_X4_weightBehind Z l r (nI c) (nI w) = some (wa w e (lt1 lo l r (nI c)) (2 * n + 1), Z) := by
    unfold F_X4_weightBehind
    rw [hs, sb, if_neg one0, l_ans hc, sb, if_neg one0, l_far hw, sb, if_neg one0, y_behind g.cy g.sz hw]; rfl
  exact (be h2).trans rfl
theorem l_bound (g : OKs n e T P a lo (Z 0)) (h : nl e lo (2 * n + 1) = 0) : F_X4_bound Z = some (0, Z) := by
  have h1 : F_X2_weightAhead (Z 0) 0 = some (lN 0) := by
    have := y_ahead g.cy g.sz (w := 0) (by omega)
    rw [wa0 g.1.2.2.1, h] at this
    exact this
  unfold F_X4_bound
  show B_X4_bound_4 Z (fx2 (B_X4_bound_4 Z) 999) 1 0 = _
  obtain ⟨K0, hK0⟩ : ∃ K, K = fx2 (B_X4_bound_4 Z) 999 := ⟨_, rfl⟩
  rw [← hK0]
  unfold B_X4_bound_4
  rw [if_neg (show ¬ (20 : Int32) < 0 by decide), h1, sb, if_neg (show ¬ 0 < lg_cmp (lN 0) 1 by decide)]
theorem l_splits (g : OKs n e T P a lo (Z 0)) {l r : Int32} (hs : F_X2_isWeighing (Z 0) l r = some 1) {w : Nat} (hw : w < 20) : F_L_splits Z l r (nI w) = some (1, Z) := by
  have b := fun (c : Nat) (hc : c ≤ 2) => l_behind g hs hc (w := w) (by omega)
  have b0 : F_L_behind Z l r 0 (nI w) = some (wa w e (lt1 lo l r (nI 0)) (2 * n + 1), Z) := b 0 (by omega)
  have b1 : F_L_behind Z l r 1 (nI w) = some (wa w e (lt1 lo l r (nI 1)) (2 * n + 1), Z) := b 1 (by omega)
  have b2 : F_L_behind Z l r 2 (nI w) = some (wa w e (lt1 lo l r (nI 2)) (2 * n + 1), Z) := b 2 (by omega)
  unfold F_L_splits
  rw [b0, sb]; dsimp only
  rw [b1, sb]; dsimp only
  rw [b2, sb]; dsimp only
  rw [nI_1, l_weighs g (show w + 1 < 21 by omega), sb]; dsimp only
  rw [wa_sum hw g.1.2.2.1, lg_same, if_pos rfl]
/-- the hidden case's count, the cases left, their lies, the weight for 0, the bound -/
theorem gl_holds (g : OKs n e T P a lo (Z 0)) {h : Nat} (hh : (Z 0).1 2 = nI h) (hh2 : h < 2 * n + 1) : F_L_holds Z (nI (lo h)) = some (1, Z) := by
  have hn := g.1.2.1; have he := g.1.2.2.1; have hk := g.1.2.2.2.1
  have hnl := nl_le e lo (2 * n + 1)
  have hlh := (g.2.2.1 h (by omega)).2
  have e0 : (2 : Int32) * nI n + 1 = nI (2 * n + 1) := by
    show nI 2 * nI n + nI 1 = _
    rw [pk_mul, nI_add]
  have hv1 : F_L_value Z 1 = some (nI e, Z) := by rw [l_v1, g.2.1.2.1]
  have hv2 : F_L_value Z 2 = some (nI T, Z) := by rw [l_v2, g.2.1.2.2.1]
  have hv5 : F_L_value Z 5 = some (nI h, Z) := by rw [l_v5, hh]
  have hv0 : F_L_value Z 0 = some (nI n, Z) := by rw [l_v0, g.2.1.1]
  have hv3 := l_v3 g
  have hw0 : F_L_weighs Z 0 = some (lN (nl e lo (2 * n + 1)), Z) := by
    have := l_weighs g (w := 0) (by omega)
    rw [wa0 he] at this
    exact this
  obtain ⟨NL, hNL⟩ : ∃ NL, NL = nl e lo (2 * n + 1) := ⟨_, rfl⟩
  have hb0 : NL = 0 → F_X4_bound Z = some (0, Z) := fun q => l_bound g (by rw [← hNL]; exact q)
  rw [← hNL] at hv3 hw0 hnl
  have htail : ((F_L_weighs Z 0).bind fun t17 => if (lg_cmp t17.1 (nI NL).toInt64) = 0 then ((F_L_value t17.2 3).bind fun t20 => if 0 < t20.1 then (some (1, t20.2)) else ((F_X4_bound t20.2).bind fun t23 => if t23.1 = 0 then (some (1, t23.2)) else none)) else none) = some ((1 : Int32), Z) := by
    rw [hw0, sb]; dsimp only
    rw [nI_l (by omega), lg_same, if_pos rfl, hv3, sb]; dsimp only
    rcases Nat.eq_zero_or_pos NL with q | q
    · rw [hb0 q, q, if_neg (show ¬ (0 : Int32) < nI 0 by decide), sb]; dsimp only
      rw [if_pos rfl]
    · rw [if_pos (show (0 : Int32) < nI NL from nI_lt (a := 0) q (by omega))]
  unfold F_L_holds
  rw [hv5, sb]; dsimp only
  rw [hv3, sb]; dsimp only
  rw [hv0, sb]; dsimp only
  rw [if_neg (nI_pos (by omega)), l_lies g hh2, sb]; dsimp only
  rw [if_pos rfl]
  refine ind (m := 2 * n + 1) (Q := fun N i (_ : Unit) => fx4 (B_L_holds_49 (nI (lo h)) (nI h, Z) (nI NL, Z) (nI n, Z)) N (nI (nl e lo i)) 1 (nI i) Z = some (1, Z)) (fun _ _ => True) ?_ (2 * n + 1) 0 () 1000 rfl (by omega) trivial
  intro N i s hi _ ih
  show B_L_holds_49 (nI (lo h)) (nI h, Z) (nI NL, Z) (nI n, Z) (fx4 (B_L_holds_49 (nI (lo h)) (nI h, Z) (nI NL, Z) (nI n, Z)) N) (nI (nl e lo i)) 1 (nI i) Z = _
  obtain ⟨K0, hK0⟩ : ∃ K, K = fx4 (B_L_holds_49 (nI (lo h)) (nI h, Z) (nI NL, Z) (nI n, Z)) N := ⟨_, rfl⟩
  rw [← hK0]
  unfold B_L_holds_49
  dsimp only
  rw [e0]
  rcases Nat.lt_or_ge i (2 * n + 1) with q | q
  · have ih' := ih () q trivial
    have e1 : nl e lo (i + 1) = nl e lo i + if lo i ≤ e then 1 else 0 := rfl
    have hb := (g.2.2.1 i (by omega)).2
    rw [if_neg (nI_ge q (by omega)), if_neg one0, l_lies g q, sb]; dsimp only
    rw [hv1, sb]; dsimp only
    by_cases hl : lo i ≤ e
    · rw [if_neg (nI_nlt hl (by omega)), if_neg (nI_pos (by omega)), hv2, sb]; dsimp only
      rw [if_neg (nI_nlt hb (by omega)), nI_1, nI_1]
      rw [e1, if_pos hl] at ih'; subst hK0; exact ih'
    · rw [if_pos (nI_lt (by omega) (by omega)), if_neg (nI_pos (by omega)), hv2, sb]; dsimp only
      rw [if_neg (nI_nlt hb (by omega)), nI_1, add0]
      rw [e1, if_neg hl] at ih'; subst hK0; exact ih'
  · obtain rfl : i = 2 * n + 1 := by omega
    rw [if_pos (nI_le (Nat.le_refl _) (by omega)), if_neg one0, ← hNL, if_pos rfl, hv1, sb]; dsimp only
    by_cases hl : lo h ≤ e
    · have hpos : 0 < NL := by rw [hNL]; exact nl_pos (2 * n + 1) hh2 hl
      rw [if_neg (nI_nlt hl (by omega)), if_neg (nI_pos (by omega)), if_neg (nI_nle hpos (by omega))]
      exact htail
    · rw [if_pos (nI_lt (by omega) (by omega))]
      exact htail
end O1
