/-! the pure layer, A: loops, numbers, the true answer, volumes -/
theorem be {α β : Type} {o : Option α} {a : α} {f : α → Option β} (h : o = some a) : o.bind f = f a := by rw [h]; rfl
theorem sb {α β : Type} {a : α} {f : α → Option β} : (some a).bind f = f a := rfl
theorem ind {α : Type} {m : Nat} {Q : Nat → Nat → α → Prop} (R : Nat → α → Prop) (h : ∀ N i s, i ≤ m → R i s → (∀ s', i < m → R (i + 1) s' → Q N (i + 1) s') → Q (N + 1) i s) : ∀ d i s N, d + i = m → d < N → R i s → Q N i s
  | d, _, _, 0, _, hN, _ => absurd hN (Nat.not_lt_zero d)
  | 0, i, s, N + 1, he, _, hR => h N i s (by omega) hR (fun _ hi _ => absurd hi (by omega))
  | d + 1, i, s, N + 1, he, hN, hR => h N i s (by omega) hR (fun s' _ hR' => ind R h d (i + 1) s' N (by omega) (by omega) hR')
def up {α : Type} (f : Nat → α → α) : Nat → Nat → α → α
  | 0, _, s => s
  | d + 1, i, s => up f d (i + 1) (f i s)
theorem up_hom {α β : Type} {f : Nat → α → α} {g : Nat → β → β} (u : β → α) (h : ∀ i s, f i (u s) = u (g i s)) : ∀ d i s, up f d i (u s) = u (up g d i s)
  | 0, _, _ => rfl
  | d + 1, i, s => by
    show up f d (i + 1) (f i (u s)) = _
    rw [h]
    exact up_hom u h d (i + 1) _
theorem fx2_up {α ρ : Type} {B : (α → Int32 → Option ρ) → α → Int32 → Option ρ} {m : Nat} {f : Nat → α → α} {r : α → ρ} (h1 : ∀ k i s, i < m → B k s (nI i) = k (f i s) (nI (i + 1))) (h2 : ∀ k s, B k s (nI m) = some (r s)) : ∀ d i s N, d + i = m → d < N → fx2 B N s (nI i) = some (r (up f d i s))
  | d, _, _, 0, _, hN => absurd hN (Nat.not_lt_zero d)
  | 0, i, s, N + 1, he, _ => by
    rw [show i = m by omega]
    exact h2 _ s
  | d + 1, i, s, N + 1, he, hN => by
    show B (fx2 B N) s (nI i) = _
    rw [h1 _ i s (by omega)]
    exact fx2_up h1 h2 d (i + 1) _ N (by omega) (by omega)
theorem ux_at (f : Nat → Int32) (k : Nat) (x : Int32) : upd f k x k = x := if_pos rfl
theorem ux_ne (f : Nat → Int32) {k : Nat} (x : Int32) {j : Nat} (h : j ≠ k) : upd f k x j = f j := if_neg h
theorem and0 (x : Int32) : x &&& 0 = 0 := b_ext (by intro i _; rw [b_and, b_0, Bool.and_false])
theorem or0 (x : Int32) : x ||| 0 = x := b_ext (by intro i _; rw [b_or, b_0, Bool.or_false])
theorem add0 (x : Int32) : x + 0 = x := Int32.add_zero x
theorem b_1 (i : Nat) : bt 1 i = decide (i = 0) := by
  rcases Nat.lt_or_ge i 32 with h | h
  · exact (by decide +kernel : ∀ i, i < 32 → bt 1 i = decide (i = 0)) i h
  · rw [b_big h, decide_eq_false (by omega)]
theorem b_one {k : Nat} (hk : k < 32) {i : Nat} (hi : i < 32) : bt ((1 : Int32) <<< (nI k &&& 31)) i = decide (i = k) := by
  rw [b_shl k hk _ hi, b_1]
  rcases Nat.lt_trichotomy i k with h | h | h
  · rw [decide_eq_false (show ¬ k ≤ i by omega), decide_eq_false (show ¬ i = k by omega), Bool.false_and]
  · subst h; simp
  · rw [decide_eq_false (show ¬ i - k = 0 by omega), decide_eq_false (show ¬ i = k by omega), Bool.and_false]
theorem bit_and {x : Int32} {k : Nat} (hk : k < 32) : x &&& ((1 : Int32) <<< (nI k &&& 31)) = 0 ↔ bt x k = false := by
  constructor
  · intro h
    have e := congrArg (fun z => bt z k) h
    simp only [b_and, b_0] at e
    rw [b_one hk hk, decide_eq_true rfl, Bool.and_true] at e
    exact e
  · intro h
    refine b_ext (fun i hi => ?_)
    rw [b_and, b_0, b_one hk hi]
    by_cases e : i = k
    · subst e; rw [h, Bool.false_and]
    · rw [decide_eq_false e, Bool.and_false]
theorem shr1 (x : Int32) {k : Nat} (hk : k < 32) : (x >>> (nI k &&& 31)) &&& 1 = if bt x k = true then 1 else 0 := by
  refine b_ext (fun i hi => ?_)
  rw [b_and, b_1]
  by_cases e : i = 0
  · subst e
    rw [b_sshr k hk x hi, if_pos (by omega), Nat.add_zero, decide_eq_true rfl, Bool.and_true]
    by_cases q : bt x k = true
    · rw [if_pos q, q]; rfl
    · rw [if_neg q, b_0]; exact Bool.eq_false_iff.mpr q
  · rw [decide_eq_false e, Bool.and_false]
    by_cases q : bt x k = true
    · rw [if_pos q, b_1, decide_eq_false e]
    · rw [if_neg q, b_0]
theorem q_at {n i : Nat} {f : Nat → Int32} (h : i < n) (hn : n < 2 ^ 31) : F_X4_at n f (nI i) = some (f i) := by
  unfold F_X4_at
  rw [if_neg (nI_pos (by omega)), if_neg (nI_ge h hn), nI_clamp (by omega)]
theorem q_put {n i : Nat} {f : Nat → Int32} {v : Int32} (h : i < n) (hn : n < 2 ^ 31) : F_X4_put n f (nI i) v = some (upd f i v) := by
  unfold F_X4_put
  rw [if_neg (nI_pos (by omega)), if_neg (nI_ge h hn), nI_clamp (by omega)]
theorem q_in {v : Int32} {a b : Nat} (ha : a < 2 ^ 31) (hb : b < 2 ^ 31) : (F_X5_in v (nI a) (nI b) = some 1 ∧ ∃ j, a ≤ j ∧ j ≤ b ∧ v = nI j) ∨ (F_X5_in v (nI a) (nI b) = some 0 ∧ (v < nI a ∨ nI b < v)) := by
  unfold F_X5_in
  by_cases h1 : v < nI a
  · rw [if_pos h1]; exact .inr ⟨rfl, .inl h1⟩
  · rw [if_neg h1]
    by_cases h2 : nI b < v
    · rw [if_pos h2]; exact .inr ⟨rfl, .inr h2⟩
    · rw [if_neg h2]
      refine .inl ⟨rfl, ?_⟩
      have h3 : ¬ v < 0 := fun q => h1 (by rw [fa_lt] at q ⊢; rw [nI_toInt ha]; have : (0 : Int32).toInt = 0 := rfl; omega)
      obtain ⟨j, hj, rfl⟩ := nI_of h3
      rw [nI_ltI hj ha] at h1
      rw [nI_ltI hb hj] at h2
      exact ⟨j, by omega, by omega, rfl⟩
def tr (c : Nat) (l r : Int32) : Nat := if c = 0 then 2 else if bt l ((c - 1) / 2) = true then (c - 1) % 2 else if bt r ((c - 1) / 2) = true then 1 - (c - 1) % 2 else 2
theorem tr_le (c : Nat) (l r : Int32) : tr c l r ≤ 2 := by unfold tr; (repeat' split) <;> omega
theorem tr_num : ∀ c, c < 33 → c ≠ 0 → 0 < nI c ∧ ((nI c - 1) / 2) &&& 31 = nI ((c - 1) / 2) &&& 31 ∧ (nI c &&& 1 = 1 ↔ (c - 1) % 2 = 0) ∧ (nI c - 1) - (nI c - 1) / 2 * 2 = nI ((c - 1) % 2) ∧ nI c ≠ 0 := by decide +kernel
theorem q_coin {c : Nat} (h : c < 33) (h0 : c ≠ 0) : F_X4_coinBit (nI c) = some ((1 : Int32) <<< (nI ((c - 1) / 2) &&& 31)) := by
  obtain ⟨h1, h2, -⟩ := tr_num c h h0
  unfold F_X4_coinBit
  rw [if_pos h1, h2]
theorem q_ta {c : Nat} (h : c < 33) (l r : Int32) : F_X4_trueAnswer (nI c) l r = some (nI (tr c l r)) := by
  unfold F_X4_trueAnswer tr
  by_cases h0 : c = 0
  · subst h0
    rw [show F_X4_coinBit (nI 0) = some 0 from rfl, sb, if_neg (show ¬ nI 0 &&& 1 = 1 by decide), if_pos (and0 l), if_pos (and0 r), if_pos rfl]
    rfl
  · obtain ⟨h1, h2, h3, h4, h5⟩ := tr_num c h h0
    have hk : (c - 1) / 2 < 32 := by omega
    have p : (c - 1) % 2 = 0 ∨ (c - 1) % 2 = 1 := by omega
    rw [q_coin h h0, sb, if_neg h0]
    by_cases bl : bt l ((c - 1) / 2) = true
    · have n1 : ¬ l &&& ((1 : Int32) <<< (nI ((c - 1) / 2) &&& 31)) = 0 := fun q => by rw [(bit_and hk).mp q] at bl; cases bl
      rw [if_pos bl, if_neg n1, if_neg n1]
      rcases p with p | p
      · rw [if_pos (h3.mpr p), p]; rfl
      · rw [if_neg (fun q => by have := h3.mp q; omega), p]; rfl
    · have n1 : l &&& ((1 : Int32) <<< (nI ((c - 1) / 2) &&& 31)) = 0 := (bit_and hk).mpr (Bool.eq_false_iff.mpr bl)
      rw [if_neg bl, if_pos n1, if_pos n1]
      by_cases br : bt r ((c - 1) / 2) = true
      · have n2 : ¬ r &&& ((1 : Int32) <<< (nI ((c - 1) / 2) &&& 31)) = 0 := fun q => by rw [(bit_and hk).mp q] at br; cases br
        rw [if_pos br, if_neg n2, if_neg n2]
        rcases p with p | p
        · rw [if_pos (h3.mpr p), p]; rfl
        · rw [if_neg (fun q => by have := h3.mp q; omega), p]; rfl
      · have n2 : r &&& ((1 : Int32) <<< (nI ((c - 1) / 2) &&& 31)) = 0 := (bit_and hk).mpr (Bool.eq_false_iff.mpr br)
        rw [if_neg br, if_pos n2, if_pos n2]
        split <;> rfl
theorem q_tm {c : Nat} (h : c < 33) (l r : Int32) : F_X5_truth (nI c) l r = some (nI (tr c l r)) := by
  unfold F_X5_truth tr
  by_cases h0 : c = 0
  · subst h0; rfl
  · obtain ⟨h1, h2, h3, h4, h5⟩ := tr_num c h h0
    have hk : (c - 1) / 2 < 32 := by omega
    have p : (c - 1) % 2 = 0 ∨ (c - 1) % 2 = 1 := by omega
    rw [if_neg h5, if_neg h0, h2, shr1 l hk, shr1 r hk, h4]
    by_cases bl : bt l ((c - 1) / 2) = true
    · rw [if_pos bl, if_pos rfl, if_pos bl]
    · rw [if_neg bl, if_neg (show ¬ (0 : Int32) = 1 by decide), if_neg bl]
      by_cases br : bt r ((c - 1) / 2) = true
      · rw [if_pos br, if_pos rfl, if_pos br]
        rcases p with p | p <;> rw [p] <;> rfl
      · rw [if_neg br, if_neg (show ¬ (0 : Int32) = 1 by decide), if_neg br]
        rfl
theorem q_vol2 {w e : Nat} (hw : w < 21) (he : e < 3) : ∃ v, F_X4_volume (nI w) (nI e) = some v ∧ F_X5_volume (nI w) (nI e) = some v := by
  obtain ⟨h1, h2⟩ := q_vol w hw e he
  obtain ⟨v, hv⟩ := Option.isSome_iff_exists.mp h2
  exact ⟨v, by rw [h1, hv], hv⟩
/-- ones of a number, by the machine's steps and one by one -/
def p1 (v : Nat) : Nat := v - Nat.land (v / 2 ^ 1) 1431655765
def p2 (t : Nat) : Nat := Nat.land t 858993459 + Nat.land (t / 2 ^ 2) 858993459
def p3 (t : Nat) : Nat := Nat.land (t + t / 2 ^ 4) 252645135
def p4 (t : Nat) : Nat := t + t / 2 ^ 8
def p5 (t : Nat) : Nat := t + t / 2 ^ 16
def pcN (v : Nat) : Nat := Nat.land (p5 (p4 (p3 (p2 (p1 v))))) 63
theorem q_bc {v : Nat} (h : v < 65536) : F_J6_bitCount_0f7a4 (nI v) = some (nI (pcN v)) := by
  have L : ∀ a b : Nat, Nat.land a b ≤ a := fun a b => Nat.and_le_left
  unfold F_J6_bitCount_0f7a4
  have b1 : p1 v ≤ v := Nat.sub_le _ _
  have b2 : p2 (p1 v) ≤ 2 * v := by
    have := L (p1 v) 858993459; have := L (p1 v / 2 ^ 2) 858993459; unfold p2; omega
  have b3 : p3 (p2 (p1 v)) ≤ 4 * v := by
    have := L (p2 (p1 v) + p2 (p1 v) / 2 ^ 4) 252645135; unfold p3; omega
  have b4 : p4 (p3 (p2 (p1 v))) ≤ 8 * v := by unfold p4; omega
  have e1 : nI v - (((nI v).toUInt32 >>> ((1 : Int32).toUInt32 &&& Int32.toUInt32 31)).toInt32 &&& 1431655765) = nI (p1 v) := by
    rw [pk_ushrN (by omega) 1 1 (by decide)]
    show nI v - (nI (v / 2 ^ 1) &&& nI 1431655765) = _
    rw [fa_and, pk_sub (Nat.le_trans Nat.and_le_left (Nat.div_le_self _ _))]; rfl
  rw [e1, sb]
  have e2 : (nI (p1 v) &&& 858993459) + (((nI (p1 v)).toUInt32 >>> ((2 : Int32).toUInt32 &&& Int32.toUInt32 31)).toInt32 &&& 858993459) = nI (p2 (p1 v)) := by
    rw [pk_ushrN (by omega) 2 2 (by decide)]
    show (nI (p1 v) &&& nI 858993459) + (nI (p1 v / 2 ^ 2) &&& nI 858993459) = _
    rw [fa_and, fa_and, nI_add]; rfl
  rw [e2, sb]
  have e3 : (nI (p2 (p1 v)) + ((nI (p2 (p1 v))).toUInt32 >>> ((4 : Int32).toUInt32 &&& Int32.toUInt32 31)).toInt32) &&& 252645135 = nI (p3 (p2 (p1 v))) := by
    rw [pk_ushrN (by omega) 4 4 (by decide)]
    show (nI (p2 (p1 v)) + nI (p2 (p1 v) / 2 ^ 4)) &&& nI 252645135 = _
    rw [nI_add, fa_and]; rfl
  rw [e3, sb]
  have e4 : nI (p3 (p2 (p1 v))) + ((nI (p3 (p2 (p1 v)))).toUInt32 >>> ((8 : Int32).toUInt32 &&& Int32.toUInt32 31)).toInt32 = nI (p4 (p3 (p2 (p1 v)))) := by
    rw [pk_ushrN (by omega) 8 8 (by decide), nI_add]; rfl
  rw [e4, sb]
  have e5 : nI (p4 (p3 (p2 (p1 v)))) + ((nI (p4 (p3 (p2 (p1 v))))).toUInt32 >>> ((16 : Int32).toUInt32 &&& Int32.toUInt32 31)).toInt32 = nI (p5 (p4 (p3 (p2 (p1 v))))) := by
    rw [pk_ushrN (by omega) 16 16 (by decide), nI_add]; rfl
  rw [e5, sb]
  show some (nI _ &&& nI 63) = _
  rw [fa_and]; rfl
def onN (v : Nat) : Nat := up (fun i s => s + v / 2 ^ i % 2) 16 0 0
theorem q_ones {v : Nat} (h : v < 65536) : F_X5_ones (nI v) = some (nI (onN v)) := by
  unfold F_X5_ones onN
  have e := fx2_up (B := B_X5_ones_4 (nI v)) (m := 16) (f := fun i s => s + nI (v / 2 ^ i % 2)) (r := fun s => s) (by
    intro k i s hi
    unfold B_X5_ones_4
    rw [if_neg (show ¬ (16 : Int32) ≤ nI i from nI_ge (b := 16) hi (by omega)), pk_shrN (by omega) _ i (s_l i (by omega))]
    show k (s + (nI (v / 2 ^ i) &&& nI (2 ^ 1 - 1))) (nI i + 1) = _
    rw [fa_mask, nI_1]) (by intro k s; rfl) 16 0 (nI 0) 1000 rfl (by omega)
  show fx2 (B_X5_ones_4 (nI v)) 1000 (nI 0) (nI 0) = _
  rw [e]
  show some (up _ 16 0 (nI 0)) = _
  rw [up_hom (g := fun i s => s + v / 2 ^ i % 2) nI (fun i s => nI_add _ _)]
