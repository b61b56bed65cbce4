/-! the pure layer: loops, numbers, the true answer (as in whole) -/
theorem be {α β : Type} {o : Option α} {a : α} {f : α → Option β} (h : o = some a) : o.bind f = f a := by rw [h]; rfl
theorem sb {α β : Type} {a : α} {f : α → Option β} : (some a).bind f = f a := rfl
theorem ind {α : Type} {m : Nat} {Q : Nat → Nat → α → Prop} (R : Nat → α → Prop) (h : ∀ N i s, i ≤ m → R i s → (∀ s', i < m → R (i + 1) s' → Q N (i + 1) s') → Q (N + 1) i s) : ∀ d i s N, d + i = m → d < N → R i s → Q N i s
  | d, _, _, 0, _, hN, _ => absurd hN (Nat.not_lt_zero d)
  | 0, i, s, N + 1, he, _, hR => h N i s (by omega) hR (fun _ hi _ => absurd hi (by omega))
  | d + 1, i, s, N + 1, he, hN, hR => h N i s (by omega) hR (fun s' _ hR' => ind R h d (i + 1) s' N (by omega) (by omega) hR')
theorem ux_at (f : Nat → Int32) (k : Nat) (x : Int32) : upd f k x k = x := if_pos rfl
theorem ux_ne (f : Nat → Int32) {k : Nat} (x : Int32) {j : Nat} (h : j ≠ k) : upd f k x j = f j := if_neg h
theorem and0 (x : Int32) : x &&& 0 = 0 := b_ext (by intro i _; rw [b_and, b_0, Bool.and_false])
theorem b_1 (i : Nat) : bt 1 i = decide (i = 0) := by
  rcases Nat.lt_or_ge i 32 with h | h
  · exact (by decide +kernel : ∀ i, i < 32 → bt 1 i = decide (i = 0)) i h
  · rw [b_big h, decide_eq_false (by omega)]
theorem b_one {k : Nat} (hk : k < 32) {i : Nat} (hi : i < 32) : bt ((1 : Int32) <<< (nI k &&& 31)) i = decide (i = k) := by
  rw [b_shl k hk _ hi, b_1]
  rcases Nat.lt_trichotomy i k with h | h | h
  · rw [decide_eq_false (show ¬ k ≤ i by omega), decide_eq_false (show ¬ i = k by omega), Bool.false_and]
  · subst h; simp
  · rw [decide_eq_false (show ¬ i - k = 0 by omega), decide_eq_false (show ¬ i = k by omega), Bool.and_false]
theorem bit_and {x : Int32} {k : Nat} (hk : k < 32) : x &&& ((1 : Int32) <<< (nI k &&& 31)) = 0 ↔ bt x k = false := by
  constructor
  · intro h
    have e := congrArg (fun z => bt z k) h
    simp only [b_and, b_0] at e
    rw [b_one hk hk, decide_eq_true rfl, Bool.and_true] at e
    exact e
  · intro h
    refine b_ext (fun i hi => ?_)
    rw [b_and, b_0, b_one hk hi]
    by_cases e : i = k
    · subst e; rw [h, Bool.false_and]
    · rw [decide_eq_false e, Bool.and_false]
theorem q_at {n i : Nat} {f : Nat → Int32} (h : i < n) (hn : n < 2 ^ 31) : F_X4_at n f (nI i) = some (f i) := by
  unfold F_X4_at
  rw [if_neg (nI_pos (by omega)), if_neg (nI_ge h hn), nI_clamp (by omega)]
theorem q_put {n i : Nat} {f : Nat → Int32} {v : Int32} (h : i < n) (hn : n < 2 ^ 31) : F_X4_put n f (nI i) v = some (upd f i v) := by
  unfold F_X4_put
  rw [if_neg (nI_pos (by omega)), if_neg (nI_ge h hn), nI_clamp (by omega)]
def tr (c : Nat) (l r : Int32) : Nat := if c = 0 then 2 else if bt l ((c - 1) / 2) = true then (c - 1) % 2 else if bt r ((c - 1) / 2) = true then 1 - (c - 1) % 2 else 2
theorem tr_le (c : Nat) (l r : Int32) : tr c l r ≤ 2 := by unfold tr; (repeat' split) <;> omega
theorem tr_num : ∀ c, c < 33 → c ≠ 0 → 0 < nI c ∧ ((nI c - 1) / 2) &&& 31 = nI ((c - 1) / 2) &&& 31 ∧ (nI c &&& 1 = 1 ↔ (c - 1) % 2 = 0) ∧ (nI c - 1) - (nI c - 1) / 2 * 2 = nI ((c - 1) % 2) ∧ nI c ≠ 0 := by decide +kernel
theorem q_coin {c : Nat} (h : c < 33) (h0 : c ≠ 0) : F_X4_coinBit (nI c) = some ((1 : Int32) <<< (nI ((c - 1) / 2) &&& 31)) := by
  obtain ⟨h1, h2, -⟩ := tr_num c h h0
  unfold F_X4_coinBit
  rw [if_pos h1, h2]
theorem q_ta {c : Nat} (h : c < 33) (l r : Int32) : F_X4_trueAnswer (nI c) l r = some (nI (tr c l r)) := by
  unfold F_X4_trueAnswer tr
  by_cases h0 : c = 0
  · subst h0
    rw [show F_X4_coinBit (nI 0) = some 0 from rfl, sb, if_neg (show ¬ nI 0 &&& 1 = 1 by decide), if_pos (and0 l), if_pos (and0 r), if_pos rfl]
    rfl
  · obtain ⟨h1, h2, h3, h4, h5⟩ := tr_num c h h0
    have hk : (c - 1) / 2 < 32 := by omega
    have p : (c - 1) % 2 = 0 ∨ (c - 1) % 2 = 1 := by omega
    rw [q_coin h h0, sb, if_neg h0]
    by_cases bl : bt l ((c - 1) / 2) = true
    · have n1 : ¬ l &&& ((1 : Int32) <<< (nI ((c - 1) / 2) &&& 31)) = 0 := fun q => by rw [(bit_and hk).mp q] at bl; cases bl
      rw [if_pos bl, if_neg n1, if_neg n1]
      rcases p with p | p
      · rw [if_pos (h3.mpr p), p]; rfl
      · rw [if_neg (fun q => by have := h3.mp q; omega), p]; rfl
    · have n1 : l &&& ((1 : Int32) <<< (nI ((c - 1) / 2) &&& 31)) = 0 := (bit_and hk).mpr (Bool.eq_false_iff.mpr bl)
      rw [if_neg bl, if_pos n1, if_pos n1]
      by_cases br : bt r ((c - 1) / 2) = true
      · have n2 : ¬ r &&& ((1 : Int32) <<< (nI ((c - 1) / 2) &&& 31)) = 0 := fun q => by rw [(bit_and hk).mp q] at br; cases br
        rw [if_pos br, if_neg n2, if_neg n2]
        rcases p with p | p
        · rw [if_pos (h3.mpr p), p]; rfl
        · rw [if_neg (fun q => by have := h3.mp q; omega), p]; rfl
      · have n2 : r &&& ((1 : Int32) <<< (nI ((c - 1) / 2) &&& 31)) = 0 := (bit_and hk).mpr (Bool.eq_false_iff.mpr br)
        rw [if_neg br, if_pos n2, if_pos n2]
        split <;> rfl
