/-! the pure layer, B: ones by the kernel, words of digits, differences -/
theorem pc_eq (v : Nat) : pcN v = pcR v := rfl
theorem on_eq (v : Nat) : onN v = onR v := rfl
theorem pc_on {v : Nat} (h : v < 65536) : pcN v = onN v ∧ (v ≠ 0 → pcN v ≠ 0) := by
  have e := chk_all _ 16 0 bc_ok v (Nat.div_eq_of_lt h)
  have e' : (Nat.beq (pcR v) (onR v) && (Nat.beq v 0 || Nat.ble 1 (pcR v))) = true := e
  rw [Bool.and_eq_true, Bool.or_eq_true] at e'
  rw [pc_eq, on_eq]
  refine ⟨Nat.eq_of_beq_eq_true e'.1, fun h0 q => ?_⟩
  rcases e'.2 with z | z
  · exact h0 (Nat.eq_of_beq_eq_true z)
  · have := Nat.le_of_ble_eq_true z; omega
theorem nz_eq (d : Nat) : nz d = if d = 0 then 0 else 1 := by
  show 1 - (1 - d) = _
  split <;> omega
theorem pc_dg {x : Nat} (h : x < 65536) : pcN (Nat.land (Nat.lor x (x / 2)) 21845) = dgR x := by
  have e := chk_all _ 16 0 dg_ok x (Nat.div_eq_of_lt h)
  exact Nat.eq_of_beq_eq_true e
/-- a word of digits, and how many digits differ -/
def W4 (d : Nat → Nat) : Nat → Nat
  | 0 => 0
  | m + 1 => W4 d m + d m * 4 ^ m
def cn (d e : Nat → Nat) : Nat → Nat
  | 0 => 0
  | m + 1 => cn d e m + if d m = e m then 0 else 1
theorem W4_lt {d : Nat → Nat} (h : ∀ k, d k < 4) : ∀ m, W4 d m < 4 ^ m
  | 0 => Nat.one_pos
  | m + 1 => by
    have h1 := W4_lt h m
    have h2 := Nat.mul_le_mul_right (4 ^ m) (show d m ≤ 3 by have := h m; omega)
    show W4 d m + d m * 4 ^ m < 4 ^ (m + 1)
    rw [Nat.pow_succ]; omega
theorem W4_dig {d : Nat → Nat} (h : ∀ k, d k < 4) : ∀ m k, k < m → W4 d m / 4 ^ k % 4 = d k
  | 0, k, hk => absurd hk (Nat.not_lt_zero k)
  | m + 1, k, hk => by
    show (W4 d m + d m * 4 ^ m) / 4 ^ k % 4 = d k
    have hp : 0 < 4 ^ k := Nat.pow_pos (by omega)
    rcases Nat.lt_or_ge k m with q | q
    · have e : d m * 4 ^ m = 4 ^ k * (4 * (d m * 4 ^ (m - k - 1))) := by
        have e1 : 4 ^ m = 4 ^ k * (4 * 4 ^ (m - k - 1)) := by
          rw [← Nat.pow_succ', ← Nat.pow_add]; congr 1; omega
        rw [e1]
        simp only [Nat.mul_left_comm, Nat.mul_comm, Nat.mul_assoc]
      rw [e, Nat.add_mul_div_left _ _ hp, Nat.add_mul_mod_self_left]
      exact W4_dig h m k q
    · have e : k = m := by omega
      subst e
      rw [Nat.add_mul_div_right _ _ hp, Nat.div_eq_of_lt (W4_lt h k), Nat.zero_add, Nat.mod_eq_of_lt (h k)]
theorem xor_dig (a b k : Nat) : (a ^^^ b) / 4 ^ k % 4 = (a / 4 ^ k % 4) ^^^ (b / 4 ^ k % 4) := by
  have e : (4 : Nat) ^ k = 2 ^ (2 * k) := by rw [Nat.pow_mul]
  rw [e, show (4 : Nat) = 2 ^ 2 from rfl, Nat.xor_div_two_pow, Nat.xor_mod_two_pow]
theorem xor_z : ∀ a, a < 4 → ∀ b, b < 4 → nz (a ^^^ b) = if a = b then 0 else 1 := by decide +kernel
theorem cn_up {d e : Nat → Nat} (hd : ∀ k, d k < 4) (he : ∀ k, e k < 4) : dgR (W4 d 8 ^^^ W4 e 8) = cn d e 8 := by
  have t : ∀ k, k < 8 → ∀ s, dgT (W4 d 8 ^^^ W4 e 8) s (4 ^ k) = s + if d k = e k then 0 else 1 := by
    intro k hk s
    show s + nz ((W4 d 8 ^^^ W4 e 8) / 4 ^ k % 4) = _
    rw [xor_dig, W4_dig hd 8 k hk, W4_dig he 8 k hk, xor_z _ (hd k) _ (he k)]
  have u : ∀ s, dgT (W4 d 8 ^^^ W4 e 8) s 1 = s + if d 0 = e 0 then 0 else 1 := t 0 (by omega)
  unfold dgR
  rw [u, show (4 : Nat) = 4 ^ 1 from rfl, t 1 (by omega), show (16 : Nat) = 4 ^ 2 from rfl, t 2 (by omega), show (64 : Nat) = 4 ^ 3 from rfl, t 3 (by omega), show (256 : Nat) = 4 ^ 4 from rfl, t 4 (by omega), show (1024 : Nat) = 4 ^ 5 from rfl, t 5 (by omega), show (4096 : Nat) = 4 ^ 6 from rfl, t 6 (by omega), show (16384 : Nat) = 4 ^ 7 from rfl, t 7 (by omega)]
  rfl
theorem q_diff {d e : Nat → Nat} (hd : ∀ k, d k < 4) (he : ∀ k, e k < 4) : F_X4_differences (nI (W4 d 8)) (nI (W4 e 8)) = some (nI (cn d e 8)) := by
  have ha : W4 d 8 < 65536 := W4_lt hd 8
  have hb : W4 e 8 < 65536 := W4_lt he 8
  have hx : W4 d 8 ^^^ W4 e 8 < 65536 := Nat.xor_lt_two_pow (n := 16) ha hb
  unfold F_X4_differences
  rw [fb_xorI, pk_shrN (by omega) (1 &&& 31) 1 (by decide)]
  show ((F_J6_bitCount_0f7a4 ((nI (W4 d 8 ^^^ W4 e 8) ||| nI ((W4 d 8 ^^^ W4 e 8) / 2 ^ 1)) &&& nI 21845)).bind fun t1 => some t1) = _
  rw [fa_or, fa_and]
  have hl : ((W4 d 8 ^^^ W4 e 8) ||| (W4 d 8 ^^^ W4 e 8) / 2 ^ 1) &&& 21845 < 65536 := Nat.lt_of_le_of_lt Nat.and_le_right (by omega)
  rw [q_bc hl, sb]
  have e2 := pc_dg hx
  have e3 : pcN (((W4 d 8 ^^^ W4 e 8) ||| (W4 d 8 ^^^ W4 e 8) / 2 ^ 1) &&& 21845) = cn d e 8 := e2.trans (cn_up hd he)
  rw [e3]
theorem W4_cong {d e : Nat → Nat} : ∀ {m}, (∀ k, k < m → d k = e k) → W4 d m = W4 e m
  | 0, _ => rfl
  | m + 1, h => by
    show W4 d m + d m * 4 ^ m = W4 e m + e m * 4 ^ m
    rw [W4_cong (fun k hk => h k (by omega)), h m (by omega)]
theorem cn_cong {d d' e e' : Nat → Nat} : ∀ {m}, (∀ k, k < m → d k = d' k) → (∀ k, k < m → e k = e' k) → cn d e m = cn d' e' m
  | 0, _, _ => rfl
  | m + 1, h, h' => by
    show cn d e m + _ = cn d' e' m + _
    rw [cn_cong (fun k hk => h k (by omega)) (fun k hk => h' k (by omega)), h m (by omega), h' m (by omega)]
theorem cn_le (d e : Nat → Nat) : ∀ m, cn d e m ≤ m
  | 0 => Nat.le_refl 0
  | m + 1 => by
    have := cn_le d e m
    show cn d e m + _ ≤ _
    split <;> omega
def ct (P : Nat) (d : Nat → Nat) : Nat → Nat := fun k => if k < P then d k else 0
theorem ct_lt {P : Nat} {d : Nat → Nat} (h : ∀ k, d k < 4) : ∀ k, ct P d k < 4 := fun k => by
  unfold ct; split
  · exact h k
  · omega
theorem W4_ct {P : Nat} {d : Nat → Nat} : ∀ m, P ≤ m → W4 (ct P d) m = W4 d P
  | 0, h => by rw [show P = 0 by omega]; rfl
  | m + 1, h => by
    rcases Nat.lt_or_ge m P with q | q
    · have e : P = m + 1 := by omega
      subst e
      exact W4_cong (fun k hk => by unfold ct; rw [if_pos hk])
    · show W4 (ct P d) m + ct P d m * 4 ^ m = _
      rw [W4_ct m q, show ct P d m = 0 by unfold ct; rw [if_neg (by omega)], Nat.zero_mul, Nat.add_zero]
theorem cn_ct {P : Nat} {d e : Nat → Nat} (he : ∀ k, P ≤ k → e k = 0) : ∀ m, P ≤ m → cn (ct P d) e m = cn d e P
  | 0, h => by rw [show P = 0 by omega]; rfl
  | m + 1, h => by
    rcases Nat.lt_or_ge m P with q | q
    · have e : P = m + 1 := by omega
      subst e
      exact cn_cong (fun k hk => by unfold ct; rw [if_pos hk]) (fun _ _ => rfl)
    · show cn (ct P d) e m + _ = _
      rw [cn_ct he m q, show ct P d m = 0 by unfold ct; rw [if_neg (by omega)], he m q, if_pos rfl, Nat.add_zero]
theorem or_dig {a t m : Nat} (ha : a < 4 ^ m) : nI a ||| nI (t * 2 ^ (2 * m)) = nI (a + t * 4 ^ m) := by
  have e : (4 : Nat) ^ m = 2 ^ (2 * m) := by rw [Nat.pow_mul]
  rw [e] at ha ⊢
  rw [fa_or, Nat.or_comm, Nat.mul_comm, ← Nat.two_pow_add_eq_or_of_lt ha, Nat.add_comm]
theorem shl_dig {t i : Nat} (ht : t < 4) (hi : i < 8) : nI t <<< ((2 * nI i) &&& 31) = nI (t * 2 ^ (2 * i)) := by
  show nI t <<< ((nI 2 * nI i) &&& 31) = _
  have hp : (2 : Nat) ^ (2 * i) ≤ 2 ^ 14 := Nat.pow_le_pow_right (by omega) (by omega)
  have hm : t * 2 ^ (2 * i) ≤ 3 * 2 ^ 14 := Nat.mul_le_mul (by omega) hp
  rw [pk_mul, pk_shlN _ (2 * i) (s_l (2 * i) (by omega)) (by omega)]
/-- the code word of a case, the word of numbered answers, the rows -/
theorem q_word {x : St} {P c : Nat} (hP : P ≤ 8) (hx : x.1 0 = nI P) (hc : c < 33) : F_X3_codeWord 8 x (nI c) = some (nI (W4 (fun k => tr c (x.2 0 k) (x.2 1 k)) P)) := by
  unfold F_X3_codeWord
  have hd : ∀ k, (fun k => tr c (x.2 0 k) (x.2 1 k)) k < 4 := fun k => by have := tr_le c (x.2 0 k) (x.2 1 k); show tr c _ _ < 4; omega
  refine ind (m := P) (Q := fun N i (_ : Unit) => fx2 (B_X3_codeWord_4 8 x (nI c)) N (nI (W4 (fun k => tr c (x.2 0 k) (x.2 1 k)) i)) (nI i) = some (nI (W4 (fun k => tr c (x.2 0 k) (x.2 1 k)) P))) (fun _ _ => True) ?_ P 0 () 1000 rfl (by omega) trivial
  intro N i s hi _ ih
  show B_X3_codeWord_4 8 x (nI c) (fx2 (B_X3_codeWord_4 8 x (nI c)) N) _ _ = _
  obtain ⟨K0, hK0⟩ : ∃ K, K = fx2 (B_X3_codeWord_4 8 x (nI c)) N := ⟨_, rfl⟩
  rw [← hK0]
  unfold B_X3_codeWord_4
  rw [hx]
  rcases Nat.lt_or_ge i P with q | q
  · rw [if_neg (nI_ge q (by omega)), q_at (by omega) (by omega), sb, q_at (by omega) (by omega), sb, q_ta hc, sb, shl_dig (hd i) (by omega), or_dig (W4_lt hd i), nI_1]
    subst hK0; exact ih () q trivial
  · rw [show i = P by omega, if_pos (nI_le (Nat.le_refl P) (by omega))]
theorem q_wordOf {a : Nat} (ha : a < 2 ^ 31) : F_X4_wordOf (nI a) = some (nI (W4 (fun k => a / 3 ^ k % 3) 8)) := by
  unfold F_X4_wordOf
  have hd : ∀ k, (fun k => a / 3 ^ k % 3) k < 4 := fun k => by show a / 3 ^ k % 3 < 4; omega
  refine ind (m := 8) (Q := fun N i (_ : Unit) => fx3 B_X4_wordOf_6 N (nI (W4 (fun k => a / 3 ^ k % 3) i)) (nI (a / 3 ^ i)) (nI i) = some (nI (W4 (fun k => a / 3 ^ k % 3) 8))) (fun _ _ => True) ?_ 8 0 () 1000 rfl (by omega) trivial |> fun h => by rw [Nat.pow_zero, Nat.div_one] at h; exact h
  intro N i s hi _ ih
  show B_X4_wordOf_6 (fx3 B_X4_wordOf_6 N) _ _ _ = _
  obtain ⟨K0, hK0⟩ : ∃ K, K = fx3 B_X4_wordOf_6 N := ⟨_, rfl⟩
  rw [← hK0]
  unfold B_X4_wordOf_6
  have hl : a / 3 ^ i < 2 ^ 31 := Nat.lt_of_le_of_lt (Nat.div_le_self _ _) ha
  rcases Nat.lt_or_ge i 8 with q | q
  · rw [if_neg (show ¬ (8 : Int32) ≤ nI i from nI_ge (b := 8) q (by omega)), sb]
    rw [show nI (a / 3 ^ i) - nI (a / 3 ^ i) / 3 * 3 = nI (a / 3 ^ i % 3) from pk_rem (d := 3) hl (by omega) (by omega), show nI (a / 3 ^ i) / 3 = nI (a / 3 ^ i / 3) from pk_div (d := 3) hl (by omega) (by omega), shl_dig (by omega) q, or_dig (W4_lt hd i), nI_1, Nat.div_div_eq_div_mul, ← Nat.pow_succ]
    subst hK0; exact ih () q trivial
  · rw [show i = 8 by omega]
    rfl
theorem q_rows {x : St} {P : Nat} (hP : P ≤ 8) (hx : x.1 0 = nI P) : F_X3_answerRows 8 x = some (nI (3 ^ P)) := by
  unfold F_X3_answerRows
  refine ind (m := P) (Q := fun N i (_ : Unit) => fx2 (B_X3_answerRows_4 x) N (nI (3 ^ i)) (nI i) = some (nI (3 ^ P))) (fun _ _ => True) ?_ P 0 () 1000 rfl (by omega) trivial
  intro N i s hi _ ih
  show B_X3_answerRows_4 x (fx2 (B_X3_answerRows_4 x) N) _ _ = _
  obtain ⟨K0, hK0⟩ : ∃ K, K = fx2 (B_X3_answerRows_4 x) N := ⟨_, rfl⟩
  rw [← hK0]
  unfold B_X3_answerRows_4
  rw [hx]
  rcases Nat.lt_or_ge i P with q | q
  · rw [if_neg (nI_ge q (by omega)), show nI (3 ^ i) * 3 = nI (3 ^ i * 3) from pk_mul _ 3, nI_1, ← Nat.pow_succ]
    subst hK0; exact ih () q trivial
  · rw [show i = P by omega, if_pos (nI_le (Nat.le_refl P) (by omega))]
/-- two cases apart by their words -/
theorem q_apart {d e : Nat → Nat} {P : Nat} (hP : P ≤ 8) (hd : ∀ k, d k < 4) (he : ∀ k, e k < 4) : F_X4_differences (nI (W4 d P)) (nI (W4 e P)) = some (nI (cn d e P)) := by
  rw [← W4_ct (d := d) 8 hP, ← W4_ct (d := e) 8 hP, q_diff (ct_lt hd) (ct_lt he), cn_ct (fun k hk => by unfold ct; rw [if_neg (by omega)]) 8 hP]
  rw [cn_cong (d := d) (d' := d) (fun _ _ => rfl) (fun k hk => by show ct P e k = e k; unfold ct; rw [if_pos hk])]
theorem q_near {d : Nat → Nat} {P a : Nat} (hP : P ≤ 8) (hd : ∀ k, d k < 4) (ha : a < 3 ^ P) : F_X4_differences (nI (W4 d P)) (nI (W4 (fun k => a / 3 ^ k % 3) 8)) = some (nI (cn d (fun k => a / 3 ^ k % 3) P)) := by
  rw [← W4_ct (d := d) 8 hP, q_diff (ct_lt hd) (fun k => by show a / 3 ^ k % 3 < 4; omega), cn_ct (fun k hk => by
    show a / 3 ^ k % 3 = 0
    rw [Nat.div_eq_of_lt (Nat.lt_of_lt_of_le ha (Nat.pow_le_pow_right (by omega) hk))]) 8 hP]
