/-! the property, over the pictures -/
theorem l_cell {L : Nat} (hL : L ≤ 260) (xs : Nat → Int32) {i : Nat} (hi : i < 100) : ∃ z, z < 2 ^ 31 ∧ F_L_cell L xs (nI i) = some (nI z) := by
  unfold F_L_cell
  by_cases q : nI L ≤ nI i
  · rw [if_pos q]
    obtain ⟨j, hj, ej⟩ := pk_andE (214013 * (nI i + 43)) (m := 2147483647) 31 (by decide)
    exact ⟨j, hj, by rw [ej]⟩
  · have hlt : i < L := by
      rw [nI_leI (by omega) (by omega)] at q
      omega
    rw [if_neg q, if_neg (nI_in hlt (by omega)), nI_clamp (by omega)]
    obtain ⟨j, hj, ej⟩ := pk_andE (xs i) (m := 2147483647) 31 (by decide)
    exact ⟨j, hj, by rw [ej]⟩
theorem two_n (n : Nat) : (2 : Int32) * nI n + 1 = nI (2 * n + 1) := by
  show nI 2 * nI n + nI 1 = _
  rw [pk_mul, nI_add]
/-- the law's loop -/
theorem l_loop {L : Nat} (hL : L ≤ 260) (xs : Nat → Int32) {n e h S : Nat} {t1 t5 t6 t7 : Int32} (en : 2 + (t1 - t1 / 15 * 15) = nI n) (hn1 : 2 ≤ n) (hn2 : n ≤ 16) (eS : ((t5 &&& t6) &&& t7) &&& 1073741823 = nI S) (hS : S ≤ 1073741823) (hh : h < 2 * n + 1) {Z : ZT} {lo : Nat → Nat}
    (g : OKs n e 0 0 0 lo (Z 0)) (g2 : (Z 0).1 2 = nI h) (g3 : (Z 0).1 3 = nI S) (g4 : lo h = 0) (g5 : HC Z) : ∃ Z', fx4 (B_L_law_123 L xs t1 t5 t6 t7) 1000 1 0 0 Z = some (1, Z') := by
  refine ind (m := 24) (Q := fun N i (s : ZT × Nat) => ∃ Z', fx4 (B_L_law_123 L xs t1 t5 t6 t7) N 1 (nI s.2) (nI i) s.1 = some (1, Z')) (fun i s => ∃ lo, OKs n e i 0 i lo (s.1 0) ∧ (s.1 0).1 2 = nI h ∧ (s.1 0).1 3 = nI S ∧ s.2 = lo h ∧ HC s.1) ?_ 24 0 (Z, 0) 1000 rfl (by omega) ⟨lo, g, g2, g3, g4.symm, g5⟩
  clear g g2 g3 g4 g5
  rintro N i ⟨Z, ld⟩ hi ⟨lo, g, g2, g3, g4, g5⟩ ih
  replace g : OKs n e i 0 i lo (Z 0) := g
  replace g2 : (Z 0).1 2 = nI h := g2
  replace g3 : (Z 0).1 3 = nI S := g3
  replace g4 : ld = lo h := g4
  replace g5 : HC Z := g5
  subst g4
  show ∃ Z', B_L_law_123 L xs t1 t5 t6 t7 (fx4 (B_L_law_123 L xs t1 t5 t6 t7) N) 1 (nI (lo h)) (nI i) Z = some (1, Z')
  obtain ⟨K0, hK0⟩ : ∃ K, K = fx4 (B_L_law_123 L xs t1 t5 t6 t7) N := ⟨_, rfl⟩
  rw [← hK0]
  unfold B_L_law_123
  rw [en, eS, two_n]
  rcases Nat.lt_or_ge i 24 with q | q
  · rw [if_neg (show ¬ (24 : Int32) ≤ nI i from nI_ge (b := 24) q (by omega)), if_neg one0]
    obtain ⟨z, hz, ez⟩ := l_cell hL xs (i := 6 + i) (by omega)
    rw [show (6 : Int32) + nI i = nI (6 + i) from nI_add 6 i, ez, sb]
    rw [show nI n / 2 = nI (n / 2) from pk_div (d := 2) (by omega) (by omega) (by omega)]
    rw [if_neg (nI_ne0 (show 0 < n / 2 by omega) (by omega))]
    rw [show (1 : Int32) + (nI z - nI z / nI (n / 2) * nI (n / 2)) = nI (1 + z % (n / 2)) by rw [pk_rem hz (by omega) (by omega)]; exact nI_add 1 _, sb]
    have hm := Nat.mod_lt z (show 0 < n / 2 by omega)
    obtain ⟨hf, ehf⟩ : ∃ hf, hf = 1 + z % (n / 2) := ⟨_, rfl⟩
    rw [← ehf]
    have hf1 : 1 ≤ hf := by omega
    have hf2 : 2 * hf ≤ n := by omega
    rw [show (nI n - 2 * nI hf) + 1 = nI (n - 2 * hf + 1) by rw [show (2 : Int32) * nI hf = nI (2 * hf) from pk_mul 2 hf, pk_sub hf2, nI_1]]
    rw [if_neg (nI_ne0 (show 0 < n - 2 * hf + 1 by omega) (by omega))]
    rw [show nI z / 32 = nI (z / 32) from pk_div (d := 32) hz (by omega) (by omega)]
    rw [show nI (z / 32) - nI (z / 32) / nI (n - 2 * hf + 1) * nI (n - 2 * hf + 1) = nI (z / 32 % (n - 2 * hf + 1)) from pk_rem (by omega) (by omega) (by omega), sb]
    have hm2 := Nat.mod_lt (z / 32) (show 0 < n - 2 * hf + 1 by omega)
    obtain ⟨sh, esh⟩ : ∃ sh, sh = z / 32 % (n - 2 * hf + 1) := ⟨_, rfl⟩
    rw [← esh]
    have hs := l_sides (y := Z 0) g.2.1.1 hn2 hf1 (show 2 * hf + sh ≤ n by omega)
    rw [show (((1 : Int32) <<< (nI hf &&& 31)) - 1) <<< (nI sh &&& 31) = gA hf sh from rfl]
    rw [show gA hf sh <<< (nI hf &&& 31) = gB hf sh from rfl, sb, l_v3 g, sb]
    dsimp only
    rw [show nI z / 1024 = nI (z / 1024) from pk_div (d := 1024) hz (by omega) (by omega)]
    rw [show nI (z / 1024) - nI (z / 1024) / 20 * 20 = nI (z / 1024 % 20) from pk_rem (d := 20) (by omega) (by omega) (by omega)]
    rw [l_splits g hs (Nat.mod_lt (z / 1024) (show 0 < 20 by omega)), sb]
    dsimp only
    rw [(lie_bit hS (show i < 30 by omega)).2, nI_add, sb]
    obtain ⟨v, Z1, lo', a1, a2, a3, a4, a5, a6, a7, a8⟩ := l_ask g (by omega) (by omega) g2 hh g3 hS g5 hs
    rw [a1, sb]
    dsimp only
    rw [if_neg one0, if_neg (nI_pos (by omega)), if_neg (show ¬ (2 : Int32) < nI v from nI_nlt (a := 2) a2 (by omega)), l_v2, sb]
    dsimp only
    rw [a3.2.1.2.2.1, nI_1, if_pos rfl, l_v6, sb]
    dsimp only
    rw [a3.2.1.2.2.2.2, if_pos rfl, l_v3 a3, sb]
    dsimp only
    have hle := nl_le e lo (2 * n + 1)
    rw [if_neg (nI_nlt (nl_mono (2 * n + 1) a7) (by omega)), ← a6, gl_holds a3 a4 hh, sb]
    dsimp only
    rw [if_neg one0]
    subst hK0
    exact ih (Z1, lo' h) q ⟨lo', a3, a4, a5, rfl, a8⟩
  · obtain rfl : i = 24 := by omega
    rw [if_pos (show (24 : Int32) ≤ nI 24 by decide), l_v3 g, sb]
    dsimp only
    rw [if_neg one0]
    obtain ⟨Z1, c, f1, f2, f3, f4, f5⟩ := l_forget g g5
    rw [f1, sb]
    dsimp only
    rw [if_pos (show nI 24 = 24 from rfl), l_v3 f2, sb]
    dsimp only
    rw [nl_all, if_pos rfl, l_v2, sb]
    dsimp only
    rw [f2.2.1.2.2.1, if_pos (show nI 0 = 0 from rfl)]
    obtain ⟨Z2, u1, u2⟩ := l_undo f3 f4
    rw [u1, sb]
    dsimp only
    rw [if_neg (nI_pos (by omega))]
    have ga : OKs n e 24 0 24 lo (Z2 0) := g.ag (f5.trans u2)
    have h2 : (Z2 0).1 2 = nI h := by rw [(f5.trans u2).1 2 (by omega)]; exact g2
    rw [l_v3 ga, sb]
    dsimp only
    rw [if_pos rfl, l_v2, sb]
    dsimp only
    rw [ga.2.1.2.2.1, if_pos (show nI 24 = 24 from rfl)]
    have w01 : F_X2_isWeighing (Z2 0) 0 1 = some 0 := if_pos rfl
    have w11 : F_X2_isWeighing (Z2 0) 1 1 = some 0 := (if_neg one0).trans (if_neg (show ¬ (1 : Int32) &&& 1 = 0 by decide))
    rw [l_refuse w01, sb, if_pos rfl, l_refuse w11, sb, if_pos rfl, gl_holds ga h2 hh, sb]
    dsimp only
    rw [if_neg one0]
    exact ⟨Z2, rfl⟩
/-- the law's picture answers 1 -/
theorem law_true {L : Nat} (hL : L ≤ 260) (xs : Nat → Int32) : ∃ y0, F_X2_start z00 8 = some y0 ∧ ∃ Z', F_L_law L xs (zN y0) = some (1, Z') := by
  obtain ⟨y0, s1, s2, s3, s4⟩ := y_start (n := 8) (by omega) (by omega) z00
  refine ⟨y0, s1, ?_⟩
  obtain ⟨z0, hz0, c0⟩ := l_cell hL xs (i := 0) (by omega)
  obtain ⟨z1, hz1, c1⟩ := l_cell hL xs (i := 1) (by omega)
  obtain ⟨z2, hz2, c2⟩ := l_cell hL xs (i := 2) (by omega)
  obtain ⟨z3, hz3, c3⟩ := l_cell hL xs (i := 3) (by omega)
  obtain ⟨z4, hz4, c4⟩ := l_cell hL xs (i := 4) (by omega)
  obtain ⟨z5, hz5, c5⟩ := l_cell hL xs (i := 5) (by omega)
  replace c0 : F_L_cell L xs 0 = some (nI z0) := c0
  replace c1 : F_L_cell L xs 1 = some (nI z1) := c1
  replace c2 : F_L_cell L xs 2 = some (nI z2) := c2
  replace c3 : F_L_cell L xs 3 = some (nI z3) := c3
  replace c4 : F_L_cell L xs 4 = some (nI z4) := c4
  replace c5 : F_L_cell L xs 5 = some (nI z5) := c5
  have hm0 := Nat.mod_lt z0 (show 0 < 15 by omega)
  have en : (2 : Int32) + (nI z0 - nI z0 / 15 * 15) = nI (2 + z0 % 15) := by
    rw [show nI z0 - nI z0 / 15 * 15 = nI (z0 % 15) from pk_rem (d := 15) hz0 (by omega) (by omega)]
    exact nI_add 2 _
  obtain ⟨n, hn⟩ : ∃ n, n = 2 + z0 % 15 := ⟨_, rfl⟩
  rw [← hn] at en
  have hn1 : 2 ≤ n := by omega
  have hn2 : n ≤ 16 := by omega
  have hm1 := Nat.mod_lt z1 (show 0 < 2 * n + 1 by omega)
  have hm5 := Nat.mod_lt z5 (show 0 < 3 by omega)
  have hc : HC (zN y0) := ⟨0, by omega, rfl⟩
  obtain ⟨Z1, b1, b2, b3, b4⟩ := l_begin (Z := zN y0) (n := n) s2.2.1.2.2.1 hc hn1 hn2
  obtain ⟨Z2, d1, d2, d3, d4⟩ := l_limit b2 b4 (f := z5 % 3) (by omega)
  obtain ⟨S, hS, eS⟩ := pk_andE ((nI z2 &&& nI z3) &&& nI z4) (m := 1073741823) 30 (by decide)
  obtain ⟨Z3, k1, k2, k3, k4, k5⟩ := l_hide d2 (d3.trans b3) d4 (h := z1 % (2 * n + 1)) (S := S) hm1 (by omega)
  have hk : F_L_holds Z3 0 = some (1, Z3) := gl_holds k2 k3 hm1
  obtain ⟨Z', hZ⟩ := l_loop hL xs en hn1 hn2 eS (by omega) hm1 k2 k3 k4 rfl k5
  refine ⟨Z', ?_⟩
  unfold F_L_law
  rw [c0, sb, c1, sb, en, two_n, if_neg (nI_ne0 (show 0 < 2 * n + 1 by omega) (by omega))]
  rw [show nI z1 - nI z1 / nI (2 * n + 1) * nI (2 * n + 1) = nI (z1 % (2 * n + 1)) from pk_rem hz1 (by omega) (by omega), sb, c2, sb, c3, sb, c4, sb, b1, sb]
  dsimp only
  rw [if_pos rfl, l_refuse2 b2 b3, sb, if_pos rfl, c5, sb]
  rw [show nI z5 - nI z5 / 3 * 3 = nI (z5 % 3) from pk_rem (d := 3) hz5 (by omega) (by omega), d1, sb]
  dsimp only
  rw [nl_all, if_pos rfl, eS, k1, sb]
  dsimp only
  rw [if_pos rfl, hk, sb]
  dsimp only
  rw [if_neg one0]
  exact hZ
