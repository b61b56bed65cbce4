/-! the pure layer, K: the calls, one by one -/
theorem Inv.thr {Z : ZT} {x : St} (h : Inv Z x) (v : Int32) : Inv Z (sI x 1 v) := h
theorem y_forget (y : St) : ∃ y', F_X2_forgetTold y = some y' ∧ (∀ k, k ≠ 5 → y'.1 k = y.1 k) ∧ y'.1 5 = 0 ∧ (∀ k, k ≠ 6 → y'.2 k = y.2 k) ∧ ∀ c, c < 33 → y'.2 6 c = 0 := by
  unfold F_X2_forgetTold
  have k := ind (m := 33) (Q := fun N i (s : St) => ∃ y', fx2 B_X2_forgetTold_10 N (nI i) s = some y' ∧ y'.1 = (sI y 5 0).1 ∧ (∀ k, k ≠ 6 → y'.2 k = y.2 k) ∧ ∀ c, c < 33 → y'.2 6 c = 0) (fun i s => s.1 = (sI y 5 0).1 ∧ (∀ k, k ≠ 6 → s.2 k = y.2 k) ∧ ∀ c, c < i → s.2 6 c = 0) (by
    intro N i s hi hs ih
    show ∃ y', B_X2_forgetTold_10 (fx2 B_X2_forgetTold_10 N) (nI i) s = some y' ∧ _
    unfold B_X2_forgetTold_10
    rcases Nat.lt_or_ge i 33 with q | q
    · rw [if_neg (show ¬ (33 : Int32) ≤ nI i from nI_ge (b := 33) q (by omega)), q_put q (by omega), sb, nI_1]
      refine ih _ q ⟨hs.1, fun k hk => ?_, fun c hc => ?_⟩
      · show (if k = 6 then _ else s.2 k) = _
        rw [if_neg hk]; exact hs.2.1 k hk
      · show upd (s.2 6) i 0 c = 0
        by_cases g : c = i
        · subst g; exact ux_at _ _ _
        · rw [ux_ne _ _ g]; exact hs.2.2 c (by omega)
    · rw [show i = 33 by omega] at hs ⊢
      exact ⟨s, rfl, hs⟩) 33 0 (sI y 5 0) 1000 rfl (by omega) ⟨rfl, fun _ _ => rfl, fun c hc => absurd hc (Nat.not_lt_zero c)⟩
  obtain ⟨y', k1, k2, k3, k4⟩ := k
  exact ⟨y', k1, fun k hk => by rw [k2]; exact if_neg hk, by rw [k2]; rfl, k3, k4⟩
theorem y_start {n : Nat} (h1 : 2 ≤ n) (h2 : n ≤ 16) (y : St) : ∃ y', F_X2_start y (nI n) = some y' ∧ OKs n 1 0 0 0 (fun _ => 0) y' ∧ y'.1 2 = -1 ∧ y'.1 3 = 0 := by
  unfold F_X2_start
  obtain ⟨y', e, k1, k2, k3, k4⟩ := y_forget (sI (sI (sI (sI (sI (sI y 0 (nI n)) 1 1) 6 0) 2 (-1)) 3 0) 4 0)
  have a2 : y'.1 2 = -1 := by rw [k1 2 (by omega)]; rfl
  have a3 : y'.1 3 = 0 := by rw [k1 3 (by omega)]; rfl
  refine ⟨y', (be (show F_X2_hideCase _ _ _ = some _ from rfl)).trans ((be e).trans rfl), ⟨⟨h1, h2, by omega, by omega, by omega, by omega⟩, ⟨?_, ?_, k2, ?_, ?_⟩, fun c hc => ⟨k4 c hc, Nat.le_refl 0⟩, .inl a2, 0, a3, by omega⟩, a2, a3⟩
  · rw [k1 0 (by omega)]; rfl
  · rw [k1 1 (by omega)]; rfl
  · rw [k1 6 (by omega)]; rfl
  · rw [k1 4 (by omega)]; rfl
theorem x_sets (x : St) (v : Int32) : ∃ x', F_X5_sets x v = some x' ∧ x'.1 = x.1 ∧ (∀ k, k ≠ 0 → x'.2 k = x.2 k) ∧ ∀ j, j < 176 → x'.2 0 j = if j = 4 then -1 else if j = 1 then 1 else if j = 0 then v else 0 := by
  unfold F_X5_sets
  refine ind (m := 176) (Q := fun N i (s : St) => ∃ x', fx2 (B_X5_sets_2 v) N (nI i) s = some x' ∧ x'.1 = x.1 ∧ (∀ k, k ≠ 0 → x'.2 k = x.2 k) ∧ ∀ j, j < 176 → x'.2 0 j = if j = 4 then -1 else if j = 1 then 1 else if j = 0 then v else 0) (fun i s => s.1 = x.1 ∧ (∀ k, k ≠ 0 → s.2 k = x.2 k) ∧ ∀ j, j < i → s.2 0 j = 0) ?_ 176 0 x 1000 rfl (by omega) ⟨rfl, fun _ _ => rfl, fun c hc => absurd hc (Nat.not_lt_zero c)⟩
  intro N i s hi hs ih
  show ∃ x', B_X5_sets_2 v (fx2 (B_X5_sets_2 v) N) (nI i) s = some x' ∧ _
  unfold B_X5_sets_2
  rcases Nat.lt_or_ge i 176 with q | q
  · rw [if_neg (show ¬ (176 : Int32) ≤ nI i from nI_ge (b := 176) q (by omega)), if_neg (nI_in q (by omega)), sb, nI_1, nI_clamp (by omega)]
    refine ih _ q ⟨hs.1, fun k hk => ?_, fun c hc => ?_⟩
    · show (if k = 0 then _ else s.2 k) = _
      rw [if_neg hk]; exact hs.2.1 k hk
    · show upd (s.2 0) i 0 c = 0
      by_cases g : c = i
      · subst g; exact ux_at _ _ _
      · rw [ux_ne _ _ g]; exact hs.2.2 c (by omega)
  · rw [show i = 176 by omega] at hs ⊢
    refine ⟨_, rfl, hs.1, fun k hk => ?_, fun j hj => ?_⟩
    · show (if k = 0 then _ else if k = 0 then _ else if k = 0 then _ else s.2 k) = _
      rw [if_neg hk, if_neg hk, if_neg hk]; exact hs.2.1 k hk
    · show upd (upd (upd (s.2 0) 0 v) 1 1) 4 (-1) j = _
      by_cases g4 : j = 4
      · subst g4; rfl
      · rw [ux_ne _ _ g4, if_neg g4]
        by_cases g1 : j = 1
        · subst g1; rfl
        · rw [ux_ne _ _ g1, if_neg g1]
          by_cases g0 : j = 0
          · subst g0; rfl
          · rw [ux_ne _ _ g0, if_neg g0]; exact hs.2.2 j hj
theorem good_start {n : Nat} {y : St} {σ : Nat → Int32} (h : OKs n 1 0 0 0 (fun _ => 0) y) (hs : ∀ j, j < 176 → σ j = if j = 4 then -1 else if j = 1 then 1 else if j = 0 then nI n else 0) (h2 : y.1 2 = -1) (h3 : y.1 3 = 0) : Good y σ := by
  refine ⟨n, 1, 0, 0, 0, fun _ => 0, h, ⟨?_, ?_, ?_, ?_, ?_, ?_, ?_⟩, fun c hc => ?_, fun i hi => absurd hi (Nat.not_lt_zero i), fun i hi => absurd hi (Nat.not_lt_zero i)⟩
  · rw [hs 0 (by omega), h.2.1.1]; rfl
  · rw [hs 1 (by omega), h.2.1.2.1]; rfl
  · rw [hs 2 (by omega), h.2.1.2.2.1]; rfl
  · rw [hs 3 (by omega), h.2.1.2.2.2.1]; rfl
  · rw [hs 4 (by omega), h2]; rfl
  · rw [hs 5 (by omega), h.2.1.2.2.2.2]; rfl
  · rw [hs 6 (by omega), h3]; rfl
  · rw [hs _ (by omega), (h.2.2.1 c hc).1, if_neg (by omega), if_neg (by omega), if_neg (by omega)]; rfl
def SOK (FL : Option (Int32 × ZT × (Nat → Int64))) (FX : Option (Int32 × St)) : Prop := ∃ (k : Int32) (Z1 : ZT) (g1 : Nat → Int64) (b1 : Int32) (x1 : St), FL = some (k, Z1, g1) ∧ FX = some (b1, x1) ∧ x1.1 1 = k ∧ (k = 0 → g1 0 = b1.toInt64) ∧ Inv Z1 x1
def SOL (FL : Option (Int32 × ZT × (Nat → Int64))) (FX : Option (Int64 × St)) : Prop := ∃ (k : Int32) (Z1 : ZT) (g1 : Nat → Int64) (b1 : Int64) (x1 : St), FL = some (k, Z1, g1) ∧ FX = some (b1, x1) ∧ x1.1 1 = k ∧ (k = 0 → g1 0 = b1) ∧ Inv Z1 x1
theorem SOK.ok {FL : Option (Int32 × ZT × (Nat → Int64))} {FX : Option (Int32 × St)} {Z1 : ZT} {g1 : Nat → Int64} {b1 : Int32} {x1 : St} (e1 : FL = some (0, Z1, g1)) (e2 : FX = some (b1, x1)) (h0 : x1.1 1 = 0) (hg : g1 0 = b1.toInt64) (hI : Inv Z1 x1) : SOK FL FX := ⟨0, Z1, g1, b1, x1, e1, e2, h0, fun _ => hg, hI⟩
theorem SOK.no {FL : Option (Int32 × ZT × (Nat → Int64))} {FX : Option (Int32 × St)} {Z : ZT} {g : Nat → Int64} {b1 c : Int32} {x : St} (hI : Inv Z x) (hc : c ≠ 0) (e1 : FL = some (c, Z, g)) (e2 : FX = some (b1, sI x 1 c)) : SOK FL FX := ⟨c, Z, g, b1, sI x 1 c, e1, e2, rfl, fun q => absurd q hc, hI.thr c⟩
theorem SOL.ok {FL : Option (Int32 × ZT × (Nat → Int64))} {FX : Option (Int64 × St)} {Z1 : ZT} {g1 : Nat → Int64} {b1 : Int64} {x1 : St} (e1 : FL = some (0, Z1, g1)) (e2 : FX = some (b1, x1)) (h0 : x1.1 1 = 0) (hg : g1 0 = b1) (hI : Inv Z1 x1) : SOL FL FX := ⟨0, Z1, g1, b1, x1, e1, e2, h0, fun _ => hg, hI⟩
theorem SOL.no {FL : Option (Int32 × ZT × (Nat → Int64))} {FX : Option (Int64 × St)} {Z : ZT} {g : Nat → Int64} {b1 : Int64} {c : Int32} {x : St} (hI : Inv Z x) (hc : c ≠ 0) (e1 : FL = some (c, Z, g)) (e2 : FX = some (b1, sI x 1 c)) : SOL FL FX := ⟨c, Z, g, b1, sI x 1 c, e1, e2, rfl, fun q => absurd q hc, hI.thr c⟩
theorem rng_no {α : Type} {v lo hi : Int32} {A B : α} (h : v < lo ∨ hi < v) : (if v < lo then A else if v ≤ hi then B else A) = A := by
  by_cases q : v < lo
  · rw [if_pos q]
  · rw [if_neg q, if_neg (Int32.not_le.mpr (h.resolve_left q))]
theorem rng_yes {α : Type} {v lo hi : Int32} {A B : α} (h : ¬ v < lo) (h2 : v ≤ hi) : (if v < lo then A else if v ≤ hi then B else A) = B := by rw [if_neg h, if_pos h2]
theorem one_ne : (1 : Int32) ≠ 0 := by decide
theorem two_ne : (2 : Int32) ≠ 0 := by decide
theorem le00 : (0 : Int32) ≤ 0 := by decide
section ST
variable {Z : ZT} {x : St}
theorem st_begin (h : Inv Z x) (g : Nat → Int64) (v : Int32) : SOK (F_L_begin Z g v) (F_X5_begin x v) := by
  rcases q_in (v := v) (a := 2) (b := 16) (by omega) (by omega) with ⟨z, n, n1, n2, rfl⟩ | ⟨z, z2⟩
  · obtain ⟨n0, e, T, P, a, lo, og, om⟩ := h.1
    obtain ⟨Z', b, e1, hz, e2, b1, b2, fin⟩ := keeps h
    obtain ⟨y', e3, o, o2, o3⟩ := y_start n1 n2 (Z' 0)
    obtain ⟨x1, e4, x11, x12, x13⟩ := x_sets b (nI n)
    obtain ⟨x', e5, f1, f2⟩ := fin x1 y' (b.2 0 2) (by rw [x11]) (by rw [x11]) (x12 1 (by omega)) (x12 2 (by omega)) (x12 3 (by omega)) (good_start o x13 o2 o3)
    have c4 : F_X4_begin Z (nI n) = some (.inr ((Z' 0).1 5, zU Z' 0 y')) := by
      unfold F_X4_begin
      exact (rng_yes (nI_nlt (b := 2) n1 (by omega)) (nI_le (b := 16) n2 (by omega))).trans ((be e1).trans ((be e3).trans rfl))
    have c5 : F_X5_begin x (nI n) = some (b.2 0 2, x') := by
      unfold F_X5_begin
      exact (be z).trans ((if_neg one0).trans ((be e2).trans ((be e4).trans ((be e5).trans rfl))))
    exact SOK.ok ((be c4).trans rfl) c5 f1 (by show ((Z' 0).1 5).toInt64 = _; rw [hz, b2 0 (by omega), om.1.2.2.1]) f2
  · have c4 : F_X4_begin Z v = some (.inl "java/lang/IllegalArgumentException") := rng_no z2
    have c5 : F_X5_begin x v = some (0, sI x 1 1) := (be z).trans ((if_pos rfl).trans rfl)
    exact SOK.no (g := g) h one_ne ((be c4).trans (if_pos rfl)) c5
theorem st_setLimit (h : Inv Z x) (g : Nat → Int64) (v : Int32) : SOK (F_L_setLimit Z g v) (F_X5_setLimit x v) := by
  rcases q_in (v := v) (a := 0) (b := 2) (by omega) (by omega) with ⟨z, j, n1, n2, rfl⟩ | ⟨z, z2⟩
  · obtain ⟨n, e, T, P, a, lo, og, om⟩ := h.1
    obtain ⟨Z', b, e1, hz, e2, b1, b2, fin⟩ := keeps h
    have o' : OKs n j T P a lo (sI (Z' 0) 1 (nI j)) := by
      rw [hz]
      exact ⟨⟨og.1.1, og.1.2.1, n2, og.1.2.2.2⟩, ⟨og.2.1.1, rfl, og.2.1.2.2⟩, og.2.2⟩
    have m' : MSs T P (sI (Z' 0) 1 (nI j)) ((sA b 0 (upd (b.2 0) 1 (nI j))).2 0) := by
      rw [hz]
      have ux1 : ∀ k, k ≠ 1 → (sA b 0 (upd (b.2 0) 1 (nI j))).2 0 k = x.2 0 k := fun k hk => by
        show upd (b.2 0) 1 _ k = _
        rw [ux_ne _ _ hk, b2 0 (by omega)]
      obtain ⟨⟨m0, m1, m2, m3, m4, m5, m6⟩, mc, mt, mp⟩ := om
      exact ⟨⟨(ux1 _ (by omega)).trans m0, rfl, (ux1 _ (by omega)).trans m2, (ux1 _ (by omega)).trans m3, (ux1 _ (by omega)).trans m4, (ux1 _ (by omega)).trans m5, (ux1 _ (by omega)).trans m6⟩, fun c hc => (ux1 _ (by omega)).trans (mc c hc), fun i hi => ⟨(ux1 _ (by omega)).trans (mt i hi).1, (ux1 _ (by omega)).trans (mt i hi).2.1, (ux1 _ (by omega)).trans (mt i hi).2.2⟩, fun i hi => ⟨(ux1 _ (by omega)).trans (mp i hi).1, (ux1 _ (by omega)).trans (mp i hi).2⟩⟩
    have k1 := y_count o'.cy o'.sz
    have k2 := x_lefts (o'.cx (x := sA b 0 (upd (b.2 0) 1 (nI j))) m') o'.sz
    obtain ⟨x', e5, f1, f2⟩ := fin (sA b 0 (upd (b.2 0) 1 (nI j))) (sI (Z' 0) 1 (nI j)) (nI (nl j lo (2 * n + 1))) rfl rfl rfl rfl rfl ⟨n, j, T, P, a, lo, o', m'⟩
    have c4 : F_X4_setLimit Z (nI j) = some (.inr (nI (nl j lo (2 * n + 1)), zU Z' 0 (sI (Z' 0) 1 (nI j)))) := by
      unfold F_X4_setLimit
      exact (rng_yes (nI_pos (by omega)) (nI_le (b := 2) n2 (by omega))).trans ((be e1).trans ((be k1).trans rfl))
    have c5 : F_X5_setLimit x (nI j) = some (nI (nl j lo (2 * n + 1)), x') := by
      unfold F_X5_setLimit
      exact (be z).trans ((if_neg one0).trans ((be e2).trans ((be k2).trans ((be e5).trans rfl))))
    exact SOK.ok ((be c4).trans rfl) c5 f1 rfl f2
  · have c4 : F_X4_setLimit Z v = some (.inl "java/lang/IllegalArgumentException") := rng_no z2
    have c5 : F_X5_setLimit x v = some (0, sI x 1 1) := (be z).trans ((if_pos rfl).trans rfl)
    exact SOK.no (g := g) h one_ne ((be c4).trans (if_pos rfl)) c5
theorem st_tell (h : Inv Z x) (g : Nat → Int64) (l r v : Int32) : SOK (F_L_tell Z g l r v) (F_X5_tell x l r v) := by
  obtain ⟨n, e, T, P, a, lo, og, om⟩ := h.1
  obtain ⟨b0, s1, s2, hb⟩ := both_sides og.1.1 og.1.2.1 og.2.1.1 (by rw [om.1.1]; exact og.2.1.1) l r
  have hT := og.1.2.2.2.1
  have y1 := y_learnable og.2.1.2.2.1 hT
  have no1 : ∀ k : Option Int32, F_X5_whyNotTell x l r v = some 1 → F_X5_tell x l r v = some (0, sI x 1 1) := fun _ e => (be e).trans ((if_neg (show ¬ (1 : Int32) ≤ 0 by decide)).trans rfl)
  rcases both_ans v with ⟨a1, a2, c, hc, rfl⟩ | ⟨a1, a2⟩
  · have wt := x_tellable og om s2 hb a2 (.inr rfl)
    rcases hb with rfl | ⟨rfl, hl⟩
    · rw [if_pos rfl] at wt
      have c4 : F_X4_tell Z l r (nI c) = some (.inl "java/lang/IllegalArgumentException") := (be s1).trans (if_pos rfl)
      exact SOK.no (g := g) h one_ne ((be c4).trans (if_pos rfl)) (no1 none wt)
    · rw [if_neg one0, if_neg one0] at wt
      by_cases q : T < 40
      · rw [if_pos q] at wt y1
        obtain ⟨Z', b, e1, hz, e2, b1, b2, fin⟩ := keeps h
        obtain ⟨y', x1, lo', k1, k2, k3, k4, k5, k6⟩ := both_learn (x := b) og (by rw [b2 0 (by omega)]; exact om) q l r (nI c)
        rw [← hz] at k1
        have v1 := y_count k5.cy k5.sz
        have v2 := x_lefts (k5.cx k6) k5.sz
        obtain ⟨x', e5, f1, f2⟩ := fin x1 y' (nI (nl e lo' (2 * n + 1))) (by rw [k3]) (by rw [k3]) (k4 1 (by omega)) (k4 2 (by omega)) (k4 3 (by omega)) ⟨n, e, T + 1, P, a, lo', k5, k6⟩
        have c4 : F_X4_tell Z l r (nI c) = some (.inr (nI (nl e lo' (2 * n + 1)), zU Z' 0 y')) := (be s1).trans ((if_neg one0).trans ((be a1).trans ((if_neg one0).trans ((be y1).trans ((if_neg one0).trans ((be e1).trans ((be k1).trans ((be v1).trans rfl))))))))
        have c5 : F_X5_tell x l r (nI c) = some (nI (nl e lo' (2 * n + 1)), x') := (be wt).trans ((if_pos le00).trans ((be e2).trans ((be k2).trans ((be v2).trans ((be e5).trans rfl)))))
        exact SOK.ok ((be c4).trans rfl) c5 f1 rfl f2
      · rw [if_neg q] at wt y1
        have c4 : F_X4_tell Z l r (nI c) = some (.inl "java/lang/IllegalStateException") := (be s1).trans ((if_neg one0).trans ((be a1).trans ((if_neg one0).trans ((be y1).trans (if_pos rfl)))))
        exact SOK.no (g := g) h two_ne ((be c4).trans ((if_neg (by decide)).trans (if_pos rfl))) ((be wt).trans ((if_neg (show ¬ (2 : Int32) ≤ 0 by decide)).trans rfl))
  · have wt := x_tellable og om s2 hb a2 (.inl rfl)
    have wt1 : F_X5_whyNotTell x l r v = some 1 := by
      rw [wt]
      by_cases q : b0 = 0
      · rw [if_pos q]
      · rw [if_neg q, if_pos rfl]
    have c4 : F_X4_tell Z l r v = some (.inl "java/lang/IllegalArgumentException") := by
      refine (be s1).trans ?_
      rcases hb with rfl | ⟨rfl, -⟩
      · exact if_pos rfl
      · exact (if_neg one0).trans ((be a1).trans (if_pos rfl))
    exact SOK.no (g := g) h one_ne ((be c4).trans (if_pos rfl)) (no1 none wt1)
theorem st_forget (h : Inv Z x) : ∃ (v : Int32) (Z1 : ZT) (x1 : St), F_X4_forget Z = some (v, Z1) ∧ F_X5_forget x = some (v, x1) ∧ Inv Z1 x1 := by
  obtain ⟨n, e, T, P, a, lo, og, om⟩ := h.1
  obtain ⟨Z', b, e1, hz, e2, b1, b2, fin⟩ := keeps h
  obtain ⟨y', e3, y1, y2, y3, y4⟩ := y_forget (Z' 0)
  have hb0 := b2 0 (by omega)
  obtain ⟨⟨m0, m1, m2, m3, m4, m5, m6⟩, mc, mt, mp⟩ := om
  have o' : OKs n e 0 P a (fun _ => 0) y' := ⟨⟨og.1.1, og.1.2.1, og.1.2.2.1, by omega, og.1.2.2.2.2⟩, ⟨by rw [y1 0 (by omega), hz]; exact og.2.1.1, by rw [y1 1 (by omega), hz]; exact og.2.1.2.1, y2, by rw [y1 6 (by omega), hz]; exact og.2.1.2.2.2.1, by rw [y1 4 (by omega), hz]; exact og.2.1.2.2.2.2⟩, fun c hc => ⟨y4 c hc, Nat.le_refl 0⟩, by rw [y1 2 (by omega), hz]; exact og.2.2.2.1, by rw [y1 3 (by omega), hz]; exact og.2.2.2.2⟩
  have k := ind (m := 33) (Q := fun N i (s : St) => ∃ x', fx2 (B_X5_forget_20 b) N (nI i) s = some (b.2 0 2, x') ∧ Inv (zU Z' 0 y') x') (fun i s => s.1 = b.1 ∧ (∀ k, k ≠ 0 → s.2 k = b.2 k) ∧ s.2 0 2 = 0 ∧ (∀ c, c < i → s.2 0 (143 + c) = 0) ∧ ∀ j, j ≠ 2 → j < 143 → s.2 0 j = x.2 0 j) (by
    intro N i s hi hs ih
    show ∃ x', B_X5_forget_20 b (fx2 (B_X5_forget_20 b) N) (nI i) s = some (b.2 0 2, x') ∧ _
    unfold B_X5_forget_20
    rcases Nat.lt_or_ge i 33 with q | q
    · rw [if_neg (show ¬ (33 : Int32) ≤ nI i from nI_ge (b := 33) q (by omega)), g143 q, if_neg (nI_in (by omega) (by omega)), sb, nI_1, nI_clamp (by omega)]
      refine ih _ q ⟨hs.1, fun k hk => ?_, ?_, fun c hc => ?_, fun j h1 h2 => ?_⟩
      · show (if k = 0 then _ else s.2 k) = _
        rw [if_neg hk]; exact hs.2.1 k hk
      · exact (ux_ne _ _ (by omega)).trans hs.2.2.1
      · show upd (s.2 0) (143 + i) 0 (143 + c) = 0
        by_cases g : c = i
        · subst g; exact ux_at _ _ _
        · rw [ux_ne _ _ (by omega)]; exact hs.2.2.2.1 c (by omega)
      · exact (ux_ne _ _ (by omega)).trans (hs.2.2.2.2 j h1 h2)
    · rw [show i = 33 by omega] at hs ⊢
      rw [if_pos (show (33 : Int32) ≤ nI 33 by decide)]
      obtain ⟨s1, s2, s3, s4, s5⟩ := hs
      obtain ⟨x', e5, f1, f2⟩ := fin s y' (b.2 0 2) (by rw [s1]) (by rw [s1]) (s2 1 (by omega)) (s2 2 (by omega)) (s2 3 (by omega)) ⟨n, e, 0, P, a, fun _ => 0, o', ⟨by rw [s5 0 (by omega) (by omega), y1 0 (by omega), hz, m0], by rw [s5 1 (by omega) (by omega), y1 1 (by omega), hz, m1], by rw [s3, y2], by rw [s5 3 (by omega) (by omega), y1 6 (by omega), hz, m3], by rw [s5 4 (by omega) (by omega), y1 2 (by omega), hz, m4], by rw [s5 5 (by omega) (by omega), y1 4 (by omega), hz, m5], by rw [s5 6 (by omega) (by omega), y1 3 (by omega), hz, m6]⟩, fun c hc => by rw [s4 c hc, y4 c hc], fun i hi => absurd hi (Nat.not_lt_zero i), fun i hi => by
        have := og.1.2.2.2.2.1
        rw [s5 _ (by omega) (by omega), s5 _ (by omega) (by omega), y3 3 (by omega), y3 4 (by omega), hz]; exact mp i hi⟩
      exact ⟨x', (be e5).trans rfl, f2⟩) 33 0 (sA b 0 (upd (b.2 0) 2 0)) 1000 rfl (by omega) ⟨rfl, fun k hk => if_neg hk, rfl, fun c hc => absurd hc (Nat.not_lt_zero c), fun j h1 h2 => by
        show upd (b.2 0) 2 0 j = _
        rw [ux_ne _ _ h1, hb0]⟩
  obtain ⟨x', k1, k2⟩ := k
  have ev : (Z' 0).1 5 = b.2 0 2 := by rw [hz, hb0, m2]
  exact ⟨b.2 0 2, _, x', by rw [← ev]; exact (be e1).trans ((be e3).trans rfl), (be e2).trans k1, k2⟩
theorem st_hide (h : Inv Z x) (g : Nat → Int64) (v w : Int32) : SOK (F_L_hide Z g v w) (F_X5_hide x v w) := by
  obtain ⟨n, e, T, P, a, lo, og, om⟩ := h.1
  rcases both_case og.1.2.1 og.2.1.1 (by rw [om.1.1]; exact og.2.1.1) v with ⟨a1, a2, c, hc, rfl⟩ | ⟨a1, a2⟩
  · rcases q_in (v := w) (a := 0) (b := 1073741823) (by omega) (by omega) with ⟨z, j, n1, n2, rfl⟩ | ⟨z, z2⟩
    · obtain ⟨Z', b, e1, hz, e2, b1, b2, fin⟩ := keeps h
      have hb0 := b2 0 (by omega)
      obtain ⟨⟨m0, m1, m2, m3, m4, m5, m6⟩, mc, mt, mp⟩ := om
      have o' : OKs n e T P 0 lo (sI (sI (sI (Z' 0) 2 (nI c)) 3 (nI j)) 4 0) := by
        rw [hz]
        exact ⟨⟨og.1.1, og.1.2.1, og.1.2.2.1, og.1.2.2.2.1, og.1.2.2.2.2.1, by omega⟩, ⟨og.2.1.1, og.2.1.2.1, og.2.1.2.2.1, og.2.1.2.2.2.1, rfl⟩, og.2.2.1, .inr ⟨c, rfl, hc⟩, j, rfl, n2⟩
      obtain ⟨x', e5, f1, f2⟩ := fin (sA (sA (sA b 0 (upd (b.2 0) 4 (nI c))) 0 (upd ((sA b 0 (upd (b.2 0) 4 (nI c))).2 0) 6 (nI j))) 0 (upd ((sA (sA b 0 (upd (b.2 0) 4 (nI c))) 0 (upd ((sA b 0 (upd (b.2 0) 4 (nI c))).2 0) 6 (nI j))).2 0) 5 0)) _ (b.2 0 4) rfl rfl rfl rfl rfl ⟨n, e, T, P, 0, lo, o', by
        show MSs T P (sI (sI (sI (Z' 0) 2 (nI c)) 3 (nI j)) 4 0) (upd (upd (upd (b.2 0) 4 (nI c)) 6 (nI j)) 5 0)
        rw [hz, hb0]
        have ux : ∀ k, k ≠ 4 → k ≠ 5 → k ≠ 6 → upd (upd (upd (x.2 0) 4 (nI c)) 6 (nI j)) 5 0 k = x.2 0 k := fun k q4 q5 q6 => by rw [ux_ne _ _ q5, ux_ne _ _ q6, ux_ne _ _ q4]
        exact ⟨⟨(ux _ (by omega) (by omega) (by omega)).trans m0, (ux _ (by omega) (by omega) (by omega)).trans m1, (ux _ (by omega) (by omega) (by omega)).trans m2, (ux _ (by omega) (by omega) (by omega)).trans m3, rfl, rfl, rfl⟩, fun c hc => (ux _ (by omega) (by omega) (by omega)).trans (mc c hc), fun i hi => ⟨(ux _ (by omega) (by omega) (by omega)).trans (mt i hi).1, (ux _ (by omega) (by omega) (by omega)).trans (mt i hi).2.1, (ux _ (by omega) (by omega) (by omega)).trans (mt i hi).2.2⟩, fun i hi => ⟨(ux _ (by omega) (by omega) (by omega)).trans (mp i hi).1, (ux _ (by omega) (by omega) (by omega)).trans (mp i hi).2⟩⟩⟩
      have c4 : F_X4_hide Z (nI c) (nI j) = some (.inr ((Z' 0).1 2, zU Z' 0 (sI (sI (sI (Z' 0) 2 (nI c)) 3 (nI j)) 4 0))) := by
        unfold F_X4_hide
        exact (be a1).trans ((if_neg one0).trans ((rng_yes (nI_pos (by omega)) (nI_le (b := 1073741823) n2 (by omega))).trans ((be e1).trans rfl)))
      have c5 : F_X5_hide x (nI c) (nI j) = some (b.2 0 4, x') := by
        unfold F_X5_hide
        exact (be a2).trans ((if_neg one0).trans ((be z).trans ((if_neg one0).trans ((be e2).trans ((be e5).trans rfl)))))
      exact SOK.ok ((be c4).trans rfl) c5 f1 (by show ((Z' 0).1 2).toInt64 = _; rw [hz, hb0, m4]) f2
    · have c4 : F_X4_hide Z (nI c) w = some (.inl "java/lang/IllegalArgumentException") := by
        unfold F_X4_hide
        exact (be a1).trans ((if_neg one0).trans (rng_no z2))
      have c5 : F_X5_hide x (nI c) w = some (0, sI x 1 2) := (be a2).trans ((if_neg one0).trans ((be z).trans ((if_pos rfl).trans rfl)))
      exact SOK.no (g := g) h two_ne ((be c4).trans ((if_neg (by decide)).trans (if_pos rfl))) c5
  · have c4 : F_X4_hide Z v w = some (.inl "java/lang/IndexOutOfBoundsException") := (be a1).trans (if_pos rfl)
    have c5 : F_X5_hide x v w = some (0, sI x 1 1) := (be a2).trans ((if_pos rfl).trans rfl)
    exact SOK.no (g := g) h one_ne ((be c4).trans (if_pos rfl)) c5
theorem st_ask (h : Inv Z x) (g : Nat → Int64) (l r : Int32) : SOK (F_L_ask Z g l r) (F_X5_ask x l r) := by
  obtain ⟨n, e, T, P, a, lo, og, om⟩ := h.1
  obtain ⟨b0, s1, s2, hb⟩ := both_sides og.1.1 og.1.2.1 og.2.1.1 (by rw [om.1.1]; exact og.2.1.1) l r
  have y1 := y_replies og
  have wt := x_askable og om s2 hb
  rcases hb with rfl | ⟨rfl, hl⟩
  · rw [if_pos rfl] at wt
    have c4 : F_X4_ask Z l r = some (.inl "java/lang/IllegalArgumentException") := (be s1).trans (if_pos rfl)
    exact SOK.no (g := g) h one_ne ((be c4).trans (if_pos rfl)) ((be wt).trans ((if_neg (show ¬ (1 : Int32) ≤ 0 by decide)).trans rfl))
  · rw [if_neg one0] at wt
    have no2 : F_X5_whyNotAsk x l r = some 2 → F_X2_canReply (Z 0) = some 0 → SOK (F_L_ask Z g l r) (F_X5_ask x l r) := fun w1 w2 => by
      have c4 : F_X4_ask Z l r = some (.inl "java/lang/IllegalStateException") := (be s1).trans ((if_neg one0).trans ((be w2).trans (if_pos rfl)))
      exact SOK.no (g := g) h two_ne ((be c4).trans ((if_neg (by decide)).trans (if_pos rfl))) ((be w1).trans ((if_neg (show ¬ (2 : Int32) ≤ 0 by decide)).trans rfl))
    by_cases q1 : (Z 0).1 2 = -1
    · rw [if_pos q1] at wt y1; exact no2 wt y1
    · rw [if_neg q1] at wt y1
      by_cases q2 : T < 40
      · rw [if_pos q2] at wt y1
        by_cases q3 : a < 30
        · rw [if_pos q3] at wt y1
          obtain ⟨Z', b, e1, hz, e2, b1, b2, fin⟩ := keeps h
          obtain ⟨v, y', x1, lo', k1, k2, k3, k4, k5, k6⟩ := both_ask (x := b) og (by rw [b2 0 (by omega)]; exact om) q2 q3 q1 l r
          rw [← hz] at k1
          obtain ⟨x', e5, f1, f2⟩ := fin x1 y' v (by rw [k3]) (by rw [k3]) (k4 1 (by omega)) (k4 2 (by omega)) (k4 3 (by omega)) ⟨n, e, T + 1, P, a + 1, lo', k5, k6⟩
          have c4 : F_X4_ask Z l r = some (.inr (v, zU Z' 0 y')) := (be s1).trans ((if_neg one0).trans ((be y1).trans ((if_neg one0).trans ((be e1).trans ((be k1).trans rfl)))))
          have c5 : F_X5_ask x l r = some (v, x') := (be wt).trans ((if_pos le00).trans ((be e2).trans ((be k2).trans ((be e5).trans rfl))))
          exact SOK.ok ((be c4).trans rfl) c5 f1 rfl f2
        · rw [if_neg q3] at wt y1; exact no2 wt y1
      · rw [if_neg q2] at wt y1; exact no2 wt y1
theorem st_add (h : Inv Z x) (g : Nat → Int64) (l r : Int32) : SOK (F_L_add Z g l r) (F_X5_add x l r) := by
  obtain ⟨n, e, T, P, a, lo, og, om⟩ := h.1
  obtain ⟨b0, s1, s2, hb⟩ := both_sides og.1.1 og.1.2.1 og.2.1.1 (by rw [om.1.1]; exact og.2.1.1) l r
  have y1 := y_plannable og.2.1.2.2.2.1 og.1.2.2.2.2.1
  have wt := x_addable og om s2 hb
  rcases hb with rfl | ⟨rfl, hl⟩
  · rw [if_pos rfl] at wt
    have c4 : F_X4_add Z l r = some (.inl "java/lang/IllegalArgumentException") := (be s1).trans (if_pos rfl)
    exact SOK.no (g := g) h one_ne ((be c4).trans (if_pos rfl)) ((be wt).trans ((if_neg (show ¬ (1 : Int32) ≤ 0 by decide)).trans rfl))
  · rw [if_neg one0] at wt
    by_cases q : P < 8
    · rw [if_pos q] at wt y1
      obtain ⟨Z', b, e1, hz, e2, b1, b2, fin⟩ := keeps h
      obtain ⟨y', x1, k1, k2, k3, k4, k5, k6⟩ := both_plan (x := b) og (by rw [b2 0 (by omega)]; exact om) q l r
      rw [← hz] at k1
      obtain ⟨x', e5, f1, f2⟩ := fin x1 y' (nI P) (by rw [k3]) (by rw [k3]) (k4 1 (by omega)) (k4 2 (by omega)) (k4 3 (by omega)) ⟨n, e, T, P + 1, a, lo, k5, k6⟩
      have c4 : F_X4_add Z l r = some (.inr ((Z' 0).1 6, zU Z' 0 y')) := (be s1).trans ((if_neg one0).trans ((be y1).trans ((if_neg one0).trans ((be e1).trans ((be k1).trans rfl)))))
      have c5 : F_X5_add x l r = some (nI P, x') := (be wt).trans ((if_pos le00).trans ((be e2).trans ((be k2).trans ((be e5).trans rfl))))
      exact SOK.ok ((be c4).trans rfl) c5 f1 (by show ((Z' 0).1 6).toInt64 = _; rw [hz, og.2.1.2.2.2.1]) f2
    · rw [if_neg q] at wt y1
      have c4 : F_X4_add Z l r = some (.inl "java/lang/IllegalStateException") := (be s1).trans ((if_neg one0).trans ((be y1).trans (if_pos rfl)))
      exact SOK.no (g := g) h two_ne ((be c4).trans ((if_neg (by decide)).trans (if_pos rfl))) ((be wt).trans ((if_neg (show ¬ (2 : Int32) ≤ 0 by decide)).trans rfl))
theorem st_removeLast (h : Inv Z x) (g : Nat → Int64) : SOK (F_L_removeLast Z g) (F_X5_removeLast x) := by
  obtain ⟨n, e, T, P, a, lo, og, om⟩ := h.1
  have hP := og.1.2.2.2.2.1
  have z6 := og.2.1.2.2.2.1
  have x3 : x.2 0 3 = nI P := by rw [om.1.2.2.2.1]; exact z6
  unfold F_X5_removeLast
  by_cases q : P = 0
  · subst q
    have c4 : F_X4_removeLast Z = some (.inl "java/lang/IllegalStateException") := if_pos z6
    exact SOK.no (g := g) h one_ne ((be c4).trans (if_pos rfl)) ((if_pos x3).trans rfl)
  · obtain ⟨Z', b, e1, hz, e2, b1, b2, fin⟩ := keeps h
    have hb0 := b2 0 (by omega)
    obtain ⟨⟨m0, m1, m2, m3, m4, m5, m6⟩, mc, mt, mp⟩ := om
    have zp : (Z' 0).1 6 = nI P := by rw [hz]; exact z6
    have d1 : F_X3_dropLast 8 (plS (Z' 0)) = some (sI (plS (Z' 0)) 0 ((plS (Z' 0)).1 0 - 1)) := if_neg (by
      show ¬ (Z' 0).1 6 ≤ 0
      rw [zp]; exact nI_nle (by omega) (by omega))
    have p1 : (Z' 0).1 6 - 1 = nI (P - 1) := by rw [zp, show nI P = nI (P - 1 + 1) by rw [Nat.sub_add_cancel (by omega)], nI_pred]
    have p2 : b.2 0 3 - 1 = nI (P - 1) := by rw [hb0, x3, show nI P = nI (P - 1 + 1) by rw [Nat.sub_add_cancel (by omega)], nI_pred]
    have o' : OKs n e T (P - 1) a lo (plU (Z' 0) (sI (plS (Z' 0)) 0 ((plS (Z' 0)).1 0 - 1))) := by
      have e6 : (plU (Z' 0) (sI (plS (Z' 0)) 0 ((plS (Z' 0)).1 0 - 1))).1 6 = nI (P - 1) := p1
      refine ⟨⟨og.1.1, og.1.2.1, og.1.2.2.1, og.1.2.2.2.1, by omega, og.1.2.2.2.2.2⟩, ⟨?_, ?_, ?_, e6, ?_⟩, fun c hc => ?_, ?_, ?_⟩
      · show (Z' 0).1 0 = _; rw [hz]; exact og.2.1.1
      · show (Z' 0).1 1 = _; rw [hz]; exact og.2.1.2.1
      · show (Z' 0).1 5 = _; rw [hz]; exact og.2.1.2.2.1
      · show (Z' 0).1 4 = _; rw [hz]; exact og.2.1.2.2.2.2
      · show (Z' 0).2 6 c = _ ∧ _; rw [hz]; exact og.2.2.1 c hc
      · show (Z' 0).1 2 = _ ∨ ∃ h, (Z' 0).1 2 = _ ∧ _; rw [hz]; exact og.2.2.2.1
      · show ∃ s, (Z' 0).1 3 = _ ∧ _; rw [hz]; exact og.2.2.2.2
    obtain ⟨x', e5, f1, f2⟩ := fin (sA b 0 (upd (b.2 0) 3 (b.2 0 3 - 1))) (plU (Z' 0) (sI (plS (Z' 0)) 0 ((plS (Z' 0)).1 0 - 1))) ((sA b 0 (upd (b.2 0) 3 (b.2 0 3 - 1))).2 0 3) rfl rfl rfl rfl rfl ⟨n, e, T, P - 1, a, lo, o', by
      show MSs T (P - 1) _ (upd (b.2 0) 3 (b.2 0 3 - 1))
      have ux : ∀ k, k ≠ 3 → upd (b.2 0) 3 (b.2 0 3 - 1) k = x.2 0 k := fun k q3 => by rw [ux_ne _ _ q3, hb0]
      refine ⟨⟨?_, ?_, ?_, ?_, ?_, ?_, ?_⟩, fun c hc => ?_, fun i hi => ?_, fun i hi => ?_⟩
      · rw [ux _ (by omega), m0]; show _ = (Z' 0).1 0; rw [hz]
      · rw [ux _ (by omega), m1]; show _ = (Z' 0).1 1; rw [hz]
      · rw [ux _ (by omega), m2]; show _ = (Z' 0).1 5; rw [hz]
      · rw [ux_at, p2]; exact p1.symm
      · rw [ux _ (by omega), m4]; show _ = (Z' 0).1 2; rw [hz]
      · rw [ux _ (by omega), m5]; show _ = (Z' 0).1 4; rw [hz]
      · rw [ux _ (by omega), m6]; show _ = (Z' 0).1 3; rw [hz]
      · rw [ux _ (by omega), mc c hc]; show _ = (Z' 0).2 6 c; rw [hz]
      · rw [ux _ (by omega), ux _ (by omega), ux _ (by omega)]; show _ = (Z' 0).2 0 i ∧ _ = (Z' 0).2 1 i ∧ _ = (Z' 0).2 2 i; rw [hz]; exact mt i hi
      · rw [ux _ (by omega), ux _ (by omega)]; show _ = (Z' 0).2 3 i ∧ _ = (Z' 0).2 4 i; rw [hz]; exact mp i (by omega)⟩
    have c4 : F_X4_removeLast Z = some (.inr ((Z' 0).1 6 - 1, zU Z' 0 (plU (Z' 0) (sI (plS (Z' 0)) 0 ((plS (Z' 0)).1 0 - 1))))) := by
      unfold F_X4_removeLast
      exact (if_neg (by rw [z6]; exact nI_ne0 (by omega) (by omega))).trans ((be e1).trans ((be d1).trans rfl))
    refine SOK.ok ((be c4).trans rfl) ((if_neg (by rw [x3]; exact nI_ne0 (by omega) (by omega))).trans ((be e2).trans ((be e5).trans rfl))) f1 ?_ f2
    show ((Z' 0).1 6 - 1).toInt64 = (upd (b.2 0) 3 (b.2 0 3 - 1) 3).toInt64
    rw [ux_at, p1, p2]
end ST
