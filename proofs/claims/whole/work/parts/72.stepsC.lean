/-! the pure layer, M: the orders carried out, the digest -/
section ST3
variable {Z : ZT} {x : St}
theorem both_obey {y : St} {x : St} {w : Nat} (hg : Good y (x.2 0)) (hw : w ≤ 4) {l r : Int32} (h4 : x.1 4 = l) (h5 : x.1 5 = r) (h6 : x.1 6 = nI w) : ∃ (b : Int32) (y' x' : St), (b = 0 ∨ b = 1) ∧ F_X2_obey y l r (nI w) = some (b, y') ∧ F_X5_does x = some (b, x') ∧ Good y' (x'.2 0) ∧ x'.1 = x.1 ∧ ∀ k, k ≠ 0 → x'.2 k = x.2 k := by
  have hg0 := hg
  obtain ⟨n, e, T, P, a, lo, og, om⟩ := hg
  obtain ⟨b0, s1, s2, hb⟩ := both_sides og.1.1 og.1.2.1 og.2.1.1 (by rw [om.1.1]; exact og.2.1.1) l r
  have hT := og.1.2.2.2.1
  have y1 := y_learnable og.2.1.2.2.1 hT
  have y2 := y_plannable og.2.1.2.2.2.1 og.1.2.2.2.2.1
  have y3 := y_replies og
  rcases (show w ≤ 2 ∨ w = 3 ∨ w = 4 by omega) with hw2 | rfl | rfl
  · have g6 : ¬ (3 : Int32) ≤ x.1 6 := by rw [h6]; exact nI_ge (b := 3) (by omega) (by omega)
    have a2 : F_X5_in (nI w) 0 2 = some 1 := (if_neg (nI_pos (by omega))).trans (if_neg (show ¬ (2 : Int32) < nI w from nI_nlt (a := 2) hw2 (by omega)))
    have wt := x_tellable og om s2 hb a2 (.inr rfl)
    have n3 : ¬ nI w = 3 := fun z => by have := (nI_eq (b := 3) (by omega) (by omega)).mp z; omega
    have n4 : ¬ nI w = 4 := fun z => by have := (nI_eq (b := 4) (by omega) (by omega)).mp z; omega
    have cd : F_X2_canDo y (nI w) = some (if T < 40 then 1 else 0) := by
      unfold F_X2_canDo
      refine (if_neg n3).trans ((if_neg n4).trans ((be y1).trans (if_neg ?_)))
      split <;> decide
    have wt' : F_X5_whyNotTell x (x.1 4) (x.1 5) (x.1 6) = some (if b0 = 0 then 1 else if (1 : Int32) = 0 then 1 else if T < 40 then 0 else 2) := by rw [h4, h5, h6]; exact wt
    rcases hb with rfl | ⟨rfl, hl⟩
    · refine ⟨0, y, x, .inl rfl, (be s1).trans (if_pos rfl), ?_, hg0, rfl, fun _ _ => rfl⟩
      rw [if_pos rfl] at wt'
      exact (if_neg g6).trans ((be wt').trans (if_neg (show ¬ (1 : Int32) ≤ 0 by decide)))
    · rw [if_neg one0, if_neg one0] at wt'
      by_cases q : T < 40
      · rw [if_pos q] at wt' cd
        obtain ⟨y', x', lo', k1, k2, k3, k4, k5, k6⟩ := both_learn og om q l r (nI w)
        have k2' : F_X5_lays x (x.1 4) (x.1 5) (x.1 6) = some x' := by rw [h4, h5, h6]; exact k2
        refine ⟨1, y', x', .inr rfl, (be s1).trans ((if_neg one0).trans ((be cd).trans ((if_neg one0).trans ((if_neg n3).trans ((if_neg n4).trans ((be k1).trans rfl)))))), ?_, ⟨n, e, T + 1, P, a, lo', k5, k6⟩, k3, k4⟩
        exact (if_neg g6).trans ((be wt').trans ((if_pos le00).trans ((if_neg g6).trans ((be k2').trans rfl))))
      · rw [if_neg q] at wt' cd
        refine ⟨0, y, x, .inl rfl, (be s1).trans ((if_neg one0).trans ((be cd).trans (if_pos rfl))), ?_, hg0, rfl, fun _ _ => rfl⟩
        exact (if_neg g6).trans ((be wt').trans (if_neg (show ¬ (2 : Int32) ≤ 0 by decide)))
  · have g6 : (3 : Int32) ≤ x.1 6 := by rw [h6]; decide
    have e6 : x.1 6 = 3 := h6
    have wt := x_askable og om s2 hb
    have wt' := wt
    rw [← h4, ← h5] at wt'
    have cd : F_X2_canDo y (nI 3) = some (if y.1 2 = -1 then 0 else if T < 40 then (if a < 30 then 1 else 0) else 0) := by
      unfold F_X2_canDo
      refine (if_pos rfl).trans ((be y3).trans (if_neg ?_))
      (repeat' split) <;> decide
    rcases hb with rfl | ⟨rfl, hl⟩
    · refine ⟨0, y, x, .inl rfl, (be s1).trans (if_pos rfl), ?_, hg0, rfl, fun _ _ => rfl⟩
      rw [if_pos rfl] at wt'
      exact (if_pos g6).trans ((if_pos e6).trans ((be wt').trans (if_neg (show ¬ (1 : Int32) ≤ 0 by decide))))
    · rw [if_neg one0] at wt'
      have no2 : F_X5_whyNotAsk x (x.1 4) (x.1 5) = some 2 → F_X2_canDo y (nI 3) = some 0 → ∃ (b : Int32) (y' x' : St), (b = 0 ∨ b = 1) ∧ F_X2_obey y l r (nI 3) = some (b, y') ∧ F_X5_does x = some (b, x') ∧ Good y' (x'.2 0) ∧ x'.1 = x.1 ∧ ∀ k, k ≠ 0 → x'.2 k = x.2 k := fun w1 w2 =>
        ⟨0, y, x, .inl rfl, (be s1).trans ((if_neg one0).trans ((be w2).trans (if_pos rfl))), (if_pos g6).trans ((if_pos e6).trans ((be w1).trans (if_neg (show ¬ (2 : Int32) ≤ 0 by decide)))), hg0, rfl, fun _ _ => rfl⟩
      by_cases q1 : y.1 2 = -1
      · rw [if_pos q1] at wt' cd; exact no2 wt' cd
      · rw [if_neg q1] at wt' cd
        by_cases q2 : T < 40
        · rw [if_pos q2] at wt' cd
          by_cases q3 : a < 30
          · rw [if_pos q3] at wt' cd
            obtain ⟨v, y', x', lo', k1, k2, k3, k4, k5, k6⟩ := both_ask og om q2 q3 q1 l r
            have k2' : F_X5_asks x (x.1 4) (x.1 5) = some (v, x') := by rw [h4, h5]; exact k2
            refine ⟨1, y', x', .inr rfl, (be s1).trans ((if_neg one0).trans ((be cd).trans ((if_neg one0).trans ((if_pos rfl).trans ((be k1).trans rfl))))), ?_, ⟨n, e, T + 1, P, a + 1, lo', k5, k6⟩, k3, k4⟩
            exact (if_pos g6).trans ((if_pos e6).trans ((be wt').trans ((if_pos le00).trans ((if_pos g6).trans ((if_pos e6).trans ((be k2').trans rfl))))))
          · rw [if_neg q3] at wt' cd; exact no2 wt' cd
        · rw [if_neg q2] at wt' cd; exact no2 wt' cd
  · have g6 : (3 : Int32) ≤ x.1 6 := by rw [h6]; decide
    have e6 : ¬ x.1 6 = 3 := by rw [h6]; decide
    have wt := x_addable og om s2 hb
    have wt' := wt
    rw [← h4, ← h5] at wt'
    have cd : F_X2_canDo y (nI 4) = some (if P < 8 then 1 else 0) := by
      unfold F_X2_canDo
      refine (if_neg (show ¬ nI 4 = 3 by decide)).trans ((if_pos rfl).trans ((be y2).trans (if_neg ?_)))
      split <;> decide
    rcases hb with rfl | ⟨rfl, hl⟩
    · refine ⟨0, y, x, .inl rfl, (be s1).trans (if_pos rfl), ?_, hg0, rfl, fun _ _ => rfl⟩
      rw [if_pos rfl] at wt'
      exact (if_pos g6).trans ((if_neg e6).trans ((be wt').trans (if_neg (show ¬ (1 : Int32) ≤ 0 by decide))))
    · rw [if_neg one0] at wt'
      by_cases q : P < 8
      · rw [if_pos q] at wt' cd
        obtain ⟨y', x', k1, k2, k3, k4, k5, k6⟩ := both_plan og om q l r
        have k2' : F_X5_adds x (x.1 4) (x.1 5) = some (nI P, x') := by rw [h4, h5]; exact k2
        refine ⟨1, y', x', .inr rfl, (be s1).trans ((if_neg one0).trans ((be cd).trans ((if_neg one0).trans ((if_neg (show ¬ nI 4 = 3 by decide)).trans ((if_pos rfl).trans ((be k1).trans rfl)))))), ?_, ⟨n, e, T, P + 1, a, lo, k5, k6⟩, k3, k4⟩
        exact (if_pos g6).trans ((if_neg e6).trans ((be wt').trans ((if_pos le00).trans ((if_pos g6).trans ((if_neg e6).trans ((be k2').trans rfl))))))
      · rw [if_neg q] at wt' cd
        refine ⟨0, y, x, .inl rfl, (be s1).trans ((if_neg one0).trans ((be cd).trans (if_pos rfl))), ?_, hg0, rfl, fun _ _ => rfl⟩
        exact (if_pos g6).trans ((if_neg e6).trans ((be wt').trans (if_neg (show ¬ (2 : Int32) ≤ 0 by decide))))
theorem st_carryOut (h : Inv Z x) : ∃ (v : Int32) (Z1 : ZT) (x1 : St), F_X4_carryOut Z = some (v, Z1) ∧ F_X5_carryOut x = some (v, x1) ∧ Inv Z1 x1 := by
  obtain ⟨hg, ⟨k, hk, h6, hx0, hh⟩, ⟨t, ht, h5, hx2, hti⟩⟩ := h
  obtain ⟨tx, htx⟩ : ∃ tx : Nat → Nat, ∀ i, i < t → tx i < 128 ∧ (Z 5).2 0 i = nI (tx i) ∧ x.2 3 i = nI (tx i) := by
    refine ⟨fun i => ((Z 5).2 0 i).toNatClampNeg, fun i hi => ?_⟩
    obtain ⟨b, b1, b2, b3⟩ := hti i hi
    have : ((Z 5).2 0 i).toNatClampNeg = b := by rw [b2, nI_clamp (by omega)]
    show ((Z 5).2 0 i).toNatClampNeg < 128 ∧ _ = nI ((Z 5).2 0 i).toNatClampNeg ∧ _ = nI ((Z 5).2 0 i).toNatClampNeg
    rw [this]; exact ⟨b1, b2, b3⟩
  have hTT : TT t tx := ⟨ht, fun i hi => (htx i hi).1⟩
  have hOS : OS t (nI 0) 0 ((Z 5).1 3) ((Z 5).1 4) (Z 5).2 (sI (sI (Z 5) 1 0) 2 0) := ⟨h5, rfl, rfl, rfl, rfl, rfl⟩
  have hMT : MT t tx 0 (sI x 3 0) := ⟨hx2, rfl, fun i hi => (htx i hi).2.2⟩
  have rd : ∀ r, RD (999 - t + t + 1) 0 (sI (sI (Z 5) 1 0) 2 0) = r → F_X1_read (Z 5) = r := fun r hr => by
    rw [show 999 - t + t + 1 = 1000 by omega] at hr
    exact hr
  have wr : ∀ r, fx1 B_X5_wrong_5 1000 (sI x 3 0) = r → F_X5_wrong x = r := fun r hr => hr
  rcases multi hTT t t 0 0 _ _ _ _ (Nat.le_refl t) (by omega) (by omega) hOS (fun i hi => (htx i hi).2.1) with ⟨q, m1, m2, m3⟩ | ⟨K, X', ps, m1, m2, m3, m4, m5, m6, m7, m8, m9, m10, m11⟩
  · obtain ⟨X', r1, r2, r3⟩ := m2 (999 - t)
    obtain ⟨x', w1, w2⟩ := m3 1000 (sI x 3 0) (by omega) hMT
    have e1 := rd _ r1
    have e2 := wr _ w1
    refine ⟨-10 - nI q, zU Z 5 X', sI x' 1 0, (be e1).trans (if_neg ((by decide +kernel : ∀ q, q < 101 → ¬ nI q = -1) q (by omega))), (be e2).trans ((if_neg (nI_pos (by omega))).trans rfl), ?_, ⟨k, hk, h6, by show x'.1 0 = _; rw [w2.2 0 (by omega)]; exact hx0, fun j hj => ?_⟩, t, ht, ?_, by show x'.1 2 = _; rw [w2.2 2 (by omega)]; exact hx2, fun i hi => ?_⟩
    · show Good (Z 0) (x'.2 0); rw [w2.1]; exact hg
    · have ez : zU Z 5 X' (1 + j) = Z (1 + j) := if_neg (by omega)
      rw [ez]; show Good _ (fun i => x'.2 1 (176 * j + i)); rw [w2.1]; exact hh j hj
    · show X'.1 0 = _; rw [r2]; exact h5
    · show ∃ b, b < 128 ∧ X'.2 0 i = nI b ∧ x'.2 3 i = nI b
      rw [r3, w2.1]; exact hti i hi
  · obtain ⟨x', w1, w2⟩ := m7 1000 (sI x 3 0) (by omega) hMT
    have e1 := rd _ (m1 (999 - t))
    have e2 := wr _ w1
    have hI2 : Inv (zU Z 5 X') x' := by
      refine ⟨?_, ⟨k, hk, h6, by rw [w2.2 0 (by omega)]; exact hx0, fun j hj => ?_⟩, t, ht, m2, by rw [w2.2 2 (by omega)]; exact hx2, fun i hi => ?_⟩
      · show Good (Z 0) (x'.2 0); rw [w2.1]; exact hg
      · have ez : zU Z 5 X' (1 + j) = Z (1 + j) := if_neg (by omega)
        rw [ez, w2.1]; exact hh j hj
      · show ∃ b, b < 128 ∧ X'.2 0 i = nI b ∧ x'.2 3 i = nI b
        rw [m4, w2.1]; exact hti i hi
    obtain ⟨Z', b, f1, hz, f2, b1, b2, fin⟩ := keeps hI2
    have hz5 : Z' 5 = X' := by
      obtain ⟨Z9, y9, g1, _, _, g5, _⟩ := z_save hk (show (zU Z 5 X' 6).1 0 = nI k from h6)
      rw [g1] at f1; cases f1; exact g5
    have hb0 : b.1 2 = nI t := by rw [b1, w2.2 2 (by omega)]; exact hx2
    have hb3 : ∀ i, i < t → b.2 3 i = nI (tx i) := fun i hi => by rw [b2 3 (by omega), w2.1]; exact (htx i hi).2.2
    have key := ind (m := K) (Q := fun N j (s : St × St) => K + 1 - j < N → ∃ (v : Int32) (y1 : St) (x1 : St), fx2 B_X4_carryOut_31 N (nI j) (zU Z' 0 s.1) = some (v, zU Z' 0 y1) ∧ fx3 B_X5_carryOut_31 N (nI j) 1 s.2 = some (v, x1) ∧ Inv (zU Z' 0 y1) x1) (fun j s => Good s.1 (s.2.2 0) ∧ s.2.1 0 = b.1 0 ∧ s.2.1 2 = b.1 2 ∧ s.2.1 3 = nI (ps j) ∧ s.2.2 1 = b.2 1 ∧ s.2.2 2 = b.2 2 ∧ s.2.2 3 = b.2 3) (by
      intro N j s hj hs ih hN
      obtain ⟨sg, s0, s2, s3, s4, s5, s6⟩ := hs
      show ∃ (v : Int32) (y1 : St) (x1 : St), B_X4_carryOut_31 (fx2 B_X4_carryOut_31 N) (nI j) (zU Z' 0 s.1) = some (v, zU Z' 0 y1) ∧ B_X5_carryOut_31 (fx3 B_X5_carryOut_31 N) (nI j) 1 s.2 = some (v, x1) ∧ Inv (zU Z' 0 y1) x1
      have hzz : (zU Z' 0 s.1 5) = X' := hz5
      rcases Nat.lt_or_ge j K with q | q
      · obtain ⟨p1, p2, w, p3, p4⟩ := m11 j (Nat.zero_le j) q
        obtain ⟨x2, r1, r2, r3, r4, r5⟩ := p2 s.2 ⟨by rw [s2, hb0], s3, fun i hi => by rw [s6]; exact hb3 i hi⟩
        have sg2 : Good s.1 (x2.2 0) := by rw [r2.1]; exact sg
        obtain ⟨bb, y', x3, hbb, o1, o2, o3, o4, o5⟩ := both_obey (w := w) sg2 p3 r3 r4 (by rw [r5, p4])
        have c1 : B_X4_carryOut_31 (fx2 B_X4_carryOut_31 N) (nI j) (zU Z' 0 s.1) = if bb = 0 then some (nI j, zU (zU Z' 0 s.1) 0 y') else fx2 B_X4_carryOut_31 N (nI j + 1) (zU (zU Z' 0 s.1) 0 y') := by
          unfold B_X4_carryOut_31
          rw [hzz, m3, if_neg (nI_ge q (by omega)), q_at (by omega) (by omega), q_at (by omega) (by omega), q_at (by omega) (by omega), sb, sb, sb, p4]
          exact be o1
        have hzu : ∀ y' : St, zU (zU Z' 0 s.1) 0 y' = zU Z' 0 y' := fun y' => funext fun i => by
          show (if i = 0 then y' else if i = 0 then s.1 else Z' i) = (if i = 0 then y' else Z' i)
          by_cases q : i = 0
          · rw [if_pos q, if_pos q]
          · rw [if_neg q, if_neg q, if_neg q]
        have c2 : B_X5_carryOut_31 (fx3 B_X5_carryOut_31 N) (nI j) 1 s.2 = if bb = 0 then fx3 B_X5_carryOut_31 N (nI j + 0) bb x3 else fx3 B_X5_carryOut_31 N (nI j + 1) bb x3 := by
          unfold B_X5_carryOut_31
          rw [s2, hb0, s3, if_neg (nI_ge p1 (by omega)), if_neg one0]
          exact (be r1).trans (be o2)
        have t0 : x3.1 0 = b.1 0 := by rw [o4, r2.2.1 0 (by omega), s0]
        have t2 : x3.1 2 = b.1 2 := by rw [o4, r2.2.1 2 (by omega), s2]
        have t3 : x3.1 3 = nI (ps (j + 1)) := by rw [o4, r2.2.2]
        have t4 : x3.2 1 = b.2 1 := by rw [o5 1 (by omega), r2.1, s4]
        have t5 : x3.2 2 = b.2 2 := by rw [o5 2 (by omega), r2.1, s5]
        have t6 : x3.2 3 = b.2 3 := by rw [o5 3 (by omega), r2.1, s6]
        rw [c1, c2, hzu]
        rcases hbb with rfl | rfl
        · obtain ⟨N', rfl⟩ : ∃ N', N = N' + 1 := ⟨N - 1, by omega⟩
          rw [if_pos rfl, if_pos rfl, add0]
          obtain ⟨x9, e9, f9, g9⟩ := fin x3 y' (nI j) t0 t2 t4 t5 t6 o3
          refine ⟨nI j, y', x9, rfl, ?_, g9⟩
          show B_X5_carryOut_31 (fx3 B_X5_carryOut_31 N') (nI j) 0 x3 = _
          unfold B_X5_carryOut_31
          by_cases q9 : x3.1 2 ≤ x3.1 3
          · exact (if_pos q9).trans ((be e9).trans rfl)
          · exact (if_neg q9).trans ((if_pos rfl).trans ((be e9).trans rfl))
        · rw [if_neg one0, if_neg one0, nI_1]
          exact ih (y', x3) q ⟨o3, t0, t2, t3, t4, t5, t6⟩ (by omega)
      · have q2 : j = K := by omega
        subst q2
        obtain ⟨x9, e9, f9, g9⟩ := fin s.2 s.1 (nI j) s0 s2 s4 s5 s6 sg
        refine ⟨nI j, s.1, x9, ?_, ?_, g9⟩
        · unfold B_X4_carryOut_31
          rw [hzz, m3, if_pos (nI_le (Nat.le_refl j) (by omega))]
        · unfold B_X5_carryOut_31
          rw [s2, hb0, s3, m10, if_pos (nI_le (Nat.le_refl t) (by omega))]
          exact (be e9).trans rfl)
    obtain ⟨v, y1, x1, k1, k2, k3⟩ := key K 0 (Z' 0, sI b 3 0) 1000 (by omega) (by omega) ⟨by rw [hz]; show Good (Z 0) (b.2 0); rw [b2 0 (by omega), w2.1]; exact hg, rfl, rfl, by rw [m9]; rfl, rfl, rfl, rfl⟩ (by omega)
    have hz0 : zU Z' 0 (Z' 0) = Z' := funext fun i => by
      show (if i = 0 then Z' 0 else Z' i) = Z' i
      by_cases q : i = 0
      · subst q; exact if_pos rfl
      · exact if_neg q
    have k1' : fx2 B_X4_carryOut_31 1000 0 Z' = some (v, zU Z' 0 y1) := by
      have := k1
      rw [hz0] at this
      exact this
    exact ⟨v, _, x1, (be e1).trans ((if_pos rfl).trans ((be f1).trans k1')), (be e2).trans ((if_pos (show (-1 : Int32) < 0 by decide)).trans ((be f2).trans k2)), k3⟩
end ST3
