/-! the pure layer, L: the calls that only ask -/
def ST7 (Z : ZT) (y' : St) : ZT := zU Z 0 y'
section ST2
variable {Z : ZT} {x : St}
theorem Inv.ag7 {y' : St} (h : Inv Z x) (k : AG7 (Z 0) y') : Inv (zU Z 0 y') x := by
  obtain ⟨hg, ⟨k0, hk, h6, hx0, hh⟩, ht⟩ := h
  refine ⟨hg.ag k.ag (fun _ _ => rfl), ⟨k0, hk, h6, hx0, fun j hj => ?_⟩, ht⟩
  have ez : zU Z 0 y' (1 + j) = Z (1 + j) := if_neg (by omega)
  rw [ez]; exact hh j hj
theorem st_lies (h : Inv Z x) (g : Nat → Int64) (v : Int32) : SOK (F_L_lies Z g v) (F_X5_lies x v) := by
  obtain ⟨n, e, T, P, a, lo, og, om⟩ := h.1
  have hn := og.1.2.1
  rcases both_case og.1.2.1 og.2.1.1 (by rw [om.1.1]; exact og.2.1.1) v with ⟨a1, a2, c, hc, rfl⟩ | ⟨a1, a2⟩
  · have c4 : F_X4_lies Z (nI c) = some (.inr ((Z 0).2 6 c, Z)) := (be a1).trans ((if_neg one0).trans ((be (q_at (n := 33) (by omega) (by omega))).trans rfl))
    have c5 : F_X5_lies x (nI c) = some (x.2 0 (143 + c), sI x 1 0) := by
      unfold F_X5_lies
      refine (be a2).trans ((if_neg one0).trans ?_)
      rw [g143 (by omega), if_neg (nI_in (by omega) (by omega)), nI_clamp (by omega)]
      rfl
    exact SOK.ok ((be c4).trans rfl) c5 rfl (by show ((Z 0).2 6 c).toInt64 = _; rw [om.2.1 c (by omega)]) (h.thr 0)
  · have c4 : F_X4_lies Z v = some (.inl "java/lang/IndexOutOfBoundsException") := (be a1).trans (if_pos rfl)
    exact SOK.no (g := g) h one_ne ((be c4).trans (if_pos rfl)) ((be a2).trans ((if_pos rfl).trans rfl))
theorem st_answer (h : Inv Z x) (g : Nat → Int64) (v l r : Int32) : SOK (F_L_answer Z g v l r) (F_X5_answer x v l r) := by
  obtain ⟨n, e, T, P, a, lo, og, om⟩ := h.1
  have hn := og.1.2.1
  have x0 : x.2 0 0 = nI n := by rw [om.1.1]; exact og.2.1.1
  obtain ⟨b0, s1, s2, hb⟩ := both_sides og.1.1 og.1.2.1 og.2.1.1 x0 l r
  rcases both_case og.1.2.1 og.2.1.1 x0 v with ⟨a1, a2, c, hc, rfl⟩ | ⟨a1, a2⟩
  · rcases hb with rfl | ⟨rfl, hl⟩
    · have c4 : F_X4_answer Z (nI c) l r = some (.inl "java/lang/IllegalArgumentException") := (be a1).trans ((if_neg one0).trans ((be s1).trans (if_pos rfl)))
      exact SOK.no (g := g) h two_ne ((be c4).trans ((if_neg (by decide)).trans (if_pos rfl))) ((be a2).trans ((if_neg one0).trans ((be s2).trans ((if_pos rfl).trans rfl))))
    · have c4 : F_X4_answer Z (nI c) l r = some (.inr (nI (tr c l r), Z)) := (be a1).trans ((if_neg one0).trans ((be s1).trans ((if_neg one0).trans ((be (q_ta (by omega) l r)).trans rfl))))
      exact SOK.ok ((be c4).trans rfl) ((be a2).trans ((if_neg one0).trans ((be s2).trans ((if_neg one0).trans ((be (q_tm (by omega) l r)).trans rfl))))) rfl rfl (h.thr 0)
  · have c4 : F_X4_answer Z v l r = some (.inl "java/lang/IndexOutOfBoundsException") := (be a1).trans (if_pos rfl)
    exact SOK.no (g := g) h one_ne ((be c4).trans (if_pos rfl)) ((be a2).trans ((if_pos rfl).trans rfl))
theorem st_leftCase (h : Inv Z x) (g : Nat → Int64) (v : Int32) : SOK (F_L_leftCase Z g v) (F_X5_leftCase x v) := by
  obtain ⟨n, e, T, P, a, lo, og, om⟩ := h.1
  rcases both_left og.cy (og.cx om) og.sz v with ⟨c, hc, k1, k2⟩ | ⟨k1, k2⟩
  · have c4 : F_X4_leftCase Z v = some (.inr (nI c, Z)) := (be k1).trans (if_neg ((by decide +kernel : ∀ c, c < 33 → ¬ nI c = -1) c hc))
    exact SOK.ok ((be c4).trans rfl) k2 rfl rfl (h.thr 0)
  · have c4 : F_X4_leftCase Z v = some (.inl "java/lang/IndexOutOfBoundsException") := (be k1).trans (if_pos rfl)
    exact SOK.no (g := g) h one_ne ((be c4).trans (if_pos rfl)) k2
theorem st_weighing (h : Inv Z x) (g : Nat → Int64) (v w : Int32) : SOK (F_L_weighing Z g v w) (F_X5_weighing x v w) := by
  obtain ⟨n, e, T, P, a, lo, og, om⟩ := h.1
  have hT := og.1.2.2.2.1
  have z5 := og.2.1.2.2.1
  have x2 : x.2 0 2 = nI T := by rw [om.1.2.2.1]; exact z5
  by_cases hv : v < 0
  · have c4 : F_X4_weighing Z v w = some (.inl "java/lang/IndexOutOfBoundsException") := if_pos hv
    have c5 : F_X5_in v 0 (x.2 0 2 - 1) = some 0 := if_pos hv
    exact SOK.no (g := g) h one_ne ((be c4).trans (if_pos rfl)) ((be c5).trans ((if_pos rfl).trans rfl))
  · obtain ⟨j, hj, rfl⟩ := nI_of hv
    by_cases hjT : j < T
    · have c5 : F_X5_in (nI j) 0 (x.2 0 2 - 1) = some 1 := by
        rw [x2, show nI T = nI (T - 1 + 1) by rw [Nat.sub_add_cancel (by omega)], nI_pred]
        exact (if_neg hv).trans (if_neg (nI_nlt (by omega) (by omega)))
      have lv : nI j < (Z 0).1 5 := by rw [z5]; exact nI_lt hjT (by omega)
      obtain ⟨t0, t1, t2⟩ := om.2.2.1 j hjT
      rcases both_ans w with ⟨a1, a2, q, hq, rfl⟩ | ⟨a1, a2⟩
      · have key : ∃ u, F_X3_part 40 (tdS (Z 0)) (nI j) (nI q) = some u ∧ x.2 0 (7 + 3 * j + q) = u := by
          unfold F_X3_part
          rcases (show q = 0 ∨ q = 1 ∨ q = 2 by omega) with rfl | rfl | rfl
          · exact ⟨_, (if_pos rfl).trans ((be (q_at (by omega) (by omega))).trans rfl), t0⟩
          · exact ⟨_, (if_neg one0).trans ((if_pos rfl).trans ((be (q_at (by omega) (by omega))).trans rfl)), t1⟩
          · exact ⟨_, (if_neg two_ne).trans ((if_neg (show ¬ (2 : Int32) = 1 by decide)).trans ((be (q_at (by omega) (by omega))).trans rfl)), t2⟩
        obtain ⟨u, u1, u2⟩ := key
        have c4 : F_X4_weighing Z (nI j) (nI q) = some (.inr (u, Z)) := (if_neg hv).trans ((if_pos lv).trans ((if_neg (nI_pos (by omega))).trans ((if_pos (show nI q < 3 from nI_lt (b := 3) (by omega) (by omega))).trans ((be u1).trans rfl))))
        have c6 : F_X5_weighing x (nI j) (nI q) = some (u, sI x 1 0) := by
          unfold F_X5_weighing
          refine (be c5).trans ((if_neg one0).trans ((be a2).trans ((if_neg one0).trans ?_)))
          have e7 : (7 + 3 * nI j) + nI q = nI (7 + 3 * j + q) := by
            show (nI 7 + nI 3 * nI j) + nI q = _
            rw [pk_mul, nI_add, nI_add]
          rw [e7, if_neg (nI_in (by omega) (by omega)), nI_clamp (by omega), u2]
          rfl
        exact SOK.ok ((be c4).trans rfl) c6 rfl rfl (h.thr 0)
      · have c4 : F_X4_weighing Z (nI j) w = some (.inl "java/lang/IllegalArgumentException") := by
          refine (if_neg hv).trans ((if_pos lv).trans ?_)
          by_cases hw : w < 0
          · exact if_pos hw
          · obtain ⟨i, hi, rfl⟩ := nI_of hw
            have : ¬ nI i < 3 := fun z => by
              have z2 := (nI_ltI (b := 3) hi (by omega)).mp z
              have z3 : F_X5_in (nI i) 0 2 = some 1 := (if_neg hw).trans (if_neg (show ¬ (2 : Int32) < nI i from nI_nlt (a := 2) (by omega) (by omega)))
              rw [z3] at a2; cases a2
            exact (if_neg hw).trans (if_neg this)
        exact SOK.no (g := g) h two_ne ((be c4).trans ((if_neg (by decide)).trans (if_pos rfl))) ((be c5).trans ((if_neg one0).trans ((be a2).trans ((if_pos rfl).trans rfl))))
    · have lv : ¬ nI j < (Z 0).1 5 := by rw [z5]; exact nI_nlt (by omega) hj
      have c4 : F_X4_weighing Z (nI j) w = some (.inl "java/lang/IndexOutOfBoundsException") := (if_neg hv).trans (if_neg lv)
      have c5 : F_X5_in (nI j) 0 (x.2 0 2 - 1) = some 0 := by
        rw [x2]
        refine (if_neg hv).trans (if_pos ?_)
        by_cases t0 : T = 0
        · subst t0
          exact Int32.not_le.mp (fun z => hv (by
            rw [fa_le] at z; rw [fa_lt]
            have : (nI 0 - 1).toInt = -1 := by decide
            have : (0 : Int32).toInt = 0 := rfl
            omega))
        · rw [show nI T = nI (T - 1 + 1) by rw [Nat.sub_add_cancel (by omega)], nI_pred]
          exact nI_lt (by omega) hj
      exact SOK.no (g := g) h one_ne ((be c4).trans (if_pos rfl)) ((be c5).trans ((if_pos rfl).trans rfl))
theorem st_value (h : Inv Z x) (g : Nat → Int64) (v : Int32) : SOK (F_L_value Z g v) (F_X5_value x v) := by
  obtain ⟨n, e, T, P, a, lo, og, om⟩ := h.1
  rcases q_in (v := v) (a := 0) (b := 8) (by omega) (by omega) with ⟨z, j, n1, n2, rfl⟩ | ⟨z, z2⟩
  · obtain ⟨u, u1, u2⟩ := both_num og om (show j < 9 by omega)
    have c4 : F_X4_value Z (nI j) = some (.inr (u, Z)) := (if_neg (nI_pos (by omega))).trans ((if_pos (show nI j < 9 from nI_lt (b := 9) (by omega) (by omega))).trans ((be u1).trans rfl))
    exact SOK.ok ((be c4).trans rfl) ((be z).trans ((if_neg one0).trans ((be u2).trans rfl))) rfl rfl (h.thr 0)
  · have c4 : F_X4_value Z v = some (.inl "java/lang/IllegalArgumentException") := by
      unfold F_X4_value
      by_cases hv : v < 0
      · exact if_pos hv
      · obtain ⟨i, hi, rfl⟩ := nI_of hv
        have z3 := z2.resolve_left hv
        have : ¬ nI i < 9 := fun q => by
          have q2 := (nI_ltI (b := 9) hi (by omega)).mp q
          have q3 := (nI_ltI (by omega) hi).mp z3
          omega
        exact (if_neg hv).trans (if_neg this)
    exact SOK.no (g := g) h one_ne ((be c4).trans (if_pos rfl)) ((be z).trans ((if_pos rfl).trans rfl))
theorem st_weight (h : Inv Z x) (g : Nat → Int64) (v : Int32) : SOL (F_L_weight Z g v) (F_X5_weight x v) := by
  obtain ⟨n, e, T, P, a, lo, og, om⟩ := h.1
  rcases both_far v with ⟨a1, a2, w, hw, rfl⟩ | ⟨a1, a2⟩
  · have u2 := x_ahead (x := sI x 1 0) (og.cx om) og.sz hw
    have c4 : F_X4_weight Z (nI w) = some (.inr (wa w e lo (2 * n + 1), Z)) := (be a1).trans ((if_neg one0).trans ((be (y_ahead og.cy og.sz hw)).trans rfl))
    exact SOL.ok ((be c4).trans rfl) ((be a2).trans ((if_neg one0).trans ((be u2).trans rfl))) rfl rfl (h.thr 0)
  · have c4 : F_X4_weight Z v = some (.inl "java/lang/IllegalArgumentException") := (be a1).trans (if_pos rfl)
    exact SOL.no (g := g) h one_ne ((be c4).trans (if_pos rfl)) ((be a2).trans ((if_pos rfl).trans rfl))
theorem st_bound (h : Inv Z x) : ∃ (v : Int32) (Z1 : ZT) (x1 : St), F_X4_bound Z = some (v, Z1) ∧ F_X5_bound x = some (v, x1) ∧ Inv Z1 x1 := by
  obtain ⟨n, e, T, P, a, lo, og, om⟩ := h.1
  obtain ⟨v, k1, k2⟩ := both_bound og.cy (og.cx om) og.sz
  exact ⟨v, Z, sI x 1 0, k1, (be k2).trans rfl, h.thr 0⟩
theorem st_weightBehind (h : Inv Z x) (g : Nat → Int64) (l r v w : Int32) : SOL (F_L_weightBehind Z g l r v w) (F_X5_weightBehind x l r v w) := by
  obtain ⟨n, e, T, P, a, lo, og, om⟩ := h.1
  obtain ⟨b0, s1, s2, hb⟩ := both_sides og.1.1 og.1.2.1 og.2.1.1 (by rw [om.1.1]; exact og.2.1.1) l r
  rcases hb with rfl | ⟨rfl, hl⟩
  · have c4 : F_X4_weightBehind Z l r v w = some (.inl "java/lang/IllegalArgumentException") := (be s1).trans (if_pos rfl)
    exact SOL.no (g := g) h one_ne ((be c4).trans (if_pos rfl)) ((be s2).trans ((if_pos rfl).trans rfl))
  · rcases both_ans v with ⟨a1, a2, c, hc, rfl⟩ | ⟨a1, a2⟩
    · rcases both_far w with ⟨f1, f2, w, hw, rfl⟩ | ⟨f1, f2⟩
      · have u2 := x_behind (x := sI x 1 0) (og.cx om) og.sz hw hl r (nI c)
        have c4 : F_X4_weightBehind Z l r (nI c) (nI w) = some (.inr (wa w e (lt1 lo l r (nI c)) (2 * n + 1), Z)) := (be s1).trans ((if_neg one0).trans ((be a1).trans ((if_neg one0).trans ((be f1).trans ((if_neg one0).trans ((be (y_behind og.cy og.sz hw l r (nI c))).trans rfl))))))
        exact SOL.ok ((be c4).trans rfl) ((be s2).trans ((if_neg one0).trans ((be a2).trans ((if_neg one0).trans ((be f2).trans ((if_neg one0).trans ((be u2).trans rfl))))))) rfl rfl (h.thr 0)
      · have c4 : F_X4_weightBehind Z l r (nI c) w = some (.inl "java/lang/IllegalArgumentException") := (be s1).trans ((if_neg one0).trans ((be a1).trans ((if_neg one0).trans ((be f1).trans (if_pos rfl)))))
        exact SOL.no (g := g) h one_ne ((be c4).trans (if_pos rfl)) ((be s2).trans ((if_neg one0).trans ((be a2).trans ((if_neg one0).trans ((be f2).trans ((if_pos rfl).trans rfl))))))
    · have c4 : F_X4_weightBehind Z l r v w = some (.inl "java/lang/IllegalArgumentException") := (be s1).trans ((if_neg one0).trans ((be a1).trans (if_pos rfl)))
      exact SOL.no (g := g) h one_ne ((be c4).trans (if_pos rfl)) ((be s2).trans ((if_neg one0).trans ((be a2).trans ((if_pos rfl).trans rfl))))
theorem st_bestGroup (h : Inv Z x) (g : Nat → Int64) (v : Int32) : SOK (F_L_bestGroup Z g v) (F_X5_bestGroup x v) := by
  obtain ⟨n, e, T, P, a, lo, og, om⟩ := h.1
  rcases both_far v with ⟨a1, a2, w, hw, rfl⟩ | ⟨a1, a2⟩
  · obtain ⟨u, k1, k2⟩ := both_best og.cy (og.cx om) og.sz hw
    have c4 : F_X4_bestGroup Z (nI w) = some (.inr (u, Z)) := (be a1).trans ((if_neg one0).trans ((be k1).trans rfl))
    exact SOK.ok ((be c4).trans rfl) ((be a2).trans ((if_neg one0).trans ((be k2).trans rfl))) rfl rfl (h.thr 0)
  · have c4 : F_X4_bestGroup Z v = some (.inl "java/lang/IllegalArgumentException") := (be a1).trans (if_pos rfl)
    exact SOK.no (g := g) h one_ne ((be c4).trans (if_pos rfl)) ((be a2).trans ((if_pos rfl).trans rfl))
theorem st_teaches (h : Inv Z x) (g : Nat → Int64) (l r : Int32) : ∃ (k : Int32) (Z1 : ZT) (g1 : Nat → Int64) (b1 : Int32) (x1 : St), F_L_teaches Z g l r = some (k, Z1, g1) ∧ F_X5_teaches x l r = some (b1, x1) ∧ x1.1 1 = k ∧ (k = 0 → g1 0 = (if b1 = 0 then 0 else 1)) ∧ Inv Z1 x1 := by
  obtain ⟨n, e, T, P, a, lo, og, om⟩ := h.1
  obtain ⟨b0, s1, s2, hb⟩ := both_sides og.1.1 og.1.2.1 og.2.1.1 (by rw [om.1.1]; exact og.2.1.1) l r
  rcases hb with rfl | ⟨rfl, hl⟩
  · have c4 : F_X4_teaches Z l r = some (.inl "java/lang/IllegalArgumentException") := (be s1).trans (if_pos rfl)
    exact ⟨1, Z, g, 0, sI x 1 1, (be c4).trans (if_pos rfl), (be s2).trans ((if_pos rfl).trans (x_teach0 (og.cx om) og.sz l r)), rfl, fun q => absurd q one_ne, h.thr 1⟩
  · obtain ⟨b, hb, k1, k2⟩ := both_teach og.cy (og.cx om) og.sz l r
    have c4 : F_X4_teaches Z l r = some (.inr (b, Z)) := (be s1).trans ((if_neg one0).trans ((be k1).trans (if_neg (show ¬ ¬ b &&& 1 = b by rcases hb with rfl | rfl <;> decide))))
    rcases hb with rfl | rfl
    · exact ⟨0, Z, vp_updL g 0 0, 0, sI x 1 0, (be c4).trans (if_pos rfl), (be s2).trans ((if_neg one0).trans k2), rfl, fun _ => (if_pos rfl).symm, h.thr 0⟩
    · exact ⟨0, Z, vp_updL g 0 1, 1, sI x 1 0, (be c4).trans (if_neg one0), (be s2).trans ((if_neg one0).trans k2), rfl, fun _ => (if_neg one0).symm, h.thr 0⟩
theorem st_distance (h : Inv Z x) (g : Nat → Int64) (v w : Int32) : SOK (F_L_distance Z g v w) (F_X5_distance x v w) := by
  obtain ⟨n, e, T, P, a, lo, og, om⟩ := h.1
  have hn := og.1.2.1
  have x0 : x.2 0 0 = nI n := by rw [om.1.1]; exact og.2.1.1
  rcases both_case og.1.2.1 og.2.1.1 x0 v with ⟨a1, a2, c, hc, rfl⟩ | ⟨a1, a2⟩
  · rcases both_case og.1.2.1 og.2.1.1 x0 w with ⟨b1, b2, d, hd, rfl⟩ | ⟨b1, b2⟩
    · have k1 := y_word og.py (show c < 33 by omega)
      have k2 := y_word og.py (show d < 33 by omega)
      have k3 := q_apart og.py.1 (dg_lt ((Z 0).2 3) ((Z 0).2 4) c) (dg_lt ((Z 0).2 3) ((Z 0).2 4) d)
      have k4 := x_apart (og.px om) (show c < 33 by omega) (show d < 33 by omega)
      have c4 : F_X4_distance Z (nI c) (nI d) = some (.inr (nI (cn (dg ((Z 0).2 3) ((Z 0).2 4) c) (dg ((Z 0).2 3) ((Z 0).2 4) d) P), Z)) := (be a1).trans ((if_neg one0).trans ((be b1).trans ((if_neg one0).trans ((be k1).trans ((be k2).trans ((be k3).trans rfl))))))
      exact SOK.ok ((be c4).trans rfl) ((be a2).trans ((if_neg one0).trans ((be b2).trans ((if_neg one0).trans ((be k4).trans rfl))))) rfl rfl (h.thr 0)
    · have c4 : F_X4_distance Z (nI c) w = some (.inl "java/lang/IndexOutOfBoundsException") := (be a1).trans ((if_neg one0).trans ((be b1).trans (if_pos rfl)))
      exact SOK.no (g := g) h one_ne ((be c4).trans (if_pos rfl)) ((be a2).trans ((if_neg one0).trans ((be b2).trans ((if_pos rfl).trans rfl))))
  · have c4 : F_X4_distance Z v w = some (.inl "java/lang/IndexOutOfBoundsException") := (be a1).trans (if_pos rfl)
    exact SOK.no (g := g) h one_ne ((be c4).trans (if_pos rfl)) ((be a2).trans ((if_pos rfl).trans rfl))
theorem st_leastDistance (h : Inv Z x) : ∃ (v : Int32) (Z1 : ZT) (x1 : St), F_X4_leastDistance Z = some (v, Z1) ∧ F_X5_leastDistance x = some (v, x1) ∧ Inv Z1 x1 := by
  obtain ⟨n, e, T, P, a, lo, og, om⟩ := h.1
  obtain ⟨y', k1, k2⟩ := y_least og.cy og.1.2.1 og.py
  have k3 := x_nearest (og.cx om) og.1.2.1 (og.px om)
  exact ⟨_, _, sI x 1 0, (be k1).trans rfl, (be k3).trans rfl, (h.ag7 k2).thr 0⟩
theorem st_bears (h : Inv Z x) : ∃ (v : Int32) (Z1 : ZT) (x1 : St), F_X4_bears Z = some (v, Z1) ∧ F_X5_bears x = some (v, x1) ∧ Inv Z1 x1 := by
  obtain ⟨n, e, T, P, a, lo, og, om⟩ := h.1
  obtain ⟨y', k1, k2⟩ := y_least og.cy og.1.2.1 og.py
  have k3 := x_nearest (og.cx om) og.1.2.1 (og.px om)
  obtain ⟨m, hm⟩ : ∃ m, m = up (inr1 ((Z 0).2 3) ((Z 0).2 4) P) (2 * n + 1) 0 8 := ⟨_, rfl⟩
  rw [← hm] at k1 k3
  by_cases q : m = 0
  · exact ⟨_, _, sI x 1 0, (be k1).trans (if_pos q), (be k3).trans ((if_pos q).trans rfl), (h.ag7 k2).thr 0⟩
  · exact ⟨_, _, sI x 1 0, (be k1).trans (if_neg q), (be k3).trans ((if_neg q).trans rfl), (h.ag7 k2).thr 0⟩
theorem st_decode (h : Inv Z x) (g : Nat → Int64) (v : Int32) : SOK (F_L_decode Z g v) (F_X5_decode x v) := by
  obtain ⟨n, e, T, P, a, lo, og, om⟩ := h.1
  have hP := og.1.2.2.2.2.1
  have x3 : x.2 0 3 = nI P := by rw [om.1.2.2.2.1]; exact og.2.1.2.2.2.1
  have hp3 : 3 ^ P ≤ 6561 := Nat.pow_le_pow_right (n := 3) (by omega) hP
  have hp1 : 0 < 3 ^ P := Nat.pow_pos (by omega)
  have kr := q_rows (x := plS (Z 0)) hP og.2.1.2.2.2.1
  have kd : ∀ R : Option (Int32 × St), (F_X5_in v 0 (nI (3 ^ P) - 1)).bind (fun t2 => if t2 = 0 then ((F_X5_fails x 1).bind fun t13 => some (t13.1, t13.2)) else fx3 (B_X5_decode_50 x v) 1000 (-1) 9 0) = R → F_X5_decode x v = R := by
    intro R hR
    unfold F_X5_decode
    refine fx2_upE (B := B_X5_decode_4 x v) (m := P) (f := fun _ s => s * 3) (E := fun s => (F_X5_in v 0 (s - 1)).bind (fun t2 => if t2 = 0 then ((F_X5_fails x 1).bind fun t13 => some (t13.1, t13.2)) else fx3 (B_X5_decode_50 x v) 1000 (-1) 9 0)) ?_ ?_ P 0 1 1000 rfl (by omega) |>.trans ?_
    · intro k i s hi
      unfold B_X5_decode_4
      rw [x3, if_neg (nI_ge hi (by omega)), nI_1]
    · intro k s
      unfold B_X5_decode_4
      rw [x3, if_pos (nI_le (Nat.le_refl P) (by omega))]
    · have e3 : up (fun _ s => s * 3) P 0 (nI 1) = nI (up (fun _ s => s * 3) P 0 1) := up_hom (f := fun _ s => s * 3) (g := fun _ s => s * 3) nI (fun i s => pk_mul s 3) P 0 1
      have e4 : ∀ d i s, up (fun _ (s : Nat) => s * 3) d i s = s * 3 ^ d := by
        intro d
        induction d with
        | zero => intro i s; show s = s * 3 ^ 0; rw [Nat.pow_zero, Nat.mul_one]
        | succ d ih => intro i s; show up (fun _ (s : Nat) => s * 3) d (i + 1) (s * 3) = _; rw [ih, Nat.pow_succ, Nat.mul_assoc, Nat.mul_comm 3]
      rw [e4, Nat.one_mul] at e3
      show (F_X5_in v 0 (up (fun _ s => s * 3) P 0 (nI 1) - 1)).bind _ = R
      rw [e3]; exact hR
  by_cases hv : v < 0
  · have c4 : F_X4_decode Z v = some (.inl "java/lang/IllegalArgumentException") := if_pos hv
    have c5 : F_X5_in v 0 (nI (3 ^ P) - 1) = some 0 := if_pos hv
    exact SOK.no (g := g) h one_ne ((be c4).trans (if_pos rfl)) (kd _ ((be c5).trans ((if_pos rfl).trans rfl)))
  · obtain ⟨j, hj, rfl⟩ := nI_of hv
    by_cases hjP : j < 3 ^ P
    · have c5 : F_X5_in (nI j) 0 (nI (3 ^ P) - 1) = some 1 := by
        rw [show nI (3 ^ P) = nI (3 ^ P - 1 + 1) by rw [Nat.sub_add_cancel (by omega)], nI_pred]
        exact (if_neg hv).trans (if_neg (nI_nlt (by omega) (by omega)))
      obtain ⟨u, k1, k2⟩ := both_dec og.cy (og.cx om) og.1.2.1 og.py (og.px om) hjP
      have c4 : F_X4_decode Z (nI j) = some (.inr (u, Z)) := (if_neg hv).trans ((be kr).trans ((if_pos (nI_lt hjP (by omega))).trans ((be (q_wordOf hj)).trans ((be k1).trans rfl))))
      exact SOK.ok ((be c4).trans rfl) (kd _ ((be c5).trans ((if_neg one0).trans k2))) rfl rfl (h.thr 0)
    · have c5 : F_X5_in (nI j) 0 (nI (3 ^ P) - 1) = some 0 := by
        rw [show nI (3 ^ P) = nI (3 ^ P - 1 + 1) by rw [Nat.sub_add_cancel (by omega)], nI_pred]
        exact (if_neg hv).trans (if_pos (nI_lt (by omega) hj))
      have c4 : F_X4_decode Z (nI j) = some (.inl "java/lang/IllegalArgumentException") := (if_neg hv).trans ((be kr).trans (if_neg (nI_nlt (by omega) hj)))
      exact SOK.no (g := g) h one_ne ((be c4).trans (if_pos rfl)) (kd _ ((be c5).trans ((if_pos rfl).trans rfl)))
theorem shr_ok : ∀ m, m < 34 → ∀ n, n < 17 → 2 ≤ n → (FP.ddiv (FP.i2d (nI m)) (FP.i2d (nI (2 * n + 1)))) &&& 0x7fffffffffffffff ≤ 0x7ff0000000000000 := by decide +kernel
theorem st_share (h : Inv Z x) : ∃ (v : UInt64) (Z1 : ZT) (x1 : St), F_X4_share Z = some (v, Z1) ∧ F_X5_share x = some (v, x1) ∧ Inv Z1 x1 := by
  obtain ⟨n, e, T, P, a, lo, og, om⟩ := h.1
  have hn := og.1.2.1
  have hl := nl_le e lo (2 * n + 1)
  have ok := shr_ok (nl e lo (2 * n + 1)) (by omega) n (by omega) og.1.1
  have k1 := y_count og.cy og.sz
  have k2 := x_lefts (x := sI x 1 0) (og.cx om) og.sz
  have k3 := y_cases og.cy
  have k4 := x_cases (x := sI x 1 0) (og.cx om)
  exact ⟨_, Z, sI x 1 0, (be k1).trans ((be k3).trans (if_neg (fun z => z ok))), (be k2).trans ((be k4).trans (if_neg (fun z => z ok))), h.thr 0⟩
theorem nar_ok : ∀ b, b < 128 → vp_nar .byte (nI b).toInt8.toInt32 = nI b := by decide +kernel
theorem st_append (h : Inv Z x) (g : Nat → Int64) (v : Int32) : SOK (F_L_append Z g v) (F_X5_append x v) := by
  obtain ⟨hg, ⟨k, hk, h6, hx0, hh⟩, ⟨t, ht, h5, hx2, hti⟩⟩ := h
  have h : Inv Z x := ⟨hg, ⟨k, hk, h6, hx0, hh⟩, ⟨t, ht, h5, hx2, hti⟩⟩
  rcases q_in (v := v) (a := 0) (b := 127) (by omega) (by omega) with ⟨z, j, n1, n2, rfl⟩ | ⟨z, z2⟩
  · by_cases q : t < 100
    · have wr : F_X1_write (Z 5) (nI j) = some (sI (sA (Z 5) 0 (upd ((Z 5).2 0) t (nI j))) 0 ((Z 5).1 0 + 1)) := by
        unfold F_X1_write
        have e1 : F_X4_put 100 ((Z 5).2 0) ((Z 5).1 0) (nI j) = some (upd ((Z 5).2 0) t (nI j)) := by rw [h5, q_put q (by omega)]
        exact (if_neg (show ¬ (100 : Int32) ≤ (Z 5).1 0 by rw [h5]; exact nI_ge (b := 100) q (by omega))).trans ((be e1).trans rfl)
      have c4 : F_X4_append Z (nI j) = some (.inr ((Z 5).1 0 + 1, zU Z 5 (sI (sA (Z 5) 0 (upd ((Z 5).2 0) t (nI j))) 0 ((Z 5).1 0 + 1)))) := by
        unfold F_X4_append
        exact (rng_yes (nI_pos (by omega)) (nI_le (b := 127) n2 (by omega))).trans ((if_pos (show (Z 5).1 0 < 100 by rw [h5]; exact nI_lt (b := 100) q (by omega))).trans ((be wr).trans rfl))
      have c5 : F_X5_append x (nI j) = some (x.1 2 + 1, sI (sI (sA x 3 (upd (x.2 3) t (nI j))) 2 (x.1 2 + 1)) 1 0) := by
        unfold F_X5_append
        refine (be z).trans ((if_neg one0).trans ?_)
        rw [hx2, if_neg (show ¬ nI t = 100 from fun y => by have := (nI_eq (b := 100) (by omega) (by omega)).mp y; omega), if_neg (nI_in (by omega) (by omega)), nI_clamp (by omega), nar_ok j (by omega), sb]
        show some (x.1 2 + 1, sI (sI (sA x 3 (upd (x.2 3) t (nI j))) 2 (x.1 2 + 1)) 1 0) = _
        rw [hx2]
      refine SOK.ok ((be c4).trans rfl) c5 rfl (by show ((Z 5).1 0 + 1).toInt64 = _; rw [h5, hx2]) ⟨hg, ⟨k, hk, h6, hx0, fun i hi => ?_⟩, t + 1, by omega, ?_, ?_, fun i hi => ?_⟩
      · have ez : zU Z 5 (sI (sA (Z 5) 0 (upd ((Z 5).2 0) t (nI j))) 0 ((Z 5).1 0 + 1)) (1 + i) = Z (1 + i) := if_neg (by omega)
        rw [ez]; exact hh i hi
      · show (Z 5).1 0 + 1 = _; rw [h5, nI_1]
      · show x.1 2 + 1 = _; rw [hx2, nI_1]
      · show ∃ b, b < 128 ∧ upd ((Z 5).2 0) t (nI j) i = nI b ∧ upd (x.2 3) t (nI j) i = nI b
        by_cases y : i = t
        · subst y; rw [ux_at, ux_at]; exact ⟨j, by omega, rfl, rfl⟩
        · rw [ux_ne _ _ y, ux_ne _ _ y]; exact hti i (by omega)
    · have c4 : F_X4_append Z (nI j) = some (.inl "java/lang/IllegalStateException") := by
        unfold F_X4_append
        exact (rng_yes (nI_pos (by omega)) (nI_le (b := 127) n2 (by omega))).trans (if_neg (show ¬ (Z 5).1 0 < 100 by rw [h5, show t = 100 by omega]; decide))
      have c5 : F_X5_append x (nI j) = some (0, sI x 1 2) := (be z).trans ((if_neg one0).trans ((if_pos (show x.1 2 = 100 by rw [hx2, show t = 100 by omega]; rfl)).trans rfl))
      exact SOK.no (g := g) h two_ne ((be c4).trans ((if_neg (by decide)).trans (if_pos rfl))) c5
  · have c4 : F_X4_append Z v = some (.inl "java/lang/IllegalArgumentException") := rng_no z2
    exact SOK.no (g := g) h one_ne ((be c4).trans (if_pos rfl)) ((be z).trans ((if_pos rfl).trans rfl))
theorem st_clearText (h : Inv Z x) : ∃ (v : Int32) (Z1 : ZT) (x1 : St), F_X4_clearText Z = some (v, Z1) ∧ F_X5_clearText x = some (v, x1) ∧ Inv Z1 x1 := by
  obtain ⟨hg, ⟨k, hk, h6, hx0, hh⟩, ⟨t, ht, h5, hx2, hti⟩⟩ := h
  refine ⟨(Z 5).1 0, _, sI (sI x 2 0) 1 0, rfl, ?_, hg, ⟨k, hk, h6, hx0, fun i hi => ?_⟩, 0, by omega, rfl, rfl, fun i hi => absurd hi (Nat.not_lt_zero i)⟩
  · rw [h5, ← hx2]; rfl
  · have ez : zU Z 5 (sI (Z 5) 0 0) (1 + i) = Z (1 + i) := if_neg (by omega)
    rw [ez]; exact hh i hi
theorem st_undo (h : Inv Z x) (g : Nat → Int64) : SOK (F_L_undo Z g) (F_X5_undo x) := by
  obtain ⟨hg, ⟨k, hk, h6, hx0, hh⟩, htx⟩ := h
  have h : Inv Z x := ⟨hg, ⟨k, hk, h6, hx0, hh⟩, htx⟩
  cases k with
  | zero =>
    have c4 : F_X4_undo Z = some (.inl "java/lang/IllegalStateException") := if_pos h6
    have c5 : F_X5_undo x = some (0, sI x 1 1) := (if_pos hx0).trans rfl
    exact SOK.no (g := g) h one_ne ((be c4).trans (if_pos rfl)) c5
  | succ k =>
    obtain ⟨Z', e1, hag, hz5, hz6, hzj⟩ := z_restore (by omega) h6
    have c4 : F_X4_undo Z = some (.inr ((Z' 6).1 0, Z')) := (if_neg (by rw [h6]; exact nI_ne0 (by omega) (by omega))).trans ((be e1).trans rfl)
    have kx := ind (m := 176) (Q := fun N i (s : St) => ∃ x', fx2 B_X5_undo_25 N (nI i) s = some (nI k, x') ∧ x'.1 1 = 0 ∧ x'.1 0 = nI k ∧ x'.1 2 = x.1 2 ∧ (∀ j, j ≠ 0 → x'.2 j = x.2 j) ∧ ∀ j, j < 176 → x'.2 0 j = x.2 1 (176 * k + j)) (fun i s => s.1 0 = nI k ∧ s.1 2 = x.1 2 ∧ (∀ j, j ≠ 0 → s.2 j = x.2 j) ∧ ∀ j, j < i → s.2 0 j = x.2 1 (176 * k + j)) (by
      intro N i s hi hs ih
      show ∃ x', B_X5_undo_25 (fx2 B_X5_undo_25 N) (nI i) s = some (nI k, x') ∧ _
      unfold B_X5_undo_25
      rcases Nat.lt_or_ge i 176 with q | q
      · rw [if_neg (show ¬ (176 : Int32) ≤ nI i from nI_ge (b := 176) q (by omega)), hs.1, g176, if_neg (nI_in (by omega) (by omega)), if_neg (nI_in q (by omega)), sb, nI_1, nI_clamp (by omega), nI_clamp (by omega)]
        refine ih _ q ⟨hs.1, hs.2.1, fun j hj => ?_, fun j hj => ?_⟩
        · show (if j = 0 then _ else s.2 j) = _
          rw [if_neg hj]; exact hs.2.2.1 j hj
        · show upd (s.2 0) i (s.2 1 (176 * k + i)) j = _
          by_cases y : j = i
          · subst y; rw [ux_at, hs.2.2.1 1 (by omega)]
          · rw [ux_ne _ _ y]; exact hs.2.2.2 j (by omega)
      · rw [show i = 176 by omega] at hs ⊢
        refine ⟨sI s 1 0, ?_, rfl, hs.1, hs.2.1, hs.2.2.1, hs.2.2.2⟩
        rw [if_pos (show (176 : Int32) ≤ nI 176 by decide), hs.1]
        rfl) 176 0 (sI x 0 (x.1 0 - 1)) 1000 rfl (by omega) ⟨by show x.1 0 - 1 = _; rw [hx0, nI_pred], rfl, fun _ _ => rfl, fun j hj => absurd hj (Nat.not_lt_zero j)⟩
    obtain ⟨x', k1, k2, k3, k4, k5, k6⟩ := kx
    have c5 : F_X5_undo x = some (nI k, x') := (if_neg (by rw [hx0]; exact nI_ne0 (by omega) (by omega))).trans k1
    refine SOK.ok ((be c4).trans rfl) c5 k2 (by show ((Z' 6).1 0).toInt64 = _; rw [hz6]) ⟨?_, ⟨k, by omega, hz6, k3, fun j hj => ?_⟩, ?_⟩
    · exact (hh k (by omega)).ag hag (fun j hj => k6 j hj)
    · rw [hzj j hj, k5 1 (by omega)]; exact hh j (by omega)
    · rw [hz5, k4, k5 3 (by omega)]; exact htx
end ST2
