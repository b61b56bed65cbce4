/-! the pure layer, N: the digest, the start -/
theorem up_cong {α : Type} {f g : Nat → α → α} : ∀ d i s, (∀ j, i ≤ j → j < i + d → ∀ s, f j s = g j s) → up f d i s = up g d i s
  | 0, _, _, _ => rfl
  | d + 1, i, s, h => by
    show up f d (i + 1) (f i s) = up g d (i + 1) (g i s)
    rw [h i (Nat.le_refl i) (by omega)]
    exact up_cong d (i + 1) _ (fun j h1 h2 => h j (by omega) (by omega))
theorem up2 {α : Type} (f g : Nat → α → α) : ∀ d i s, (∀ j, i ≤ j → j < i + d → ∀ s, f (2 * j + 1) (f (2 * j) s) = g j s) → up f (2 * d) (2 * i) s = up g d i s
  | 0, _, _, _ => rfl
  | d + 1, i, s, h => by
    show up f (2 * d) (2 * i + 1 + 1) (f (2 * i + 1) (f (2 * i) s)) = up g d (i + 1) (g i s)
    rw [h i (Nat.le_refl i) (by omega)]
    exact up2 f g d (i + 1) _ (fun j h1 h2 => h j (by omega) (by omega))
theorem up3 {α : Type} (f g : Nat → α → α) : ∀ d i s, (∀ j, i ≤ j → j < i + d → ∀ s, f (3 * j + 2) (f (3 * j + 1) (f (3 * j) s)) = g j s) → up f (3 * d) (3 * i) s = up g d i s
  | 0, _, _, _ => rfl
  | d + 1, i, s, h => by
    show up f (3 * d) (3 * i + 1 + 1 + 1) (f (3 * i + 1 + 1) (f (3 * i + 1) (f (3 * i) s))) = up g d (i + 1) (g i s)
    rw [show 3 * i + 1 + 1 = 3 * i + 2 from rfl, h i (Nat.le_refl i) (by omega)]
    exact up3 f g d (i + 1) _ (fun j h1 h2 => h j (by omega) (by omega))
def mx (s : Int64) (v : Int32) : Int64 := 31 * s + v.toInt64
theorem q_mix (s : Int64) (v : Int32) : F_X4_mix s v.toInt64 = some (mx s v) := rfl
section DG
variable {Z : ZT} {x : St}
theorem st_digest (h : Inv Z x) : ∃ (v : Int64) (Z1 : ZT) (x1 : St), F_X4_digest Z = some (v, Z1) ∧ F_X5_digest x = some (v, x1) ∧ Inv Z1 x1 := by
  have hI := h
  obtain ⟨⟨n, e, T, P, a, lo, og, om⟩, ⟨k, hk, h6, hx0, hh⟩, ⟨t, ht, h5, hx2, hti⟩⟩ := h
  have hn := og.1.2.1; have hT := og.1.2.2.2.1; have hP := og.1.2.2.2.2.1
  have om' : MSs T P (Z 0) ((sI x 1 0).2 0) := om
  have cx := og.cx (x := sI x 1 0) om'
  -- the end
  obtain ⟨y', k1, k2⟩ := y_least og.cy hn og.py
  have k3 := x_nearest cx hn (og.px om')
  obtain ⟨bv, b1, b2⟩ := both_bound (Z := zU Z 0 y') (k2.cy og.cy) cx og.sz
  have w1 := y_ahead (k2.cy og.cy) og.sz (w := 5) (by omega)
  have w2 := x_ahead cx og.sz (w := 5) (by omega)
  obtain ⟨gv, g1, g2⟩ := both_best (k2.cy og.cy) cx og.sz (w := 3) (by omega)
  obtain ⟨lv, hlv⟩ : ∃ z, z = up (inr1 ((Z 0).2 3) ((Z 0).2 4) P) (2 * n + 1) 0 8 := ⟨_, rfl⟩
  obtain ⟨wv, hwv⟩ : ∃ z, z = wa 5 e lo (2 * n + 1) := ⟨_, rfl⟩
  rw [← hlv] at k1 k3
  rw [← hwv] at w1 w2
  have yend : ∀ (K : Int64 → Int32 → Option (Int64 × (Nat → St))) (s : Int64), B_X4_digest_137 Z K s (nI P) = some (mx (mx (31 * mx (mx s lv) bv + wv) gv) (nI k), zU Z 0 y') := fun K s => by
    unfold B_X4_digest_137
    have z6 : (zU Z 0 y' 6).1 0 = nI k := h6
    refine (if_pos (by rw [og.2.1.2.2.2.1]; exact nI_le (Nat.le_refl P) (by omega))).trans ((be k1).trans ((be (q_mix s lv)).trans ((be b1).trans ((be (q_mix _ bv)).trans ((be w1).trans ((be (show F_X4_mix (mx (mx s lv) bv) wv = some (31 * mx (mx s lv) bv + wv) from rfl)).trans ((be g1).trans ((be (q_mix _ gv)).trans ((be (show F_X4_mix (mx (31 * mx (mx s lv) bv + wv) gv) ((zU Z 0 y' 6).1 0).toInt64 = some (mx (mx (31 * mx (mx s lv) bv + wv) gv) (nI k)) by rw [z6]; rfl)).trans rfl)))))))))
  have e2P : 2 * ((sI x 1 0).2 0 3) = nI (2 * P) := by
    show 2 * x.2 0 3 = _
    rw [om.1.2.2.2.1, og.2.1.2.2.2.1]
    exact pk_mul 2 P
  have xend : ∀ (K : Int64 → Int32 → Option (Int64 × St)) (s : Int64), B_X5_digest_115 x K s (nI (2 * P)) = some (mx (mx (31 * mx (mx s lv) bv + wv) gv) (nI k), sI x 1 0) := fun K s => by
    unfold B_X5_digest_115
    rw [if_pos (by rw [e2P]; exact nI_le (Nat.le_refl _) (by omega))]
    refine (be k3).trans ((be b2).trans ((be w2).trans ((be rfl).trans ((be g2).trans ?_))))
    show some (31 * (31 * _ + gv.toInt64) + (x.1 0).toInt64, sI x 1 0) = _
    rw [hx0]; rfl
  -- the plan
  have yp : ∀ s, fx2 (B_X4_digest_137 Z) 1000 s 0 = some (mx (mx (31 * mx (mx (up (fun i s => mx (mx s ((Z 0).2 3 i)) ((Z 0).2 4 i)) P 0 s) lv) bv + wv) gv) (nI k), zU Z 0 y') := fun s => by
    refine fx2_upE (B := B_X4_digest_137 Z) (m := P) (f := fun i s => mx (mx s ((Z 0).2 3 i)) ((Z 0).2 4 i)) (E := fun s => some (mx (mx (31 * mx (mx s lv) bv + wv) gv) (nI k), zU Z 0 y')) ?_ yend P 0 s 1000 rfl (by omega)
    intro K i s hi
    unfold B_X4_digest_137
    rw [if_neg (by rw [og.2.1.2.2.2.1]; exact nI_ge hi (by omega)), q_at (by omega) (by omega), q_at (by omega) (by omega), nI_1]
    rfl
  have xp : ∀ s, fx2 (B_X5_digest_115 x) 1000 s 0 = some (mx (mx (31 * mx (mx (up (fun i s => mx (mx s ((Z 0).2 3 i)) ((Z 0).2 4 i)) P 0 s) lv) bv + wv) gv) (nI k), sI x 1 0) := fun s => by
    refine (fx2_upE (B := B_X5_digest_115 x) (m := 2 * P) (f := fun i s => mx s (x.2 0 (127 + i))) (E := fun s => some (mx (mx (31 * mx (mx s lv) bv + wv) gv) (nI k), sI x 1 0)) ?_ xend (2 * P) 0 s 1000 rfl (by omega)).trans ?_
    · intro K i s hi
      unfold B_X5_digest_115
      rw [if_neg (by rw [e2P]; exact nI_ge hi (by omega)), show (127 : Int32) + nI i = nI (127 + i) from nI_add 127 i, if_neg (nI_in (by omega) (by omega)), sb, nI_1, nI_clamp (by omega)]
      rfl
    · have e9 : up (fun i s => mx s (x.2 0 (127 + i))) (2 * P) (2 * 0) s = up (fun i s => mx (mx s ((Z 0).2 3 i)) ((Z 0).2 4 i)) P 0 s := up2 _ _ P 0 s (fun j _ hj s => by
        obtain ⟨p1, p2⟩ := om.2.2.2 j (by omega)
        show mx (mx s (x.2 0 (127 + 2 * j))) (x.2 0 (127 + (2 * j + 1))) = _
        rw [p1, show 127 + (2 * j + 1) = 127 + 2 * j + 1 by omega, p2])
      show some (mx (mx (31 * mx (mx (up _ (2 * P) (2 * 0) s) lv) bv + wv) gv) (nI k), sI x 1 0) = _
      rw [e9]
  obtain ⟨F1, hF1⟩ : ∃ F : Int64 → Int64, ∀ s, F s = mx (mx (31 * mx (mx (up (fun i s => mx (mx s ((Z 0).2 3 i)) ((Z 0).2 4 i)) P 0 s) lv) bv + wv) gv) (nI k) := ⟨_, fun _ => rfl⟩
  -- the cases
  have yc : ∀ s, fx2 (B_X4_digest_101 Z) 1000 s 0 = some (F1 (up (fun c s => mx s (nI (lo c))) (2 * n + 1) 0 s), zU Z 0 y') := fun s => by
    refine fx2_upE (B := B_X4_digest_101 Z) (m := 2 * n + 1) (f := fun c s => mx s (nI (lo c))) (E := fun s => some (F1 s, zU Z 0 y')) ?_ ?_ (2 * n + 1) 0 s 1000 rfl (by omega)
    · intro K i s hi
      unfold B_X4_digest_101
      rw [y_cases og.cy, sb, if_neg (nI_ge hi (by omega)), q_at (by omega) (by omega), og.cy.2.2 i (by omega), nI_1]
      rfl
    · intro K s
      unfold B_X4_digest_101
      rw [y_cases og.cy, sb, if_pos (nI_le (Nat.le_refl _) (by omega)), yp, hF1]
  have xc : ∀ s, fx2 (B_X5_digest_81 x) 1000 s 0 = some (F1 (up (fun c s => mx s (nI (lo c))) (2 * n + 1) 0 s), sI x 1 0) := fun s => by
    refine fx2_upE (B := B_X5_digest_81 x) (m := 2 * n + 1) (f := fun c s => mx s (nI (lo c))) (E := fun s => some (F1 s, sI x 1 0)) ?_ ?_ (2 * n + 1) 0 s 1000 rfl (by omega)
    · intro K i s hi
      unfold B_X5_digest_81
      rw [x_cases cx, sb, if_neg (nI_ge hi (by omega)), g143 (by omega), if_neg (nI_in (by omega) (by omega)), sb, nI_1, nI_clamp (by omega), cx.2.2 i (by omega)]
      rfl
    · intro K s
      unfold B_X5_digest_81
      rw [x_cases cx, sb, if_pos (nI_le (Nat.le_refl _) (by omega)), xp, hF1]
  obtain ⟨F2, hF2⟩ : ∃ F : Int64 → Int64, ∀ s, F s = F1 (up (fun c s => mx s (nI (lo c))) (2 * n + 1) 0 s) := ⟨_, fun _ => rfl⟩
  -- what was told
  have yt : ∀ s, fx2 (B_X4_digest_45 Z) 1000 s 0 = some (F2 (up (fun i s => mx (mx (mx s ((Z 0).2 0 i)) ((Z 0).2 1 i)) ((Z 0).2 2 i)) T 0 s), zU Z 0 y') := fun s => by
    refine fx2_upE (B := B_X4_digest_45 Z) (m := T) (f := fun i s => mx (mx (mx s ((Z 0).2 0 i)) ((Z 0).2 1 i)) ((Z 0).2 2 i)) (E := fun s => some (F2 s, zU Z 0 y')) ?_ ?_ T 0 s 1000 rfl (by omega)
    · intro K i s hi
      unfold B_X4_digest_45
      rw [if_neg (by rw [og.2.1.2.2.1]; exact nI_ge hi (by omega))]
      refine (fx2_upE (B := B_X4_digest_62 Z (nI i) K) (m := 3) (f := fun j s => mx s (if j = 0 then (Z 0).2 0 i else if j = 1 then (Z 0).2 1 i else (Z 0).2 2 i)) (E := fun s => K s (nI (i + 1))) ?_ ?_ 3 0 s 1000 rfl (by omega)).trans rfl
      · intro K2 j s hj
        unfold B_X4_digest_62
        rw [if_neg (show ¬ (3 : Int32) ≤ nI j from nI_ge (b := 3) hj (by omega)), nI_1]
        have pe : F_X3_part 40 (tdS (Z 0)) (nI i) (nI j) = some (if j = 0 then (Z 0).2 0 i else if j = 1 then (Z 0).2 1 i else (Z 0).2 2 i) := by
          unfold F_X3_part
          rcases (show j = 0 ∨ j = 1 ∨ j = 2 by omega) with rfl | rfl | rfl
          · exact (if_pos rfl).trans ((be (q_at (by omega) (by omega))).trans rfl)
          · exact (if_neg one0).trans ((if_pos rfl).trans ((be (q_at (by omega) (by omega))).trans rfl))
          · exact (if_neg two_ne).trans ((if_neg (show ¬ (2 : Int32) = 1 by decide)).trans ((be (q_at (by omega) (by omega))).trans rfl))
        exact (be pe).trans (be (q_mix _ _))
      · intro K2 s
        unfold B_X4_digest_62
        rw [if_pos (show (3 : Int32) ≤ nI 3 by decide), nI_1]
    · intro K s
      unfold B_X4_digest_45
      rw [if_pos (by rw [og.2.1.2.2.1]; exact nI_le (Nat.le_refl T) (by omega)), yc, hF2]
  have e3T : 3 * ((sI x 1 0).2 0 2) = nI (3 * T) := by
    show 3 * x.2 0 2 = _
    rw [om.1.2.2.1, og.2.1.2.2.1]
    exact pk_mul 3 T
  have xt : ∀ s, fx2 (B_X5_digest_44 x) 1000 s 0 = some (F2 (up (fun i s => mx (mx (mx s ((Z 0).2 0 i)) ((Z 0).2 1 i)) ((Z 0).2 2 i)) T 0 s), sI x 1 0) := fun s => by
    refine (fx2_upE (B := B_X5_digest_44 x) (m := 3 * T) (f := fun i s => mx s (x.2 0 (7 + i))) (E := fun s => some (F2 s, sI x 1 0)) ?_ ?_ (3 * T) 0 s 1000 rfl (by omega)).trans ?_
    · intro K i s hi
      unfold B_X5_digest_44
      rw [if_neg (by rw [e3T]; exact nI_ge hi (by omega)), show (7 : Int32) + nI i = nI (7 + i) from nI_add 7 i, if_neg (nI_in (by omega) (by omega)), sb, nI_1, nI_clamp (by omega)]
      rfl
    · intro K s
      unfold B_X5_digest_44
      rw [if_pos (by rw [e3T]; exact nI_le (Nat.le_refl _) (by omega)), xc, hF2]
    · have e9 : up (fun i s => mx s (x.2 0 (7 + i))) (3 * T) (3 * 0) s = up (fun i s => mx (mx (mx s ((Z 0).2 0 i)) ((Z 0).2 1 i)) ((Z 0).2 2 i)) T 0 s := up3 _ _ T 0 s (fun j _ hj s => by
        obtain ⟨p1, p2, p3⟩ := om.2.2.1 j (by omega)
        show mx (mx (mx s (x.2 0 (7 + 3 * j))) (x.2 0 (7 + (3 * j + 1)))) (x.2 0 (7 + (3 * j + 2))) = _
        rw [p1, show 7 + (3 * j + 1) = 7 + 3 * j + 1 by omega, p2, show 7 + (3 * j + 2) = 7 + 3 * j + 2 by omega, p3])
      show some (F2 (up _ (3 * T) (3 * 0) s), sI x 1 0) = _
      rw [e9]
  obtain ⟨F3, hF3⟩ : ∃ F : Int64 → Int64, ∀ s, F s = F2 (up (fun i s => mx (mx (mx s ((Z 0).2 0 i)) ((Z 0).2 1 i)) ((Z 0).2 2 i)) T 0 s) := ⟨_, fun _ => rfl⟩
  -- the values
  have hnum : ∀ w, w < 9 → ∃ v, F_X2_number (Z 0) (nI w) = some v ∧ F_X5_number (sI x 1 0) (nI w) = some v := fun w hw => both_num og om' hw
  obtain ⟨nm, hnm⟩ : ∃ nm : Nat → Int32, ∀ w, w < 9 → F_X2_number (Z 0) (nI w) = some (nm w) ∧ F_X5_number (sI x 1 0) (nI w) = some (nm w) := by
    refine ⟨fun w => (F_X2_number (Z 0) (nI w)).getD 0, fun w hw => ?_⟩
    obtain ⟨v, v1, v2⟩ := hnum w hw
    show F_X2_number (Z 0) (nI w) = some ((F_X2_number (Z 0) (nI w)).getD 0) ∧ F_X5_number (sI x 1 0) (nI w) = some ((F_X2_number (Z 0) (nI w)).getD 0)
    rw [v1, v2]; exact ⟨rfl, rfl⟩
  have yv : ∀ s, fx2 (B_X4_digest_17 Z) 1000 s 0 = some (F3 (up (fun w s => mx s (nm w)) 9 0 s), zU Z 0 y') := fun s => by
    refine fx2_upE (B := B_X4_digest_17 Z) (m := 9) (f := fun w s => mx s (nm w)) (E := fun s => some (F3 s, zU Z 0 y')) ?_ ?_ 9 0 s 1000 rfl (by omega)
    · intro K i s hi
      unfold B_X4_digest_17
      rw [if_neg (show ¬ (9 : Int32) ≤ nI i from nI_ge (b := 9) hi (by omega)), (hnm i hi).1, nI_1]
      rfl
    · intro K s
      unfold B_X4_digest_17
      rw [if_pos (show (9 : Int32) ≤ nI 9 by decide), yt, hF3]
  have xv : ∀ s, fx2 (B_X5_digest_17 x) 1000 s 0 = some (F3 (up (fun w s => mx s (nm w)) 9 0 s), sI x 1 0) := fun s => by
    refine fx2_upE (B := B_X5_digest_17 x) (m := 9) (f := fun w s => mx s (nm w)) (E := fun s => some (F3 s, sI x 1 0)) ?_ ?_ 9 0 s 1000 rfl (by omega)
    · intro K i s hi
      unfold B_X5_digest_17
      rw [if_neg (show ¬ (9 : Int32) ≤ nI i from nI_ge (b := 9) hi (by omega)), (hnm i hi).2, nI_1]
      rfl
    · intro K s
      unfold B_X5_digest_17
      rw [if_pos (show (9 : Int32) ≤ nI 9 by decide), xt, hF3]
  refine ⟨_, zU Z 0 y', sI x 1 0, ?_, xv _, (hI.ag7 k2).thr 0⟩
  have e0 : F_X4_mix 3821 ((Z 5).1 0).toInt64 = some (118451 + ((sI x 1 0).1 2).toInt64) := by
    show some ((31 : Int64) * 3821 + ((Z 5).1 0).toInt64) = some (118451 + (x.1 2).toInt64)
    rw [h5, hx2]; rfl
  exact (be e0).trans (yv _)
end DG
/-- the start -/
theorem inv_start {y x : St} (h1 : F_X2_start z00 8 = some y) (h2 : F_X5_sets z00 8 = some x) : Inv (zN y) x := by
  obtain ⟨y', e1, o1, o2, o3⟩ := y_start (n := 8) (by omega) (by omega) z00
  have e1' : F_X2_start z00 8 = some y' := e1
  rw [h1] at e1'; cases e1'
  obtain ⟨x', e2, x1, x2, x3⟩ := x_sets z00 8
  rw [h2] at e2; cases e2
  refine ⟨good_start (n := 8) o1 x3 o2 o3, ⟨0, by omega, rfl, by rw [x1]; rfl, fun j hj => absurd hj (Nat.not_lt_zero j)⟩, 0, by omega, rfl, by rw [x1]; rfl, fun i hi => absurd hi (Nat.not_lt_zero i)⟩
theorem start_some : ∃ y x, F_X2_start z00 8 = some y ∧ F_X5_sets z00 8 = some x := by
  obtain ⟨y', e1, -⟩ := y_start (n := 8) (by omega) (by omega) z00
  obtain ⟨x', e2, -⟩ := x_sets z00 8
  exact ⟨y', x', e1, e2⟩
