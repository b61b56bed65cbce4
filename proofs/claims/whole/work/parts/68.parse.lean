/-! the pure layer, I: an order, and all orders, on both sides -/
theorem okl_comm {v a : Int32} {c : Nat} : okl v a c ↔ okl a v c := by unfold okl; rw [Int32.or_comm]
/-- the reference behind a reading: at place p, the rest as it was but what was read -/
def ME (p : Nat) (x x' : St) : Prop := x'.2 = x.2 ∧ (∀ j, j < 3 → x'.1 j = x.1 j) ∧ x'.1 3 = nI p
theorem MK.me {p : Nat} {x x' : St} (h : MK p x x') : ME p x x' := ⟨h.1, fun j hj => h.2.1 j (by omega), h.2.2⟩
theorem ME.trans {p p' : Nat} {x x' x2 : St} (h : ME p x x') (k : ME p' x' x2) : ME p' x x2 := ⟨by rw [k.1, h.1], fun j hj => by rw [k.2.1 j hj, h.2.1 j hj], k.2.2⟩
theorem ME.set {p k : Nat} {x x' : St} (h : ME p x x') (hk : 3 < k) (v : Int32) : ME p x (sI x' k v) := ⟨h.1, fun j hj => by
  show (if j = k then v else x'.1 j) = x.1 j
  rw [if_neg (by omega)]; exact h.2.1 j hj, by
  show (if 3 = k then v else x'.1 3) = nI p
  rw [if_neg (by omega)]; exact h.2.2⟩
section SIM
variable {t : Nat} {tx : Nat → Nat}
theorem ME.mt {p p' : Nat} {x x' : St} (h : MT t tx p x) (k : ME p' x x') : MT t tx p' x' := ⟨by rw [k.2.1 2 (by omega)]; exact h.1, k.2.2, fun i hi => by rw [k.1]; exact h.2.2 i hi⟩
theorem ME.same {p : Nat} {x : St} (h : MT t tx p x) : ME p x x := ⟨rfl, fun _ _ => rfl, h.2.1⟩
theorem side_sim (ht : TT t tx) {v : Int32} (cl : Int32 → St → Prop) (hstep : ∀ a X p, p < t → cl a X → okl v a (tx p) → ∃ X1, Adv p X (p + 1) X1 ∧ cl (a ||| bitc (tx p)) X1) :
    ∀ d p a X, p + d = t → cl a X → ∃ a' p' X', p ≤ p' ∧ p' ≤ t ∧ Adv p X p' X' ∧ cl a' X' ∧ ¬ (p' < t ∧ okl v a' (tx p')) ∧ (a ≠ 0 → a' ≠ 0) ∧ ∀ N x, d < N → MT t tx p x → ∃ x', fx2 (B_X5_side_2 v) N a x = some (a', x') ∧ MK p' x x' := by
  intro d
  induction d with
  | zero =>
    intro p a X hd hcl
    refine ⟨a, p, X, Nat.le_refl p, by omega, Adv.refl p X, hcl, fun z => by omega, fun h => h, fun N x hN hx => ?_⟩
    cases N with
    | zero => omega
    | succ N => exact ⟨x, side_end ht (by omega) hx (fun z => by omega), rfl, fun _ _ => rfl, hx.2.1⟩
  | succ d ih =>
    intro p a X hd hcl
    rcases Classical.em (okl v a (tx p)) with ho | ho
    · obtain ⟨X1, hA, hcl1⟩ := hstep a X p (by omega) hcl ho
      obtain ⟨a', p', X', h1, h2, h3, h4, h5, h6, h7⟩ := ih (p + 1) _ X1 (by omega) hcl1
      have hb := (bitc_ne (tx p) (by have := ho.2.1; omega) ho.1).1
      refine ⟨a', p', X', by omega, h2, hA.trans h3, h4, h5, fun _ => h6 (or_ne' hb), fun N x hN hx => ?_⟩
      cases N with
      | zero => omega
      | succ N =>
        obtain ⟨x', e1, e2⟩ := h7 N (sI x 3 (nI (p + 1))) (by omega) ((MK.at3 x (p + 1)).mt hx)
        exact ⟨x', by rw [side_go ht (by omega) hx ho]; exact e1, (MK.at3 x (p + 1)).trans e2⟩
    · refine ⟨a, p, X, Nat.le_refl p, by omega, Adv.refl p X, hcl, fun z => ho z.2, fun h => h, fun N x hN hx => ?_⟩
      cases N with
      | zero => omega
      | succ N => exact ⟨x, side_end ht (by omega) hx (fun z => ho z.2), rfl, fun _ _ => rfl, hx.2.1⟩
def kd (t : Nat) (tx : Nat → Nat) (p : Nat) : Int32 × Nat := if p < t ∧ tx p = 63 then (3, p + 1) else if p < t ∧ tx p = 43 then (4, p + 1) else if p < t ∧ tx p = 61 then (if p + 1 < t ∧ tx (p + 1) = 108 then (0, p + 2) else if p + 1 < t ∧ tx (p + 1) = 114 then (1, p + 2) else if p + 1 < t ∧ tx (p + 1) = 101 then (2, p + 2) else (-1, p + 1)) else (-1, p)
theorem x_kind (ht : TT t tx) {p : Nat} {x : St} (hp : p ≤ t) (h : MT t tx p x) : ∃ x', F_X5_kind x = some ((kd t tx p).1, x') ∧ MK (kd t tx p).2 x x' := by
  unfold F_X5_kind kd
  rcases x_takes ht hp h 63 (by omega) with ⟨a1, a2, x1, e1, k1⟩ | ⟨a1, x1, e1, k1⟩
  · rw [show (63 : Int32) = nI 63 from rfl, e1, sb, if_neg one0, if_pos ⟨a1, a2⟩]
    exact ⟨x1, rfl, k1⟩
  · rw [show (63 : Int32) = nI 63 from rfl, e1, sb, if_pos rfl, if_neg a1]
    have h1 := k1.mt h
    rcases x_takes ht hp h1 43 (by omega) with ⟨b1, b2, x2, e2, k2⟩ | ⟨b1, x2, e2, k2⟩
    · rw [show (43 : Int32) = nI 43 from rfl, e2, sb, if_neg one0, if_pos ⟨b1, b2⟩]
      exact ⟨x2, rfl, (k1.trans k2)⟩
    · rw [show (43 : Int32) = nI 43 from rfl, e2, sb, if_pos rfl, if_neg b1]
      have h2 := k2.mt h1
      rcases x_takes ht hp h2 61 (by omega) with ⟨c1, c2, x3, e3, k3⟩ | ⟨c1, x3, e3, k3⟩
      · rw [show (61 : Int32) = nI 61 from rfl, e3, sb, if_neg one0, if_pos ⟨c1, c2⟩]
        have h3 := k3.mt h2
        have m3 := (k1.trans k2).trans k3
        rcases x_takes ht (by omega) h3 108 (by omega) with ⟨d1, d2, x4, e4, k4⟩ | ⟨d1, x4, e4, k4⟩
        · rw [show (108 : Int32) = nI 108 from rfl, e4, sb, if_neg one0, if_pos ⟨d1, d2⟩]
          exact ⟨x4, rfl, (m3.trans k4)⟩
        · rw [show (108 : Int32) = nI 108 from rfl, e4, sb, if_pos rfl, if_neg d1]
          have h4 := k4.mt h3
          rcases x_takes ht (by omega) h4 114 (by omega) with ⟨f1, f2, x5, e5, k5⟩ | ⟨f1, x5, e5, k5⟩
          · rw [show (114 : Int32) = nI 114 from rfl, e5, sb, if_neg one0, if_pos ⟨f1, f2⟩]
            exact ⟨x5, rfl, ((m3.trans k4).trans k5)⟩
          · rw [show (114 : Int32) = nI 114 from rfl, e5, sb, if_pos rfl, if_neg f1]
            have h5 := k5.mt h4
            rcases x_takes ht (by omega) h5 101 (by omega) with ⟨g1, g2, x6, e6, k6⟩ | ⟨g1, x6, e6, k6⟩
            · rw [show (101 : Int32) = nI 101 from rfl, e6, sb, if_neg one0, if_pos ⟨g1, g2⟩]
              exact ⟨x6, rfl, (((m3.trans k4).trans k5).trans k6)⟩
            · rw [show (101 : Int32) = nI 101 from rfl, e6, sb, if_pos rfl, if_neg g1]
              exact ⟨x6, rfl, (((m3.trans k4).trans k5).trans k6)⟩
      · rw [show (61 : Int32) = nI 61 from rfl, e3, sb, if_pos rfl, if_neg c1]
        exact ⟨x3, rfl, ((k1.trans k2).trans k3)⟩
theorem falAt (ht : TT t tx) {q : Nat} {X : St} {cnt pl lf rg : Int32} {ar : Nat → Nat → Int32} (hq : q ≤ t) (h : OS t cnt pl lf rg ar X) (hc : CT t tx ar) (hl : pl ≠ 0) (k : q < t → ∃ X1, F_X1_take X (nI (tx q)) = some (0, X1) ∧ X1.1 0 = X.1 0 ∧ X1.2 = X.2) : Fal t q X q := by
  rcases Nat.lt_or_ge q t with g | g
  · obtain ⟨X1, e, z1, z2⟩ := k g
    exact fal1 ht g h hc e z1 (by rw [z2])
  · rw [show q = t by omega]
    exact fal0 ht h hl
theorem kd_sim (ht : TT t tx) {p k : Nat} {X : St} {lf rg : Int32} {ar : Nat → Nat → Int32} (hk : k < 20) (hp : p ≤ t) (h : OS t (nI k) 3 lf rg ar X) (hc : CT t tx ar) (ho : ¬ (p < t ∧ okl lf rg (tx p))) :
    (∃ w X', w ≤ 4 ∧ (kd t tx p).1 = nI w ∧ p + 1 ≤ (kd t tx p).2 ∧ (kd t tx p).2 ≤ t ∧ Adv p X (kd t tx p).2 X' ∧ OS t (nI k) 5 lf rg (dec3 ar k lf rg (nI w)) X') ∨ ((kd t tx p).1 = -1 ∧ p ≤ (kd t tx p).2 ∧ (kd t tx p).2 ≤ t ∧ Fal t p X (kd t tx p).2) := by
  unfold kd
  by_cases a : p < t ∧ tx p = 63
  · rw [if_pos a]
    obtain ⟨X1, e, k1⟩ := (t3_do hk h).1
    exact .inl ⟨3, X1, by omega, rfl, Nat.le_refl _, a.1, adv1 ht a.1 h hc (by rw [a.2]; exact e), k1⟩
  · rw [if_neg a]
    by_cases b : p < t ∧ tx p = 43
    · rw [if_pos b]
      obtain ⟨X1, e, k1⟩ := (t3_do hk h).2
      exact .inl ⟨4, X1, by omega, rfl, Nat.le_refl _, b.1, adv1 ht b.1 h hc (by rw [b.2]; exact e), k1⟩
    · rw [if_neg b]
      by_cases c : p < t ∧ tx p = 61
      · rw [if_pos c]
        obtain ⟨X1, e, k1⟩ := t3_eq h
        have A1 := adv1 ht c.1 h hc (by rw [c.2]; exact e)
        by_cases d : p + 1 < t ∧ tx (p + 1) = 108
        · rw [if_pos d]
          obtain ⟨X2, e2, k2⟩ := (t4_do hk k1).1
          exact .inl ⟨0, X2, by omega, rfl, by show p + 1 ≤ p + 2; omega, d.1, A1.trans (adv1 ht d.1 k1 hc (by rw [d.2]; exact e2)), k2⟩
        · rw [if_neg d]
          by_cases f : p + 1 < t ∧ tx (p + 1) = 114
          · rw [if_pos f]
            obtain ⟨X2, e2, k2⟩ := (t4_do hk k1).2.1
            exact .inl ⟨1, X2, by omega, rfl, by show p + 1 ≤ p + 2; omega, f.1, A1.trans (adv1 ht f.1 k1 hc (by rw [f.2]; exact e2)), k2⟩
          · rw [if_neg f]
            by_cases g : p + 1 < t ∧ tx (p + 1) = 101
            · rw [if_pos g]
              obtain ⟨X2, e2, k2⟩ := (t4_do hk k1).2.2
              exact .inl ⟨2, X2, by omega, rfl, by show p + 1 ≤ p + 2; omega, g.1, A1.trans (adv1 ht g.1 k1 hc (by rw [g.2]; exact e2)), k2⟩
            · rw [if_neg g]
              refine .inr ⟨rfl, Nat.le_succ p, c.1, Fal.of A1 c.1 (by rw [k1.1, h.1]) (by rw [k1.2.2.2.2.2, h.2.2.2.2.2]) ?_⟩
              exact falAt ht c.1 k1 hc (by decide) (fun z => ⟨X1, t4_no (ht.2 _ z) k1 (fun y => d ⟨z, y⟩) (fun y => f ⟨z, y⟩) (fun y => g ⟨z, y⟩), rfl, rfl⟩)
      · rw [if_neg c]
        refine .inr ⟨rfl, Nat.le_refl p, hp, ?_⟩
        exact falAt ht hp h hc (by decide) (fun z => t3_no (ht.2 _ z) h (fun y => ho ⟨z, y⟩) (fun y => b ⟨z, y⟩) (fun y => c ⟨z, y⟩) (fun y => a ⟨z, y⟩))
/-- an order of the text, as the reference reads it -/
def Ord (t : Nat) (tx : Nat → Nat) (p p' : Nat) (l r w : Int32) : Prop := ∀ x, MT t tx p x → ∃ x', F_X5_reads x = some (1, x') ∧ ME p' x x' ∧ x'.1 4 = l ∧ x'.1 5 = r ∧ x'.1 6 = w
def NoOrd (t : Nat) (tx : Nat → Nat) (p q : Nat) : Prop := ∀ x, MT t tx p x → ∃ x', F_X5_reads x = some (0, x') ∧ ME q x x'
theorem reads_A {x x1 : St} {l : Int32} (w1 : F_X5_side x 0 = some (l, x1)) (hl : l = 0) : F_X5_reads x = some (0, sI x1 4 l) := by
  unfold F_X5_reads
  exact (be w1).trans (if_pos (show (sI x1 4 l).1 4 = 0 from hl))
theorem reads_B {x x1 x2 : St} {l : Int32} (w1 : F_X5_side x 0 = some (l, x1)) (hl : l ≠ 0) (w3 : F_X5_takes (sI x1 4 l) 47 = some (0, x2)) : F_X5_reads x = some (0, x2) := by
  unfold F_X5_reads
  exact (be w1).trans ((if_neg (show ¬ (sI x1 4 l).1 4 = 0 from hl)).trans ((be w3).trans (if_pos rfl)))
theorem reads_C {x x1 x2 x3 : St} {l r : Int32} (w1 : F_X5_side x 0 = some (l, x1)) (hl : l ≠ 0) (w3 : F_X5_takes (sI x1 4 l) 47 = some (1, x2)) (v1 : F_X5_side x2 (x2.1 4) = some (r, x3)) (hr : r = 0) : F_X5_reads x = some (0, sI x3 5 r) := by
  unfold F_X5_reads
  exact (be w1).trans ((if_neg (show ¬ (sI x1 4 l).1 4 = 0 from hl)).trans ((be w3).trans ((if_neg one0).trans ((be v1).trans (if_pos (show (sI x3 5 r).1 5 = 0 from hr))))))
theorem reads_D {x x1 x2 x3 x4 : St} {l r w : Int32} (w1 : F_X5_side x 0 = some (l, x1)) (hl : l ≠ 0) (w3 : F_X5_takes (sI x1 4 l) 47 = some (1, x2)) (v1 : F_X5_side x2 (x2.1 4) = some (r, x3)) (hr : r ≠ 0) (k1 : F_X5_kind (sI x3 5 r) = some (w, x4)) (hw : w < 0) : F_X5_reads x = some (0, sI x4 6 w) := by
  unfold F_X5_reads
  exact (be w1).trans ((if_neg (show ¬ (sI x1 4 l).1 4 = 0 from hl)).trans ((be w3).trans ((if_neg one0).trans ((be v1).trans ((if_neg (show ¬ (sI x3 5 r).1 5 = 0 from hr)).trans ((be k1).trans (if_pos (show (sI x4 6 w).1 6 < 0 from hw))))))))
theorem reads_E {x x1 x2 x3 x4 x5 : St} {l r w b : Int32} (w1 : F_X5_side x 0 = some (l, x1)) (hl : l ≠ 0) (w3 : F_X5_takes (sI x1 4 l) 47 = some (1, x2)) (v1 : F_X5_side x2 (x2.1 4) = some (r, x3)) (hr : r ≠ 0) (k1 : F_X5_kind (sI x3 5 r) = some (w, x4)) (hw : ¬ w < 0) (e1 : F_X5_takes (sI x4 6 w) 59 = some (b, x5)) : F_X5_reads x = if b = 0 then some (0, x5) else some (1, x5) := by
  unfold F_X5_reads
  exact (be w1).trans ((if_neg (show ¬ (sI x1 4 l).1 4 = 0 from hl)).trans ((be w3).trans ((if_neg one0).trans ((be v1).trans ((if_neg (show ¬ (sI x3 5 r).1 5 = 0 from hr)).trans ((be k1).trans ((if_neg (show ¬ (sI x4 6 w).1 6 < 0 from hw)).trans (be e1))))))))
theorem one_sim (ht : TT t tx) {p k : Nat} {X : St} {lf rg : Int32} {ar : Nat → Nat → Int32} (hp : p < t) (hk : k < 20) (h : OS t (nI k) 0 lf rg ar X) (hc : CT t tx ar) :
    (∃ p' l r w X', p + 5 ≤ p' ∧ p' ≤ t ∧ Adv p X p' X' ∧ w ≤ 4 ∧ OS t (nI (k + 1)) 0 l r (dec3 ar k l r (nI w)) X' ∧ Ord t tx p p' l r (nI w)) ∨ (∃ q, q ≤ t ∧ Fal t p X q ∧ NoOrd t tx p q) := by
  have e0 : ∀ {cnt pl lf rg : Int32} {ar2 : Nat → Nat → Int32} {X1 : St}, OS t cnt pl lf rg ar2 X1 → X1.1 0 = X.1 0 := fun k => by rw [k.1, h.1]
  have e2 : ∀ {cnt pl lf rg : Int32} {X1 : St}, OS t cnt pl lf rg ar X1 → X1.2 0 = X.2 0 := fun k => by rw [k.2.2.2.2.2, h.2.2.2.2.2]
  have hc7 := ht.1
  rcases Classical.em (okl 0 0 (tx p)) with g0 | g0
  · obtain ⟨X1, f1, k1⟩ := t0_ok h g0
    have A1 := adv1 ht hp h hc f1
    have hb := (bitc_ne (tx p) (by have := g0.2.1; omega) g0.1).1
    obtain ⟨l, p1, X2, q1, q2, A2, k2, n2, z2, s2⟩ := side_sim ht (v := 0) (fun a X => OS t (nI k) 1 a 0 ar X) (fun a X p hp hcl ho => by
      obtain ⟨X1, f, kk⟩ := t1_ok hcl (okl_comm.mp ho)
      exact ⟨X1, adv1 ht hp hcl hc f, kk⟩) (t - (p + 1)) (p + 1) _ X1 (by omega) k1
    have hl0 : l ≠ 0 := z2 (or_ne' hb)
    have S1 : ∀ x, MT t tx p x → ∃ x', F_X5_side x 0 = some (l, x') ∧ MK p1 x x' := fun x hx => by
      obtain ⟨x', w1, w2⟩ := s2 999 (sI x 3 (nI (p + 1))) (by omega) ((MK.at3 x (p + 1)).mt hx)
      refine ⟨x', ?_, (MK.at3 x (p + 1)).trans w2⟩
      unfold F_X5_side
      rw [side_go ht hp hx g0]; exact w1
    by_cases g1 : p1 < t ∧ tx p1 = 47
    · obtain ⟨X3, f3, k3⟩ := t1_sl k2
      have A3 := adv1 ht g1.1 k2 hc (by rw [g1.2]; exact f3)
      have A13 := (A1.trans A2).trans A3
      have S2 : ∀ x, MT t tx p x → ∃ x1 x2, F_X5_side x 0 = some (l, x1) ∧ (sI x1 4 l).1 4 = l ∧ F_X5_takes (sI x1 4 l) 47 = some (1, x2) ∧ ME (p1 + 1) x x2 ∧ x2.1 4 = l := fun x hx => by
        obtain ⟨x1, w1, w2⟩ := S1 x hx
        have me1 : ME p1 x (sI x1 4 l) := w2.me.set (by omega) l
        rcases x_takes ht (by omega) (me1.mt hx) 47 (by omega) with ⟨_, _, x2, w3, w4⟩ | ⟨w3, _⟩
        · exact ⟨x1, x2, w1, rfl, w3, me1.trans w4.me, by rw [w4.2.1 4 (by omega)]; rfl⟩
        · exact absurd g1 w3
      by_cases g2 : p1 + 1 < t ∧ okl l 0 (tx (p1 + 1))
      · obtain ⟨X4, f4, k4⟩ := t2_ok k3 g2.2
        have A4 := adv1 ht g2.1 k3 hc f4
        have hb2 := (bitc_ne (tx (p1 + 1)) (by have := g2.2.2.1; omega) g2.2.1).1
        obtain ⟨r, p2, X5, q3, q4, A5, k5, n5, z5, s5⟩ := side_sim ht (v := l) (fun a X => OS t (nI k) 3 l a ar X) (fun a X p hp hcl ho => by
          obtain ⟨X1, f, kk⟩ := t3_ok hcl ho
          exact ⟨X1, adv1 ht hp hcl hc f, kk⟩) (t - (p1 + 1 + 1)) (p1 + 1 + 1) _ X4 (by omega) k4
        have hr0 : r ≠ 0 := z5 (or_ne' hb2)
        have A15 := (A13.trans A4).trans A5
        have S3 : ∀ x2, MT t tx (p1 + 1) x2 → ∃ x', F_X5_side x2 l = some (r, x') ∧ MK p2 x2 x' := fun x hx => by
          obtain ⟨x', w1, w2⟩ := s5 999 (sI x 3 (nI (p1 + 1 + 1))) (by omega) ((MK.at3 x (p1 + 1 + 1)).mt hx)
          refine ⟨x', ?_, (MK.at3 x (p1 + 1 + 1)).trans w2⟩
          unfold F_X5_side
          rw [side_go ht g2.1 hx g2.2]; exact w1
        have S4 : ∀ x, MT t tx p x → ∃ x1 x2 x3 x4, F_X5_side x 0 = some (l, x1) ∧ F_X5_takes (sI x1 4 l) 47 = some (1, x2) ∧ F_X5_side x2 (x2.1 4) = some (r, x3) ∧ F_X5_kind (sI x3 5 r) = some ((kd t tx p2).1, x4) ∧ ME (kd t tx p2).2 x x4 ∧ x4.1 4 = l ∧ x4.1 5 = r := fun x hx => by
          obtain ⟨x1, x2, w1, w2, w3, w4, w5⟩ := S2 x hx
          obtain ⟨x3, v1, v2⟩ := S3 x2 (w4.mt hx)
          have me3 : ME p2 x (sI x3 5 r) := (w4.trans v2.me).set (by omega) r
          obtain ⟨x4, u1, u2⟩ := x_kind ht q4 (me3.mt hx)
          refine ⟨x1, x2, x3, x4, w1, w3, by rw [w5]; exact v1, u1, me3.trans u2.me, ?_, ?_⟩
          · rw [u2.2.1 4 (by omega)]
            show x3.1 4 = l
            rw [v2.2.1 4 (by omega), w5]
          · rw [u2.2.1 5 (by omega)]; rfl
        rcases kd_sim ht hk q4 k5 hc n5 with ⟨w, X6, hw, hkd, m1, m2, A6, k6⟩ | ⟨hkd, m1, m2, hF⟩
        · have A16 := A15.trans A6
          have hwn : ¬ nI w < 0 := nI_pos (by omega)
          have hc3 : CT t tx (dec3 ar k l r (nI w)) := fun i hi => hc i hi
          by_cases g4 : (kd t tx p2).2 < t ∧ tx (kd t tx p2).2 = 59
          · obtain ⟨X7, f7, k7⟩ := t5_ok k6
            refine .inl ⟨(kd t tx p2).2 + 1, l, r, w, X7, by omega, g4.1, A16.trans (adv1 ht g4.1 k6 hc3 (by rw [g4.2]; exact f7)), hw, k7, fun x hx => ?_⟩
            obtain ⟨x1, x2, x3, x4, w1, w3, v1, u1, me4, h4, h5⟩ := S4 x hx
            rw [hkd] at u1
            have me5 : ME (kd t tx p2).2 x (sI x4 6 (nI w)) := me4.set (by omega) _
            rcases x_takes ht m2 (me5.mt hx) 59 (by omega) with ⟨_, _, x5, y1, y2⟩ | ⟨y1, _⟩
            · refine ⟨x5, (reads_E w1 hl0 w3 v1 hr0 u1 hwn y1).trans (if_neg one0), me5.trans y2.me, ?_, ?_, ?_⟩
              · rw [y2.2.1 4 (by omega)]; exact h4
              · rw [y2.2.1 5 (by omega)]; exact h5
              · rw [y2.2.1 6 (by omega)]; rfl
            · exact absurd g4 y1
          · refine .inr ⟨(kd t tx p2).2, m2, Fal.of A16 m2 (by rw [k6.1, h.1]) (by rw [k6.2.2.2.2.2, h.2.2.2.2.2]; rfl) ?_, fun x hx => ?_⟩
            · exact falAt ht m2 k6 hc3 (by decide) (fun z => ⟨X6, t5_no (ht.2 _ z) k6 (fun y => g4 ⟨z, y⟩), rfl, rfl⟩)
            · obtain ⟨x1, x2, x3, x4, w1, w3, v1, u1, me4, h4, h5⟩ := S4 x hx
              rw [hkd] at u1
              have me5 : ME (kd t tx p2).2 x (sI x4 6 (nI w)) := me4.set (by omega) _
              rcases x_takes ht m2 (me5.mt hx) 59 (by omega) with ⟨y0, y1, _⟩ | ⟨_, x5, y1, y2⟩
              · exact absurd ⟨y0, y1⟩ g4
              · exact ⟨x5, (reads_E w1 hl0 w3 v1 hr0 u1 hwn y1).trans (if_pos rfl), me5.trans y2.me⟩
        · refine .inr ⟨(kd t tx p2).2, m2, Fal.of A15 q4 (e0 k5) (e2 k5) hF, fun x hx => ?_⟩
          obtain ⟨x1, x2, x3, x4, w1, w3, v1, u1, me4, h4, h5⟩ := S4 x hx
          rw [hkd] at u1
          exact ⟨_, reads_D w1 hl0 w3 v1 hr0 u1 (by decide), me4.set (by omega) _⟩
      · refine .inr ⟨p1 + 1, g1.1, Fal.of A13 g1.1 (e0 k3) (e2 k3) ?_, fun x hx => ?_⟩
        · exact falAt ht g1.1 k3 hc (by decide) (fun z => t2_no (ht.2 _ z) k3 (fun y => g2 ⟨z, y⟩))
        · obtain ⟨x1, x2, w1, w2, w3, w4, w5⟩ := S2 x hx
          have v1 : F_X5_side x2 (x2.1 4) = some (0, x2) := by
            rw [w5]; exact side_end ht g1.1 (w4.mt hx) g2
          exact ⟨_, reads_C w1 hl0 w3 v1 rfl, w4.set (by omega) _⟩
    · refine .inr ⟨p1, q2, Fal.of (A1.trans A2) q2 (e0 k2) (e2 k2) ?_, fun x hx => ?_⟩
      · exact falAt ht q2 k2 hc (by decide) (fun z => t1_no (ht.2 _ z) k2 (fun y => n2 ⟨z, okl_comm.mp y⟩) (fun y => g1 ⟨z, y⟩))
      · obtain ⟨x1, w1, w2⟩ := S1 x hx
        have me1 : ME p1 x (sI x1 4 l) := w2.me.set (by omega) l
        rcases x_takes ht q2 (me1.mt hx) 47 (by omega) with ⟨y0, y1, _⟩ | ⟨_, x2, y1, y2⟩
        · exact absurd ⟨y0, y1⟩ g1
        · exact ⟨x2, reads_B w1 hl0 y1, me1.trans y2.me⟩
  · obtain ⟨X1, f1, z1, z2⟩ := t0_no (ht.2 p hp) h g0
    refine .inr ⟨p, by omega, fal1 ht hp h hc f1 z1 (by rw [z2]), fun x hx => ?_⟩
    have w1 : F_X5_side x 0 = some (0, x) := side_end ht (by omega) hx (fun z => g0 z.2)
    exact ⟨_, reads_A w1 rfl, (ME.same hx).set (by omega) 0⟩
/-- the whole text -/
def Txt (p : Nat) (x x' : St) : Prop := x'.2 = x.2 ∧ ∀ j, j < 3 → x'.1 j = x.1 j
theorem multi (ht : TT t tx) : ∀ D d p k X ar lf rg, d ≤ D → p + d = t → 5 * k ≤ p → OS t (nI k) 0 lf rg ar X → CT t tx ar →
    (∃ q, q ≤ t ∧ Fal t p X q ∧ ∀ N x, d < N → MT t tx p x → ∃ x', fx1 B_X5_wrong_5 N x = some (nI q, x') ∧ Txt p x x') ∨
    (∃ (K : Nat) (X' : St) (ps : Nat → Nat), (∀ N, RD (N + d + 1) p X = some (-1, X')) ∧ X'.1 0 = nI t ∧ X'.1 1 = nI K ∧ X'.2 0 = ar 0 ∧ k ≤ K ∧ K ≤ 20 ∧ (∀ N x, d < N → MT t tx p x → ∃ x', fx1 B_X5_wrong_5 N x = some (-1, x') ∧ Txt p x x') ∧ (∀ j, j < k → X'.2 1 j = ar 1 j ∧ X'.2 2 j = ar 2 j ∧ X'.2 3 j = ar 3 j) ∧ ps k = p ∧ ps K = t ∧ ∀ j, k ≤ j → j < K → ps j < t ∧ Ord t tx (ps j) (ps (j + 1)) (X'.2 1 j) (X'.2 2 j) (X'.2 3 j) ∧ ∃ w, w ≤ 4 ∧ X'.2 3 j = nI w) := by
  have hc7 := ht.1
  intro D
  induction D with
  | zero =>
    intro d p k X ar lf rg hd hp h5 h hc
    have e : p = t := by omega
    subst e
    have ed : d = 0 := by omega
    subst ed
    refine .inr ⟨k, X, fun _ => p, fun N => ?_, h.1, h.2.1, by rw [h.2.2.2.2.2], Nat.le_refl k, by omega, fun N x hN hx => ?_, fun j _ => by rw [h.2.2.2.2.2]; exact ⟨rfl, rfl, rfl⟩, rfl, rfl, fun j h1 h2 => by omega⟩
    · unfold RD
      show B_X1_read_12 _ (nI p) X = _
      unfold B_X1_read_12
      rw [h.1, if_pos (nI_le (Nat.le_refl p) (by omega)), h.2.2.1, if_pos rfl]
    · cases N with
      | zero => omega
      | succ N =>
        refine ⟨x, ?_, rfl, fun _ _ => rfl⟩
        show B_X5_wrong_5 _ x = _
        unfold B_X5_wrong_5
        rw [hx.1, hx.2.1, if_pos (nI_le (Nat.le_refl p) (by omega))]
  | succ D ih =>
    intro d p k X ar lf rg hd hp h5 h hc
    rcases Nat.lt_or_ge d (D + 1) with g | g
    · exact ih d p k X ar lf rg (by omega) hp h5 h hc
    · have hpt : p < t := by omega
      have wr : ∀ N x x1 (b : Int32), MT t tx p x → F_X5_reads x = some (b, x1) → fx1 B_X5_wrong_5 (N + 1) x = if b = 0 then some (x1.1 3, x1) else fx1 B_X5_wrong_5 N x1 := fun N x x1 b hx e => by
        show B_X5_wrong_5 (fx1 B_X5_wrong_5 N) x = _
        unfold B_X5_wrong_5
        rw [hx.1, hx.2.1, if_neg (nI_ge hpt (by omega))]
        exact be e
      rcases one_sim ht hpt (show k < 20 by omega) h hc with ⟨p', l, r, w, X1, m1, m2, A, hw, k1, hO⟩ | ⟨q, m1, hF, hNO⟩
      · have hc3 : CT t tx (dec3 ar k l r (nI w)) := fun i hi => hc i hi
        rcases ih (t - p') p' (k + 1) X1 _ l r (by omega) (by omega) (by omega) k1 hc3 with ⟨q, z1, z2, z3⟩ | ⟨K, X', ps, z1, z2, z3, z4, z5, z6, z7, z8, z9, z10, z11⟩
        · refine .inl ⟨q, z1, Fal.of A m2 (by rw [k1.1, h.1]) (by rw [k1.2.2.2.2.2, h.2.2.2.2.2]; rfl) z2, fun N x hN hx => ?_⟩
          cases N with
          | zero => omega
          | succ N =>
            obtain ⟨x1, y1, y2, -⟩ := hO x hx
            obtain ⟨x', v1, v2⟩ := z3 N x1 (by omega) (y2.mt hx)
            exact ⟨x', (wr N x x1 1 hx y1).trans ((if_neg one0).trans v1), by rw [v2.1, y2.1], fun j hj => by rw [v2.2 j hj, y2.2.1 j hj]⟩
        · refine .inr ⟨K, X', fun j => if j ≤ k then p else ps j, fun N => ?_, z2, z3, z4, by omega, z6, fun N x hN hx => ?_, fun j hj => ?_, if_pos (Nat.le_refl k), ?_, fun j h1 h2 => ?_⟩
          · have := A.2 (N + (t - p') + 1)
            rw [show N + d + 1 = N + (t - p') + 1 + (p' - p) by omega, this]
            exact z1 N
          · cases N with
            | zero => omega
            | succ N =>
              obtain ⟨x1, y1, y2, -⟩ := hO x hx
              obtain ⟨x', v1, v2⟩ := z7 N x1 (by omega) (y2.mt hx)
              exact ⟨x', (wr N x x1 1 hx y1).trans ((if_neg one0).trans v1), by rw [v2.1, y2.1], fun j hj => by rw [v2.2 j hj, y2.2.1 j hj]⟩
          · obtain ⟨y1, y2, y3⟩ := z8 j (by omega)
            rw [y1, y2, y3]
            exact ⟨ux_ne _ _ (by omega), ux_ne _ _ (by omega), ux_ne _ _ (by omega)⟩
          · show (if K ≤ k then p else ps K) = t
            rw [if_neg (by omega)]; exact z10
          · show (if j ≤ k then p else ps j) < t ∧ Ord t tx (if j ≤ k then p else ps j) (if j + 1 ≤ k then p else ps (j + 1)) _ _ _ ∧ _
            rw [if_neg (show ¬ j + 1 ≤ k by omega)]
            by_cases g2 : j = k
            · subst g2
              obtain ⟨y1, y2, y3⟩ := z8 j (by omega)
              rw [if_pos (Nat.le_refl j), z9, y1, y2, y3]
              have b1 : dec3 ar j l r (nI w) 1 j = l := ux_at _ _ _
              have b2 : dec3 ar j l r (nI w) 2 j = r := ux_at _ _ _
              have b3 : dec3 ar j l r (nI w) 3 j = nI w := ux_at _ _ _
              rw [b1, b2, b3]
              exact ⟨hpt, hO, w, hw, rfl⟩
            · rw [if_neg (show ¬ j ≤ k by omega)]
              exact z11 j (by omega) h2
      · refine .inl ⟨q, m1, hF, fun N x hN hx => ?_⟩
        cases N with
        | zero => omega
        | succ N =>
          obtain ⟨x1, y1, y2⟩ := hNO x hx
          exact ⟨x1, (wr N x x1 0 hx y1).trans ((if_pos rfl).trans (by rw [y2.2.2])), y2.1, y2.2.1⟩
end SIM
