/-! the pure layer, H: the orders of the text, read on both sides -/
def bitc (c : Nat) : Int32 := (1 : Int32) <<< (nI (c - 97) &&& 31)
theorem bitc_ne : ∀ c, c < 113 → 97 ≤ c → bitc c ≠ 0 ∧ (1 : Int32) <<< ((nI c - 97) &&& 31) = bitc c ∧ ¬ nI c < 97 ∧ nI c ≤ 112 ∧ nI c ≠ 47 ∧ nI c ≠ 43 ∧ nI c ≠ 61 ∧ nI c ≠ 63 := by decide +kernel
theorem nolet : ∀ c, c < 128 → ¬ (97 ≤ c ∧ c ≤ 112) → (nI c < 97 ∨ (¬ nI c < 97 ∧ ¬ nI c ≤ 112)) ∧ F_X5_in (nI c) 97 112 = some 0 := by decide +kernel
theorem islet : ∀ c, c < 113 → 97 ≤ c → F_X5_in (nI c) 97 112 = some 1 := by decide +kernel
theorem bit_off {b m : Int32} (h : b &&& m = 0) : b &&& (m ^^^ -1) = b := by
  refine b_ext (fun i hi => ?_)
  have e := congrArg (fun z => bt z i) h
  simp only [b_and, b_0] at e
  rw [b_and, b_xor, b_m1 i hi]
  cases h1 : bt b i <;> cases h2 : bt m i <;> simp_all
theorem bit_on {k : Nat} (hk : k < 32) {m : Int32} (h : ¬ ((1 : Int32) <<< (nI k &&& 31)) &&& m = 0) : ((1 : Int32) <<< (nI k &&& 31)) &&& (m ^^^ -1) = 0 := by
  have hm : bt m k = true := by
    cases q : bt m k with
    | true => rfl
    | false => exact absurd (by rw [Int32.and_comm]; exact (bit_and hk).mpr q) h
  refine b_ext (fun i hi => ?_)
  rw [b_and, b_xor, b_m1 i hi, b_0, b_one hk hi]
  by_cases e : i = k
  · subst e; rw [hm]; simp
  · rw [decide_eq_false e, Bool.false_and]
theorem or_ne {a b : Int32} (h : a ≠ 0) : a ||| b ≠ 0 := fun q => h (by
  refine b_ext (fun i hi => ?_)
  have e := congrArg (fun z => bt z i) q
  simp only [b_or, b_0] at e
  rw [b_0]
  exact (Bool.or_eq_false_iff.mp e).1)
theorem or_ne' {a b : Int32} (h : b ≠ 0) : a ||| b ≠ 0 := by rw [Int32.or_comm]; exact or_ne h
/-- a letter that may stand -/
def okl (v a : Int32) (c : Nat) : Prop := 97 ≤ c ∧ c ≤ 112 ∧ bitc c &&& (v ||| a) = 0
theorem okl_dec (v a : Int32) (c : Nat) : okl v a c ∨ ¬ okl v a c := Classical.em _
section TX
variable {t : Nat} {tx : Nat → Nat}
def TT (t : Nat) (tx : Nat → Nat) : Prop := t ≤ 100 ∧ ∀ i, i < t → tx i < 128
/-- the reference at place p of the text -/
def MT (t : Nat) (tx : Nat → Nat) (p : Nat) (x : St) : Prop := x.1 2 = nI t ∧ x.1 3 = nI p ∧ ∀ i, i < t → x.2 3 i = nI (tx i)
def MK (p : Nat) (x x' : St) : Prop := x'.2 = x.2 ∧ (∀ j, j ≠ 3 → x'.1 j = x.1 j) ∧ x'.1 3 = nI p
theorem MK.mt {p p' : Nat} {x x' : St} (h : MT t tx p x) (k : MK p' x x') : MT t tx p' x' := ⟨by rw [k.2.1 2 (by omega)]; exact h.1, k.2.2, fun i hi => by rw [k.1]; exact h.2.2 i hi⟩
theorem MK.trans {p p' : Nat} {x x' x2 : St} (h : MK p x x') (k : MK p' x' x2) : MK p' x x2 := ⟨by rw [k.1, h.1], fun j hj => by rw [k.2.1 j hj, h.2.1 j hj], k.2.2⟩
theorem MK.at3 (x : St) (p : Nat) : MK p x (sI x 3 (nI p)) := ⟨rfl, fun _ hj => if_neg hj, rfl⟩
def sgnx (t : Nat) (tx : Nat → Nat) (p : Nat) : Int32 := if p < t then nI (tx p) else -1
theorem x_sign (ht : TT t tx) {p : Nat} {x : St} (hp : p ≤ t) (h : MT t tx p x) : F_X5_sign x = some (sgnx t tx p) := by
  unfold F_X5_sign sgnx
  have := ht.1
  rw [h.1, h.2.1]
  rcases Nat.lt_or_ge p t with q | q
  · rw [if_neg (nI_ge q (by omega)), if_neg (nI_in (by omega) (by omega)), if_pos q, nI_clamp (by omega), h.2.2 p q]
  · rw [if_pos (nI_le q (by omega)), if_neg (by omega)]
theorem x_takes (ht : TT t tx) {p : Nat} {x : St} (hp : p ≤ t) (h : MT t tx p x) (c : Nat) (hc : c < 128) : (p < t ∧ tx p = c ∧ ∃ x', F_X5_takes x (nI c) = some (1, x') ∧ MK (p + 1) x x') ∨ (¬ (p < t ∧ tx p = c) ∧ ∃ x', F_X5_takes x (nI c) = some (0, x') ∧ MK p x x') := by
  unfold F_X5_takes
  rw [x_sign ht hp h, sb]
  unfold sgnx
  by_cases q : p < t ∧ tx p = c
  · left
    rw [if_pos q.1, q.2, if_pos rfl, h.2.1, nI_1]
    exact ⟨q.1, rfl, _, rfl, MK.at3 x _⟩
  · right
    have n1 : ¬ (if p < t then nI (tx p) else -1) = nI c := by
      by_cases g : p < t
      · have := ht.2 p g
        rw [if_pos g, nI_eq (by omega) (by omega)]; exact fun z => q ⟨g, z⟩
      · rw [if_neg g]; exact (by decide +kernel : ∀ c, c < 128 → ¬ (-1 : Int32) = nI c) c hc
    rw [if_neg n1, h.2.1, add0]
    exact ⟨q, _, rfl, MK.at3 x p⟩
/-- one step of a side -/
theorem side_go (ht : TT t tx) {p N : Nat} {x : St} {v a : Int32} (hp : p < t) (h : MT t tx p x) (ho : okl v a (tx p)) : fx2 (B_X5_side_2 v) (N + 1) a x = fx2 (B_X5_side_2 v) N (a ||| bitc (tx p)) (sI x 3 (nI (p + 1))) := by
  show B_X5_side_2 v (fx2 (B_X5_side_2 v) N) a x = _
  unfold B_X5_side_2
  obtain ⟨b1, b2, -⟩ := bitc_ne (tx p) (by have := ho.2.1; omega) ho.1
  rw [x_sign ht (by omega) h, sb, sb, sb]
  unfold sgnx
  rw [if_pos hp, islet (tx p) (by have := ho.2.1; omega) ho.1, sb, if_neg one0, b2, if_pos ho.2.2, h.2.1, nI_1]
theorem side_end (ht : TT t tx) {p N : Nat} {x : St} {v a : Int32} (hp : p ≤ t) (h : MT t tx p x) (ho : ¬ (p < t ∧ okl v a (tx p))) : fx2 (B_X5_side_2 v) (N + 1) a x = some (a, x) := by
  show B_X5_side_2 v (fx2 (B_X5_side_2 v) N) a x = _
  unfold B_X5_side_2
  rw [x_sign ht (by omega) h, sb, sb, sb]
  unfold sgnx
  by_cases g : p < t
  · have hc := ht.2 p g
    rw [if_pos g]
    by_cases l : 97 ≤ tx p ∧ tx p ≤ 112
    · obtain ⟨b1, b2, -⟩ := bitc_ne (tx p) (by omega) l.1
      rw [islet (tx p) (by omega) l.1, sb, if_neg one0, b2, if_neg (fun z => ho ⟨g, l.1, l.2, z⟩)]
    · rw [(nolet (tx p) hc l).2, sb, if_pos rfl]
  · rw [if_neg g, show F_X5_in (-1) 97 112 = some 0 from rfl, sb, if_pos rfl]
/-- the class's orders -/
def OS (t : Nat) (cnt pl lf rg : Int32) (ar : Nat → Nat → Int32) (X : St) : Prop := X.1 0 = nI t ∧ X.1 1 = cnt ∧ X.1 2 = pl ∧ X.1 3 = lf ∧ X.1 4 = rg ∧ X.2 = ar
def RD (N p : Nat) (X : St) : Option (Int32 × St) := fx2 B_X1_read_12 N (nI p) X
def Adv (p : Nat) (X : St) (p1 : Nat) (X1 : St) : Prop := p ≤ p1 ∧ ∀ N, RD (N + (p1 - p)) p X = RD N p1 X1
def Fal (t p : Nat) (X : St) (q : Nat) : Prop := ∀ N, ∃ X', RD (N + (t - p) + 1) p X = some (nI q, X') ∧ X'.1 0 = X.1 0 ∧ X'.2 0 = X.2 0
theorem Adv.refl (p : Nat) (X : St) : Adv p X p X := ⟨Nat.le_refl p, fun N => by rw [Nat.sub_self]; rfl⟩
theorem Adv.trans {p p1 p2 : Nat} {X X1 X2 : St} (h : Adv p X p1 X1) (k : Adv p1 X1 p2 X2) : Adv p X p2 X2 := ⟨Nat.le_trans h.1 k.1, fun N => by
  have h1 := h.1; have h2 := k.1
  rw [show N + (p2 - p) = N + (p2 - p1) + (p1 - p) by omega, h.2, k.2]⟩
theorem Fal.of {p p1 q : Nat} {X X1 : St} (h : Adv p X p1 X1) (hp : p1 ≤ t) (e0 : X1.1 0 = X.1 0) (e2 : X1.2 0 = X.2 0) (k : Fal t p1 X1 q) : Fal t p X q := fun N => by
  obtain ⟨X', z1, z2, z3⟩ := k N
  have h1 := h.1
  exact ⟨X', by rw [show N + (t - p) + 1 = N + (t - p1) + 1 + (p1 - p) by omega, h.2]; exact z1, by rw [z2, e0], by rw [z3, e2]⟩
/-- the text of the class -/
def CT (t : Nat) (tx : Nat → Nat) (ar : Nat → Nat → Int32) : Prop := ∀ i, i < t → ar 0 i = nI (tx i)
theorem rd_step (ht : TT t tx) {p N : Nat} {X : St} {cnt pl lf rg : Int32} {ar : Nat → Nat → Int32} (hp : p < t) (h : OS t cnt pl lf rg ar X) (hc : CT t tx ar) : RD (N + 1) p X = (F_X1_take X (nI (tx p))).bind fun r => if r.1 = 0 then some (nI p, r.2) else RD N (p + 1) r.2 := by
  unfold RD
  show B_X1_read_12 (fx2 B_X1_read_12 N) (nI p) X = _
  unfold B_X1_read_12
  have := ht.1
  rw [h.1, if_neg (nI_ge hp (by omega)), q_at (by omega) (by omega), sb, h.2.2.2.2.2, hc p hp, nI_1]
theorem adv1 (ht : TT t tx) {p : Nat} {X X1 : St} {cnt pl lf rg : Int32} {ar : Nat → Nat → Int32} (hp : p < t) (h : OS t cnt pl lf rg ar X) (hc : CT t tx ar) (e : F_X1_take X (nI (tx p)) = some (1, X1)) : Adv p X (p + 1) X1 := ⟨Nat.le_succ p, fun N => by
  rw [show N + (p + 1 - p) = N + 1 by omega, rd_step ht hp h hc]
  exact (be e).trans (if_neg one0)⟩
theorem fal1 (ht : TT t tx) {p : Nat} {X X1 : St} {cnt pl lf rg : Int32} {ar : Nat → Nat → Int32} (hp : p < t) (h : OS t cnt pl lf rg ar X) (hc : CT t tx ar) (e : F_X1_take X (nI (tx p)) = some (0, X1)) (e0 : X1.1 0 = X.1 0) (e2 : X1.2 0 = X.2 0) : Fal t p X p := fun N => by
  refine ⟨X1, ?_, e0, e2⟩
  rw [rd_step ht hp h hc]
  exact (be e).trans (if_pos rfl)
theorem fal0 (ht : TT t tx) {X : St} {cnt pl lf rg : Int32} {ar : Nat → Nat → Int32} (h : OS t cnt pl lf rg ar X) (hl : pl ≠ 0) : Fal t t X t := fun N => by
  refine ⟨X, ?_, rfl, rfl⟩
  unfold RD
  show B_X1_read_12 _ (nI t) X = _
  unfold B_X1_read_12
  have := ht.1
  rw [h.1, if_pos (nI_le (Nat.le_refl t) (by omega)), h.2.2.1, if_neg hl]
/-- what the class takes at each place -/
theorem coin_ok {X : St} {lf rg : Int32} {c : Nat} (h3 : X.1 3 = lf) (h4 : X.1 4 = rg) (ho : okl lf rg c) : F_X1_coinOf X (nI c) = some (bitc c) := by
  unfold F_X1_coinOf
  obtain ⟨b1, b2, b3, b4, -⟩ := bitc_ne c (by have := ho.2.1; omega) ho.1
  rw [if_neg b3, if_pos b4, b2, h3, h4, bit_off ho.2.2]
theorem coin_no {X : St} {lf rg : Int32} {c : Nat} (hc : c < 128) (h3 : X.1 3 = lf) (h4 : X.1 4 = rg) (ho : ¬ okl lf rg c) : F_X1_coinOf X (nI c) = some 0 := by
  unfold F_X1_coinOf
  by_cases l : 97 ≤ c ∧ c ≤ 112
  · obtain ⟨b1, b2, b3, b4, -⟩ := bitc_ne c (by omega) l.1
    rw [if_neg b3, if_pos b4, b2, h3, h4]
    exact congrArg some (bit_on (k := c - 97) (by omega) (fun z => ho ⟨l.1, l.2, z⟩))
  · rcases (nolet c hc l).1 with q | q
    · rw [if_pos q]
    · rw [if_neg q.1, if_neg q.2]
theorem left_ok {X : St} {cnt pl lf rg : Int32} {ar : Nat → Nat → Int32} {c : Nat} (h : OS t cnt pl lf rg ar X) (ho : okl lf rg c) : ∃ X1, F_X1_takeLeft X (nI c) = some (1, X1) ∧ OS t cnt 1 (lf ||| bitc c) rg ar X1 := by
  unfold F_X1_takeLeft
  obtain ⟨b1, -⟩ := bitc_ne c (by have := ho.2.1; omega) ho.1
  rw [coin_ok h.2.2.2.1 h.2.2.2.2.1 ho, sb, if_neg b1, h.2.2.2.1]
  exact ⟨_, rfl, h.1, h.2.1, rfl, rfl, h.2.2.2.2.1, h.2.2.2.2.2⟩
theorem left_no {X : St} {cnt pl lf rg : Int32} {ar : Nat → Nat → Int32} {c : Nat} (hc : c < 128) (h : OS t cnt pl lf rg ar X) (ho : ¬ okl lf rg c) : ∃ X1, F_X1_takeLeft X (nI c) = some (0, X1) ∧ X1.1 0 = X.1 0 ∧ X1.2 = X.2 := by
  unfold F_X1_takeLeft
  rw [coin_no hc h.2.2.2.1 h.2.2.2.2.1 ho, sb, if_pos rfl]
  exact ⟨_, rfl, rfl, rfl⟩
theorem right_ok {X : St} {cnt pl lf rg : Int32} {ar : Nat → Nat → Int32} {c : Nat} (h : OS t cnt pl lf rg ar X) (ho : okl lf rg c) : ∃ X1, F_X1_takeRight X (nI c) = some (1, X1) ∧ OS t cnt 3 lf (rg ||| bitc c) ar X1 := by
  unfold F_X1_takeRight
  obtain ⟨b1, -⟩ := bitc_ne c (by have := ho.2.1; omega) ho.1
  rw [coin_ok h.2.2.2.1 h.2.2.2.2.1 ho, sb, if_neg b1, h.2.2.2.2.1]
  exact ⟨_, rfl, h.1, h.2.1, rfl, h.2.2.2.1, rfl, h.2.2.2.2.2⟩
theorem right_no {X : St} {cnt pl lf rg : Int32} {ar : Nat → Nat → Int32} {c : Nat} (hc : c < 128) (h : OS t cnt pl lf rg ar X) (ho : ¬ okl lf rg c) : ∃ X1, F_X1_takeRight X (nI c) = some (0, X1) ∧ X1.1 0 = X.1 0 ∧ X1.2 = X.2 := by
  unfold F_X1_takeRight
  rw [coin_no hc h.2.2.2.1 h.2.2.2.2.1 ho, sb, if_pos rfl]
  exact ⟨_, rfl, rfl, rfl⟩
def dec3 (ar : Nat → Nat → Int32) (k : Nat) (lf rg d : Int32) : Nat → Nat → Int32 := fun j => if j = 1 then upd (ar 1) k lf else if j = 2 then upd (ar 2) k rg else if j = 3 then upd (ar 3) k d else ar j
theorem nrs1 {X : St} : (if ¬ ((1 : Int32), X).1 &&& 1 = ((1 : Int32), X).1 then none else some (((1 : Int32), X).1, ((1 : Int32), X).2)) = some ((1 : Int32), X) := if_neg (show ¬ ¬ (1 : Int32) &&& 1 = 1 by decide)
theorem nrs0 {X : St} : (if ¬ ((0 : Int32), X).1 &&& 1 = ((0 : Int32), X).1 then none else some (((0 : Int32), X).1, ((0 : Int32), X).2)) = some ((0 : Int32), X) := if_neg (show ¬ ¬ (0 : Int32) &&& 1 = 0 by decide)
theorem o_dec {X : St} {pl lf rg : Int32} {ar : Nat → Nat → Int32} {k : Nat} (hk : k < 20) (h : OS t (nI k) pl lf rg ar X) (d : Int32) : ∃ X1, F_X1_decide X d = some (1, X1) ∧ OS t (nI k) 5 lf rg (dec3 ar k lf rg d) X1 := by
  obtain ⟨h0, h1, h2, h3, h4, h5⟩ := h
  unfold F_X1_decide
  have e1 : F_X4_put 20 (X.2 1) (X.1 1) (X.1 3) = some (upd (ar 1) k lf) := by rw [h1, h3, h5, q_put hk (by omega)]
  rw [e1, sb]
  have e2 : F_X4_put 20 ((sA X 1 (upd (ar 1) k lf)).2 2) ((sA X 1 (upd (ar 1) k lf)).1 1) ((sA X 1 (upd (ar 1) k lf)).1 4) = some (upd (ar 2) k rg) := by
    show F_X4_put 20 (X.2 2) (X.1 1) (X.1 4) = _
    rw [h1, h4, h5, q_put hk (by omega)]
  rw [e2, sb]
  have e3 : F_X4_put 20 ((sA (sA X 1 (upd (ar 1) k lf)) 2 (upd (ar 2) k rg)).2 3) ((sA (sA X 1 (upd (ar 1) k lf)) 2 (upd (ar 2) k rg)).1 1) d = some (upd (ar 3) k d) := by
    show F_X4_put 20 (X.2 3) (X.1 1) d = _
    rw [h1, h5, q_put hk (by omega)]
  rw [e3, sb]
  refine ⟨sI (sA (sA (sA X 1 (upd (ar 1) k lf)) 2 (upd (ar 2) k rg)) 3 (upd (ar 3) k d)) 2 5, (be (show F_X1_goTo (sA (sA (sA X 1 (upd (ar 1) k lf)) 2 (upd (ar 2) k rg)) 3 (upd (ar 3) k d)) 5 = some (1, sI (sA (sA (sA X 1 (upd (ar 1) k lf)) 2 (upd (ar 2) k rg)) 3 (upd (ar 3) k d)) 2 5) from rfl)).trans nrs1, h0, h1, rfl, h3, h4, ?_⟩
  refine funext fun j => ?_
  show (if j = 3 then upd (ar 3) k d else if j = 2 then upd (ar 2) k rg else if j = 1 then upd (ar 1) k lf else X.2 j) = dec3 ar k lf rg d j
  unfold dec3
  rw [h5]
  by_cases q1 : j = 1
  · subst q1; rfl
  · by_cases q2 : j = 2
    · subst q2; rfl
    · by_cases q3 : j = 3
      · subst q3; rfl
      · simp only [if_neg q1, if_neg q2, if_neg q3]
section PLACES
variable {X : St} {cnt lf rg : Int32} {ar : Nat → Nat → Int32} {c : Nat}
theorem t0_ok (h : OS t cnt 0 lf rg ar X) (ho : okl 0 0 c) : ∃ X1, F_X1_take X (nI c) = some (1, X1) ∧ OS t cnt 1 (0 ||| bitc c) 0 ar X1 := by
  unfold F_X1_take
  obtain ⟨X1, e, k⟩ := left_ok (t := t) (X := sI (sI X 3 0) 4 0) (cnt := cnt) (pl := 0) (lf := 0) (rg := 0) (ar := ar) (c := c) ⟨h.1, h.2.1, h.2.2.1, rfl, rfl, h.2.2.2.2.2⟩ ho
  rw [if_pos h.2.2.1]
  exact ⟨X1, (be e).trans nrs1, k⟩
theorem t0_no (hc : c < 128) (h : OS t cnt 0 lf rg ar X) (ho : ¬ okl 0 0 c) : ∃ X1, F_X1_take X (nI c) = some (0, X1) ∧ X1.1 0 = X.1 0 ∧ X1.2 = X.2 := by
  unfold F_X1_take
  obtain ⟨X1, e, k⟩ := left_no (t := t) (X := sI (sI X 3 0) 4 0) (cnt := cnt) (pl := 0) (lf := 0) (rg := 0) (ar := ar) (c := c) hc ⟨h.1, h.2.1, h.2.2.1, rfl, rfl, h.2.2.2.2.2⟩ ho
  rw [if_pos h.2.2.1]
  exact ⟨X1, (be e).trans nrs0, k⟩
theorem t1_ok (h : OS t cnt 1 lf rg ar X) (ho : okl lf rg c) : ∃ X1, F_X1_take X (nI c) = some (1, X1) ∧ OS t cnt 1 (lf ||| bitc c) rg ar X1 := by
  unfold F_X1_take
  obtain ⟨X1, e, k⟩ := left_ok h ho
  obtain ⟨-, -, -, -, b5, -⟩ := bitc_ne c (by have := ho.2.1; omega) ho.1
  rw [if_neg (by rw [h.2.2.1]; decide), if_pos h.2.2.1, if_neg b5]
  exact ⟨X1, (be e).trans nrs1, k⟩
theorem t1_sl (h : OS t cnt 1 lf rg ar X) : ∃ X1, F_X1_take X (nI 47) = some (1, X1) ∧ OS t cnt 2 lf rg ar X1 := by
  unfold F_X1_take
  rw [if_neg (by rw [h.2.2.1]; decide), if_pos h.2.2.1, if_pos (show nI 47 = 47 from rfl)]
  exact ⟨sI X 2 2, (be (show F_X1_goTo X 2 = some (1, sI X 2 2) from rfl)).trans nrs1, h.1, h.2.1, rfl, h.2.2.2.1, h.2.2.2.2.1, h.2.2.2.2.2⟩
theorem t1_no (hc : c < 128) (h : OS t cnt 1 lf rg ar X) (ho : ¬ okl lf rg c) (h47 : c ≠ 47) : ∃ X1, F_X1_take X (nI c) = some (0, X1) ∧ X1.1 0 = X.1 0 ∧ X1.2 = X.2 := by
  unfold F_X1_take
  obtain ⟨X1, e, k⟩ := left_no hc h ho
  rw [if_neg (by rw [h.2.2.1]; decide), if_pos h.2.2.1, if_neg (show ¬ nI c = 47 from fun z => h47 ((nI_eq (b := 47) (by omega) (by omega)).mp z))]
  exact ⟨X1, (be e).trans nrs0, k⟩
theorem t2_ok (h : OS t cnt 2 lf rg ar X) (ho : okl lf rg c) : ∃ X1, F_X1_take X (nI c) = some (1, X1) ∧ OS t cnt 3 lf (rg ||| bitc c) ar X1 := by
  unfold F_X1_take
  obtain ⟨X1, e, k⟩ := right_ok h ho
  rw [if_neg (by rw [h.2.2.1]; decide), if_neg (by rw [h.2.2.1]; decide), if_pos h.2.2.1]
  exact ⟨X1, (be e).trans nrs1, k⟩
theorem t2_no (hc : c < 128) (h : OS t cnt 2 lf rg ar X) (ho : ¬ okl lf rg c) : ∃ X1, F_X1_take X (nI c) = some (0, X1) ∧ X1.1 0 = X.1 0 ∧ X1.2 = X.2 := by
  unfold F_X1_take
  obtain ⟨X1, e, k⟩ := right_no hc h ho
  rw [if_neg (by rw [h.2.2.1]; decide), if_neg (by rw [h.2.2.1]; decide), if_pos h.2.2.1]
  exact ⟨X1, (be e).trans nrs0, k⟩
theorem deed_no (h1 : c ≠ 43) (h2 : c ≠ 61) (h3 : c ≠ 63) (hc : c < 128) : F_X1_takeDeed X (nI c) = some (0, X) := by
  unfold F_X1_takeDeed
  rw [if_neg (show ¬ nI c = 43 from fun z => h1 ((nI_eq (b := 43) (by omega) (by omega)).mp z)), if_neg (show ¬ nI c = 61 from fun z => h2 ((nI_eq (b := 61) (by omega) (by omega)).mp z)), if_neg (show ¬ nI c = 63 from fun z => h3 ((nI_eq (b := 63) (by omega) (by omega)).mp z))]
theorem t3_ok (h : OS t cnt 3 lf rg ar X) (ho : okl lf rg c) : ∃ X1, F_X1_take X (nI c) = some (1, X1) ∧ OS t cnt 3 lf (rg ||| bitc c) ar X1 := by
  unfold F_X1_take
  obtain ⟨X1, e, k⟩ := right_ok h ho
  have hc := ho.2.1; have hc2 := ho.1
  rw [if_neg (by rw [h.2.2.1]; decide), if_neg (by rw [h.2.2.1]; decide), if_neg (by rw [h.2.2.1]; decide), if_pos h.2.2.1]
  exact ⟨X1, (be (deed_no (by omega) (by omega) (by omega) (by omega))).trans ((if_pos rfl).trans ((be e).trans (if_neg one0))), k⟩
theorem t3_no (hc : c < 128) (h : OS t cnt 3 lf rg ar X) (ho : ¬ okl lf rg c) (h1 : c ≠ 43) (h2 : c ≠ 61) (h3 : c ≠ 63) : ∃ X1, F_X1_take X (nI c) = some (0, X1) ∧ X1.1 0 = X.1 0 ∧ X1.2 = X.2 := by
  unfold F_X1_take
  obtain ⟨X1, e, k⟩ := right_no hc h ho
  rw [if_neg (by rw [h.2.2.1]; decide), if_neg (by rw [h.2.2.1]; decide), if_neg (by rw [h.2.2.1]; decide), if_pos h.2.2.1]
  exact ⟨X1, (be (deed_no h1 h2 h3 hc)).trans ((if_pos rfl).trans ((be e).trans (if_pos rfl))), k⟩
theorem t3_eq (h : OS t cnt 3 lf rg ar X) : ∃ X1, F_X1_take X (nI 61) = some (1, X1) ∧ OS t cnt 4 lf rg ar X1 := by
  have d : F_X1_takeDeed X (nI 61) = some (1, sI X 2 4) := by
    unfold F_X1_takeDeed
    exact (if_neg (show ¬ nI 61 = 43 by decide)).trans ((if_pos (show nI 61 = 61 by decide)).trans ((be (show F_X1_goTo X 4 = some (1, sI X 2 4) from rfl)).trans nrs1))
  unfold F_X1_take
  rw [if_neg (by rw [h.2.2.1]; decide), if_neg (by rw [h.2.2.1]; decide), if_neg (by rw [h.2.2.1]; decide), if_pos h.2.2.1]
  exact ⟨sI X 2 4, (be d).trans (if_neg one0), h.1, h.2.1, rfl, h.2.2.2.1, h.2.2.2.2.1, h.2.2.2.2.2⟩
theorem t3_do {k : Nat} (hk : k < 20) (h : OS t (nI k) 3 lf rg ar X) : (∃ X1, F_X1_take X (nI 63) = some (1, X1) ∧ OS t (nI k) 5 lf rg (dec3 ar k lf rg 3) X1) ∧ (∃ X1, F_X1_take X (nI 43) = some (1, X1) ∧ OS t (nI k) 5 lf rg (dec3 ar k lf rg 4) X1) := by
  obtain ⟨X1, e, k1⟩ := o_dec hk h 3
  obtain ⟨X2, e2, k2⟩ := o_dec hk h 4
  have d1 : F_X1_takeDeed X (nI 63) = some (1, X1) := by
    unfold F_X1_takeDeed
    exact (if_neg (show ¬ nI 63 = 43 by decide)).trans ((if_neg (show ¬ nI 63 = 61 by decide)).trans ((if_pos (show nI 63 = 63 by decide)).trans ((be e).trans nrs1)))
  have d2 : F_X1_takeDeed X (nI 43) = some (1, X2) := by
    unfold F_X1_takeDeed
    exact (if_pos (show nI 43 = 43 by decide)).trans ((be e2).trans nrs1)
  refine ⟨⟨X1, ?_, k1⟩, ⟨X2, ?_, k2⟩⟩
  · unfold F_X1_take
    rw [if_neg (by rw [h.2.2.1]; decide), if_neg (by rw [h.2.2.1]; decide), if_neg (by rw [h.2.2.1]; decide), if_pos h.2.2.1]
    exact (be d1).trans (if_neg one0)
  · unfold F_X1_take
    rw [if_neg (by rw [h.2.2.1]; decide), if_neg (by rw [h.2.2.1]; decide), if_neg (by rw [h.2.2.1]; decide), if_pos h.2.2.1]
    exact (be d2).trans (if_neg one0)
theorem t4_do {k : Nat} (hk : k < 20) (h : OS t (nI k) 4 lf rg ar X) : (∃ X1, F_X1_take X (nI 108) = some (1, X1) ∧ OS t (nI k) 5 lf rg (dec3 ar k lf rg 0) X1) ∧ (∃ X1, F_X1_take X (nI 114) = some (1, X1) ∧ OS t (nI k) 5 lf rg (dec3 ar k lf rg 1) X1) ∧ (∃ X1, F_X1_take X (nI 101) = some (1, X1) ∧ OS t (nI k) 5 lf rg (dec3 ar k lf rg 2) X1) := by
  obtain ⟨X1, e, k1⟩ := o_dec hk h 0
  obtain ⟨X2, e2, k2⟩ := o_dec hk h 1
  obtain ⟨X3, e3, k3⟩ := o_dec hk h 2
  refine ⟨⟨X1, ?_, k1⟩, ⟨X2, ?_, k2⟩, ⟨X3, ?_, k3⟩⟩
  · unfold F_X1_take F_X1_takeAnswer
    rw [if_neg (by rw [h.2.2.1]; decide), if_neg (by rw [h.2.2.1]; decide), if_neg (by rw [h.2.2.1]; decide), if_neg (by rw [h.2.2.1]; decide), if_pos h.2.2.1, if_neg (show ¬ nI 108 = 101 by decide), if_pos (show nI 108 = 108 by decide)]
    exact (be ((be e).trans nrs1)).trans nrs1
  · unfold F_X1_take F_X1_takeAnswer
    rw [if_neg (by rw [h.2.2.1]; decide), if_neg (by rw [h.2.2.1]; decide), if_neg (by rw [h.2.2.1]; decide), if_neg (by rw [h.2.2.1]; decide), if_pos h.2.2.1, if_neg (show ¬ nI 114 = 101 by decide), if_neg (show ¬ nI 114 = 108 by decide), if_pos (show nI 114 = 114 by decide)]
    exact (be ((be e2).trans nrs1)).trans nrs1
  · unfold F_X1_take F_X1_takeAnswer
    rw [if_neg (by rw [h.2.2.1]; decide), if_neg (by rw [h.2.2.1]; decide), if_neg (by rw [h.2.2.1]; decide), if_neg (by rw [h.2.2.1]; decide), if_pos h.2.2.1, if_pos (show nI 101 = 101 by decide)]
    exact (be ((be e3).trans nrs1)).trans nrs1
theorem t4_no (hc : c < 128) (h : OS t cnt 4 lf rg ar X) (h1 : c ≠ 108) (h2 : c ≠ 114) (h3 : c ≠ 101) : F_X1_take X (nI c) = some (0, X) := by
  unfold F_X1_take F_X1_takeAnswer
  rw [if_neg (by rw [h.2.2.1]; decide), if_neg (by rw [h.2.2.1]; decide), if_neg (by rw [h.2.2.1]; decide), if_neg (by rw [h.2.2.1]; decide), if_pos h.2.2.1, if_neg (show ¬ nI c = 101 from fun z => h3 ((nI_eq (b := 101) (by omega) (by omega)).mp z)), if_neg (show ¬ nI c = 108 from fun z => h1 ((nI_eq (b := 108) (by omega) (by omega)).mp z)), if_neg (show ¬ nI c = 114 from fun z => h2 ((nI_eq (b := 114) (by omega) (by omega)).mp z))]
  exact (be rfl).trans nrs0
theorem t5_ok {k : Nat} (h : OS t (nI k) 5 lf rg ar X) : ∃ X1, F_X1_take X (nI 59) = some (1, X1) ∧ OS t (nI (k + 1)) 0 lf rg ar X1 := by
  unfold F_X1_take F_X1_close F_X1_goTo
  rw [if_neg (by rw [h.2.2.1]; decide), if_neg (by rw [h.2.2.1]; decide), if_neg (by rw [h.2.2.1]; decide), if_neg (by rw [h.2.2.1]; decide), if_neg (by rw [h.2.2.1]; decide), if_pos (show nI 59 = 59 by decide)]
  exact ⟨sI (sI X 1 (X.1 1 + 1)) 2 0, (be ((be rfl).trans nrs1)).trans (if_neg one0), h.1, by show X.1 1 + 1 = _; rw [h.2.1, nI_1], rfl, h.2.2.2.1, h.2.2.2.2.1, h.2.2.2.2.2⟩
theorem t5_no (hc : c < 128) (h : OS t cnt 5 lf rg ar X) (h1 : c ≠ 59) : F_X1_take X (nI c) = some (0, X) := by
  unfold F_X1_take
  rw [if_neg (by rw [h.2.2.1]; decide), if_neg (by rw [h.2.2.1]; decide), if_neg (by rw [h.2.2.1]; decide), if_neg (by rw [h.2.2.1]; decide), if_neg (by rw [h.2.2.1]; decide), if_neg (show ¬ nI c = 59 from fun z => h1 ((nI_eq (b := 59) (by omega) (by omega)).mp z))]
end PLACES
end TX
