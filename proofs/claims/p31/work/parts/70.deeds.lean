/-! the pure layer of the property: the calls that change the scale -/
section O2
variable {n e T P a : Nat} {lo : Nat → Nat} {Z : ZT}
/-- the sides of the law's weighings are sides -/
def gA (h s : Nat) : Int32 := (((1 : Int32) <<< (nI h &&& 31)) - 1) <<< (nI s &&& 31)
def gB (h s : Nat) : Int32 := gA h s <<< (nI h &&& 31)
def sOk (n h s : Nat) : Bool := decide (F_X2_isWeighing (fun _ => nI n, fun _ _ => 0) (gA h s) (gB h s) = some 1)
theorem sides_all : ∀ n, n < 17 → ∀ h, h < 9 → ∀ s, s < 15 → (!(Nat.ble 1 h && Nat.ble (2 * h + s) n) || sOk n h s) = true := by decide +kernel
theorem l_sides {y : St} (h0 : y.1 0 = nI n) (hn : n ≤ 16) {h s : Nat} (h1 : 1 ≤ h) (h2 : 2 * h + s ≤ n) : F_X2_isWeighing y (gA h s) (gB h s) = some 1 := by
  have k0 := sides_all n (by omega) h (by omega) s (by omega)
  rw [show Nat.ble 1 h = true from Nat.ble_eq.mpr h1, show Nat.ble (2 * h + s) n = true from Nat.ble_eq.mpr h2] at k0
  have k : F_X2_isWeighing (fun _ => nI n, fun _ _ => 0) (gA h s) (gB h s) = some 1 := of_decide_eq_true k0
  unfold F_X2_isWeighing at k ⊢
  rw [h0]
  exact k
theorem sides_12 : ∀ n, n < 17 → 2 ≤ n → F_X2_isWeighing (fun _ => nI n, fun _ _ => 0) 1 2 = some 1 := by decide +kernel
theorem l_sides12 {y : St} (h0 : y.1 0 = nI n) (hn : n ≤ 16) (h1 : 2 ≤ n) : F_X2_isWeighing y 1 2 = some 1 := by
  have k := sides_12 n (by omega) h1
  unfold F_X2_isWeighing at k ⊢
  rw [h0]
  exact k
/-- the hidden case answers -/
theorem l_reply {y : St} (g : OKs n e T P a lo y) (hT : T < 40) (ha : a < 30) {h S : Nat} (hh : y.1 2 = nI h) (hh2 : h < 2 * n + 1) (hS : y.1 3 = nI S) (hS2 : S ≤ 1073741823) (l r : Int32) :
    ∃ v y' lo', F_X2_reply y l r = some (nI v, y') ∧ v ≤ 2 ∧ OKs n e (T + 1) P (a + 1) lo' y' ∧ y'.1 2 = nI h ∧ y'.1 3 = nI S ∧ lo' h = lo h + S / 2 ^ a % 2 ∧ ∀ c, c < 2 * n + 1 → lo c ≤ lo' c := by
  obtain ⟨b, ⟨q0, q1, q5, q6, q4⟩, hl, hid, hs3⟩ := g
  have hh3 : h < 33 := by have := b.2.1; omega
  have key : ∀ v : Nat, ∃ y', F_X2_learn (sI y 4 (y.1 4 + 1)) l r (nI v) = some y' ∧ OKs n e (T + 1) P (a + 1) (fun c => if c < 2 * n + 1 then lt1 lo l r (nI v) c else lo c) y' ∧ y'.1 2 = nI h ∧ y'.1 3 = nI S := fun v => by
    obtain ⟨y', k1, k2, k3, -, -, -, -, k7, k8⟩ := y_learn (n := n) (T := T) (lo := lo) (y := sI y 4 (y.1 4 + 1)) b.2.1 q0 q5 hT (fun c hc => (hl c hc).1) l r (nI v)
    have k20 : y'.1 2 = y.1 2 := k2 2 (by omega)
    have k30 : y'.1 3 = y.1 3 := k2 3 (by omega)
    refine ⟨y', k1, ⟨⟨b.1, b.2.1, b.2.2.1, by omega, b.2.2.2.2.1, by omega⟩, ⟨(k2 0 (by omega)).trans q0, (k2 1 (by omega)).trans q1, k3, (k2 6 (by omega)).trans q6, ?_⟩, fun c hc => ?_, ?_, ?_⟩, k20.trans hh, k30.trans hS⟩
    · rw [k2 4 (by omega)]
      show y.1 4 + 1 = _
      rw [q4, nI_1]
    · have hc1 := (hl c hc).2
      show y'.2 6 c = nI (if c < 2 * n + 1 then lt1 lo l r (nI v) c else lo c) ∧ (if c < 2 * n + 1 then lt1 lo l r (nI v) c else lo c) ≤ T + 1
      by_cases z : c < 2 * n + 1
      · rw [k7 c z, if_pos z]
        refine ⟨rfl, ?_⟩
        unfold lt1; split <;> omega
      · rw [k8 c (by omega), if_neg z]
        exact ⟨(hl c hc).1, by omega⟩
    · rw [k20]; exact hid
    · rw [k30]; exact hs3
  have mono : ∀ (v : Nat) (c : Nat), c < 2 * n + 1 → lo c ≤ (fun c => if c < 2 * n + 1 then lt1 lo l r (nI v) c else lo c) c := fun v c hc => by
    show lo c ≤ if c < 2 * n + 1 then lt1 lo l r (nI v) c else lo c
    rw [if_pos hc]
    unfold lt1; split <;> omega
  obtain ⟨lb1, lb2⟩ := lie_bit hS2 ha
  have ht := tr_le h l r
  have e1 : F_X4_trueAnswer (y.1 2) l r = some (nI (tr h l r)) := by rw [hh, q_ta hh3]
  have e4 : ((y.1 3).toUInt32 >>> ((y.1 4).toUInt32 &&& Int32.toUInt32 31)).toInt32 &&& 1 = nI (S / 2 ^ a % 2) := by rw [hS, q4]; exact lb1
  have hb : S / 2 ^ a % 2 = 0 ∨ S / 2 ^ a % 2 = 1 := by omega
  have same : ∀ v : Nat, nI (tr h l r) = nI v → (if h < 2 * n + 1 then lt1 lo l r (nI v) h else lo h) = lo h := fun v q => by
    rw [if_pos hh2]; unfold lt1; rw [if_pos q]
  have other : ∀ v : Nat, ¬ nI (tr h l r) = nI v → (if h < 2 * n + 1 then lt1 lo l r (nI v) h else lo h) = lo h + 1 := fun v q => by
    rw [if_pos hh2]; unfold lt1; rw [if_neg q]
  unfold F_X2_reply
  rw [e1, sb, e4]
  rcases hb with hb | hb
  · rw [hb, if_neg (show ¬ nI 0 = 1 by decide)]
    obtain ⟨y', k1, k2, k3, k4⟩ := key (tr h l r)
    exact ⟨tr h l r, y', _, (be k1).trans rfl, ht, k2, k3, k4, same _ rfl, mono _⟩
  · rw [hb, if_pos (show nI 1 = 1 from rfl)]
    by_cases t2 : tr h l r = 2
    · rw [t2, if_pos (show nI 2 = 2 from rfl)]
      obtain ⟨y', k1, k2, k3, k4⟩ := key 0
      have k1' : F_X2_learn (sI y 4 (y.1 4 + 1)) l r 0 = some y' := k1
      exact ⟨0, y', _, (be k1').trans rfl, by omega, k2, k3, k4, other 0 (by rw [t2]; decide), mono 0⟩
    · rw [if_neg (show ¬ nI (tr h l r) = 2 from fun z => t2 ((nI_eq (b := 2) (by omega) (by omega)).mp z)), nI_1]
      obtain ⟨y', k1, k2, k3, k4⟩ := key (tr h l r + 1)
      exact ⟨tr h l r + 1, y', _, (be k1).trans rfl, by omega, k2, k3, k4, other _ (fun z => by have := (nI_eq (by omega) (by omega)).mp z; omega), mono _⟩
theorem l_save (hc : HC Z) : ∃ Z' c, F_X0_save Z = some Z' ∧ Z' 0 = Z 0 ∧ c < 4 ∧ (Z' 6).1 0 = nI (c + 1) ∧ AGs (Z 0) (Z' (1 + c)) := by
  obtain ⟨c, c1, c2⟩ := hc
  obtain ⟨Z', y', k1, k2, k3, -, k5⟩ := z_save c1 c2
  rcases k5 with ⟨h1, h2, h3, -⟩ | ⟨h1, h2, h3, -⟩
  · exact ⟨Z', c, k1, k3, h1, h2, by rw [h3]; exact k2⟩
  · exact ⟨Z', 3, k1, k3, by omega, h2, by rw [show 1 + 3 = 4 from rfl, h3]; exact k2⟩
theorem HC.of {Z Z' : ZT} {c : Nat} (hc : c < 4) (h : (Z 6).1 0 = nI (c + 1)) (e : Z' 6 = Z 6) : HC Z' := ⟨c + 1, by omega, by rw [e]; exact h⟩
theorem l_ask (g : OKs n e T P a lo (Z 0)) (hT : T < 40) (ha : a < 30) {h S : Nat} (hh : (Z 0).1 2 = nI h) (hh2 : h < 2 * n + 1) (hS : (Z 0).1 3 = nI S) (hS2 : S ≤ 1073741823) (hc : HC Z) {l r : Int32} (hs : F_X2_isWeighing (Z 0) l r = some 1) :
    ∃ v Z' lo', F_L_asks Z l r = some (nI v, Z') ∧ v ≤ 2 ∧ OKs n e (T + 1) P (a + 1) lo' (Z' 0) ∧ (Z' 0).1 2 = nI h ∧ (Z' 0).1 3 = nI S ∧ lo' h = lo h + S / 2 ^ a % 2 ∧ (∀ c, c < 2 * n + 1 → lo c ≤ lo' c) ∧ HC Z' := by
  have hn := g.1.2.1
  obtain ⟨Z1, c, k1, k2, k3, k4, -⟩ := l_save hc
  obtain ⟨v, y', lo', r1, r2, r3, r4, r5, r6, r7⟩ := l_reply g hT ha hh hh2 hS hS2 l r
  have hr : F_X2_canReply (Z 0) = some 1 := by
    rw [y_replies g, hh, if_neg (show ¬ nI h = -1 from fun z => nI_pos (show h < 2 ^ 31 by omega) (by rw [z]; decide)), if_pos hT, if_pos ha]
  have h2 : F_X4_ask Z l r = some (nI v, zU Z1 0 y') := by
    unfold F_X4_ask
    rw [hs, sb, if_neg one0, hr, sb, if_neg one0, k1, sb, k2, r1]; rfl
  exact ⟨v, zU Z1 0 y', lo', (be h2).trans rfl, r2, r3, r4, r5, r6, r7, HC.of k3 k4 rfl⟩
theorem l_begin (hT : (Z 0).1 5 = 0) (hc : HC Z) (h1 : 2 ≤ n) (h2 : n ≤ 16) : ∃ Z', F_L_begins Z (nI n) = some (0, Z') ∧ OKs n 1 0 0 0 (fun _ => 0) (Z' 0) ∧ (Z' 0).1 2 = -1 ∧ HC Z' := by
  obtain ⟨Z1, c, k1, k2, k3, k4, -⟩ := l_save hc
  obtain ⟨y', s1, s2, s3, -⟩ := y_start h1 h2 (Z 0)
  have e2 : F_X4_begin Z (nI n) = some (0, zU Z1 0 y') := by
    unfold F_X4_begin
    rw [if_neg (show ¬ nI n < 2 from nI_nlt (b := 2) h1 (by omega)), if_pos (show nI n ≤ 16 from nI_le (b := 16) h2 (by omega)), k1, sb, k2, s1, sb, hT]
  exact ⟨zU Z1 0 y', (be e2).trans rfl, s2, s3, HC.of k3 k4 rfl⟩
theorem l_limit (g : OKs n e T P a lo (Z 0)) (hc : HC Z) {f : Nat} (hf : f ≤ 2) : ∃ Z', F_L_limits Z (nI f) = some (nI (nl f lo (2 * n + 1)), Z') ∧ OKs n f T P a lo (Z' 0) ∧ (Z' 0).1 2 = (Z 0).1 2 ∧ HC Z' := by
  obtain ⟨Z1, c, k1, k2, k3, k4, -⟩ := l_save hc
  obtain ⟨b, ⟨q0, q1, q5, q6, q4⟩, hl, hid, hs3⟩ := g
  have o : OKs n f T P a lo (sI (Z 0) 1 (nI f)) := ⟨⟨b.1, b.2.1, hf, b.2.2.2⟩, ⟨q0, rfl, q5, q6, q4⟩, hl, hid, hs3⟩
  have e1 : F_X2_countLeft ((zU Z1 0 (sI (Z1 0) 1 (nI f))) 0) = some (nI (nl f lo (2 * n + 1))) := by
    rw [k2]
    exact y_count o.cy o.sz
  have e2 : F_X4_setLimit Z (nI f) = some (nI (nl f lo (2 * n + 1)), zU Z1 0 (sI (Z1 0) 1 (nI f))) := by
    unfold F_X4_setLimit
    rw [if_neg (nI_pos (by omega)), if_pos (show nI f ≤ 2 from nI_le (b := 2) hf (by omega)), k1, sb, e1, sb]
  refine ⟨_, (be e2).trans rfl, ?_, ?_, HC.of k3 k4 rfl⟩
  · show OKs n f T P a lo (sI (Z1 0) 1 (nI f))
    rw [k2]; exact o
  · show (sI (Z1 0) 1 (nI f)).1 2 = _
    rw [k2]; rfl
theorem l_hide (g : OKs n e T P a lo (Z 0)) (hh : (Z 0).1 2 = -1) (hc : HC Z) {h S : Nat} (h1 : h < 2 * n + 1) (h2 : S ≤ 1073741823) : ∃ Z', F_L_hides Z (nI h) (nI S) = some (-1, Z') ∧ OKs n e T P 0 lo (Z' 0) ∧ (Z' 0).1 2 = nI h ∧ (Z' 0).1 3 = nI S ∧ HC Z' := by
  obtain ⟨Z1, c, k1, k2, k3, k4, -⟩ := l_save hc
  have hcs := l_case g.2.1.1 g.1.2.1 h1
  obtain ⟨b, ⟨q0, q1, q5, q6, q4⟩, hl, hid, hs3⟩ := g
  have o : OKs n e T P 0 lo (sI (sI (sI (Z 0) 2 (nI h)) 3 (nI S)) 4 0) := ⟨⟨b.1, b.2.1, b.2.2.1, b.2.2.2.1, b.2.2.2.2.1, by omega⟩, ⟨q0, q1, q5, q6, rfl⟩, hl, .inr ⟨h, rfl, h1⟩, ⟨S, rfl, h2⟩⟩
  have e2 : F_X4_hide Z (nI h) (nI S) = some (-1, zU Z1 0 (sI (sI (sI (Z 0) 2 (nI h)) 3 (nI S)) 4 0)) := by
    unfold F_X4_hide
    rw [hcs, sb, if_neg one0, if_neg (nI_pos (by omega)), if_pos (show nI S ≤ 1073741823 from nI_le (b := 1073741823) h2 (by omega)), k1, sb, k2, hh]; rfl
  exact ⟨_, (be e2).trans rfl, o, rfl, rfl, HC.of k3 k4 rfl⟩
/-- what is forgotten comes back by undo -/
theorem l_forget (g : OKs n e T P a lo (Z 0)) (hc : HC Z) : ∃ Z' c, F_X4_forget Z = some (nI T, Z') ∧ OKs n e 0 P a (fun _ => 0) (Z' 0) ∧ c < 4 ∧ (Z' 6).1 0 = nI (c + 1) ∧ AGs (Z 0) (Z' (1 + c)) := by
  obtain ⟨Z1, c, k1, k2, k3, k4, k5⟩ := l_save hc
  obtain ⟨b, ⟨q0, q1, q5, q6, q4⟩, hl, hid, hs3⟩ := g
  obtain ⟨y', f1, f2, f3, f4, f5⟩ := y_forget (Z 0)
  have e2 : F_X4_forget Z = some (nI T, zU Z1 0 y') := by
    unfold F_X4_forget
    rw [k1, sb, k2, f1, sb, q5]
  refine ⟨zU Z1 0 y', c, e2, ⟨⟨b.1, b.2.1, b.2.2.1, by omega, b.2.2.2.2⟩, ⟨(f2 0 (by omega)).trans q0, (f2 1 (by omega)).trans q1, f3, (f2 6 (by omega)).trans q6, (f2 4 (by omega)).trans q4⟩, fun i hi => ⟨f5 i hi, Nat.le_refl 0⟩, ?_, ?_⟩, k3, k4, ?_⟩
  · show y'.1 2 = -1 ∨ ∃ h, y'.1 2 = nI h ∧ _
    rw [f2 2 (by omega)]; exact hid
  · show ∃ s, y'.1 3 = nI s ∧ _
    rw [f2 3 (by omega)]; exact hs3
  · show AGs (Z 0) (if 1 + c = 0 then y' else Z1 (1 + c))
    rw [if_neg (by omega)]; exact k5
theorem l_undo {c : Nat} (hc : c < 4) (h6 : (Z 6).1 0 = nI (c + 1)) : ∃ Z', F_L_undoes Z = some (nI c, Z') ∧ AGs (Z (1 + c)) (Z' 0) := by
  obtain ⟨Z', r1, r2, -, r4, -⟩ := z_restore hc h6
  have e2 : F_X4_undo Z = some (nI c, Z') := by
    unfold F_X4_undo
    rw [if_neg (show ¬ (Z 6).1 0 = 0 by rw [h6]; exact nI_ne0 (by omega) (by omega)), r1, sb, r4]
  exact ⟨Z', (be e2).trans rfl, r2⟩
/-- calls that are refused -/
theorem l_refuse {l r : Int32} (hs : F_X2_isWeighing (Z 0) l r = some 0) : T_L_asks Z l r = some (-2000001) := by
  have e2 : F_T4_ask Z l r = some (.inl "java/lang/IllegalArgumentException") := by
    unfold F_T4_ask
    rw [hs, sb, if_pos rfl]
  unfold T_L_asks
  rw [e2, sb]; dsimp only
  rw [if_pos rfl]
theorem l_refuse2 (g : OKs n e T P a lo (Z 0)) (hh : (Z 0).1 2 = -1) : T_L_asks Z 1 2 = some (-2000002) := by
  have hr : F_X2_canReply (Z 0) = some 0 := by rw [y_replies g, if_pos hh]
  have e2 : F_T4_ask Z 1 2 = some (.inl "java/lang/IllegalStateException") := by
    unfold F_T4_ask
    rw [l_sides12 g.2.1.1 g.1.2.1 g.1.1, sb, if_neg one0, hr, sb, if_pos rfl]
  unfold T_L_asks
  rw [e2, sb]; dsimp only
  rw [if_neg (by decide), if_pos rfl]
end O2
