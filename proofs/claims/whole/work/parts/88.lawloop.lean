/-! the law: its loop, its start -/
theorem law_on {L i : Nat} (hi : ¬ nI L - 5 < nI i) (hL : L ≤ 2560) (hi2 : i ≤ 2560) : i + 5 ≤ L := by
  rcases Nat.lt_or_ge L 5 with z | z
  · exfalso; apply hi
    have h1 := pk_sneg (a := L) (b := 5) (by omega) z
    have h2 := nI_pos (n := i) (by omega)
    rw [fa_lt] at h1 h2 ⊢
    have h3 : (nI L - nI 5).toInt = (nI L - 5).toInt := rfl
    rw [h3] at h1
    have h4 : (0 : Int32).toInt = 0 := rfl
    omega
  · rw [show nI L - 5 = nI (L - 5) from pk_sub (b := 5) z, nI_ltI (by omega) (by omega)] at hi
    omega
set_option maxHeartbeats 4000000 in
set_option maxRecDepth 100000 in
theorem law_step {p : Program} {l : Launch} {e : Env} {s : State} {m : MethodId} {below : List Frame} {meth : Method} {c : Code} {b L : Nat} {xs : Nat → Int32} {D : va_G} {T : Nat → ClassId} {h0 ho : Nat} {bm : Nat → Nat} {Q : State → Prop} (hfl : l.stackTraces = false) (C0 : LX p s m c b L xs D T) (hL : L ≤ 2560) (hend : ∀ (H : Heap) (ls : Array Slot), W p l e room_1 s m #[Value.ref b] below meth c H [] 601024 7293034 Q (F0 m 1561 ls [.int 1])) {i : Nat} (hi2 : i ≤ 2560) {A : AT} {Z : ZT} {x : St} {g : Nat → Int64} {H : Heap} {locs : List Loc} {cells slots : Nat} {ls : Array Slot} (hc : cells + 1 ≤ 601024) (hs : slots + 6 ≤ 7293034) (hI : Inv Z x) (hP : va_P D vwCl (WL T h0 ho A Z g ++ mdW T bm x) H) (hD : va_D (AA s) (WL T h0 ho A Z g ++ mdW T bm x)) (hS : va_S (AA s) s.heap H locs) (hl : lv_has ls 9 [(4, .int (nI i)), (0, .ref b), (1, .ref h0), (2, .ref (bm 0)), (3, .ref ho)])
    (ih : i + 5 ≤ L → ∀ (Z : ZT) (x : St) (g : Nat → Int64) (A : AT) (H : Heap) (locs : List Loc) (ls : Array Slot), Inv Z x → va_P D vwCl (WL T h0 ho A Z g ++ mdW T bm x) H → va_D (AA s) (WL T h0 ho A Z g ++ mdW T bm x) → va_S (AA s) s.heap H locs → lv_has ls 9 [(4, .int (nI (i + 5))), (0, .ref b), (1, .ref h0), (2, .ref (bm 0)), (3, .ref ho)] → W p l e room_1 s m #[Value.ref b] below meth c H locs (cells + 1) (slots + 6) Q (F0 m 23 ls [])) : W p l e room_1 s m #[Value.ref b] below meth c H locs cells slots Q (F0 m 23 ls []) := by
  obtain ⟨hx, hb, hml, hown, hts, hX, hbl, hK, hE, hN⟩ := id C0
  have hbA : ¬ AA s b := Nat.not_le.mpr hbl
  refine lv_iload hx hb dL_law_23 (lv_at hl 0 rfl) ?_
  refine lv_aload_n hx hb dL_law_25 rfl (lv_at hl 1 rfl) ?_
  refine va_slen hx hb hX hbl hbA hS dL_law_26 ?_
  refine lv_iconst (v := 5) hx hb dL_law_27 (by decide) ?_
  refine lv_isub hx hb dL_law_28 ?_
  refine lv_icmp_gt (tgt := 1560) hx hb dL_law_29 (by decide) (fun cnd => ?_) (fun cnd => ?_)
  · refine lv_iconst (v := 1) hx hb dL_law_1560 (by decide) ?_
    refine va_forget (fun q hq => hS.2.2 q hq) ?_
    refine W.widen (k := 601024) (n := 7293034) (by omega) (by omega) ?_
    exact hend _ _
  have hi : i + 5 ≤ L := law_on cnd hL hi2
  have kk : LK p l e s m b below meth c D T h0 ho bm Inv i cells slots Q := by
    intro Z x g A H locs ls hI hP hD hS hl
    refine lv_iinc (v := nI (i + 5)) (lv' := [(4, .int (nI (i + 5))), (0, .ref b), (1, .ref h0), (2, .ref (bm 0)), (3, .ref ho)]) hx hb dL_law_1554 hl (k := 0) rfl (nI_add i 5) (by decide) rfl (fun ls hl => ?_)
    refine lv_goto (tgt := 23) hx hb dL_law_1557 (by decide) ?_
    exact ih hi Z x g A H locs ls hI hP hD hS hl
  refine lv_aload_n hx hb dL_law_32 rfl (lv_at hl 1 rfl) ?_
  refine lv_iload hx hb dL_law_33 (lv_at hl 0 rfl) ?_
  refine va_sld hx hb hX hbl hbA hS (vp_in_nI (by omega) (by omega)) dL_law_35 ?_
  refine lv_bipush (v := 31) hx hb dL_law_36 (by decide) ?_
  refine lv_iand hx hb dL_law_38 ?_
  obtain ⟨j, hj, ej⟩ := pk_andE (xs (nI i).toNatClampNeg) (m := 31) 5 (by decide)
  rw [ej]
  rcases (show j = 0 ∨ j = 1 ∨ j = 2 ∨ j = 3 ∨ j = 4 ∨ j = 5 ∨ j = 6 ∨ j = 7 ∨ j = 8 ∨ j = 9 ∨ j = 10 ∨ j = 11 ∨ j = 12 ∨ j = 13 ∨ j = 14 ∨ j = 15 ∨ j = 16 ∨ j = 17 ∨ j = 18 ∨ j = 19 ∨ j = 20 ∨ j = 21 ∨ j = 22 ∨ j = 23 ∨ j = 24 ∨ j = 25 ∨ j = 26 ∨ j = 27 ∨ j = 28 ∨ j = 29 ∨ j = 30 ∨ j = 31 by omega) with rfl | rfl | rfl | rfl | rfl | rfl | rfl | rfl | rfl | rfl | rfl | rfl | rfl | rfl | rfl | rfl | rfl | rfl | rfl | rfl | rfl | rfl | rfl | rfl | rfl | rfl | rfl | rfl | rfl | rfl | rfl | rfl
  · refine lv_tableIn (off := 125) (tgt := 164) hx hb dL_law_39 (by decide) (by decide) (by decide) (by decide) ?_
    exact lawc_begin hfl C0 hi hL (st_begin hI g (xs (nI i + 1).toNatClampNeg)) hc hs hP hD hS hl kk
  · refine lv_tableIn (off := 181) (tgt := 220) hx hb dL_law_39 (by decide) (by decide) (by decide) (by decide) ?_
    exact lawc_setLimit hfl C0 hi hL (st_setLimit hI g (xs (nI i + 1).toNatClampNeg)) hc hs hP hD hS hl kk
  · refine lv_tableIn (off := 237) (tgt := 276) hx hb dL_law_39 (by decide) (by decide) (by decide) (by decide) ?_
    exact lawc_tell hfl C0 hi hL (st_tell hI g (xs (nI i + 1).toNatClampNeg) (xs (nI i + 2).toNatClampNeg) (xs (nI i + 3).toNatClampNeg)) hc hs hP hD hS hl kk
  · refine lv_tableIn (off := 317) (tgt := 356) hx hb dL_law_39 (by decide) (by decide) (by decide) (by decide) ?_
    exact lawc_forget hfl C0 hi hL (st_forget hI) hc hs hP hD hS hl kk
  · refine lv_tableIn (off := 330) (tgt := 369) hx hb dL_law_39 (by decide) (by decide) (by decide) (by decide) ?_
    exact lawc_hide hfl C0 hi hL (st_hide hI g (xs (nI i + 1).toNatClampNeg) (xs (nI i + 2).toNatClampNeg)) hc hs hP hD hS hl kk
  · refine lv_tableIn (off := 398) (tgt := 437) hx hb dL_law_39 (by decide) (by decide) (by decide) (by decide) ?_
    exact lawc_ask hfl C0 hi hL (st_ask hI g (xs (nI i + 1).toNatClampNeg) (xs (nI i + 2).toNatClampNeg)) hc hs hP hD hS hl kk
  · refine lv_tableIn (off := 466) (tgt := 505) hx hb dL_law_39 (by decide) (by decide) (by decide) (by decide) ?_
    exact lawc_add hfl C0 hi hL (st_add hI g (xs (nI i + 1).toNatClampNeg) (xs (nI i + 2).toNatClampNeg)) hc hs hP hD hS hl kk
  · refine lv_tableIn (off := 534) (tgt := 573) hx hb dL_law_39 (by decide) (by decide) (by decide) (by decide) ?_
    exact lawc_removeLast hfl C0 hi hL (st_removeLast hI g) hc hs hP hD hS hl kk
  · refine lv_tableIn (off := 578) (tgt := 617) hx hb dL_law_39 (by decide) (by decide) (by decide) (by decide) ?_
    exact lawc_lies hfl C0 hi hL (st_lies hI g (xs (nI i + 1).toNatClampNeg)) hc hs hP hD hS hl kk
  · refine lv_tableIn (off := 634) (tgt := 673) hx hb dL_law_39 (by decide) (by decide) (by decide) (by decide) ?_
    exact lawc_answer hfl C0 hi hL (st_answer hI g (xs (nI i + 1).toNatClampNeg) (xs (nI i + 2).toNatClampNeg) (xs (nI i + 3).toNatClampNeg)) hc hs hP hD hS hl kk
  · refine lv_tableIn (off := 714) (tgt := 753) hx hb dL_law_39 (by decide) (by decide) (by decide) (by decide) ?_
    exact lawc_leftCase hfl C0 hi hL (st_leftCase hI g (xs (nI i + 1).toNatClampNeg)) hc hs hP hD hS hl kk
  · refine lv_tableIn (off := 770) (tgt := 809) hx hb dL_law_39 (by decide) (by decide) (by decide) (by decide) ?_
    exact lawc_weighing hfl C0 hi hL (st_weighing hI g (xs (nI i + 1).toNatClampNeg) (xs (nI i + 2).toNatClampNeg)) hc hs hP hD hS hl kk
  · refine lv_tableIn (off := 838) (tgt := 877) hx hb dL_law_39 (by decide) (by decide) (by decide) (by decide) ?_
    exact lawc_value hfl C0 hi hL (st_value hI g (xs (nI i + 1).toNatClampNeg)) hc hs hP hD hS hl kk
  · refine lv_tableIn (off := 894) (tgt := 933) hx hb dL_law_39 (by decide) (by decide) (by decide) (by decide) ?_
    exact lawc_weight hfl C0 hi hL (st_weight hI g (xs (nI i + 1).toNatClampNeg)) hc hs hP hD hS hl kk
  · refine lv_tableIn (off := 949) (tgt := 988) hx hb dL_law_39 (by decide) (by decide) (by decide) (by decide) ?_
    exact lawc_bound hfl C0 hi hL (st_bound hI) hc hs hP hD hS hl kk
  · refine lv_tableIn (off := 962) (tgt := 1001) hx hb dL_law_39 (by decide) (by decide) (by decide) (by decide) ?_
    exact lawc_weightBehind hfl C0 hi hL (st_weightBehind hI g (xs (nI i + 1).toNatClampNeg) (xs (nI i + 2).toNatClampNeg) (xs (nI i + 3).toNatClampNeg) (xs (nI i + 4).toNatClampNeg)) hc hs hP hD hS hl kk
  · refine lv_tableIn (off := 1053) (tgt := 1092) hx hb dL_law_39 (by decide) (by decide) (by decide) (by decide) ?_
    exact lawc_bestGroup hfl C0 hi hL (st_bestGroup hI g (xs (nI i + 1).toNatClampNeg)) hc hs hP hD hS hl kk
  · refine lv_tableIn (off := 1109) (tgt := 1148) hx hb dL_law_39 (by decide) (by decide) (by decide) (by decide) ?_
    exact lawc_teaches hfl C0 hi hL (st_teaches hI g (xs (nI i + 1).toNatClampNeg) (xs (nI i + 2).toNatClampNeg)) hc hs hP hD hS hl kk
  · refine lv_tableIn (off := 1184) (tgt := 1223) hx hb dL_law_39 (by decide) (by decide) (by decide) (by decide) ?_
    exact lawc_distance hfl C0 hi hL (st_distance hI g (xs (nI i + 1).toNatClampNeg) (xs (nI i + 2).toNatClampNeg)) hc hs hP hD hS hl kk
  · refine lv_tableIn (off := 1252) (tgt := 1291) hx hb dL_law_39 (by decide) (by decide) (by decide) (by decide) ?_
    exact lawc_leastDistance hfl C0 hi hL (st_leastDistance hI) hc hs hP hD hS hl kk
  · refine lv_tableIn (off := 1265) (tgt := 1304) hx hb dL_law_39 (by decide) (by decide) (by decide) (by decide) ?_
    exact lawc_bears hfl C0 hi hL (st_bears hI) hc hs hP hD hS hl kk
  · refine lv_tableIn (off := 1278) (tgt := 1317) hx hb dL_law_39 (by decide) (by decide) (by decide) (by decide) ?_
    exact lawc_decode hfl C0 hi hL (st_decode hI g (xs (nI i + 1).toNatClampNeg)) hc hs hP hD hS hl kk
  · refine lv_tableIn (off := 1334) (tgt := 1373) hx hb dL_law_39 (by decide) (by decide) (by decide) (by decide) ?_
    exact lawc_share hfl C0 hi hL (st_share hI) hc hs hP hD hS hl kk
  · refine lv_tableIn (off := 1375) (tgt := 1414) hx hb dL_law_39 (by decide) (by decide) (by decide) (by decide) ?_
    exact lawc_append hfl C0 hi hL (st_append hI g (xs (nI i + 1).toNatClampNeg)) hc hs hP hD hS hl kk
  · refine lv_tableIn (off := 1431) (tgt := 1470) hx hb dL_law_39 (by decide) (by decide) (by decide) (by decide) ?_
    exact lawc_clearText hfl C0 hi hL (st_clearText hI) hc hs hP hD hS hl kk
  · refine lv_tableIn (off := 1444) (tgt := 1483) hx hb dL_law_39 (by decide) (by decide) (by decide) (by decide) ?_
    exact lawc_carryOut hfl C0 hi hL (st_carryOut hI) hc hs hP hD hS hl kk
  · refine lv_tableIn (off := 1457) (tgt := 1496) hx hb dL_law_39 (by decide) (by decide) (by decide) (by decide) ?_
    exact lawc_undo hfl C0 hi hL (st_undo hI g) hc hs hP hD hS hl kk
  · refine lv_tableIn (off := 1501) (tgt := 1540) hx hb dL_law_39 (by decide) (by decide) (by decide) (by decide) ?_
    exact lawc_digest hfl C0 hi hL (st_digest hI) hc hs hP hD hS hl kk
  · refine lv_tableOut (tgt := 1554) hx hb dL_law_39 (by decide) (by decide) ?_
    refine W.widen (k := cells + 1) (n := slots + 6) (Nat.le_succ _) (by omega) ?_
    exact kk Z x g A H locs ls hI hP hD hS hl
  · refine lv_tableOut (tgt := 1554) hx hb dL_law_39 (by decide) (by decide) ?_
    refine W.widen (k := cells + 1) (n := slots + 6) (Nat.le_succ _) (by omega) ?_
    exact kk Z x g A H locs ls hI hP hD hS hl
  · refine lv_tableOut (tgt := 1554) hx hb dL_law_39 (by decide) (by decide) ?_
    refine W.widen (k := cells + 1) (n := slots + 6) (Nat.le_succ _) (by omega) ?_
    exact kk Z x g A H locs ls hI hP hD hS hl
  · refine lv_tableOut (tgt := 1554) hx hb dL_law_39 (by decide) (by decide) ?_
    refine W.widen (k := cells + 1) (n := slots + 6) (Nat.le_succ _) (by omega) ?_
    exact kk Z x g A H locs ls hI hP hD hS hl
theorem law_loop {p : Program} {l : Launch} {e : Env} {s : State} {m : MethodId} {below : List Frame} {meth : Method} {c : Code} {b L : Nat} {xs : Nat → Int32} {D : va_G} {T : Nat → ClassId} {h0 ho : Nat} {bm : Nat → Nat} {Q : State → Prop} (hfl : l.stackTraces = false) (C0 : LX p s m c b L xs D T) (hL : L ≤ 2560) (hend : ∀ (H : Heap) (ls : Array Slot), W p l e room_1 s m #[Value.ref b] below meth c H [] 601024 7293034 Q (F0 m 1561 ls [.int 1])) :
    ∀ (n i : Nat) (cells slots : Nat) (Z : ZT) (x : St) (g : Nat → Int64) (A : AT) (H : Heap) (locs : List Loc) (ls : Array Slot), L < i + n → i ≤ 2560 → cells ≤ 100 + i → slots ≤ 3000 + 6 * i → Inv Z x → va_P D vwCl (WL T h0 ho A Z g ++ mdW T bm x) H → va_D (AA s) (WL T h0 ho A Z g ++ mdW T bm x) → va_S (AA s) s.heap H locs → lv_has ls 9 [(4, .int (nI i)), (0, .ref b), (1, .ref h0), (2, .ref (bm 0)), (3, .ref ho)] → W p l e room_1 s m #[Value.ref b] below meth c H locs cells slots Q (F0 m 23 ls [])
  | 0, i, cells, slots, Z, x, g, A, H, locs, ls, hn, hi2, hc, hs, hI, hP, hD, hS, hl => law_step hfl C0 hL hend hi2 (by omega) (by omega) hI hP hD hS hl (fun z => by omega)
  | n + 1, i, cells, slots, Z, x, g, A, H, locs, ls, hn, hi2, hc, hs, hI, hP, hD, hS, hl => law_step hfl C0 hL hend hi2 (by omega) (by omega) hI hP hD hS hl (fun z Z x g A H locs ls hI hP hD hS hl => law_loop hfl C0 hL hend n (i + 5) (cells + 1) (slots + 6) Z x g A H locs ls (by omega) (by omega) (by omega) (by omega) hI hP hD hS hl)
