/-! the law: the case of the floats, the switch, the loop -/
set_option maxHeartbeats 4000000 in
set_option maxRecDepth 100000 in
theorem law_c28 {X : lX} (ok : lOk X) {x3 : Int32} {ver : Nat} {s : sT} {Mx Mm : gM} (hI : XI ver s Mx) (hJ : MI s Mm) (K : ∀ (v1 : Nat) (s1 : sT) (M1 M2 : gM), XI v1 s1 M1 → MI s1 M2 → v1 ≤ ver + 1 → lJ X 989 x3 [] M1 M2) : lJ X 800 x3 [] Mx Mm := by
  refine l_ax ok dL_law_800 ?_
  obtain ⟨p, l, e, s9, m, below, meth, c, b, L, xs, D, cs, ad⟩ := X
  have hw := l_words ok.1
  obtain ⟨⟨hx, hb, hr, hml, hown, hts, hX, hbl, hlocks, hgv⟩, hK, hN, hL⟩ := ok
  have hne := ch_f2d (o_chance_nan (s := s) hI.1.1.2)
  intro H locs ls a1 a2 a3 a4
  refine kVf (i := 0) (as := []) (rest := []) hx hb hml hown hw hK hN (k_X8_chance hI) s_X8_chance rfl (gLm (by decide)) cl0 q3_120 q3_119 q3_118 ⟨Nat.le_of_ble_eq_true rfl, Nat.le_of_ble_eq_true rfl⟩ a4.1 rfl (Nat.zero_le _) dL_law_801 ⟨Nat.le_of_ble_eq_true rfl, Nat.le_of_ble_eq_true rfl⟩ a1 a2 a3 (fun q h => h) (fun r M1 H locs hr1 a1 a2 a3 => ?_)
  obtain ⟨rfl, hI1⟩ := hr1
  refine lv_f2d hx hb dL_law_804 hne ?_
  obtain ⟨d, hd⟩ : ∃ d, d = Jvm.FP.f2d (o_chance s) := ⟨_, rfl⟩
  rw [← hd]
  refine lv_dstore (lv' := [(4, .double d), (0, .ref b), (1, .ref (ad 0)), (2, .ref (ad 42)), (3, .int x3)]) hx hb dL_law_805 a4 (by decide) rfl (fun ls a4 => ?_)
  refine lv_aload_n (x := ad 42) hx hb dL_law_807 rfl (lv_at a4 3 rfl) ?_
  refine kVf (i := 42) (as := []) (rest := []) hx hb hml hown hw hK hN (k_X9_chance hJ) s_X9_chance rfl (gNm (by decide)) cl42 q5_50 q5_49 q5_48 ⟨Nat.le_of_ble_eq_true rfl, Nat.le_of_ble_eq_true rfl⟩ a4.1 rfl (Nat.zero_le _) dL_law_808 ⟨Nat.le_of_ble_eq_true rfl, Nat.le_of_ble_eq_true rfl⟩ (l_swapP a1) (l_swapD a2) a3 (fun q h => h) (fun r M2 H locs hr2 a1 a2 a3 => ?_)
  obtain ⟨rfl, hJ1⟩ := hr2
  refine lv_f2d hx hb dL_law_811 hne ?_
  rw [← hd]
  refine lv_dstore (lv' := [(6, .double d), (4, .double d), (0, .ref b), (1, .ref (ad 0)), (2, .ref (ad 42)), (3, .int x3)]) hx hb dL_law_812 a4 (by decide) rfl (fun ls a4 => ?_)
  have fin : W p l e room_1 s9 m #[Value.ref b] below meth c H locs 59 95210 (lw_Z below #[Value.ref b] s9) (F0 m 840 ls []) := by
    refine lv_goto (tgt := 989) hx hb dL_law_840 (by decide) ?_
    exact K ver s M1 M2 hI1 hJ1 (by omega) H locs ls (l_swapP a1) (l_swapD a2) a3 (lv_sub a4 [2, 3, 4, 5] rfl)
  refine lv_dload hx hb dL_law_814 (lv_at a4 1 rfl) ?_
  refine lv_dload hx hb dL_law_816 (lv_at a4 0 rfl) ?_
  refine lv_dcmp hx hb dL_law_818 ?_
  obtain ⟨v, hv0⟩ : ∃ v, v = Op.cmpValue (Jvm.FP.dcmp d d) CmpOp.l := ⟨_, rfl⟩
  rw [← hv0]
  refine lv_if_eq (tgt := 840) hx hb dL_law_819 (by decide) (fun _ => fin) (fun hv => ?_)
  refine lv_dload hx hb dL_law_822 (lv_at a4 1 rfl) ?_
  refine lv_dload hx hb dL_law_824 (lv_at a4 1 rfl) ?_
  refine lv_dcmp hx hb dL_law_826 ?_
  rw [← hv0]
  refine lv_if_eq (tgt := 838) hx hb dL_law_827 (by decide) (fun h0 => absurd h0 hv) (fun _ => ?_)
  refine lv_dload hx hb dL_law_830 (lv_at a4 0 rfl) ?_
  refine lv_dload hx hb dL_law_832 (lv_at a4 0 rfl) ?_
  refine lv_dcmp hx hb dL_law_834 ?_
  rw [← hv0]
  exact lv_if_ne (tgt := 840) hx hb dL_law_835 (by decide) (fun _ => fin) (fun h0 => absurd h0 hv)
theorem l_tabIn {X : lX} (ok : lOk X) {x3 x : Int32} {Mx Mm : gM} {off : Int} {tgt : Nat} (q : Nat) (hx : x = nI q) (hq : q < 37) (ho : (#[164, 187, 210, 233, 246, 269, 292, 305, 318, 331, 354, 377, 400, 433, 456, 489, 512, 535, 558, 571, 594, 617, 630, 653, 676, 699, 722, 745, 768, 811, 834, 867, 880, 893, 906, 931, 944] : Array Int)[q]? = some off) (ht : ((32 : Nat) : Int) + off = (tgt : Int)) (k : lJ X tgt x3 [] Mx Mm) : lJ X 32 x3 [.inl x] Mx Mm := by
  obtain ⟨p, l, e, s, m, below, meth, c, b, L, xs, D, cs, ad⟩ := X
  obtain ⟨⟨hx0, hb, hr, hml, hown, hts, hX, hbl, hlocks, hgv⟩, hK, hN, hL⟩ := ok
  have e1 : x.toInt = (q : Int) := by rw [hx, nI_toInt (by omega)]
  intro H locs ls a1 a2 a3 a4
  refine lv_tableIn (off := off) (tgt := tgt) hx0 hb dL_law_32 (by rw [e1]; omega) (by rw [e1]; omega) ?_ ht (k H locs ls a1 a2 a3 a4)
  rw [e1, show ((q : Int) - 0).toNat = q by omega]
  exact ho
theorem l_tabOut {X : lX} (ok : lOk X) {x3 x : Int32} {Mx Mm : gM} (q : Nat) (hx : x = nI q) (hq : 37 ≤ q) (hq2 : q < 64) (k : lJ X 989 x3 [] Mx Mm) : lJ X 32 x3 [.inl x] Mx Mm := by
  obtain ⟨p, l, e, s, m, below, meth, c, b, L, xs, D, cs, ad⟩ := X
  obtain ⟨⟨hx0, hb, hr, hml, hown, hts, hX, hbl, hlocks, hgv⟩, hK, hN, hL⟩ := ok
  have e1 : x.toInt = (q : Int) := by rw [hx, nI_toInt (by omega)]
  intro H locs ls a1 a2 a3 a4
  exact lv_tableOut (tgt := 989) hx0 hb dL_law_32 (Or.inr (by rw [e1]; omega)) (by decide) (k H locs ls a1 a2 a3 a4)
set_option maxHeartbeats 4000000 in
set_option maxRecDepth 100000 in
/-- one turn: a call on each side -/
theorem law_turn {X : lX} (ok : lOk X) {i : Nat} {x3 : Int32} (hx3 : x3 = nI i) (hi : i + 3 ≤ lL X) {ver : Nat} {s : sT} {Mx Mm : gM} (hI : XI ver s Mx) (hJ : MI s Mm) (hv : ver < 999999) (K : ∀ (v1 : Nat) (s1 : sT) (M1 M2 : gM), XI v1 s1 M1 → MI s1 M2 → v1 ≤ ver + 1 → lJ X 989 x3 [] M1 M2) : lJ X 26 x3 [] Mx Mm := by
  have hsw : ∀ q : Nat, q < 64 → lJ X 32 x3 [.inl (nI q)] Mx Mm := by
    intro q hq
    by_cases hq37 : 37 ≤ q
    · exact l_tabOut ok q rfl hq37 hq (K ver s Mx Mm hI hJ (by omega))
    · match q, hq37 with
      | 0, _ => exact l_tabIn (off := 164) (tgt := 196) ok 0 rfl (by decide) rfl (by decide) (law_c0 ok hx3 hi hI hJ hv K)
      | 1, _ => exact l_tabIn (off := 187) (tgt := 219) ok 1 rfl (by decide) rfl (by decide) (law_c1 ok hx3 hi hI hJ hv K)
      | 2, _ => exact l_tabIn (off := 210) (tgt := 242) ok 2 rfl (by decide) rfl (by decide) (law_c2 ok hx3 hi hI hJ hv K)
      | 3, _ => exact l_tabIn (off := 233) (tgt := 265) ok 3 rfl (by decide) rfl (by decide) (law_c3 ok hx3 hi hI hJ hv K)
      | 4, _ => exact l_tabIn (off := 246) (tgt := 278) ok 4 rfl (by decide) rfl (by decide) (law_c4 ok hx3 hi hI hJ hv K)
      | 5, _ => exact l_tabIn (off := 269) (tgt := 301) ok 5 rfl (by decide) rfl (by decide) (law_c5 ok hx3 hi hI hJ hv K)
      | 6, _ => exact l_tabIn (off := 292) (tgt := 324) ok 6 rfl (by decide) rfl (by decide) (law_c6 ok hx3 hi hI hJ hv K)
      | 7, _ => exact l_tabIn (off := 305) (tgt := 337) ok 7 rfl (by decide) rfl (by decide) (law_c7 ok hx3 hi hI hJ hv K)
      | 8, _ => exact l_tabIn (off := 318) (tgt := 350) ok 8 rfl (by decide) rfl (by decide) (law_c8 ok hx3 hi hI hJ hv K)
      | 9, _ => exact l_tabIn (off := 331) (tgt := 363) ok 9 rfl (by decide) rfl (by decide) (law_c9 ok hx3 hi hI hJ hv K)
      | 10, _ => exact l_tabIn (off := 354) (tgt := 386) ok 10 rfl (by decide) rfl (by decide) (law_c10 ok hx3 hi hI hJ hv K)
      | 11, _ => exact l_tabIn (off := 377) (tgt := 409) ok 11 rfl (by decide) rfl (by decide) (law_c11 ok hx3 hi hI hJ hv K)
      | 12, _ => exact l_tabIn (off := 400) (tgt := 432) ok 12 rfl (by decide) rfl (by decide) (law_c12 ok hx3 hi hI hJ hv K)
      | 13, _ => exact l_tabIn (off := 433) (tgt := 465) ok 13 rfl (by decide) rfl (by decide) (law_c13 ok hx3 hi hI hJ hv K)
      | 14, _ => exact l_tabIn (off := 456) (tgt := 488) ok 14 rfl (by decide) rfl (by decide) (law_c14 ok hx3 hi hI hJ hv K)
      | 15, _ => exact l_tabIn (off := 489) (tgt := 521) ok 15 rfl (by decide) rfl (by decide) (law_c15 ok hx3 hi hI hJ hv K)
      | 16, _ => exact l_tabIn (off := 512) (tgt := 544) ok 16 rfl (by decide) rfl (by decide) (law_c16 ok hx3 hi hI hJ hv K)
      | 17, _ => exact l_tabIn (off := 535) (tgt := 567) ok 17 rfl (by decide) rfl (by decide) (law_c17 ok hx3 hi hI hJ hv K)
      | 18, _ => exact l_tabIn (off := 558) (tgt := 590) ok 18 rfl (by decide) rfl (by decide) (law_c18 ok hx3 hi hI hJ hv K)
      | 19, _ => exact l_tabIn (off := 571) (tgt := 603) ok 19 rfl (by decide) rfl (by decide) (law_c19 ok hx3 hi hI hJ hv K)
      | 20, _ => exact l_tabIn (off := 594) (tgt := 626) ok 20 rfl (by decide) rfl (by decide) (law_c20 ok hx3 hi hI hJ hv K)
      | 21, _ => exact l_tabIn (off := 617) (tgt := 649) ok 21 rfl (by decide) rfl (by decide) (law_c21 ok hx3 hi hI hJ hv K)
      | 22, _ => exact l_tabIn (off := 630) (tgt := 662) ok 22 rfl (by decide) rfl (by decide) (law_c22 ok hx3 hi hI hJ hv K)
      | 23, _ => exact l_tabIn (off := 653) (tgt := 685) ok 23 rfl (by decide) rfl (by decide) (law_c23 ok hx3 hi hI hJ hv K)
      | 24, _ => exact l_tabIn (off := 676) (tgt := 708) ok 24 rfl (by decide) rfl (by decide) (law_c24 ok hx3 hi hI hJ hv K)
      | 25, _ => exact l_tabIn (off := 699) (tgt := 731) ok 25 rfl (by decide) rfl (by decide) (law_c25 ok hx3 hi hI hJ hv K)
      | 26, _ => exact l_tabIn (off := 722) (tgt := 754) ok 26 rfl (by decide) rfl (by decide) (law_c26 ok hx3 hi hI hJ hv K)
      | 27, _ => exact l_tabIn (off := 745) (tgt := 777) ok 27 rfl (by decide) rfl (by decide) (law_c27 ok hx3 hi hI hJ hv K)
      | 28, _ => exact l_tabIn (off := 768) (tgt := 800) ok 28 rfl (by decide) rfl (by decide) (law_c28 ok hI hJ K)
      | 29, _ => exact l_tabIn (off := 811) (tgt := 843) ok 29 rfl (by decide) rfl (by decide) (law_c29 ok hx3 hi hI hJ hv K)
      | 30, _ => exact l_tabIn (off := 834) (tgt := 866) ok 30 rfl (by decide) rfl (by decide) (law_c30 ok hx3 hi hI hJ hv K)
      | 31, _ => exact l_tabIn (off := 867) (tgt := 899) ok 31 rfl (by decide) rfl (by decide) (law_c31 ok hx3 hi hI hJ hv K)
      | 32, _ => exact l_tabIn (off := 880) (tgt := 912) ok 32 rfl (by decide) rfl (by decide) (law_c32 ok hx3 hi hI hJ hv K)
      | 33, _ => exact l_tabIn (off := 893) (tgt := 925) ok 33 rfl (by decide) rfl (by decide) (law_c33 ok hx3 hi hI hJ hv K)
      | 34, _ => exact l_tabIn (off := 906) (tgt := 938) ok 34 rfl (by decide) rfl (by decide) (law_c34 ok hx3 hi hI hJ hv K)
      | 35, _ => exact l_tabIn (off := 931) (tgt := 963) ok 35 rfl (by decide) rfl (by decide) (law_c35 ok hx3 hi hI hJ hv K)
      | 36, _ => exact l_tabIn (off := 944) (tgt := 976) ok 36 rfl (by decide) rfl (by decide) (law_c36 ok hx3 hi hI hJ hv K)
      | q + 37, h => exact absurd (Nat.le_add_left 37 q) h
  obtain ⟨q, hq, he⟩ := and63 (lxs X i)
  obtain ⟨p, l, e, s9, m, below, meth, c, b, L, xs, D, cs, ad⟩ := X
  obtain ⟨⟨hx, hb, hr, hml, hown, hts, hX, hbl, hlocks, hgv⟩, hK, hN, hL⟩ := ok
  have hi : i + 3 ≤ L := hi
  have hbA : ¬ (fun q : Nat => s9.heap.size ≤ q) b := Nat.not_le.mpr hbl
  intro H locs ls a1 a2 a3 a4
  refine lv_aload_n (x := b) hx hb dL_law_26 rfl (lv_at a4 0 rfl) ?_
  refine lv_iload_n (x := x3) hx hb dL_law_27 rfl (lv_at a4 3 rfl) ?_
  rw [hx3]
  refine va_sld hx hb hX hbl hbA a3 (vp_in_nI (show i < L by omega) (by omega)) dL_law_28 ?_
  rw [c_cl (by omega)]
  refine lv_bipush hx hb dL_law_29 rfl ?_
  refine lv_iand hx hb dL_law_31 ?_
  have he : xs i &&& (Int8.ofInt 63).toInt32 = nI q := he
  rw [he]
  exact hsw q hq H locs ls a1 a2 a3 a4
set_option maxHeartbeats 4000000 in
/-- the end: too few numbers are left -/
theorem law_exit {p : Program} {l : Launch} {e : Env} {s : State} {m : MethodId} {below : List Frame} {meth : Method} {c : Code} {b L i : Nat} {xs : Nat → Int32} {ad : Nat → Nat} {H : Heap} {locs : List Loc} {ls : Array Slot} (hx : p.tables.exec = Jvm.exec) (hb : c.code = code) (hr : meth.sig.returnType = ret) (hlocks : meth.locks = false) (hX : va_X b L xs s s.heap) (hbl : b < s.heap.size) (hbA : ¬ (fun q : Nat => s.heap.size ≤ q) b) (hi : L < i + 3) (h2 : i ≤ 1539) (hL : L < 2000) (a3 : va_S (fun q => s.heap.size ≤ q) s.heap H locs) (a4 : lv_has ls 8 (lLv b ad (nI i))) : W p l e room_1 s m #[Value.ref b] below meth c H locs 59 95210 (lw_Z below #[Value.ref b] s) (F0 m 18 ls []) := by
  refine lv_iload_n (x := nI i) hx hb dL_law_18 rfl (lv_at a4 3 rfl) ?_
  refine lv_aload_n (x := b) hx hb dL_law_19 rfl (lv_at a4 0 rfl) ?_
  refine va_slen hx hb hX hbl hbA a3 dL_law_20 ?_
  refine lv_iconst (v := nI 3) hx hb dL_law_21 (by decide) ?_
  refine lv_isub hx hb dL_law_22 ?_
  refine lv_icmp_gt (tgt := 995) hx hb dL_law_23 (by decide) (fun z => ?_) (fun z => ?_)
  · refine lv_iconst (v := 1) hx hb dL_law_995 (by decide) ?_
    refine va_forget (fun q hq => a3.2.2 q hq) ?_
    refine W.widen (k := 600000) (n := 7302250) (Nat.le_of_ble_eq_true rfl) (Nat.le_of_ble_eq_true rfl) ?_
    refine W.base ?_
    exact lw_ret (Drawn.sameBut.refl s.drawn lw_cs) hx hb hr hlocks dL_law_996
  · have z : ¬ nI L - nI 3 < nI i := z
    rw [Int32.lt_iff_toInt_lt, pk_sub_toInt (by omega) (by omega), nI_toInt (by omega)] at z
    omega
set_option maxHeartbeats 4000000 in
set_option maxRecDepth 100000 in
/-- the loop -/
theorem law_loop {X : lX} (ok : lOk X) : ∀ (n i ver : Nat) (s : sT) (Mx Mm : gM), lL X < i + n → i ≤ 1539 → 3 * ver ≤ i → XI ver s Mx → MI s Mm → lJ X 18 (nI i) [] Mx Mm := by
  intro n
  induction n with
  | zero =>
    intro i ver s Mx Mm h1 h2 h3 hI hJ
    obtain ⟨p, l, e, s9, m, below, meth, c, b, L, xs, D, cs, ad⟩ := X
    obtain ⟨⟨hx, hb, hr, hml, hown, hts, hX, hbl, hlocks, hgv⟩, hK, hN, hL⟩ := ok
    have h1 : L < i := h1
    have hbA : ¬ (fun q : Nat => s9.heap.size ≤ q) b := Nat.not_le.mpr hbl
    intro H locs ls a1 a2 a3 a4
    exact law_exit hx hb hr hlocks hX hbl hbA (by omega) h2 (by omega) a3 a4
  | succ n ih =>
    intro i ver s Mx Mm h1 h2 h3 hI hJ
    have hturn : i + 3 ≤ lL X → lJ X 26 (nI i) [] Mx Mm := fun hi => by
      refine law_turn ok rfl hi hI hJ (by omega) (fun v1 s1 M1 M2 k1 k2 k3 => ?_)
      have hX2 : lL X ≤ 1536 := by
        obtain ⟨p, l, e, s9, m, below, meth, c, b, L, xs, D, cs, ad⟩ := X
        exact ok.2.2.2
      have hn := ih (i + 3) v1 s1 M1 M2 (by omega) (by omega) (by omega) k1 k2
      obtain ⟨p, l, e, s9, m, below, meth, c, b, L, xs, D, cs, ad⟩ := X
      obtain ⟨⟨hx, hb, hr, hml, hown, hts, hX, hbl, hlocks, hgv⟩, hK, hN, hL⟩ := ok
      intro H locs ls a1 a2 a3 a4
      refine lv_iinc (v := nI (i + 3)) (lv' := [(3, .int (nI (i + 3))), (0, .ref b), (1, .ref (ad 0)), (2, .ref (ad 42))]) hx hb dL_law_989 a4 (k := 3) rfl (nI_add i 3) (by decide) rfl (fun ls a4 => ?_)
      refine lv_goto (tgt := 18) hx hb dL_law_992 (by decide) ?_
      exact hn H locs ls a1 a2 a3 (lv_sub a4 [1, 2, 3, 0] rfl)
    obtain ⟨p, l, e, s9, m, below, meth, c, b, L, xs, D, cs, ad⟩ := X
    obtain ⟨⟨hx, hb, hr, hml, hown, hts, hX, hbl, hlocks, hgv⟩, hK, hN, hL⟩ := ok
    have hbA : ¬ (fun q : Nat => s9.heap.size ≤ q) b := Nat.not_le.mpr hbl
    intro H locs ls a1 a2 a3 a4
    by_cases hi : i + 3 ≤ L
    · refine lv_iload_n (x := nI i) hx hb dL_law_18 rfl (lv_at a4 3 rfl) ?_
      refine lv_aload_n (x := b) hx hb dL_law_19 rfl (lv_at a4 0 rfl) ?_
      refine va_slen hx hb hX hbl hbA a3 dL_law_20 ?_
      refine lv_iconst (v := nI 3) hx hb dL_law_21 (by decide) ?_
      refine lv_isub hx hb dL_law_22 ?_
      refine lv_icmp_gt (tgt := 995) hx hb dL_law_23 (by decide) (fun z => ?_) (fun z => ?_)
      · have z : nI L - nI 3 < nI i := z
        rw [Int32.lt_iff_toInt_lt, pk_sub_toInt (by omega) (by omega), nI_toInt (by omega)] at z
        omega
      · exact hturn hi H locs ls a1 a2 a3 a4
    · exact law_exit hx hb hr hlocks hX hbl hbA (by omega) h2 (by omega) a3 a4
