/-! chance: an answer that is a float -/
theorem n32_of {r : UInt32} (h : Jvm.FP.Core.fIsNaN r = false) : vf_n32 r := by
  unfold vf_n32
  rw [UInt32.le_iff_toNat_le, UInt32.toNat_and]
  have h1 : (0x7fffffff : UInt32).toNat = 2 ^ 31 - 1 := by decide
  have h2 : (0x7f800000 : UInt32).toNat = 2139095040 := by decide
  rw [h1, h2, Nat.and_two_pow_sub_one_eq_mod]
  apply Nat.le_of_not_lt
  intro q
  rw [(Jvm.FP.Core.isNaN_bits32 r).mpr q] at h
  cases h
theorem n64_of {r : UInt64} (h : Jvm.FP.Core.dIsNaN r = false) : vf_n64 r := by
  unfold vf_n64
  rw [UInt64.le_iff_toNat_le, UInt64.toNat_and]
  have h1 : (0x7fffffffffffffff : UInt64).toNat = 2 ^ 63 - 1 := by decide
  have h2 : (0x7ff0000000000000 : UInt64).toNat = 9218868437227405312 := by decide
  rw [h1, h2, Nat.and_two_pow_sub_one_eq_mod]
  apply Nat.le_of_not_lt
  intro q
  rw [(Jvm.FP.Core.isNaN_bits r).mpr q] at h
  cases h
theorem ch_nan {x y : Int32} (hy : y ≠ 0) : Jvm.FP.Core.fIsNaN (Jvm.FP.fdiv (Jvm.FP.i2f x) (Jvm.FP.i2f y)) = false := Jvm.FP.Core.fdiv_out (Jvm.FP.Core.i2f_fin x).notNaN (Jvm.FP.Core.i2f_fin y) (fun z => Jvm.FP.Core.i2f_ne_zero hy ((Jvm.FP.Core.zero_bits232 _).mp z))
theorem ch_f2d {a : UInt32} (h : Jvm.FP.Core.fIsNaN a = false) : vf_n64 (Jvm.FP.f2d a) := n64_of (by
  have := Jvm.FP.f2d_nan a
  rw [show Jvm.FP.fIsNaN a = false from h] at this
  exact this)
theorem ch_p2 {n : Nat} (hn : n ≤ 14) : nI (2 ^ n) ≠ 0 := by
  intro q
  have h14 := p2_14 hn
  have h0 := Nat.two_pow_pos n
  have h1 := nI_toInt (n := 2 ^ n) (by omega)
  rw [q] at h1
  have h2 : (0 : Int32).toInt = 0 := by decide
  omega
def gZf (X : gX) (Q : UInt32 → gM → Prop) : Prop := match X with
  | (p, l, e, R, s, m, args, below, meth, c, D, cs, ad, A, Z, L, kc, kn) => Z = MQ below (va_Qf Q (gEnd L D cs ad A) A) args s kc kn A
set_option maxHeartbeats 4000000 in
theorem gCf_of {L : List Nat} {d : Nat} {y : MethodName} {cc : ByteArray} {nL : Nat} {as : List gV} {M : gM} {Q : UInt32 → gM → Prop} (hy : plainName y.cls = true) (hn : va_nd L = true) (hlen : as.length ≤ nL)
    (h : ∀ X : gX, gOk X cc y.cls d nL (some .float) L → gZf X Q → gW X 0 (as.map some ++ List.replicate (nL - as.length) none) [] M) : gCf L d y cc nL as M Q := by
  intro l D cs ad sz
  refine Met.ofW (cc := cc) (maxL := nL) (ret := some .float) hy rfl ?_
  intro p e s m args below meth c s1 B hml hv
  obtain ⟨rfl, hsz, hP, hK, hN, hD0⟩ := hv
  have hts0 := atoms_spec (ws := (.code y cc nL (some .float) :: gT)) B.pre
  subst hsz
  have hl := lv_entry (as.map (gv ad)) (n := nL) (by rw [gls_sl]; exact hlen)
  rw [lg_entry_eq]
  have key := h (p, l, e, gRm d, s, m, (as.map (gv ad)).toArray, below, meth, c, D, cs, ad, va_A (gw L cs ad M) s.heap.size, _, L, 0, 0) ⟨rfl, B.exec, B.bytes, hml, B.returns, B.notSynchronized, findClass_of_methodNamed B.named, fun w hw => hts0 w (List.mem_cons_of_mem _ hw), hN, hK, fun q hq => Or.inr hq, hn, Nat.le_refl _, Nat.le_refl _, Nat.le_refl _, Nat.le_refl _⟩ rfl
  refine key s.heap [] _ hP hD0.self va_S.rf ?_
  have e1 : (as.map some ++ List.replicate (nL - as.length) (none : Option gV)).length = nL := by
    rw [List.length_append, List.length_map, List.length_replicate]; omega
  rw [e1, gls_entry]
  exact hl
theorem dX8_chance_0 : decode cX8_chance 0 = .ok (.aload_n 0, 1) := by decide +kernel
theorem dX8_chance_1 : decode cX8_chance 1 = .ok (.getfield 45, 3) := by decide +kernel
theorem dX8_chance_4 : decode cX8_chance 4 = .ok (.invokevirtual 199, 3) := by decide +kernel
theorem dX8_chance_7 : decode cX8_chance 7 = .ok (.i2f, 1) := by decide +kernel
theorem dX8_chance_8 : decode cX8_chance 8 = .ok (.iconst 1, 1) := by decide +kernel
theorem dX8_chance_9 : decode cX8_chance 9 = .ok (.aload_n 0, 1) := by decide +kernel
theorem dX8_chance_10 : decode cX8_chance 10 = .ok (.getfield 12, 3) := by decide +kernel
theorem dX8_chance_13 : decode cX8_chance 13 = .ok (.getfield 63, 3) := by decide +kernel
theorem dX8_chance_16 : decode cX8_chance 16 = .ok (.ishl, 1) := by decide +kernel
theorem dX8_chance_17 : decode cX8_chance 17 = .ok (.i2f, 1) := by decide +kernel
theorem dX8_chance_18 : decode cX8_chance 18 = .ok (.fdiv, 1) := by decide +kernel
theorem dX8_chance_19 : decode cX8_chance 19 = .ok (.freturn, 1) := by decide +kernel
theorem dX9_chance_0 : decode cX9_chance 0 = .ok (.aload_n 0, 1) := by decide +kernel
theorem dX9_chance_1 : decode cX9_chance 1 = .ok (.iconst (-1), 1) := by decide +kernel
theorem dX9_chance_2 : decode cX9_chance 2 = .ok (.invokevirtual 163, 3) := by decide +kernel
theorem dX9_chance_5 : decode cX9_chance 5 = .ok (.i2f, 1) := by decide +kernel
theorem dX9_chance_6 : decode cX9_chance 6 = .ok (.iconst 1, 1) := by decide +kernel
theorem dX9_chance_7 : decode cX9_chance 7 = .ok (.aload_n 0, 1) := by decide +kernel
theorem dX9_chance_8 : decode cX9_chance 8 = .ok (.getfield 59, 3) := by decide +kernel
theorem dX9_chance_11 : decode cX9_chance 11 = .ok (.ishl, 1) := by decide +kernel
theorem dX9_chance_12 : decode cX9_chance 12 = .ok (.i2f, 1) := by decide +kernel
theorem dX9_chance_13 : decode cX9_chance 13 = .ok (.fdiv, 1) := by decide +kernel
theorem dX9_chance_14 : decode cX9_chance 14 = .ok (.freturn, 1) := by decide +kernel
/-- the number that both sides answer -/
def o_chance (s : sT) : UInt32 := Jvm.FP.fdiv (Jvm.FP.i2f (nI (htot s.1 s.2.1))) (Jvm.FP.i2f (nI (2 ^ s.1)))
theorem o_chance_nan {s : sT} (hn : s.1 ≤ 14) : Jvm.FP.Core.fIsNaN (o_chance s) = false := ch_nan (ch_p2 hn)
theorem s_X8_chance : gSt yX8_chance cX8_chance 1 (some .float) 0 := ⟨q3_121, q1_1, ⟨by decide, by decide, by decide +kernel⟩, by decide⟩
theorem s_X9_chance : gSt yX9_chance cX9_chance 1 (some .float) 0 := ⟨q5_51, q1_10, ⟨by decide, by decide, by decide +kernel⟩, by decide⟩
set_option maxHeartbeats 4000000 in
set_option maxRecDepth 100000 in
theorem k_X8_chance {ver : Nat} {s : sT} {M : gM} (hI : XI ver s M) : gCf gL 5 yX8_chance cX8_chance 1 [.inr 0] M (fun r M1 => r = o_chance s ∧ XI ver s M1) := by
  refine gCf_of (by decide) gLn (gle rfl) (fun X ok hZ => ?_)
  show gW X 0 [some (.inr 0)] [] M
  refine g_aload_n ok dX8_chance_0 rfl rfl ?_
  refine g_get (w := .inr 6) ok f0_3 (gLm (by decide)) q2_11 dX8_chance_1 rfl ?_
  have hw : w_X4_countOfAll M (fun r M1 => r = nI (htot s.1 s.2.1) ∧ XI ver s M1) := by
    unfold w_X4_countOfAll
    exact S_cnts hI (fun M1 k1 k2 k3 => ⟨k2, k1⟩)
  refine g_callVi (st := []) (as := []) ok rfl (k_X4_countOfAll hw) s_X4_countOfAll rfl (by decide) (gLm (by decide)) cl6 sel_X4_countOfAll ins_X4_countOfAll (gle rfl) rfl q3_92 dX8_chance_4 ?_
  rintro r M1 ⟨rfl, hI1⟩
  obtain ⟨p, l, e, R, s9, m, args, below, meth, c, D, cs, ad, A, Z, L0, kc, kn⟩ := X
  obtain ⟨rfl, hx, hb, hml, hr, hlocks, hown, hts, hN, hK, hA, hn, -⟩ := ok
  cases hZ
  intro H locs ls a1 a2 a3 a4
  refine lv_i2f hx hb dX8_chance_7 ?_
  refine lv_iconst (v := 1) hx hb dX8_chance_8 (by decide) ?_
  refine lv_aload_n (x := ad 0) hx hb dX8_chance_9 rfl (gls_at (v := .inr 0) a4 rfl) ?_
  obtain ⟨q, hq, -⟩ := gw_get cs ad M1 (gLm (i := 0) (by decide))
  refine va_get (D := D) (ci := 8) (v := .ref (ad 1)) (C := RX8) (T := TX8) (N := 6) hx hb hts uX8 hown hK a1 q hq rfl 0 (by decide) (hts _ q2_8) (fun _ h9 => h9) rfl dX8_chance_10 ?_
  obtain ⟨q2, hq2, -⟩ := gw_get cs ad M1 (gLm (i := 1) (by decide))
  refine va_get (D := D) (ci := 5) (v := .int (M1 1 0)) (C := RX5) (T := TX5) (N := 6) hx hb hts uX5 hown hK a1 q2 hq2 rfl 0 (by decide) (hts _ q1_56) (fun _ h9 => h9) rfl dX8_chance_13 ?_
  have hn14 : s.1 ≤ 14 := hI1.1.1.2
  rw [show M1 1 0 = nI s.1 from hI1.1.2.2.1]
  refine lv_ishl hx hb dX8_chance_16 ?_
  rw [c_shl s.1 (by omega)]
  refine lv_i2f hx hb dX8_chance_17 ?_
  refine lv_fdiv hx hb dX8_chance_18 (n32_of (o_chance_nan hn14)) ?_
  exact W.fret hx hb hr (fun t ht hW => ⟨⟨o_chance s, M1, rfl, ⟨rfl, hI1⟩, by rw [ht]; exact a1, a2⟩, a3.F ht⟩) a3.2.2 dX8_chance_19 hlocks
set_option maxHeartbeats 4000000 in
set_option maxRecDepth 100000 in
theorem k_X9_chance {s : sT} {M : gM} (hI : MI s M) : gCf gN 3 yX9_chance cX9_chance 1 [.inr 42] M (fun r M1 => r = o_chance s ∧ MI s M1) := by
  refine gCf_of (by decide) gNn (gle rfl) (fun X ok hZ => ?_)
  show gW X 0 [some (.inr 42)] [] M
  refine g_aload_n ok dX9_chance_0 rfl rfl ?_
  refine g_iconst (v := -1) ok dX9_chance_1 (by decide) ?_
  have hw : w_X9_hitting (-1) M (fun r M1 => r = nI (htot s.1 s.2.1) ∧ MI s M1) := N_hittingL hI.1 _ ⟨rfl, hI⟩ (Or.inl ⟨by decide, fun _ => rfl⟩)
  refine g_callVi (st := []) (as := [.inl (-1)]) ok rfl (k_X9_hitting hw) s_X9_hitting rfl (by decide) (gNm (by decide)) cl42 sel_X9_hitting ins_X9_hitting (gle rfl) rfl q5_44 dX9_chance_2 ?_
  rintro r M1 ⟨rfl, hI1⟩
  obtain ⟨p, l, e, R, s9, m, args, below, meth, c, D, cs, ad, A, Z, L0, kc, kn⟩ := X
  obtain ⟨rfl, hx, hb, hml, hr, hlocks, hown, hts, hN, hK, hA, hn, -⟩ := ok
  cases hZ
  intro H locs ls a1 a2 a3 a4
  refine lv_i2f hx hb dX9_chance_5 ?_
  refine lv_iconst (v := 1) hx hb dX9_chance_6 (by decide) ?_
  refine lv_aload_n (x := ad 42) hx hb dX9_chance_7 rfl (gls_at (v := .inr 42) a4 rfl) ?_
  obtain ⟨q, hq, -⟩ := gw_get cs ad M1 (gNm (i := 42) (by decide))
  refine va_get (D := D) (ci := 9) (v := .int (M1 42 0)) (C := RX9) (T := TX9) (N := 28) hx hb hts uX9 hown hK a1 q hq rfl 0 (by decide) (hts _ q3_234) (fun _ h9 => h9) rfl dX9_chance_8 ?_
  have hn14 : s.1 ≤ 14 := hI1.1.1.2
  rw [show M1 42 0 = nI s.1 from hI1.1.2.2.1]
  refine lv_ishl hx hb dX9_chance_11 ?_
  rw [c_shl s.1 (by omega)]
  refine lv_i2f hx hb dX9_chance_12 ?_
  refine lv_fdiv hx hb dX9_chance_13 (n32_of (o_chance_nan hn14)) ?_
  exact W.fret hx hb hr (fun t ht hW => ⟨⟨o_chance s, M1, rfl, ⟨rfl, hI1⟩, by rw [ht]; exact a1, a2⟩, a3.F ht⟩) a3.2.2 dX9_chance_14 hlocks
