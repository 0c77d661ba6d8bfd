/-! THE CLAIM OUT OF ONE WALK OF THE LAW'S BODY. Your part is whole_start (and what it stands on); all else here is the same for every law, but numbers. -/
def R_law : String := "HypergraphDualizerLaw"
def lw_P (b : Addr) (xs : List Int32) (args : Array Value) (s : State) : Prop := args = #[.ref b] ∧ s.IntsAt b xs ∧ xs.length ≤ 1536 ∧ (Jvm.Cond.and given_1 narrow_1).before args s = true
/-- what a walk over the start with the record d0 says of its end, said of the start itself -/
theorem lw_closed {s t : State} {o : Outcome} {d0 : Drawn} {L : List Loc} {k n : Nat} (hd0 : s.drawn.sameBut d0 lw_cs) (hv : ∃ v, o = .returned v) (hW : (s.setDrawn d0).WarmedH t.vm) (hs : (s.setDrawn d0).sameButNew ({ t with vm := s.vm } : State) L k n) : State.butDraws s t lw_cs (fun t1 => Framed s o t1 L k n) := by
  have h2 : t.drawn = d0 := congrArg State.drawn hs.1
  refine ⟨⟨hv, hW, State.sameButNew.setDrawn hs s.drawn⟩, ?_, by decide⟩
  rw [h2]
  exact hd0
def lw_Q (_ : Array Value) (s : State) (o : Outcome) (t : State) : Prop := o = .returned (some (.int 1)) ∧ State.butDraws s t lw_cs (fun t1 => Framed s o t1 [] 600000 7302250)
def lw_Z (below : List Frame) (a : Array Value) (s : State) : State → Prop := fun t => ∃ o, t.status = .running ∧ Ended t below o ∧ lw_Q a s o t
/-- the law's own end, with 1 on the stack, nothing written that was there before, its room as the claim has it; d0: the record of draws at this point (at the entry s.drawn: begin with 'refine W.base ?_' and 'have hd0 := Drawn.sameBut.refl s.drawn lw_cs') -/
theorem lw_ret {p : Program} {l : Launch} {e : Env} {s : State} {m : MethodId} {below : List Frame} {meth : Method} {c : Code} {b : Nat} {d0 : Drawn} (hd0 : s.drawn.sameBut d0 lw_cs) (hx : p.tables.exec = Jvm.exec) (hb : c.code = code) (hr : meth.sig.returnType = ret) (hlocks : meth.locks = false) {pc : Nat} {H : Heap} {ls : Array Slot} (hdg : decode code pc = .ok (.ireturn, 1)) : W p l e room_1 (s.setDrawn d0) m #[Value.ref b] below meth c H [] 600000 7302250 (lw_Z below #[Value.ref b] s) (F0 m pc ls [.int 1]) := by
  intro T hT X
  obtain ⟨fs, hret, hrun, hended, hW, hframe⟩ := X.leave (v := some (.int 1)) (hlocks := hlocks) (fun h => by rw [hr] at h; cases h)
  have hmeth' : T.vm.method? m = some meth := X.method'
  refine ⟨T.setFrames fs, ?_, .returned (some (.int 1)), hrun, hended, rfl, lw_closed hd0 ⟨_, rfl⟩ hW hframe⟩
  jvm_step X.here [X.here.top, hx, hb, hdg, hmeth', hr, ret, narrow_b1]
  (try refine ⟨rfl, ?_⟩); (try refine ⟨rfl, ?_⟩)
  first | (intro acts; rw [hret _ acts rfl rfl rfl]) | rw [hret _ _ rfl rfl rfl]
  exact Steps.refl _
/-- what holds at the law's entry: the machine, the code, the tables' words (any of lw_tbl by 'hts w (by decide +kernel)'), the script of L ints xs at the cell b, what the Statement gives of the start (any of its parts by flat_of_before) -/
def lw_At (p : Program) (s : State) (m : MethodId) (meth : Method) (c : Code) (b L : Nat) (xs : Nat → Int32) : Prop :=
  p.tables.exec = Jvm.exec ∧ c.code = code ∧ meth.sig.returnType = ret ∧ c.maxLocals = 8 ∧ s.vm.findClass R_law = some m.cls ∧ (∀ w ∈ lw_tbl, w.before #[Value.ref b] s = true) ∧ va_X b L xs s s.heap ∧ b < s.heap.size ∧ meth.locks = false ∧ (Jvm.Cond.and given_1 narrow_1).before #[Value.ref b] s = true
/-! numbers of the law -/
theorem l_u32 (u : UInt32) : u.toInt32 = nI u.toNat := by
  have h : (UInt32.ofNat u.toNat).toInt32 = Int32.ofNat u.toNat := UInt32.toInt32_ofNat'
  rw [UInt32.ofNat_toNat] at h
  exact h
/-- the character that a number is cut to -/
def chq (x : Int32) : Nat := (x.toUInt32 % 65536).toNat
theorem chq_lt (x : Int32) : chq x < 65536 := by
  unfold chq
  rw [UInt32.toNat_mod]
  exact Nat.mod_lt _ (by decide)
theorem chq_eq (x : Int32) : (x.toUInt32 % 65536).toInt32 = nI (chq x) := l_u32 _
theorem and63 (x : Int32) : ∃ k : Nat, k < 64 ∧ x &&& 63 = nI k := by
  refine ⟨(x.toUInt32 &&& 63).toNat, ?_, ?_⟩
  · rw [UInt32.toNat_and]
    exact Nat.lt_succ_of_le (Nat.le_trans Nat.and_le_right (by decide))
  · have h : (x.toUInt32 &&& 63).toInt32 = x &&& 63 := rfl
    rw [← h, l_u32]
/-! the answers that are told by a relation are one -/
theorem lightO_uniq {ver : Nat} {s : sT} {M : gM} {p r q : Int32} (hI : XI ver s M) (h : lightO s p r) (k : lightO s p q) : r = q := by
  unfold lightO at h k
  by_cases a : p < 0
  · rw [if_pos a] at h k; rw [h, k]
  rw [if_neg a] at h k
  by_cases z : (srch s.1 s.2.1).2.2.2.2 = true
  · rw [if_pos z] at h k; rw [h, k]
  rw [if_neg z] at h k
  by_cases b : pn p < (srch s.1 s.2.1).1.length
  · rw [if_pos b] at h k
    obtain ⟨t, t1, t2⟩ := h
    obtain ⟨u, u1, u2⟩ := k
    have z : (srch s.1 s.2.1).2.2.2.2 = false := by
      cases y : (srch s.1 s.2.1).2.2.2.2
      · rfl
      · exact absurd y z
    obtain ⟨c1, c2⟩ := srch_spec hI.1.2.1 hI.1.1.2 z
    have e := lightR_uniq (n := s.1) (nodup_ed c2) (fun i hi => ((c1 _).mp (mem_ed.mpr ⟨i, hi, rfl⟩)).1) hI.1.1.2 t1 u1
    rw [t2, u2, e]
  · rw [if_neg b] at h k; rw [h, k]
theorem diffO_uniq {s : sT} {r q : Int32} (h : diffO s r) (k : diffO s q) : r = q := by
  unfold diffO at h k
  by_cases z : (srch s.1 s.2.1).2.2.2.2 = true
  · rw [if_pos z] at h k; rw [h, k]
  · rw [if_neg z] at h k
    exact lstP_uniq h k
theorem selfO_uniq {s : sT} {r q : Int32} (h : selfO s r) (k : selfO s q) : r = q := by
  unfold selfO at h k
  by_cases z : (srch s.1 s.2.1).2.2.2.2 = true
  · rw [if_pos z] at h k; rw [h, k]
  · rw [if_neg z] at h k
    obtain ⟨t, t1, t2⟩ := h
    obtain ⟨u, u1, u2⟩ := k
    rw [t2, u2, lstP_uniq t1 u1]
/-! the law's judgement: both objects' pictures side by side -/
abbrev lX : Type := Program × Launch × Env × State × MethodId × List Frame × Method × Code × Nat × Nat × (Nat → Int32) × va_G × (ClassId × ClassId × ClassId) × (Nat → Nat)
def lOk (X : lX) : Prop := match X with
  | (p, _, _, s, m, _, meth, c, b, L, xs, D, cs, _) => lw_At p s m meth c b L xs ∧ va_K D vwCl (gtys cs) s ∧ gNs s ∧ L ≤ 1536
def lxs (X : lX) : Nat → Int32 := match X with
  | (_, _, _, _, _, _, _, _, _, _, xs, _, _, _) => xs
def lL (X : lX) : Nat := match X with
  | (_, _, _, _, _, _, _, _, _, L, _, _, _, _) => L
abbrev lLv (b : Nat) (ad : Nat → Nat) (x3 : Int32) : List (Nat × Value) := [(0, .ref b), (1, .ref (ad 0)), (2, .ref (ad 42)), (3, .int x3)]
def lJ (X : lX) (pc : Nat) (x3 : Int32) (st : List gV) (Mx Mm : gM) : Prop := match X with
  | (p, l, e, s, m, below, meth, c, b, _, _, D, cs, ad) => ∀ (H : Heap) (locs : List Loc) (ls : Array Slot), va_P D vwCl (gw gN cs ad Mm ++ gw gL cs ad Mx) H → va_D (fun q => s.heap.size ≤ q) (gw gN cs ad Mm ++ gw gL cs ad Mx) → va_S (fun q => s.heap.size ≤ q) s.heap H locs → lv_has ls 8 (lLv b ad x3) → W p l e room_1 s m #[Value.ref b] below meth c H locs 59 95210 (lw_Z below #[Value.ref b] s) (F0 m pc ls (st.map (gv ad)))
theorem l_words {p : Program} {s : State} {m : MethodId} {meth : Method} {c : Code} {b L : Nat} {xs : Nat → Int32} (h : lw_At p s m meth c b L xs) : ∀ w ∈ gT, w.before #[Value.ref b] s = true := fun w hw => h.2.2.2.2.2.1 w (List.mem_filter.mp hw).1
section
variable {X : lX} {pc i : Nat} {x3 : Int32} {st : List gV} {Mx Mm : gM}
theorem l_ax (ok : lOk X) (hdg : decode code pc = .ok (.aload_n 1, 1)) (k : lJ X (pc + 1) x3 (.inr 0 :: st) Mx Mm) : lJ X pc x3 st Mx Mm := by
  obtain ⟨p, l, e, s, m, below, meth, c, b, L, xs, D, cs, ad⟩ := X
  obtain ⟨⟨hx, hb, hr, hml, hown, hts, hX, hbl, hlocks, hgv⟩, hK, hN, hL⟩ := ok
  exact fun H locs ls a1 a2 a3 a4 => lv_aload_n (x := ad 0) hx hb hdg rfl (lv_at a4 1 rfl) (k H locs ls a1 a2 a3 a4)
theorem l_am (ok : lOk X) (hdg : decode code pc = .ok (.aload_n 2, 1)) (k : lJ X (pc + 1) x3 (.inr 42 :: st) Mx Mm) : lJ X pc x3 st Mx Mm := by
  obtain ⟨p, l, e, s, m, below, meth, c, b, L, xs, D, cs, ad⟩ := X
  obtain ⟨⟨hx, hb, hr, hml, hown, hts, hX, hbl, hlocks, hgv⟩, hK, hN, hL⟩ := ok
  exact fun H locs ls a1 a2 a3 a4 => lv_aload_n (x := ad 42) hx hb hdg rfl (lv_at a4 2 rfl) (k H locs ls a1 a2 a3 a4)
/-- a number of the script -/
theorem l_arg (j : Nat) {n : Int} (hn : Int32.ofInt n = nI j) (hj : j < 3) (ok : lOk X) (hx3 : x3 = nI i) (hi : i + 3 ≤ lL X) (d0 : decode code pc = .ok (.aload_n 0, 1)) (d1 : decode code (pc + 1) = .ok (.iload_n 3, 1)) (d2 : decode code (pc + 1 + 1) = .ok (.iconst n, 1)) (d3 : decode code (pc + 1 + 1 + 1) = .ok (.iadd, 1)) (d4 : decode code (pc + 1 + 1 + 1 + 1) = .ok (.iaload, 1)) (k : lJ X (pc + 5) x3 (.inl (lxs X (i + j)) :: st) Mx Mm) : lJ X pc x3 st Mx Mm := by
  obtain ⟨p, l, e, s, m, below, meth, c, b, L, xs, D, cs, ad⟩ := X
  obtain ⟨⟨hx, hb, hr, hml, hown, hts, hX, hbl, hlocks, hgv⟩, hK, hN, hL⟩ := ok
  have hi : i + 3 ≤ L := hi
  intro H locs ls a1 a2 a3 a4
  have hbA : ¬ (fun q : Nat => s.heap.size ≤ q) b := Nat.not_le.mpr hbl
  refine lv_aload_n (x := b) hx hb d0 rfl (lv_at a4 0 rfl) ?_
  refine lv_iload_n (x := x3) hx hb d1 rfl (lv_at a4 3 rfl) ?_
  refine lv_iconst hx hb d2 hn ?_
  refine lv_iadd hx hb d3 ?_
  rw [hx3, nI_add]
  refine va_sld hx hb hX hbl hbA a3 (vp_in_nI (show i + j < L by omega) (by omega)) d4 ?_
  rw [c_cl (by omega)]
  exact k H locs ls a1 a2 a3 a4
theorem l_i2c (ok : lOk X) {x : Int32} (hdg : decode code pc = .ok (.i2c, 1)) (k : lJ X (pc + 1) x3 (.inl (nI (chq x)) :: st) Mx Mm) : lJ X pc x3 (.inl x :: st) Mx Mm := by
  obtain ⟨p, l, e, s, m, below, meth, c, b, L, xs, D, cs, ad⟩ := X
  obtain ⟨⟨hx, hb, hr, hml, hown, hts, hX, hbl, hlocks, hgv⟩, hK, hN, hL⟩ := ok
  exact fun H locs ls a1 a2 a3 a4 => lv_i2c hx hb hdg (chq_eq x) (k H locs ls a1 a2 a3 a4)
theorem l_eq (ok : lOk X) {off : Int} {r : Int32} (hdg : decode code pc = .ok (.if_icmp .eq off, 3)) (ht : (pc : Int) + off = (989 : Nat)) (k : lJ X 989 x3 [] Mx Mm) : lJ X pc x3 [.inl r, .inl r] Mx Mm := by
  obtain ⟨p, l, e, s, m, below, meth, c, b, L, xs, D, cs, ad⟩ := X
  obtain ⟨⟨hx, hb, hr, hml, hown, hts, hX, hbl, hlocks, hgv⟩, hK, hN, hL⟩ := ok
  exact fun H locs ls a1 a2 a3 a4 => lv_icmp_eq hx hb hdg ht (fun _ => k H locs ls a1 a2 a3 a4) (fun z => absurd rfl z)
set_option maxHeartbeats 4000000 in
theorem l_cx (ok : lOk X) {stk as : List gV} {d1 n1 nL1 idx : Nat} {y : MethodName} {cc1 : ByteArray} {ty : FieldType} {Qm : Int32 → gM → Prop}
    (hC : gCi gL d1 y cc1 nL1 ty (.inr 0 :: as) Mx Qm) (hs : gSt y cc1 nL1 (some ty) n1) (has : as.length = n1) (hcl : gCls 0 y.cls) (hsel : Cond.selects y.cls y y ∈ gT) (hins : Cond.instanceMethod y ∈ gT) (hl : Cond.methodLink R_law idx y ∈ gT) (hR : d1 + 1 ≤ 2048 ∧ 8 + (nL1 + 11) + 40 * d1 ≤ 84000) (hst : st.length ≤ 8) (hstk : stk = as.reverse ++ .inr 0 :: st) (hdg : decode code pc = .ok (.invokevirtual idx, 3))
    (kk : ∀ r M1, Qm r M1 → lJ X (pc + 3) x3 (.inl r :: st) M1 Mm) : lJ X pc x3 stk Mx Mm := by
  obtain ⟨p, l, e, s, m, below, meth, c, b, L, xs, D, cs, ad⟩ := X
  have hw := l_words ok.1
  obtain ⟨⟨hx, hb, hr, hml, hown, hts, hX, hbl, hlocks, hgv⟩, hK, hN, hL⟩ := ok
  intro H locs ls a1 a2 a3 a4
  exact kVi (i := 0) hx hb hml hown hw hK hN hC hs has (gLm (by decide)) hcl hsel hins hl hR a4.1 (by rw [hstk, List.map_append, List.map_reverse]; rfl) (by rw [gsum]; exact hst) hdg ⟨Nat.le_of_ble_eq_true rfl, Nat.le_of_ble_eq_true rfl⟩ a1 a2 a3 (fun q h => h) (fun r M1 H1 locs1 q1 q2 q3 q4 => kk r M1 q1 H1 locs1 ls q2 q3 q4 a4)
theorem l_swapP {D : va_G} {A B : va_W} {H : Heap} (h : va_P D vwCl (A ++ B) H) : va_P D vwCl (B ++ A) H := wP_mem h (fun q hq => List.perm_append_comm.mem_iff.mp hq)
theorem l_swapD {Z : Nat → Prop} {A B : va_W} (h : va_D Z (A ++ B)) : va_D Z (B ++ A) := wD_perm h List.perm_append_comm
set_option maxHeartbeats 4000000 in
theorem l_cm (ok : lOk X) {stk as : List gV} {d1 n1 nL1 idx : Nat} {y : MethodName} {cc1 : ByteArray} {ty : FieldType} {Qm : Int32 → gM → Prop}
    (hC : gCi gN d1 y cc1 nL1 ty (.inr 42 :: as) Mm Qm) (hs : gSt y cc1 nL1 (some ty) n1) (has : as.length = n1) (hcl : gCls 42 y.cls) (hsel : Cond.selects y.cls y y ∈ gT) (hins : Cond.instanceMethod y ∈ gT) (hl : Cond.methodLink R_law idx y ∈ gT) (hR : d1 + 1 ≤ 2048 ∧ 8 + (nL1 + 11) + 40 * d1 ≤ 84000) (hst : st.length ≤ 8) (hstk : stk = as.reverse ++ .inr 42 :: st) (hdg : decode code pc = .ok (.invokevirtual idx, 3))
    (kk : ∀ r M1, Qm r M1 → lJ X (pc + 3) x3 (.inl r :: st) Mx M1) : lJ X pc x3 stk Mx Mm := by
  obtain ⟨p, l, e, s, m, below, meth, c, b, L, xs, D, cs, ad⟩ := X
  have hw := l_words ok.1
  obtain ⟨⟨hx, hb, hr, hml, hown, hts, hX, hbl, hlocks, hgv⟩, hK, hN, hL⟩ := ok
  intro H locs ls a1 a2 a3 a4
  exact kVi (i := 42) hx hb hml hown hw hK hN hC hs has (gNm (by decide)) hcl hsel hins hl hR a4.1 (by rw [hstk, List.map_append, List.map_reverse]; rfl) (by rw [gsum]; exact hst) hdg ⟨Nat.le_of_ble_eq_true rfl, Nat.le_of_ble_eq_true rfl⟩ (l_swapP a1) (l_swapD a2) a3 (fun q h => h) (fun r M1 H1 locs1 q1 q2 q3 q4 => kk r M1 q1 H1 locs1 ls (l_swapP q2) (l_swapD q3) q4 a4)
end
