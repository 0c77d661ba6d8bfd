/-! worlds side by side, the classes of arrays, a constructor's call -/
theorem wP_mem {D : va_G} {cl : List vw_C} {ws ws' : va_W} {H : Heap} (h : va_P D cl ws H) (hs : ∀ q, q ∈ ws' → q ∈ ws) : va_P D cl ws' H := by
  intro k q hk
  obtain ⟨j, hj⟩ := List.getElem?_of_mem (hs q (List.mem_of_getElem? hk))
  exact h j q hj
theorem wD_iff {A : Nat → Prop} {ws : va_W} : va_D A ws ↔ (ws.map (fun q => q.1)).Nodup ∧ ∀ q, q ∈ ws → A q.1 := by
  constructor
  · intro h
    refine ⟨?_, fun q hq => ?_⟩
    · unfold List.Nodup
      rw [List.pairwise_iff_getElem]
      intro i j hi hj hij e
      rw [List.length_map] at hi hj
      rw [List.getElem_map, List.getElem_map] at e
      have := h.1 i j _ _ (List.getElem?_eq_getElem hi) (List.getElem?_eq_getElem hj) e
      omega
    · obtain ⟨k, hk⟩ := List.getElem?_of_mem hq
      exact h.2 k q hk
  · rintro ⟨h1, h2⟩
    unfold List.Nodup at h1
    rw [List.pairwise_iff_getElem] at h1
    refine ⟨fun i j p q hi hj e => ?_, fun k q hk => h2 q (List.mem_of_getElem? hk)⟩
    obtain ⟨hi1, hi2⟩ := List.getElem?_eq_some_iff.mp hi
    obtain ⟨hj1, hj2⟩ := List.getElem?_eq_some_iff.mp hj
    have key : ∀ (i j : Nat) (p q : Nat × va_E) (hi1 : i < ws.length) (hj1 : j < ws.length), ws[i] = p → ws[j] = q → p.1 = q.1 → i < j → False := by
      intro i j p q hi1 hj1 hi2 hj2 e hij
      refine h1 i j (by rw [List.length_map]; exact hi1) (by rw [List.length_map]; exact hj1) hij ?_
      rw [List.getElem_map, List.getElem_map, hi2, hj2]
      exact e
    rcases Nat.lt_trichotomy i j with q1 | q1 | q1
    · exact (key i j p q hi1 hj1 hi2 hj2 e q1).elim
    · exact q1
    · exact (key j i q p hj1 hi1 hj2 hi2 e.symm q1).elim
theorem wD_perm {A : Nat → Prop} {ws ws' : va_W} (h : va_D A ws) (hp : ws.Perm ws') : va_D A ws' := by
  rw [wD_iff] at h ⊢
  exact ⟨(hp.map _).nodup_iff.mp h.1, fun q hq => h.2 q (hp.mem_iff.mpr hq)⟩
theorem wP_pre {D : va_G} {cl : List vw_C} {X C : va_W} {H : Heap} (h : va_P D cl (X ++ C) H) : va_P D cl X H := wP_mem h (fun _ hq => List.mem_append_left _ hq)
theorem wP_suf {D : va_G} {cl : List vw_C} {X C : va_W} {H : Heap} (h : va_P D cl (X ++ C) H) : va_P D cl C H := wP_mem h (fun _ hq => List.mem_append_right _ hq)
theorem wD_pre {A : Nat → Prop} {X C : va_W} (h : va_D A (X ++ C)) : va_D A X := by
  rw [wD_iff, List.map_append] at h
  exact wD_iff.mpr ⟨(List.nodup_append.mp h.1).1, fun q hq => h.2 q (List.mem_append_left _ hq)⟩
theorem wD_suf {A : Nat → Prop} {X C : va_W} (h : va_D A (X ++ C)) : va_D A C := by
  rw [wD_iff, List.map_append] at h
  exact wD_iff.mpr ⟨(List.nodup_append.mp h.1).2.1, fun q hq => h.2 q (List.mem_append_right _ hq)⟩
/-- behind a call over the last cells -/
theorem w_suf {A0 : Nat → Prop} {D : va_G} {cl : List vw_C} {X C w1 : va_W} {H H1 : Heap} (hP : va_P D cl (X ++ C) H) (hD : va_D A0 (X ++ C)) (hk : ∀ q : Nat, q < H.size → ¬ va_A C H.size q → H1[q]? = H[q]?) (hF : ∀ q, va_A C H.size q → A0 q) (hP1 : va_P D cl w1 H1) (hD1 : va_D (va_A C H.size) w1) : va_P D cl (X ++ w1) H1 ∧ va_D A0 (X ++ w1) := by
  have apart : ∀ (k : Nat) (q : Nat × va_E), X[k]? = some q → q.1 < H.size ∧ ¬ va_A C H.size q.1 := by
    intro k q hq
    have hk1 : k < X.length := (List.getElem?_eq_some_iff.mp hq).1
    have h1 : (X ++ C)[k]? = some q := by rw [List.getElem?_append_left hk1]; exact hq
    have hl := (hP k q h1).lt
    refine ⟨hl, fun h => ?_⟩
    rcases h with ⟨j, e, h⟩ | h
    · have h2 : (X ++ C)[X.length + j]? = some (q.1, e) := by
        rw [List.getElem?_append_right (by omega), Nat.add_sub_cancel_left]; exact h
      have := hD.1 k (X.length + j) q (q.1, e) h1 h2 rfl
      omega
    · omega
  have hX := wP_pre hP
  exact ⟨va_P.app (fun k q hq => (hX k q hq).kept (hk q.1 (apart k q hq).1 (apart k q hq).2)) hP1, va_D.app (wD_pre hD) (hD1.weaken (fun k q _ h => hF q.1 h)) (fun i j x y hx hy hxy => (apart i x hx).2 (by rw [hxy]; exact hD1.2 j y hy))⟩
theorem w_free {A0 : Nat → Prop} {X C : va_W} {H0 H : Heap} {locs : List Loc} (hD : va_D A0 (X ++ C)) (hS : va_S A0 H0 H locs) (hA : ∀ q, H0.size ≤ q → A0 q) : ∀ q, va_A C H.size q → A0 q := by
  intro q h
  rcases h with ⟨k, e, h⟩ | h
  · exact (wD_iff.mp hD).2 (q, e) (List.mem_append_right _ (List.mem_of_getElem? h))
  · exact hA q (Nat.le_trans hS.1 h)
/-! the classes of the arrays, out of the tables -/
theorem ao_of {t : FieldType} {args : Array Value} {s : State} (h : (Cond.arrayOver (.array t)).before args s = true) : ∃ (comp c : ClassId) (k : Class), s.vm.classes[c]? = some k ∧ k.kind = .array comp (.array t) ∧ s.vm.findClass ("[" ++ (FieldType.array t).toString) = some c := by
  unfold Cond.before at h
  simp only [Cond.holds, Cond.value, beq_iff_eq] at h
  cases hc : s.vm.findClass (FieldType.array t).toString with
  | none => rw [hc] at h; simp at h
  | some comp =>
    rw [hc] at h
    simp only [Option.bind_some, Option.bind_eq_some_iff, Option.map_eq_some_iff] at h
    obtain ⟨c, hi, k, hk, hb⟩ := h
    cases hkind : k.kind with
    | array comp2 ty2 =>
      rw [hkind] at hb
      simp only [Bool.and_eq_true, decide_eq_true_eq] at hb
      exact ⟨comp2, c, k, hk, by rw [hkind, hb.1], hb.2⟩
    | _ => rw [hkind] at hb; simp at hb
theorem w_cs {args : Array Value} {s : State} {D : va_G} {cl : List vw_C} (h1 : (Cond.arrayClass .int).before args s = true) (h2 : (Cond.arrayClass .char).before args s = true) (h3 : (Cond.arrayOver (.array .int)).before args s = true) (hK : va_K D cl [] s) : ∃ cs, va_K D cl (gtys cs) s := by
  obtain ⟨c1, k1, p1, a1, a2, a3⟩ := Cond.arrayClass_spec h1
  obtain ⟨c2, k2, p2, b1, b2, b3⟩ := Cond.arrayClass_spec h2
  obtain ⟨p3, c3, k3, d2, d3, d1⟩ := ao_of h3
  refine ⟨(c1, c2, c3), hK.1, fun k x hx => ?_⟩
  match k, hx with
  | 0, hx => cases hx; exact ⟨fun n z => ⟨fun q h => (by cases h), k1, a2, p1, a3⟩, a1⟩
  | 1, hx => cases hx; exact ⟨fun n z => ⟨fun q h => (by cases h), k2, b2, p2, b3⟩, b1⟩
  | 2, hx => cases hx; exact ⟨fun n z => ⟨fun q h => (by cases h), k3, d2, p3, d3⟩, d1⟩
  | k + 3, hx => simp [gtys] at hx
/-- what the constructors ask of the tables -/
def kU (D : va_G) (cs : ClassId × ClassId × ClassId) (U : State) : Prop := va_K D vwCl (gtys cs) U ∧ gNs U ∧ va_AOA .int U
theorem kU.warm {D : va_G} {cs : ClassId × ClassId × ClassId} {s U : State} (hW : s.WarmedH U.vm) (h : kU D cs s) : kU D cs U := ⟨va_K.moved hW.alike h.1, gNs.warm hW h.2.1, va_AOA.moved hW.alike h.2.2⟩
theorem kU.call {D : va_G} {cs : ClassId × ClassId × ClassId} (a : Array Value) (U : State) (g : JFrame) (mk : MethodId) (h : kU D cs U) : kU D cs (U.calling g mk a) := ⟨va_K.moved (u := U) (U := U.calling g mk a) (Vm.Alike.refl U.vm) h.1, gNs.same (u := U) (U := U.calling g mk a) rfl h.2.1, va_AOA.moved (u := U) (U := U.calling g mk a) (Vm.Alike.refl U.vm) h.2.2⟩
theorem kK.call {D : va_G} {tys : List (ClassId × FieldType)} (a : Array Value) (U : State) (g : JFrame) (mk : MethodId) (h : va_K D vwCl tys U) : va_K D vwCl tys (U.calling g mk a) := va_K.moved (u := U) (U := U.calling g mk a) (Vm.Alike.refl U.vm) h
/-- the class of an array is the class of that name -/
theorem kK.cls {D : va_G} {cs : ClassId × ClassId × ClassId} {s : State} {c : ClassId} (h : va_K D vwCl (gtys cs) s) (h1 : va_K D vwCl [(c, .int)] s) : c = cs.1 := by
  have a1 : s.vm.findClass ("[" ++ FieldType.int.toString) = some c := (h1.2 0 _ rfl).2
  have a0 : s.vm.findClass ("[" ++ FieldType.int.toString) = some cs.1 := (h.2 0 _ rfl).2
  exact Option.some.inj (a1.symm.trans a0)
theorem kK.clsC {D : va_G} {cs : ClassId × ClassId × ClassId} {s : State} {c : ClassId} (h : va_K D vwCl (gtys cs) s) (h1 : va_K D vwCl [(c, .char)] s) : c = cs.2.1 := by
  have a1 : s.vm.findClass ("[" ++ FieldType.char.toString) = some c := (h1.2 0 _ rfl).2
  have a0 : s.vm.findClass ("[" ++ FieldType.char.toString) = some cs.2.1 := (h.2 1 _ rfl).2
  exact Option.some.inj (a1.symm.trans a0)
set_option maxHeartbeats 4000000 in
/-- a constructor's call, over the last cell -/
theorem kI {p : Program} {l : Launch} {e : Env} {R : Room} {s : State} {m : MethodId} {args : Array Value} {below : List Frame} {meth : Method} {c : Code} {H : Heap} {locs : List Loc} {cells slots : Nat} {Q : State → Prop} {cc : ByteArray} {own : String} {nL : Nat} {D : va_G} {A : Nat → Prop} {H0 : Heap} {pc : Nat} {ls : Array Slot} {X : va_W} {q : Nat} {e0 : va_E} {y : MethodName} {cc1 : ByteArray} {nL1 n1 idx mc ms : Nat} {rm : Room} {S : Type} {post : S → Prop} {w1 : S → va_W} {Kpre : State → Prop} {Kpost : S → State → Prop} {As rest stk : List Value}
    (hx : p.tables.exec = Jvm.exec) (hb : c.code = cc) (hml : c.maxLocals = nL) (hown : s.vm.findClass own = some m.cls) (hts : ∀ w ∈ gT, w.before args s = true)
    (hC : Met l y (.code y cc1 nL1 none :: gT) rm (va_Pc (.ref q :: As) (fun U => U.heap.size = H.size ∧ va_P D vwCl [(q, e0)] U.heap ∧ Kpre U ∧ va_D (fun _ => True) [(q, e0)])) (va_Qv post (fun u t => va_P D vwCl (w1 u) t.heap ∧ Kpost u t ∧ va_D (va_A [(q, e0)] H.size) (w1 u)) (va_A [(q, e0)] H.size)) mc ms (va_A [(q, e0)] H.size))
    (hs : gSt y cc1 nL1 none n1) (hyi : y.name = "<init>") (hin : Cond.instanceMethod y ∈ gT) (hl : Cond.methodLink own idx y ∈ gT)
    (hrc : rm.cells = mc) (hrs : rm.slots = ms) (hR : rm.frames + 1 ≤ R.frames ∧ 8 + (nL1 + 11) + rm.locals ≤ R.locals) (has : As.length = n1) (hsz : ls.size = nL) (hstk : stk = As.reverse ++ .ref q :: rest) (hroom : (rest.map fun v => v.category).sum ≤ 8) (hdg : decode cc pc = .ok (.invokespecial idx, 3)) (hf : cells + mc ≤ R.cells ∧ slots + ms ≤ R.slots)
    (hKb : ∀ (a : Array Value) (U : State) (g : JFrame) (mk : MethodId), Kpre U → Kpre (U.calling g mk a)) (hKw : ∀ U : State, s.WarmedH U.vm → Kpre U)
    (hP : va_P D vwCl (X ++ [(q, e0)]) H) (hD : va_D A (X ++ [(q, e0)])) (hS : va_S A H0 H locs) (hA : ∀ q, H0.size ≤ q → A q)
    (kk : ∀ (u : S) (t : State) (H1 : Heap) (locs1 : List Loc), s.vm.Alike t.vm → post u → Kpost u t → va_P D vwCl (X ++ w1 u) H1 → va_D A (X ++ w1 u) → va_S A H0 H1 locs1 → W p l e R s m args below meth c H1 locs1 (cells + mc) (slots + ms) Q (F0 m (pc + 3) ls rest)) : W p l e R s m args below meth c H locs cells slots Q (F0 m pc ls stk) := by
  subst hstk
  have hF := w_free hD hS hA
  have hPc := wP_suf hP
  have hDc := wD_suf hD
  have hB : CallB R s args own idx y cc1 nL1 none (.code y cc1 nL1 none :: gT) rm mc ms n1 := callB_of n1 hts (gT_in hs.1) rfl hrc hrs (hts _ hs.2.1) (hts _ hl) hs.2.2.1 hR
  refine va_callv (va_runI (As := As) (rest := rest) (b := q) (nL := nL) ⟨hx, hb, hml, hown, hts⟩ hC ⟨hB, hyi, hts _ hin⟩ ⟨fun a U g mk z => ⟨z.1, z.2.1, z.2.2.1, hKb a U g mk z.2.2.2.1, z.2.2.2.2⟩, fun U hU hW => ⟨rfl, by rw [hU], by rw [hU]; exact hPc, hKw U hW, hDc.weaken (fun _ _ _ _ => trivial)⟩⟩ rfl has hsz rfl (lv_room hroom) hdg hf) hS (fun q _ h => hF q h) hF (fun u t H1 locs1 ht hvm hw hB1 hz1 hk1 hS1 => ?_)
  obtain ⟨b1, b2, b3⟩ := hB1
  rw [ht] at b1
  obtain ⟨j1, j2⟩ := w_suf hP hD hk1 hF b1 b3
  exact kk u t H1 locs1 hvm hw b2 j1 j2 hS1
/-! pictures -/
theorem gw_app (L1 L2 : List Nat) (cs : ClassId × ClassId × ClassId) (ad : Nat → Nat) (M : gM) : gw (L1 ++ L2) cs ad M = gw L1 cs ad M ++ gw L2 cs ad M := List.map_append
theorem gw_cong {L : List Nat} {cs : ClassId × ClassId × ClassId} {ad u : Nat → Nat} {M M1 : gM} (h : ∀ i, i ∈ L → ad i = u i ∧ gE cs ad (M i) i = gE cs u (M1 i) i) : gw L cs ad M = gw L cs u M1 := by
  unfold gw
  refine List.map_congr_left (fun i hi => ?_)
  obtain ⟨h1, h2⟩ := h i hi
  show (ad i, gE cs ad (M i) i) = (u i, gE cs u (M1 i) i)
  rw [h1, h2]
theorem gE_row {cs : ClassId × ClassId × ClassId} {ad u : Nat → Nat} {r r1 : Nat → Int32} (h : ∀ j, j < 17 → ad (13 + j) = u (13 + j)) : gE cs ad r 11 = gE cs u r1 11 := by
  show (.inl (cs.2.2, 17, .inr (.inr (.inr (.inr (fun j => if j < 17 then some (ad (13 + j)) else none))))) : va_E) = .inl (cs.2.2, 17, .inr (.inr (.inr (.inr (fun j => if j < 17 then some (u (13 + j)) else none)))))
  have e : (fun j => if j < 17 then some (ad (13 + j)) else none) = (fun j => if j < 17 then some (u (13 + j)) else none) := by
    funext j
    by_cases hj : j < 17
    · rw [if_pos hj, if_pos hj, h j hj]
    · rw [if_neg hj, if_neg hj]
  rw [e]
def gZ0 : gM := fun _ _ => 0
/-! calls over the last cells -/
set_option maxHeartbeats 4000000 in
theorem kVv {p : Program} {l : Launch} {e : Env} {R : Room} {s : State} {m : MethodId} {args : Array Value} {below : List Frame} {meth : Method} {c : Code} {H : Heap} {locs : List Loc} {cells slots : Nat} {Q : State → Prop} {cc : ByteArray} {own : String} {nL : Nat} {D : va_G} {A : Nat → Prop} {H0 : Heap} {pc : Nat} {ls : Array Slot} {X : va_W} {cs : ClassId × ClassId × ClassId} {ad : Nat → Nat} {L : List Nat} {d1 n1 nL1 idx i : Nat} {y : MethodName} {cc1 : ByteArray} {as : List gV} {M : gM} {Qm : gM → Prop} {rest stk : List Value}
    (hx : p.tables.exec = Jvm.exec) (hb : c.code = cc) (hml : c.maxLocals = nL) (hown : s.vm.findClass own = some m.cls) (hts : ∀ w ∈ gT, w.before args s = true) (hK : va_K D vwCl (gtys cs) s) (hN : gNs s)
    (hC : gCv L d1 y cc1 nL1 (.inr i :: as) M Qm) (hs : gSt y cc1 nL1 none n1) (has : as.length = n1) (hi : i ∈ L) (hcl : gCls i y.cls) (hsel : Cond.selects y.cls y y ∈ gT) (hins : Cond.instanceMethod y ∈ gT) (hl : Cond.methodLink own idx y ∈ gT)
    (hR : d1 + 1 ≤ R.frames ∧ 8 + (nL1 + 11) + 40 * d1 ≤ R.locals) (hsz : ls.size = nL) (hstk : stk = (as.map (gv ad)).reverse ++ .ref (ad i) :: rest) (hroom : (rest.map fun v => v.category).sum ≤ 8) (hdg : decode cc pc = .ok (.invokevirtual idx, 3)) (hf : cells ≤ R.cells ∧ slots ≤ R.slots)
    (hP : va_P D vwCl (X ++ gw L cs ad M) H) (hD : va_D A (X ++ gw L cs ad M)) (hS : va_S A H0 H locs) (hA : ∀ q, H0.size ≤ q → A q)
    (kk : ∀ (M1 : gM) (H1 : Heap) (locs1 : List Loc), Qm M1 → va_P D vwCl (X ++ gw L cs ad M1) H1 → va_D A (X ++ gw L cs ad M1) → va_S A H0 H1 locs1 → W p l e R s m args below meth c H1 locs1 cells slots Q (F0 m (pc + 3) ls rest)) : W p l e R s m args below meth c H locs cells slots Q (F0 m pc ls stk) := by
  subst hstk
  obtain ⟨ci, N, T, fs, hc1, hc2⟩ := hcl
  have hF := w_free hD hS hA
  have hPc := wP_suf hP
  have hDc := wD_suf hD
  obtain ⟨q, hq, -⟩ := gw_get cs ad M hi
  rw [hc2] at hq
  have hB : CallB R s args own idx y cc1 nL1 none (.code y cc1 nL1 none :: gT) (gRm d1) 0 0 n1 := callB_of n1 hts (gT_in hs.1) rfl rfl rfl (hts _ hs.2.1) (hts _ hl) hs.2.2.1 hR
  refine va_callv (va_runV (As := as.map (gv ad)) (rest := rest) (b := ad i) (nL := nL) ⟨hx, hb, hml, hown, hts⟩ (hC l D cs ad H.size) ⟨hB, hts _ hins, hts _ hsel⟩ ⟨gPre_blind, va_recv hK hPc hc1 hq, fun U hU hW => ⟨rfl, by rw [hU], by rw [hU]; exact hPc, va_K.moved hW.alike hK, hN.warm hW, hDc.weaken (fun _ _ _ _ => trivial)⟩⟩ rfl (by rw [List.length_map]; exact has) hsz rfl (lv_room hroom) hdg hf) hS (fun q _ h => hF q h) hF (fun u t H1 locs1 ht hvm hw hB1 hz1 hk1 hS1 => ?_)
  obtain ⟨b1, b2⟩ := hB1
  rw [ht] at b1
  obtain ⟨j1, j2⟩ := w_suf hP hD hk1 hF b1 b2
  exact kk u H1 locs1 hw j1 j2 hS1
set_option maxHeartbeats 4000000 in
theorem kVi {p : Program} {l : Launch} {e : Env} {R : Room} {s : State} {m : MethodId} {args : Array Value} {below : List Frame} {meth : Method} {c : Code} {H : Heap} {locs : List Loc} {cells slots : Nat} {Q : State → Prop} {cc : ByteArray} {own : String} {nL : Nat} {D : va_G} {A : Nat → Prop} {H0 : Heap} {pc : Nat} {ls : Array Slot} {X : va_W} {cs : ClassId × ClassId × ClassId} {ad : Nat → Nat} {L : List Nat} {d1 n1 nL1 idx i : Nat} {y : MethodName} {cc1 : ByteArray} {ty : FieldType} {as : List gV} {M : gM} {Qm : Int32 → gM → Prop} {rest stk : List Value}
    (hx : p.tables.exec = Jvm.exec) (hb : c.code = cc) (hml : c.maxLocals = nL) (hown : s.vm.findClass own = some m.cls) (hts : ∀ w ∈ gT, w.before args s = true) (hK : va_K D vwCl (gtys cs) s) (hN : gNs s)
    (hC : gCi L d1 y cc1 nL1 ty (.inr i :: as) M Qm) (hs : gSt y cc1 nL1 (some ty) n1) (has : as.length = n1) (hi : i ∈ L) (hcl : gCls i y.cls) (hsel : Cond.selects y.cls y y ∈ gT) (hins : Cond.instanceMethod y ∈ gT) (hl : Cond.methodLink own idx y ∈ gT)
    (hR : d1 + 1 ≤ R.frames ∧ 8 + (nL1 + 11) + 40 * d1 ≤ R.locals) (hsz : ls.size = nL) (hstk : stk = (as.map (gv ad)).reverse ++ .ref (ad i) :: rest) (hroom : (rest.map fun v => v.category).sum ≤ 8) (hdg : decode cc pc = .ok (.invokevirtual idx, 3)) (hf : cells ≤ R.cells ∧ slots ≤ R.slots)
    (hP : va_P D vwCl (X ++ gw L cs ad M) H) (hD : va_D A (X ++ gw L cs ad M)) (hS : va_S A H0 H locs) (hA : ∀ q, H0.size ≤ q → A q)
    (kk : ∀ (r : Int32) (M1 : gM) (H1 : Heap) (locs1 : List Loc), Qm r M1 → va_P D vwCl (X ++ gw L cs ad M1) H1 → va_D A (X ++ gw L cs ad M1) → va_S A H0 H1 locs1 → W p l e R s m args below meth c H1 locs1 cells slots Q (F0 m (pc + 3) ls (.int r :: rest))) : W p l e R s m args below meth c H locs cells slots Q (F0 m pc ls stk) := by
  subst hstk
  obtain ⟨ci, N, T, fs, hc1, hc2⟩ := hcl
  have hF := w_free hD hS hA
  have hPc := wP_suf hP
  have hDc := wD_suf hD
  obtain ⟨q, hq, -⟩ := gw_get cs ad M hi
  rw [hc2] at hq
  have hB : CallB R s args own idx y cc1 nL1 (some ty) (.code y cc1 nL1 (some ty) :: gT) (gRm d1) 0 0 n1 := callB_of n1 hts (gT_in hs.1) rfl rfl rfl (hts _ hs.2.1) (hts _ hl) hs.2.2.1 hR
  refine va_calli (va_runV (As := as.map (gv ad)) (rest := rest) (b := ad i) (nL := nL) ⟨hx, hb, hml, hown, hts⟩ (hC l D cs ad H.size) ⟨hB, hts _ hins, hts _ hsel⟩ ⟨gPre_blind, va_recv hK hPc hc1 hq, fun U hU hW => ⟨rfl, by rw [hU], by rw [hU]; exact hPc, va_K.moved hW.alike hK, hN.warm hW, hDc.weaken (fun _ _ _ _ => trivial)⟩⟩ rfl (by rw [List.length_map]; exact has) hsz rfl (lv_room hroom) hdg hf) hS (fun q _ h => hF q h) hF (fun r u t H1 locs1 ht hvm hw hB1 hz1 hk1 hS1 => ?_)
  obtain ⟨b1, b2⟩ := hB1
  rw [ht] at b1
  obtain ⟨j1, j2⟩ := w_suf hP hD hk1 hF b1 b2
  exact kk r u H1 locs1 hw j1 j2 hS1
/-- a method that answers a float -/
def gCf (L : List Nat) (d : Nat) (y : MethodName) (cc : ByteArray) (nL : Nat) (as : List gV) (M : gM) (Q : UInt32 → gM → Prop) : Prop :=
  ∀ (l : Launch) (D : va_G) (cs : ClassId × ClassId × ClassId) (ad : Nat → Nat) (sz : Nat), Met l y (.code y cc nL (some .float) :: gT) (gRm d) (va_Pc (as.map (gv ad)) (gPre L D cs ad sz M)) (va_Qf Q (gEnd L D cs ad (va_A (gw L cs ad M) sz)) (va_A (gw L cs ad M) sz)) 0 0 (va_A (gw L cs ad M) sz)
set_option maxHeartbeats 4000000 in
theorem kVf {p : Program} {l : Launch} {e : Env} {R : Room} {s : State} {m : MethodId} {args : Array Value} {below : List Frame} {meth : Method} {c : Code} {H : Heap} {locs : List Loc} {cells slots : Nat} {Q : State → Prop} {cc : ByteArray} {own : String} {nL : Nat} {D : va_G} {A : Nat → Prop} {H0 : Heap} {pc : Nat} {ls : Array Slot} {X : va_W} {cs : ClassId × ClassId × ClassId} {ad : Nat → Nat} {L : List Nat} {d1 n1 nL1 idx i : Nat} {y : MethodName} {cc1 : ByteArray} {as : List gV} {M : gM} {Qm : UInt32 → gM → Prop} {rest stk : List Value}
    (hx : p.tables.exec = Jvm.exec) (hb : c.code = cc) (hml : c.maxLocals = nL) (hown : s.vm.findClass own = some m.cls) (hts : ∀ w ∈ gT, w.before args s = true) (hK : va_K D vwCl (gtys cs) s) (hN : gNs s)
    (hC : gCf L d1 y cc1 nL1 (.inr i :: as) M Qm) (hs : gSt y cc1 nL1 (some .float) n1) (has : as.length = n1) (hi : i ∈ L) (hcl : gCls i y.cls) (hsel : Cond.selects y.cls y y ∈ gT) (hins : Cond.instanceMethod y ∈ gT) (hl : Cond.methodLink own idx y ∈ gT)
    (hR : d1 + 1 ≤ R.frames ∧ 8 + (nL1 + 11) + 40 * d1 ≤ R.locals) (hsz : ls.size = nL) (hstk : stk = (as.map (gv ad)).reverse ++ .ref (ad i) :: rest) (hroom : (rest.map fun v => v.category).sum ≤ 8) (hdg : decode cc pc = .ok (.invokevirtual idx, 3)) (hf : cells ≤ R.cells ∧ slots ≤ R.slots)
    (hP : va_P D vwCl (X ++ gw L cs ad M) H) (hD : va_D A (X ++ gw L cs ad M)) (hS : va_S A H0 H locs) (hA : ∀ q, H0.size ≤ q → A q)
    (kk : ∀ (r : UInt32) (M1 : gM) (H1 : Heap) (locs1 : List Loc), Qm r M1 → va_P D vwCl (X ++ gw L cs ad M1) H1 → va_D A (X ++ gw L cs ad M1) → va_S A H0 H1 locs1 → W p l e R s m args below meth c H1 locs1 cells slots Q (F0 m (pc + 3) ls (.float r :: rest))) : W p l e R s m args below meth c H locs cells slots Q (F0 m pc ls stk) := by
  subst hstk
  obtain ⟨ci, N, T, fs, hc1, hc2⟩ := hcl
  have hF := w_free hD hS hA
  have hPc := wP_suf hP
  have hDc := wD_suf hD
  obtain ⟨q, hq, -⟩ := gw_get cs ad M hi
  rw [hc2] at hq
  have hB : CallB R s args own idx y cc1 nL1 (some .float) (.code y cc1 nL1 (some .float) :: gT) (gRm d1) 0 0 n1 := callB_of n1 hts (gT_in hs.1) rfl rfl rfl (hts _ hs.2.1) (hts _ hl) hs.2.2.1 hR
  refine va_callf (va_runV (As := as.map (gv ad)) (rest := rest) (b := ad i) (nL := nL) ⟨hx, hb, hml, hown, hts⟩ (hC l D cs ad H.size) ⟨hB, hts _ hins, hts _ hsel⟩ ⟨gPre_blind, va_recv hK hPc hc1 hq, fun U hU hW => ⟨rfl, by rw [hU], by rw [hU]; exact hPc, va_K.moved hW.alike hK, hN.warm hW, hDc.weaken (fun _ _ _ _ => trivial)⟩⟩ rfl (by rw [List.length_map]; exact has) hsz rfl (lv_room hroom) hdg hf) hS (fun q _ h => hF q h) hF (fun r u t H1 locs1 ht hvm hw hB1 hz1 hk1 hS1 => ?_)
  obtain ⟨b1, b2⟩ := hB1
  rw [ht] at b1
  obtain ⟨j1, j2⟩ := w_suf hP hD hk1 hF b1 b2
  exact kk r u H1 locs1 hw j1 j2 hS1
