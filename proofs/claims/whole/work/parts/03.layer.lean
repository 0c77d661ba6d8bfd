/-! values: a number, or the place of a cell; memory: what each place of each cell holds -/
abbrev gV : Type := Int32 ⊕ Nat
def gv (ad : Nat → Nat) (v : gV) : Value := match v with
  | .inl x => .int x
  | .inr i => .ref (ad i)
theorem gv_cat (ad : Nat → Nat) (v : gV) : (gv ad v).category = 1 := by cases v <;> rfl
abbrev gM : Type := Nat → Nat → Int32
def gsr (M : gM) (i : Nat) (f : Nat → Int32) : gM := fun j => if j = i then f else M j
def gst (M : gM) (i k : Nat) (x : Int32) : gM := gsr M i (upd (M i) k x)
theorem gsr_s (M : gM) (i : Nat) (f : Nat → Int32) : gsr M i f i = f := if_pos rfl
theorem gsr_n (M : gM) {i j : Nat} (f : Nat → Int32) (h : j ≠ i) : gsr M i f j = M j := if_neg h
/-- the cells of the system, by their places -/
def gE (cs : ClassId × ClassId × ClassId) (ad : Nat → Nat) (r : Nat → Int32) (i : Nat) : va_E := match i with
  | 0 => .inr (8, [.ref (ad 1), .ref (ad 3), .ref (ad 4), .ref (ad 6), .ref (ad 7), .ref (ad 8)])
  | 1 => .inr (5, [.int (r 0), .int (r 1), .ref (ad 9), .ref (ad 10), .ref (ad 2), .int (r 5)])
  | 2 => .inr (3, [.int (r 0), .int (r 1), .ref (ad 11), .ref (ad 12), .int (r 4)])
  | 3 => .inr (7, [.ref (ad 32), .ref (ad 33)])
  | 4 => .inr (6, [.ref (ad 30), .ref (ad 31), .int (r 2), .int (r 3), .ref (ad 1), .int (r 5), .int (r 6), .int (r 7)])
  | 5 => .inr (2, [.ref (ad 34), .ref (ad 1), .ref (ad 4)])
  | 6 => .inr (4, [.ref (ad 1), .ref (ad 5), .ref (ad 35), .int (r 3), .int (r 4)])
  | 7 => .inr (0, [.ref (ad 1), .ref (ad 5), .ref (ad 36), .ref (ad 37), .ref (ad 38), .ref (ad 39), .ref (ad 40), .int (r 7), .int (r 8), .int (r 9)])
  | 8 => .inr (1, [.int (r 0), .ref (ad 41), .int (r 2), .int (r 3)])
  | 9 => .inl (cs.1, 24, .inl r)
  | 10 => .inl (cs.1, 14, .inl r)
  | 11 => .inl (cs.2.2, 17, .inr (.inr (.inr (.inr (fun j => if j < 17 then some (ad (13 + j)) else none)))))
  | 12 => .inl (cs.1, 17, .inl r)
  | 13 => .inl (cs.1, 24, .inl r)
  | 14 => .inl (cs.1, 24, .inl r)
  | 15 => .inl (cs.1, 24, .inl r)
  | 16 => .inl (cs.1, 24, .inl r)
  | 17 => .inl (cs.1, 24, .inl r)
  | 18 => .inl (cs.1, 24, .inl r)
  | 19 => .inl (cs.1, 24, .inl r)
  | 20 => .inl (cs.1, 24, .inl r)
  | 21 => .inl (cs.1, 24, .inl r)
  | 22 => .inl (cs.1, 24, .inl r)
  | 23 => .inl (cs.1, 24, .inl r)
  | 24 => .inl (cs.1, 24, .inl r)
  | 25 => .inl (cs.1, 24, .inl r)
  | 26 => .inl (cs.1, 24, .inl r)
  | 27 => .inl (cs.1, 24, .inl r)
  | 28 => .inl (cs.1, 24, .inl r)
  | 29 => .inl (cs.1, 24, .inl r)
  | 30 => .inl (cs.1, 4000, .inl r)
  | 31 => .inl (cs.1, 4000, .inl r)
  | 32 => .inl (cs.1, 14, .inl r)
  | 33 => .inl (cs.1, 4000, .inl r)
  | 34 => .inl (cs.1, 16384, .inl r)
  | 35 => .inl (cs.1, 15, .inl r)
  | 36 => .inl (cs.1, 14, .inl r)
  | 37 => .inl (cs.1, 2303, .inl r)
  | 38 => .inl (cs.1, 2303, .inl r)
  | 39 => .inl (cs.1, 2303, .inl r)
  | 40 => .inl (cs.1, 1024, .inl r)
  | 41 => .inl (cs.2.1, 100, .inl r)
  | 42 => .inr (9, [.int (r 0), .ref (ad 43), .ref (ad 44), .ref (ad 45), .ref (ad 46), .int (r 5), .int (r 6), .int (r 7), .int (r 8), .int (r 9), .ref (ad 47), .ref (ad 48), .ref (ad 49), .ref (ad 50), .ref (ad 51), .ref (ad 52), .int (r 16), .ref (ad 53), .int (r 18), .ref (ad 54), .ref (ad 55), .ref (ad 56), .int (r 22), .ref (ad 57), .int (r 24), .int (r 25), .int (r 26), .ref (ad 58)])
  | 43 => .inl (cs.1, 25, .inl r)
  | 44 => .inl (cs.1, 14, .inl r)
  | 45 => .inl (cs.1, 400, .inl r)
  | 46 => .inl (cs.1, 400, .inl r)
  | 47 => .inl (cs.1, 4000, .inl r)
  | 48 => .inl (cs.1, 4000, .inl r)
  | 49 => .inl (cs.1, 16, .inl r)
  | 50 => .inl (cs.1, 16, .inl r)
  | 51 => .inl (cs.1, 16, .inl r)
  | 52 => .inl (cs.1, 16, .inl r)
  | 53 => .inl (cs.1, 16384, .inl r)
  | 54 => .inl (cs.1, 16384, .inl r)
  | 55 => .inl (cs.1, 16384, .inl r)
  | 56 => .inl (cs.1, 14, .inl r)
  | 57 => .inl (cs.2.1, 100, .inl r)
  | 58 => .inl (cs.1, 24, .inl r)
  | _ => .inr (0, [])
def gw (L : List Nat) (cs : ClassId × ClassId × ClassId) (ad : Nat → Nat) (M : gM) : va_W := L.map (fun i => (ad i, gE cs ad (M i) i))
theorem gw_get {L : List Nat} (cs : ClassId × ClassId × ClassId) (ad : Nat → Nat) (M : gM) {i : Nat} (h : i ∈ L) : ∃ k : Nat, (gw L cs ad M)[k]? = some (ad i, gE cs ad (M i) i) ∧ L[k]? = some i := by
  obtain ⟨k, hk⟩ := List.getElem?_of_mem h
  exact ⟨k, by unfold gw; rw [List.getElem?_map, hk]; rfl, hk⟩
theorem gw_set {L : List Nat} (hn : va_nd L = true) (cs : ClassId × ClassId × ClassId) (ad : Nat → Nat) (M : gM) {k i : Nat} (hk : L[k]? = some i) (f : Nat → Int32) {e : va_E} (he : gE cs ad f i = e) : (gw L cs ad M).set k (ad i, e) = gw L cs ad (gsr M i f) := by
  apply List.ext_getElem?
  intro j
  have hkl : k < L.length := (List.getElem?_eq_some_iff.mp hk).1
  unfold gw
  by_cases hj : j = k
  · subst hj
    rw [List.getElem?_set_self (by rw [List.length_map]; exact hkl), List.getElem?_map, hk]
    show _ = some (ad i, gE cs ad (gsr M i f i) i)
    rw [gsr_s, he]
  · rw [List.getElem?_set_ne (Ne.symm hj), List.getElem?_map, List.getElem?_map]
    cases h : L[j]? with
    | none => rfl
    | some i2 =>
      have hne : i2 ≠ i := by
        rintro rfl
        exact hj (va_nd_inj L hn j k i2 h hk)
      show some (ad i2, gE cs ad (M i2) i2) = some (ad i2, gE cs ad (gsr M i f i2) i2)
      rw [gsr_n M f hne]
/-- the locals: by their places; none: nothing is said -/
def gls (ad : Nat → Nat) : Nat → List (Option gV) → List (Nat × Value)
  | _, [] => []
  | n, none :: t => gls ad (n + 1) t
  | n, some v :: t => (n, gv ad v) :: gls ad (n + 1) t
theorem gls_in {ad : Nat → Nat} : ∀ {lv : List (Option gV)} {n j : Nat} {v : gV}, lv[j]? = some (some v) → (n + j, gv ad v) ∈ gls ad n lv
  | [], _, _, _, h => by simp at h
  | none :: t, n, 0, v, h => by simp at h
  | none :: t, n, j + 1, v, h => by
    have := gls_in (ad := ad) (n := n + 1) (show t[j]? = some (some v) by simpa using h)
    rw [show n + (j + 1) = n + 1 + j by omega]
    exact this
  | some w :: t, n, 0, v, h => by
    simp at h
    subst h
    exact List.mem_cons_self
  | some w :: t, n, j + 1, v, h => by
    have := gls_in (ad := ad) (n := n + 1) (show t[j]? = some (some v) by simpa using h)
    rw [show n + (j + 1) = n + 1 + j by omega]
    exact List.mem_cons_of_mem _ this
theorem gls_out {ad : Nat → Nat} : ∀ {lv : List (Option gV)} {n : Nat} {q : Nat × Value}, q ∈ gls ad n lv → ∃ j v, lv[j]? = some (some v) ∧ q = (n + j, gv ad v)
  | [], _, _, h => by simp [gls] at h
  | none :: t, n, q, h => by
    obtain ⟨j, v, h1, h2⟩ := gls_out (lv := t) (n := n + 1) h
    exact ⟨j + 1, v, by simpa using h1, by rw [h2]; congr 1; omega⟩
  | some w :: t, n, q, h => by
    rcases List.mem_cons.mp h with h | h
    · exact ⟨0, w, by simp, by rw [h]; rfl⟩
    · obtain ⟨j, v, h1, h2⟩ := gls_out (lv := t) (n := n + 1) h
      exact ⟨j + 1, v, by simpa using h1, by rw [h2]; congr 1; omega⟩
theorem gls_at {ad : Nat → Nat} {ls : Array Slot} {lv : List (Option gV)} {i n : Nat} {v : gV} (h : lv_has ls n (gls ad 0 lv)) (hl : lv[i]? = some (some v)) : ls[i]? = some (.val (gv ad v)) := by
  have := h.2.2 _ (gls_in (ad := ad) (n := 0) hl)
  rwa [Nat.zero_add] at this
theorem gls_set {ad : Nat → Nat} {ls : Array Slot} {lv : List (Option gV)} {i : Nat} {v : gV} (h : lv_has ls lv.length ((i, gv ad v) :: (gls ad 0 lv).filter (fun q => !(q.1 == i) && !(q.1 + 1 == i && q.2.category == 2)))) : lv_has ls (lv.set i (some v)).length (gls ad 0 (lv.set i (some v))) := by
  refine ⟨by rw [List.length_set]; exact h.1, h.2.1, fun q hq => h.2.2 q ?_⟩
  obtain ⟨j, w, h1, rfl⟩ := gls_out hq
  rw [Nat.zero_add]
  by_cases hj : j = i
  · subst hj
    have hl : j < (lv.set j (some v)).length := (List.getElem?_eq_some_iff.mp h1).1
    rw [List.length_set] at hl
    rw [List.getElem?_set_self hl] at h1
    cases h1
    exact List.mem_cons_self
  · rw [List.getElem?_set_ne (Ne.symm hj)] at h1
    refine List.mem_cons_of_mem _ (List.mem_filter.mpr ⟨?_, ?_⟩)
    · have := gls_in (ad := ad) (n := 0) h1
      rwa [Nat.zero_add] at this
    · simp [hj, gv_cat]
theorem gls_entry (ad : Nat → Nat) (n : Nat) : ∀ (as : List gV) (i : Nat), gls ad i (as.map some ++ List.replicate n none) = lv_args i (as.map (gv ad))
  | [], i => by
    induction n generalizing i with
    | zero => rfl
    | succ n ih => simp only [List.map_nil, List.nil_append] at ih ⊢; rw [List.replicate_succ]; exact ih (i + 1)
  | v :: t, i => by
    show (i, gv ad v) :: gls ad (i + 1) (t.map some ++ List.replicate n none) = (i, gv ad v) :: lv_args (if (gv ad v).category = 2 then i + 2 else i + 1) (t.map (gv ad))
    rw [gv_cat, if_neg (by decide), gls_entry ad n t (i + 1)]
theorem gls_sl (ad : Nat → Nat) : ∀ as : List gV, (lg_sl (as.map (gv ad))).length = as.length
  | [] => rfl
  | v :: t => by
    show ((if (gv ad v).category = 2 then [Slot.val (gv ad v), .second] else [.val (gv ad v)]) ++ lg_sl (t.map (gv ad))).length = _
    rw [gv_cat, if_neg (by decide), List.length_append, gls_sl ad t]
    simp [Nat.add_comm]
/-- the words that every method may use; those of nest mates ride apart -/
def gNest : List Cond := [.methodLinkNest "HypergraphDualizer$EdgeText" 58 ⟨"HypergraphDualizer", "has", "(II)Z"⟩ "HypergraphDualizer", .methodLinkNest "HypergraphDualizer$Hypergraph" 42 ⟨"HypergraphDualizer", "has", "(II)Z"⟩ "HypergraphDualizer", .methodLinkNest "HypergraphDualizer$Hypergraph" 77 ⟨"HypergraphDualizer", "isWithin", "(II)Z"⟩ "HypergraphDualizer", .methodLinkNest "HypergraphDualizer$Search" 61 ⟨"HypergraphDualizer", "has", "(II)Z"⟩ "HypergraphDualizer", .methodLinkNest "HypergraphDualizer$Weights" 18 ⟨"HypergraphDualizer", "has", "(II)Z"⟩ "HypergraphDualizer"]
def gNs (U : State) : Prop := ∀ w ∈ gNest, va_Nw w U
theorem gNs.warm {s U : State} (hW : s.WarmedH U.vm) (h : gNs s) : gNs U := by
  intro w hw
  have h1 := h w hw
  simp only [gNest, List.mem_cons, List.not_mem_nil, or_false] at hw
  rcases hw with rfl | rfl | rfl | rfl | rfl <;> exact va_Nw.warmM hW h1
theorem gNs.same {u U : State} (hv : u.vm = U.vm) (h : gNs u) : gNs U := by
  intro w hw
  have h1 := h w hw
  simp only [gNest, List.mem_cons, List.not_mem_nil, or_false] at hw
  rcases hw with rfl | rfl | rfl | rfl | rfl <;> exact va_Nw.same rfl hv h1
theorem gT_good : ∀ w ∈ gT, (w.onTables && w.keeps) = true ∨ ∃ ty, w = .arrayClass ty := fun w hw => good_of_word (List.mem_filter.mp hw).2
theorem gT_in {y : MethodName} {cc : ByteArray} {nL : Nat} {ret : Option FieldType} (h : Cond.code y cc nL ret ∈ gT) : GoodIn gT (Cond.code y cc nL ret :: gT) := by
  intro w hw
  rcases List.mem_cons.mp hw with rfl | hw
  · exact ⟨h, gT_good _ h⟩
  · exact ⟨hw, gT_good _ hw⟩
/-! the walk's judgement over pictures -/
abbrev gX : Type := Program × Launch × Env × Room × State × MethodId × Array Value × List Frame × Method × Code × va_G × (ClassId × ClassId × ClassId) × (Nat → Nat) × (Nat → Prop) × (State → Prop) × List Nat × Nat × Nat
def gtys (cs : ClassId × ClassId × ClassId) : List (ClassId × FieldType) := [(cs.1, .int), (cs.2.1, .char), (cs.2.2, .array .int)]
def gW (X : gX) (pc : Nat) (lv : List (Option gV)) (st : List gV) (M : gM) : Prop := match X with
  | (p, l, e, R, s, m, args, below, meth, c, D, cs, ad, A, Z, L, kc, kn) => ∀ (H : Heap) (locs : List Loc) (ls : Array Slot), va_P D vwCl (gw L cs ad M) H → va_D A (gw L cs ad M) → va_S A s.heap H locs → lv_has ls lv.length (gls ad 0 lv) → W p l e R s m args below meth c H locs kc kn Z (F0 m pc ls (st.map (gv ad)))
def gOk (X : gX) (cc : ByteArray) (own : String) (d nL : Nat) (ret : Option FieldType) (L : List Nat) : Prop := match X with
  | (p, l, e, R, s, m, args, below, meth, c, D, cs, ad, A, Z, L0, kc, kn) => L0 = L ∧ p.tables.exec = Jvm.exec ∧ c.code = cc ∧ c.maxLocals = nL ∧ meth.sig.returnType = ret ∧ meth.locks = false ∧ s.vm.findClass own = some m.cls ∧ (∀ w ∈ gT, w.before args s = true) ∧ gNs s ∧ va_K D vwCl (gtys cs) s ∧ (∀ q, s.heap.size ≤ q → A q) ∧ va_nd L = true ∧ d ≤ R.frames ∧ 40 * d ≤ R.locals ∧ kc ≤ R.cells ∧ kn ≤ R.slots
def gRm (d : Nat) : Room := { frames := d, cells := 0, slots := 0, locals := 40 * d }
def gPre (L : List Nat) (D : va_G) (cs : ClassId × ClassId × ClassId) (ad : Nat → Nat) (sz : Nat) (M : gM) (U : State) : Prop := U.heap.size = sz ∧ va_P D vwCl (gw L cs ad M) U.heap ∧ va_K D vwCl (gtys cs) U ∧ gNs U ∧ va_D (fun _ => True) (gw L cs ad M)
def gEnd (L : List Nat) (D : va_G) (cs : ClassId × ClassId × ClassId) (ad : Nat → Nat) (A : Nat → Prop) (M : gM) (t : State) : Prop := va_P D vwCl (gw L cs ad M) t.heap ∧ va_D A (gw L cs ad M)
/-- a method's contract: called with these values over this memory it ends, with a number and a memory of which Q holds -/
def gCi (L : List Nat) (d : Nat) (y : MethodName) (cc : ByteArray) (nL : Nat) (ty : FieldType) (as : List gV) (M : gM) (Q : Int32 → gM → Prop) : Prop :=
  ∀ (l : Launch) (D : va_G) (cs : ClassId × ClassId × ClassId) (ad : Nat → Nat) (sz : Nat), Met l y (.code y cc nL (some ty) :: gT) (gRm d) (va_Pc (as.map (gv ad)) (gPre L D cs ad sz M)) (va_Qi Q (gEnd L D cs ad (va_A (gw L cs ad M) sz)) (va_A (gw L cs ad M) sz)) 0 0 (va_A (gw L cs ad M) sz)
def gCv (L : List Nat) (d : Nat) (y : MethodName) (cc : ByteArray) (nL : Nat) (as : List gV) (M : gM) (Q : gM → Prop) : Prop :=
  ∀ (l : Launch) (D : va_G) (cs : ClassId × ClassId × ClassId) (ad : Nat → Nat) (sz : Nat), Met l y (.code y cc nL none :: gT) (gRm d) (va_Pc (as.map (gv ad)) (gPre L D cs ad sz M)) (va_Qv Q (gEnd L D cs ad (va_A (gw L cs ad M) sz)) (va_A (gw L cs ad M) sz)) 0 0 (va_A (gw L cs ad M) sz)
def gZi (X : gX) (Q : Int32 → gM → Prop) : Prop := match X with
  | (p, l, e, R, s, m, args, below, meth, c, D, cs, ad, A, Z, L, kc, kn) => Z = MQ below (va_Qi Q (gEnd L D cs ad A) A) args s kc kn A
def gZv (X : gX) (Q : gM → Prop) : Prop := match X with
  | (p, l, e, R, s, m, args, below, meth, c, D, cs, ad, A, Z, L, kc, kn) => Z = MQ below (va_Qv Q (gEnd L D cs ad A) A) args s kc kn A
set_option maxHeartbeats 4000000 in
theorem gCi_of {L : List Nat} {d : Nat} {y : MethodName} {cc : ByteArray} {nL : Nat} {ty : FieldType} {as : List gV} {M : gM} {Q : Int32 → gM → Prop} (hy : plainName y.cls = true) (hn : va_nd L = true) (hlen : as.length ≤ nL)
    (h : ∀ X : gX, gOk X cc y.cls d nL (some ty) L → gZi X Q → gW X 0 (as.map some ++ List.replicate (nL - as.length) none) [] M) : gCi L d y cc nL ty as M Q := by
  intro l D cs ad sz
  refine Met.ofW (cc := cc) (maxL := nL) (ret := some ty) hy rfl ?_
  intro p e s m args below meth c s1 B hml hv
  obtain ⟨rfl, hsz, hP, hK, hN, hD0⟩ := hv
  have hts0 := atoms_spec (ws := (.code y cc nL (some ty) :: gT)) B.pre
  subst hsz
  have hl := lv_entry (as.map (gv ad)) (n := nL) (by rw [gls_sl]; exact hlen)
  rw [lg_entry_eq]
  have key := h (p, l, e, gRm d, s, m, (as.map (gv ad)).toArray, below, meth, c, D, cs, ad, va_A (gw L cs ad M) s.heap.size, _, L, 0, 0) ⟨rfl, B.exec, B.bytes, hml, B.returns, B.notSynchronized, findClass_of_methodNamed B.named, fun w hw => hts0 w (List.mem_cons_of_mem _ hw), hN, hK, fun q hq => Or.inr hq, hn, Nat.le_refl _, Nat.le_refl _, Nat.le_refl _, Nat.le_refl _⟩ rfl
  refine key s.heap [] _ hP hD0.self va_S.rf ?_
  have e1 : (as.map some ++ List.replicate (nL - as.length) (none : Option gV)).length = nL := by
    rw [List.length_append, List.length_map, List.length_replicate]; omega
  rw [e1, gls_entry]
  exact hl
set_option maxHeartbeats 4000000 in
theorem gCv_of {L : List Nat} {d : Nat} {y : MethodName} {cc : ByteArray} {nL : Nat} {as : List gV} {M : gM} {Q : gM → Prop} (hy : plainName y.cls = true) (hn : va_nd L = true) (hlen : as.length ≤ nL)
    (h : ∀ X : gX, gOk X cc y.cls d nL none L → gZv X Q → gW X 0 (as.map some ++ List.replicate (nL - as.length) none) [] M) : gCv L d y cc nL as M Q := by
  intro l D cs ad sz
  refine Met.ofW (cc := cc) (maxL := nL) (ret := none) hy rfl ?_
  intro p e s m args below meth c s1 B hml hv
  obtain ⟨rfl, hsz, hP, hK, hN, hD0⟩ := hv
  have hts0 := atoms_spec (ws := (.code y cc nL none :: gT)) B.pre
  subst hsz
  have hl := lv_entry (as.map (gv ad)) (n := nL) (by rw [gls_sl]; exact hlen)
  rw [lg_entry_eq]
  have key := h (p, l, e, gRm d, s, m, (as.map (gv ad)).toArray, below, meth, c, D, cs, ad, va_A (gw L cs ad M) s.heap.size, _, L, 0, 0) ⟨rfl, B.exec, B.bytes, hml, B.returns, B.notSynchronized, findClass_of_methodNamed B.named, fun w hw => hts0 w (List.mem_cons_of_mem _ hw), hN, hK, fun q hq => Or.inr hq, hn, Nat.le_refl _, Nat.le_refl _, Nat.le_refl _, Nat.le_refl _⟩ rfl
  refine key s.heap [] _ hP hD0.self va_S.rf ?_
  have e1 : (as.map some ++ List.replicate (nL - as.length) (none : Option gV)).length = nL := by
    rw [List.length_append, List.length_map, List.length_replicate]; omega
  rw [e1, gls_entry]
  exact hl
/-! ends -/
theorem g_iret {X : gX} {cc : ByteArray} {own : String} {d nL : Nat} {L : List Nat} (ok : gOk X cc own d nL (some .int) L) {Q : Int32 → gM → Prop} (hZ : gZi X Q) {pc : Nat} {lv : List (Option gV)} {M : gM} {x : Int32} (hdg : decode cc pc = .ok (.ireturn, 1)) (h : Q x M) : gW X pc lv [.inl x] M := by
  obtain ⟨p, l, e, R, s, m, args, below, meth, c, D, cs, ad, A, Z, L0, kc, kn⟩ := X
  obtain ⟨rfl, hx, hb, hml, hr, hlocks, hown, hts, hN, hK, hA, hn, -⟩ := ok
  cases hZ
  exact fun H locs ls a1 a2 a3 a4 => W.iret (v := x) hx hb hr (fun t ht hW => ⟨⟨x, M, rfl, h, by rw [ht]; exact a1, a2⟩, a3.F ht⟩) a3.2.2 hdg hlocks
theorem g_zret {X : gX} {cc : ByteArray} {own : String} {d nL : Nat} {ty : FieldType} {L : List Nat} (ok : gOk X cc own d nL (some ty) L) {Q : Int32 → gM → Prop} (hZ : gZi X Q) {pc : Nat} {lv : List (Option gV)} {M : gM} {x : Int32} (hdg : decode cc pc = .ok (.ireturn, 1)) (hnw : narrow ty (.int x) = .int x) (h : Q x M) : gW X pc lv [.inl x] M := by
  obtain ⟨p, l, e, R, s, m, args, below, meth, c, D, cs, ad, A, Z, L0, kc, kn⟩ := X
  obtain ⟨rfl, hx, hb, hml, hr, hlocks, hown, hts, hN, hK, hA, hn, -⟩ := ok
  cases hZ
  exact fun H locs ls a1 a2 a3 a4 => W.zret (v := x) hx hb hr hnw (fun t ht hW => ⟨⟨x, M, rfl, h, by rw [ht]; exact a1, a2⟩, a3.F ht⟩) a3.2.2 hdg hlocks
theorem g_vret {X : gX} {cc : ByteArray} {own : String} {d nL : Nat} {L : List Nat} (ok : gOk X cc own d nL none L) {Q : gM → Prop} (hZ : gZv X Q) {pc : Nat} {lv : List (Option gV)} {M : gM} (hdg : decode cc pc = .ok (.return_, 1)) (h : Q M) : gW X pc lv [] M := by
  obtain ⟨p, l, e, R, s, m, args, below, meth, c, D, cs, ad, A, Z, L0, kc, kn⟩ := X
  obtain ⟨rfl, hx, hb, hml, hr, hlocks, hown, hts, hN, hK, hA, hn, -⟩ := ok
  cases hZ
  exact fun H locs ls a1 a2 a3 a4 => W.vret hx hb hr (fun t ht hW => ⟨⟨M, rfl, h, by rw [ht]; exact a1, a2⟩, a3.F ht⟩) a3.2.2 hdg hlocks
/-! fields and arrays -/
/-- place k of cell i is a field of that class, name and descriptor; it holds v of the row -/
def gFld (i k : Nat) (C f ds : String) (v : (Nat → Int32) → gV) : Prop := ∃ (ci N : Nat) (T : u_T) (fs : (ClassId × ClassId × ClassId) → (Nat → Nat) → (Nat → Int32) → List Value), vwCl[ci]? = some (C, T, N) ∧ k < N ∧ (T k).1 = C ∧ (T k).2.1 = f ∧ (T k).2.2.1 = ds ∧ (∀ w ∈ u_ws C T N, w ∈ gT) ∧ (∀ cs ad r, gE cs ad r i = .inr (ci, fs cs ad r)) ∧ ∀ cs ad r, (fs cs ad r)[k]? = some (gv ad (v r))
theorem g_get {X : gX} {cc : ByteArray} {own : String} {d nL : Nat} {ret : Option FieldType} {L : List Nat} (ok : gOk X cc own d nL ret L) {pc : Nat} {lv : List (Option gV)} {st : List gV} {M : gM} {i k idx : Nat} {C f ds : String} {v : (Nat → Int32) → gV} (hf : gFld i k C f ds v) (hi : i ∈ L) (hw : Cond.fieldLink own idx C f ds ∈ gT) (hdg : decode cc pc = .ok (.getfield idx, 3)) {w : gV} (hv : v (M i) = w) (kk : gW X (pc + 3) lv (w :: st) M) : gW X pc lv (.inr i :: st) M := by
  obtain ⟨p, l, e, R, s, m, args, below, meth, c, D, cs, ad, A, Z, L0, kc, kn⟩ := X
  obtain ⟨rfl, hx, hb, hml, hr, hlocks, hown, hts, hN, hK, hA, hn, -⟩ := ok
  obtain ⟨ci, N, T, fs, h1, h2, h3, rfl, rfl, h6, h7, h8⟩ := hf
  subst hv
  intro H locs ls a1 a2 a3 a4
  obtain ⟨q, hq, -⟩ := gw_get cs ad M hi
  rw [h7] at hq
  exact va_get (D := D) (ci := ci) (v := gv ad (v (M i))) (C := C) (T := T) (N := N) hx hb hts h6 hown hK a1 q hq h1 k h2 (hts _ hw) (fun x hx9 => by rw [← h3]; exact hx9) (h8 cs ad (M i)) hdg (kk H locs ls a1 a2 a3 a4)
/-- place k of cell i is a field that may be written -/
def gFldP (i k : Nat) (C f ds : String) (ty : FieldType) : Prop := ∃ (ci N : Nat) (T : u_T) (tf : Nat → FieldType) (fs : (ClassId × ClassId × ClassId) → (Nat → Nat) → (Nat → Int32) → List Value), vwCl[ci]? = some (C, T, N) ∧ k < N ∧ (T k).1 = C ∧ (T k).2.1 = f ∧ (T k).2.2.1 = ds ∧ (T k).2.2.2 = false ∧ parseFieldDescriptor ds = some ty ∧ (∀ w ∈ u_ws C T N, w ∈ gT) ∧ (∀ k, k < N → parseFieldDescriptor (T k).2.2.1 = some (tf k)) ∧ (∀ a, a < N → ∀ b, b < N → a ≠ b → (T a).2.1 ≠ (T b).2.1) ∧ (∀ cs ad r, gE cs ad r i = .inr (ci, fs cs ad r)) ∧ (∀ cs ad r, k < (fs cs ad r).length) ∧ ∀ cs ad r x, (fs cs ad r).set k (.int x) = fs cs ad (upd r k x)
theorem g_put {X : gX} {cc : ByteArray} {own : String} {d nL : Nat} {ret : Option FieldType} {L : List Nat} (ok : gOk X cc own d nL ret L) {pc : Nat} {lv : List (Option gV)} {st : List gV} {M : gM} {i k idx : Nat} {C f ds : String} {ty : FieldType} {x : Int32} (hf : gFldP i k C f ds ty) (hi : i ∈ L) (hw : Cond.fieldLink own idx C f ds ∈ gT) (hdg : decode cc pc = .ok (.putfield idx, 3)) (hnw : narrow ty (.int x) = .int x) (hft : fits ty (.int x) = true) (kk : gW X (pc + 3) lv st (gst M i k x)) : gW X pc lv (.inl x :: .inr i :: st) M := by
  obtain ⟨p, l, e, R, s, m, args, below, meth, c, D, cs, ad, A, Z, L0, kc, kn⟩ := X
  obtain ⟨rfl, hx, hb, hml, hr, hlocks, hown, hts, hN, hK, hA, hn, -⟩ := ok
  obtain ⟨ci, N, T, tf, fs, h1, h2, h3, rfl, rfl, h5, h55, h6, h66, h67, h7, h8, h9⟩ := hf
  intro H locs ls a1 a2 a3 a4
  obtain ⟨q, hq, hql⟩ := gw_get cs ad M hi
  rw [h7] at hq
  refine va_put (D := D) (ci := ci) (v := .int x) (ty := ty) (C := C) (T := T) (N := N) hx hb hts h6 tf h66 h67 hown hK a1 a2 a3 q hq h1 k h2 (hts _ hw) (fun x hx9 => by rw [← h3]; exact hx9) h5 h55 hnw hft (h8 cs ad (M i)) hdg (fun H locs hP hD hS => ?_)
  rw [h9, gw_set hn cs ad M hql (upd (M i) k x) (h7 cs ad _)] at hP hD
  exact kk H locs ls hP hD hS a4
def gArr (i n : Nat) : Prop := ∀ cs ad r, gE cs ad r i = .inl (cs.1, n, .inl r)
def gArC (i n : Nat) : Prop := ∀ cs ad r, gE cs ad r i = .inl (cs.2.1, n, .inl r)
theorem g_iald {X : gX} {cc : ByteArray} {own : String} {d nL : Nat} {ret : Option FieldType} {L : List Nat} (ok : gOk X cc own d nL ret L) {pc : Nat} {lv : List (Option gV)} {st : List gV} {M : gM} {i n : Nat} {j : Int32} (hf : gArr i n) (hi : i ∈ L) (hdg : decode cc pc = .ok (.iaload, 1)) (hin : vp_in j n) {w : Int32} (hv : M i j.toNatClampNeg = w) (kk : gW X (pc + 1) lv (.inl w :: st) M) : gW X pc lv (.inl j :: .inr i :: st) M := by
  obtain ⟨p, l, e, R, s, m, args, below, meth, c, D, cs, ad, A, Z, L0, kc, kn⟩ := X
  obtain ⟨rfl, hx, hb, hml, hr, hlocks, hown, hts, hN, hK, hA, hn, -⟩ := ok
  subst hv
  intro H locs ls a1 a2 a3 a4
  obtain ⟨q, hq, -⟩ := gw_get cs ad M hi
  rw [hf] at hq
  exact va_iald (D := D) hx hb hK a1 q 0 hq rfl hin hdg (kk H locs ls a1 a2 a3 a4)
theorem g_iast {X : gX} {cc : ByteArray} {own : String} {d nL : Nat} {ret : Option FieldType} {L : List Nat} (ok : gOk X cc own d nL ret L) {pc : Nat} {lv : List (Option gV)} {st : List gV} {M : gM} {i n : Nat} {j x : Int32} (hf : gArr i n) (hi : i ∈ L) (hdg : decode cc pc = .ok (.iastore, 1)) (hin : vp_in j n) (kk : gW X (pc + 1) lv st (gst M i j.toNatClampNeg x)) : gW X pc lv (.inl x :: .inl j :: .inr i :: st) M := by
  obtain ⟨p, l, e, R, s, m, args, below, meth, c, D, cs, ad, A, Z, L0, kc, kn⟩ := X
  obtain ⟨rfl, hx, hb, hml, hr, hlocks, hown, hts, hN, hK, hA, hn, -⟩ := ok
  intro H locs ls a1 a2 a3 a4
  obtain ⟨q, hq, hql⟩ := gw_get cs ad M hi
  rw [hf] at hq
  refine va_iast (D := D) hx hb hK a1 a2 a3 q 0 hq rfl hin hdg (fun H locs hP hD hS => ?_)
  rw [gw_set hn cs ad M hql (upd (M i) j.toNatClampNeg x) (hf cs ad _)] at hP hD
  exact kk H locs ls hP hD hS a4
theorem g_cald {X : gX} {cc : ByteArray} {own : String} {d nL : Nat} {ret : Option FieldType} {L : List Nat} (ok : gOk X cc own d nL ret L) {pc : Nat} {lv : List (Option gV)} {st : List gV} {M : gM} {i n : Nat} {j : Int32} (hf : gArC i n) (hi : i ∈ L) (hdg : decode cc pc = .ok (.caload, 1)) (hin : vp_in j n) {w : Int32} (hv : M i j.toNatClampNeg = w) (kk : gW X (pc + 1) lv (.inl w :: st) M) : gW X pc lv (.inl j :: .inr i :: st) M := by
  obtain ⟨p, l, e, R, s, m, args, below, meth, c, D, cs, ad, A, Z, L0, kc, kn⟩ := X
  obtain ⟨rfl, hx, hb, hml, hr, hlocks, hown, hts, hN, hK, hA, hn, -⟩ := ok
  subst hv
  intro H locs ls a1 a2 a3 a4
  obtain ⟨q, hq, -⟩ := gw_get cs ad M hi
  rw [hf] at hq
  exact va_cald (D := D) hx hb hK a1 q 1 hq rfl hin hdg (kk H locs ls a1 a2 a3 a4)
theorem g_cast {X : gX} {cc : ByteArray} {own : String} {d nL : Nat} {ret : Option FieldType} {L : List Nat} (ok : gOk X cc own d nL ret L) {pc : Nat} {lv : List (Option gV)} {st : List gV} {M : gM} {i n : Nat} {j x : Int32} (hf : gArC i n) (hi : i ∈ L) (hdg : decode cc pc = .ok (.castore, 1)) (hin : vp_in j n) (kk : gW X (pc + 1) lv st (gst M i j.toNatClampNeg (vp_nar .char x))) : gW X pc lv (.inl x :: .inl j :: .inr i :: st) M := by
  obtain ⟨p, l, e, R, s, m, args, below, meth, c, D, cs, ad, A, Z, L0, kc, kn⟩ := X
  obtain ⟨rfl, hx, hb, hml, hr, hlocks, hown, hts, hN, hK, hA, hn, -⟩ := ok
  intro H locs ls a1 a2 a3 a4
  obtain ⟨q, hq, hql⟩ := gw_get cs ad M hi
  rw [hf] at hq
  refine va_cast (D := D) hx hb hK a1 a2 a3 q 1 hq rfl hin hdg (fun H locs hP hD hS => ?_)
  rw [gw_set hn cs ad M hql (upd (M i) j.toNatClampNeg (vp_nar .char x)) (hf cs ad _)] at hP hD
  exact kk H locs ls hP hD hS a4
/-- the row of the ring -/
theorem g_aald {X : gX} {cc : ByteArray} {own : String} {d nL : Nat} {ret : Option FieldType} {L : List Nat} (ok : gOk X cc own d nL ret L) {pc : Nat} {lv : List (Option gV)} {st : List gV} {M : gM} {j : Int32} (hi : 11 ∈ L) (hdg : decode cc pc = .ok (.aaload, 1)) (hin : vp_in j 17) (kk : gW X (pc + 1) lv (.inr (13 + j.toNatClampNeg) :: st) M) : gW X pc lv (.inl j :: .inr 11 :: st) M := by
  obtain ⟨p, l, e, R, s, m, args, below, meth, c, D, cs, ad, A, Z, L0, kc, kn⟩ := X
  obtain ⟨rfl, hx, hb, hml, hr, hlocks, hown, hts, hN, hK, hA, hn, -⟩ := ok
  intro H locs ls a1 a2 a3 a4
  obtain ⟨q, hq, -⟩ := gw_get cs ad M hi
  have hq : (gw L0 cs ad M)[q]? = some (ad 11, .inl (cs.2.2, 17, .inr (.inr (.inr (.inr (fun j => if j < 17 then some (ad (13 + j)) else none)))))) := hq
  have hlt : j.toNatClampNeg < 17 := Nat.not_le.mp fun q => hin (Or.inr q)
  have k2 := kk H locs ls a1 a2 a3 a4
  have e1 : gv ad (.inr (13 + j.toNatClampNeg)) = va_rf ((fun j => if j < 17 then some (ad (13 + j)) else none) j.toNatClampNeg) := by
    show _ = va_rf (if j.toNatClampNeg < 17 then some (ad (13 + j.toNatClampNeg)) else none)
    rw [if_pos hlt]
    rfl
  exact W.aald (v := gv ad (.inr (13 + j.toNatClampNeg))) (ty := .array .int) hx hb (a1 q _ hq) ((hK.2 2 _ rfl).1 17 (fun j => va_rf ((fun j => if j < 17 then some (ad (13 + j)) else none) j))) rfl (fun q => by cases q) (by show ¬ (j < 0 ∨ (arrV _ _ _).slots.size ≤ _); rw [arrV_size]; exact hin) (by rw [vp_cell_q, arrV_read _ _ hlt, e1]) rfl rfl hdg k2
theorem g_copy {X : gX} {cc : ByteArray} {own : String} {d nL : Nat} {ret : Option FieldType} {L : List Nat} (ok : gOk X cc own d nL ret L) {pc : Nat} {lv : List (Option gV)} {st : List gV} {M : gM} {i0 i1 n0 n1 idx : Nat} {sp dp n : Int32} (h0 : gArr i0 n0) (h1 : gArr i1 n1) (hi0 : i0 ∈ L) (hi1 : i1 ∈ L) (hlv : lv.length = nL) (hd1 : 1 ≤ d) (hst : st = []) (hw : Cond.methodLink own idx arraycopyName ∈ gT) (hnat : Cond.native arraycopyName ∈ gT) (hstat : Cond.static arraycopyName ∈ gT) (hini : Cond.initialized "java/lang/System" ∈ gT)
    (c1 : ¬ sp < 0) (c2 : ¬ dp < 0) (c3 : ¬ n < 0) (c4 : sp.toNatClampNeg + n.toNatClampNeg ≤ n0) (c5 : dp.toNatClampNeg + n.toNatClampNeg ≤ n1) (hdg : decode cc pc = .ok (.invokestatic idx, 3)) (kk : gW X (pc + 3) lv st (gsr M i1 (va_cpy (M i0) (M i1) sp.toNatClampNeg dp.toNatClampNeg n.toNatClampNeg))) : gW X pc lv (.inl n :: .inl dp :: .inr i1 :: .inl sp :: .inr i0 :: st) M := by
  obtain ⟨p, l, e, R, s, m, args, below, meth, c, D, cs, ad, A, Z, L0, kc, kn⟩ := X
  obtain ⟨rfl, hx, hb, hml, hr, hlocks, hown, hts, hN, hK, hA, hn, hR1, hR2, hR3, hR4⟩ := ok
  subst hst
  intro H locs ls a1 a2 a3 a4
  obtain ⟨q0, hq0, -⟩ := gw_get cs ad M hi0
  obtain ⟨q1, hq1, hql⟩ := gw_get cs ad M hi1
  rw [h0] at hq0
  rw [h1] at hq1
  refine va_copyi (D := D) hx hb (by rw [hml, a4.1, hlv]) hown (hts _ hw) (hts _ hnat) (hts _ hstat) (hts _ hini) hK a1 a2 a3 q0 q1 0 0 hq0 hq1 rfl rfl rfl c1 c2 c3 c4 c5 (fun _ _ => rfl) (Nat.le_trans hd1 hR1) (Nat.le_trans (Nat.le_trans (Nat.le_of_ble_eq_true rfl) (Nat.mul_le_mul_left 40 hd1)) hR2) hdg (fun H locs hP hD hS => ?_)
  rw [gw_set hn cs ad M hql (va_cpy (M i0) (M i1) sp.toNatClampNeg dp.toNatClampNeg n.toNatClampNeg) (h1 cs ad _)] at hP hD
  exact kk H locs ls hP hD hS a4
theorem g_mmin {X : gX} {cc : ByteArray} {own : String} {d nL : Nat} {ret : Option FieldType} {L : List Nat} (ok : gOk X cc own d nL ret L) {pc : Nat} {lv : List (Option gV)} {st : List gV} {M : gM} {idx : Nat} {x y : Int32} (hlv : lv.length = nL) (hd1 : 1 ≤ d) (hst : st.length ≤ 8) (hw : Cond.methodLink own idx Lib.Math.min.name ∈ gT) (hstat : Cond.static Lib.Math.min.name ∈ gT) (hini : Cond.initialized "java/lang/Math" ∈ gT) (hcode : Cond.code Lib.Math.min.name Lib.Math.min.code 2 (some .int) ∈ gT)
    (hdg : decode cc pc = .ok (.invokestatic idx, 3)) (kk : gW X (pc + 3) lv (.inl (if y < x then y else x) :: st) M) : gW X pc lv (.inl y :: .inl x :: st) M := by
  obtain ⟨p, l, e, R, s, m, args, below, meth, c, D, cs, ad, A, Z, L0, kc, kn⟩ := X
  obtain ⟨rfl, hx, hb, hml, hr, hlocks, hown, hts, hN, hK, hA, hn, hR1, hR2, hR3, hR4⟩ := ok
  have e1 : ((st.map (gv ad)).map fun v => v.category).sum = st.length := by
    clear hst kk
    induction st with
    | nil => rfl
    | cons v t ih => simp only [List.map_cons, List.sum_cons, gv_cat, List.length_cons, ih]; omega
  exact fun H locs ls a1 a2 a3 a4 => va_mmin hx hb (by rw [hml, a4.1, hlv]) hown (hts _ hw) (hts _ hstat) (hts _ hini) (hts _ hcode) (Nat.le_trans hd1 hR1) (by rw [e1]; omega) hR3 hR4 hdg (kk H locs ls a1 a2 a3 a4)
theorem g_ldc {X : gX} {cc : ByteArray} {own : String} {d nL : Nat} {ret : Option FieldType} {L : List Nat} (ok : gOk X cc own d nL ret L) {pc : Nat} {lv : List (Option gV)} {st : List gV} {M : gM} {idx : Nat} {v : Int32} (hw : Cond.constant own idx v ∈ gT) (hdg : decode cc pc = .ok (.ldc idx, 2)) (kk : gW X (pc + 2) lv (.inl v :: st) M) : gW X pc lv st M := by
  obtain ⟨p, l, e, R, s, m, args, below, meth, c, D, cs, ad, A, Z, L0, kc, kn⟩ := X
  obtain ⟨rfl, hx, hb, hml, hr, hlocks, hown, hts, hN, hK, hA, hn, hR1, hR2, hR3, hR4⟩ := ok
  exact fun H locs ls a1 a2 a3 a4 => lv_ldc hx hb hown (hts _ hw) hdg (kk H locs ls a1 a2 a3 a4)
theorem g_ldcw {X : gX} {cc : ByteArray} {own : String} {d nL : Nat} {ret : Option FieldType} {L : List Nat} (ok : gOk X cc own d nL ret L) {pc : Nat} {lv : List (Option gV)} {st : List gV} {M : gM} {idx : Nat} {v : Int32} (hw : Cond.constant own idx v ∈ gT) (hdg : decode cc pc = .ok (.ldc_w idx, 3)) (kk : gW X (pc + 3) lv (.inl v :: st) M) : gW X pc lv st M := by
  obtain ⟨p, l, e, R, s, m, args, below, meth, c, D, cs, ad, A, Z, L0, kc, kn⟩ := X
  obtain ⟨rfl, hx, hb, hml, hr, hlocks, hown, hts, hN, hK, hA, hn, hR1, hR2, hR3, hR4⟩ := ok
  exact fun H locs ls a1 a2 a3 a4 => lv_ldcw hx hb hown (hts _ hw) hdg (kk H locs ls a1 a2 a3 a4)
theorem g_goto {X : gX} {cc : ByteArray} {own : String} {d nL : Nat} {ret : Option FieldType} {L : List Nat} (ok : gOk X cc own d nL ret L) {pc : Nat} {lv : List (Option gV)} {st : List gV} {M : gM} {off : Int} {tgt : Nat} (hdg : decode cc pc = .ok (.goto off, 3)) (ht : (pc : Int) + off = (tgt : Int)) (kk : gW X tgt lv st M) : gW X pc lv st M := by
  obtain ⟨p, l, e, R, s, m, args, below, meth, c, D, cs, ad, A, Z, L0, kc, kn⟩ := X
  exact fun H locs ls a1 a2 a3 a4 => lv_goto ok.2.1 ok.2.2.1 hdg ht (kk H locs ls a1 a2 a3 a4)
theorem g_tableIn {X : gX} {cc : ByteArray} {own : String} {d nL : Nat} {ret : Option FieldType} {L : List Nat} (ok : gOk X cc own d nL ret L) {pc : Nat} {lv : List (Option gV)} {st : List gV} {M : gM} {dflt lo hi : Int} {offs : Array Int} {len : Nat} {x : Int32} {off : Int} {tgt : Nat} (c : Int) (hx : x.toInt = c) (hdg : decode cc pc = .ok (.tableswitch dflt lo hi offs, len)) (h1 : ¬ c < lo) (h2 : ¬ hi < c) (ho : offs[(c - lo).toNat]? = some off) (ht : (pc : Int) + off = (tgt : Int)) (kk : gW X tgt lv st M) : gW X pc lv (.inl x :: st) M := by
  obtain ⟨p, l, e, R, s, m, args, below, meth, c, D, cs, ad, A, Z, L0, kc, kn⟩ := X
  subst hx
  exact fun H locs ls a1 a2 a3 a4 => lv_tableIn ok.2.1 ok.2.2.1 hdg h1 h2 ho ht (kk H locs ls a1 a2 a3 a4)
theorem g_tableOut {X : gX} {cc : ByteArray} {own : String} {d nL : Nat} {ret : Option FieldType} {L : List Nat} (ok : gOk X cc own d nL ret L) {pc : Nat} {lv : List (Option gV)} {st : List gV} {M : gM} {dflt lo hi : Int} {offs : Array Int} {len : Nat} {x : Int32} {tgt : Nat} (hdg : decode cc pc = .ok (.tableswitch dflt lo hi offs, len)) (h : x.toInt < lo ∨ hi < x.toInt) (ht : (pc : Int) + dflt = (tgt : Int)) (kk : gW X tgt lv st M) : gW X pc lv (.inl x :: st) M := by
  obtain ⟨p, l, e, R, s, m, args, below, meth, c, D, cs, ad, A, Z, L0, kc, kn⟩ := X
  exact fun H locs ls a1 a2 a3 a4 => lv_tableOut ok.2.1 ok.2.2.1 hdg h ht (kk H locs ls a1 a2 a3 a4)
/-! calls -/
/-- what a caller needs of a callee's name -/
def gSt (y : MethodName) (cc : ByteArray) (nL : Nat) (ret : Option FieldType) (n : Nat) : Prop := Cond.code y cc nL ret ∈ gT ∧ Cond.initialized y.cls ∈ gT ∧ (y.cls ≠ "java/lang/invoke/MethodHandle" ∧ y.cls ≠ "java/lang/invoke/VarHandle" ∧ (parseMethodDescriptor y.desc).map (fun d => d.parameters.length) = some n) ∧ nL ≤ 21
/-- the class of a cell -/
def gCls (i : Nat) (C : String) : Prop := ∃ (ci N : Nat) (T : u_T) (fs : (ClassId × ClassId × ClassId) → (Nat → Nat) → (Nat → Int32) → List Value), vwCl[ci]? = some (C, T, N) ∧ ∀ cs ad r, gE cs ad r i = .inr (ci, fs cs ad r)
theorem gPre_blind {L : List Nat} {D : va_G} {cs : ClassId × ClassId × ClassId} {ad : Nat → Nat} {sz : Nat} {M : gM} {as : List Value} : FrameBlind (va_Pc as (gPre L D cs ad sz M)) :=
  fun a U g mk q => ⟨q.1, q.2.1, q.2.2.1, va_K.moved (u := U) (U := U.calling g mk a) (Vm.Alike.refl U.vm) q.2.2.2.1, gNs.same (u := U) (U := U.calling g mk a) rfl q.2.2.2.2.1, q.2.2.2.2.2⟩
theorem gsum (ad : Nat → Nat) : ∀ st : List gV, ((st.map (gv ad)).map fun v => v.category).sum = st.length
  | [] => rfl
  | v :: t => by
    have := gsum ad t
    simp only [List.map_cons, List.sum_cons, gv_cat, List.length_cons]
    omega
theorem gA_free {A : Nat → Prop} {L : List Nat} {cs : ClassId × ClassId × ClassId} {ad : Nat → Nat} {M : gM} {H0 H : Heap} {locs : List Loc} (hD : va_D A (gw L cs ad M)) (hS : va_S A H0 H locs) (hA : ∀ q, H0.size ≤ q → A q) : ∀ q, va_A (gw L cs ad M) H.size q → A q := by
  intro q h
  rcases h with ⟨k, e, h⟩ | h
  · exact hD.2 k _ h
  · exact hA q (Nat.le_trans hS.1 h)
theorem gcallB {X : gX} {cc : ByteArray} {own : String} {d nL : Nat} {ret : Option FieldType} {L : List Nat} (ok : gOk X cc own d nL ret L) {d1 n1 nL1 idx : Nat} {y : MethodName} {cc1 : ByteArray} {ret1 : Option FieldType} (hs : gSt y cc1 nL1 ret1 n1) (hd : d1 + 1 ≤ d) (hl : Cond.methodLink own idx y ∈ gT) : match X with
  | (p, l, e, R, s, m, args, below, meth, c, D, cs, ad, A, Z, L, kc, kn) => CallB R s args own idx y cc1 nL1 ret1 (.code y cc1 nL1 ret1 :: gT) (gRm d1) 0 0 n1 := by
  obtain ⟨p, l, e, R, s, m, args, below, meth, c, D, cs, ad, A, Z, L0, kc, kn⟩ := X
  obtain ⟨rfl, hx, hb, hml, hr, hlocks, hown, hts, hN, hK, hA, hn, hR1, hR2, hR3, hR4⟩ := ok
  refine callB_of n1 hts (gT_in hs.1) rfl rfl rfl (hts _ hs.2.1) (hts _ hl) hs.2.2.1 ⟨Nat.le_trans hd hR1, ?_⟩
  show 8 + (nL1 + 11) + 40 * d1 ≤ R.locals
  have := hs.2.2.2
  omega
set_option maxHeartbeats 4000000 in
theorem g_callVi {X : gX} {cc : ByteArray} {own : String} {d nL : Nat} {ret : Option FieldType} {L : List Nat} (ok : gOk X cc own d nL ret L) {pc : Nat} {lv : List (Option gV)} {st stk : List gV} {M : gM} {i d1 n1 nL1 idx : Nat} {y : MethodName} {cc1 : ByteArray} {ty : FieldType} {as : List gV} {Q : Int32 → gM → Prop} (hlv : lv.length = nL)
    (hC : gCi L d1 y cc1 nL1 ty (.inr i :: as) M Q) (hs : gSt y cc1 nL1 (some ty) n1) (has : as.length = n1) (hd : d1 + 1 ≤ d) (hi : i ∈ L) (hcl : gCls i y.cls) (hsel : Cond.selects y.cls y y ∈ gT) (hins : Cond.instanceMethod y ∈ gT) (hst : st.length ≤ 8) (hstk : stk = as.reverse ++ .inr i :: st) (hl : Cond.methodLink own idx y ∈ gT) (hdg : decode cc pc = .ok (.invokevirtual idx, 3))
    (kk : ∀ r M1, Q r M1 → gW X (pc + 3) lv (.inl r :: st) M1) : gW X pc lv stk M := by
  have hB := gcallB ok hs hd hl
  obtain ⟨p, l, e, R, s, m, args, below, meth, c, D, cs, ad, A, Z, L0, kc, kn⟩ := X
  obtain ⟨rfl, hx, hb, hml, hr, hlocks, hown, hts, hN, hK, hA, hn, hR1, hR2, hR3, hR4⟩ := ok
  subst hstk
  obtain ⟨ci, N, T, fs, hc1, hc2⟩ := hcl
  intro H locs ls a1 a2 a3 a4
  obtain ⟨q, hq, -⟩ := gw_get cs ad M hi
  rw [hc2] at hq
  have hF := gA_free a2 a3 hA
  refine va_calli (va_runV (As := as.map (gv ad)) (rest := st.map (gv ad)) (b := ad i) (nL := nL) ⟨hx, hb, hml, hown, hts⟩ (hC l D cs ad H.size) ⟨hB, hts _ hins, hts _ hsel⟩ ⟨gPre_blind, va_recv hK a1 hc1 hq, fun U hU hW => ⟨rfl, by rw [hU], by rw [hU]; exact a1, va_K.moved hW.alike hK, hN.warm hW, a2.weaken (fun _ _ _ _ => trivial)⟩⟩ rfl (by rw [List.length_map]; exact has) (a4.1.trans hlv) (by show List.map (gv ad) (as.reverse ++ .inr i :: st) = _; rw [List.map_append, List.map_reverse]; rfl) (lv_room (by rw [gsum]; exact hst)) hdg ⟨hR3, hR4⟩) a3 (fun q _ h => hF q h) hF (fun r u t H1 locs1 ht hvm hw hB1 hz1 hk1 hS1 => ?_)
  rw [← ht] at hS1 ⊢
  exact kk r u hw t.heap locs1 ls hB1.1 (hB1.2.weaken (fun k q _ h => hF q.1 h)) hS1 a4
set_option maxHeartbeats 4000000 in
theorem g_callVv {X : gX} {cc : ByteArray} {own : String} {d nL : Nat} {ret : Option FieldType} {L : List Nat} (ok : gOk X cc own d nL ret L) {pc : Nat} {lv : List (Option gV)} {st stk : List gV} {M : gM} {i d1 n1 nL1 idx : Nat} {y : MethodName} {cc1 : ByteArray} {as : List gV} {Q : gM → Prop} (hlv : lv.length = nL)
    (hC : gCv L d1 y cc1 nL1 (.inr i :: as) M Q) (hs : gSt y cc1 nL1 none n1) (has : as.length = n1) (hd : d1 + 1 ≤ d) (hi : i ∈ L) (hcl : gCls i y.cls) (hsel : Cond.selects y.cls y y ∈ gT) (hins : Cond.instanceMethod y ∈ gT) (hst : st.length ≤ 8) (hstk : stk = as.reverse ++ .inr i :: st) (hl : Cond.methodLink own idx y ∈ gT) (hdg : decode cc pc = .ok (.invokevirtual idx, 3))
    (kk : ∀ M1, Q M1 → gW X (pc + 3) lv st M1) : gW X pc lv stk M := by
  have hB := gcallB ok hs hd hl
  obtain ⟨p, l, e, R, s, m, args, below, meth, c, D, cs, ad, A, Z, L0, kc, kn⟩ := X
  obtain ⟨rfl, hx, hb, hml, hr, hlocks, hown, hts, hN, hK, hA, hn, hR1, hR2, hR3, hR4⟩ := ok
  subst hstk
  obtain ⟨ci, N, T, fs, hc1, hc2⟩ := hcl
  intro H locs ls a1 a2 a3 a4
  obtain ⟨q, hq, -⟩ := gw_get cs ad M hi
  rw [hc2] at hq
  have hF := gA_free a2 a3 hA
  refine va_callv (va_runV (As := as.map (gv ad)) (rest := st.map (gv ad)) (b := ad i) (nL := nL) ⟨hx, hb, hml, hown, hts⟩ (hC l D cs ad H.size) ⟨hB, hts _ hins, hts _ hsel⟩ ⟨gPre_blind, va_recv hK a1 hc1 hq, fun U hU hW => ⟨rfl, by rw [hU], by rw [hU]; exact a1, va_K.moved hW.alike hK, hN.warm hW, a2.weaken (fun _ _ _ _ => trivial)⟩⟩ rfl (by rw [List.length_map]; exact has) (a4.1.trans hlv) (by show List.map (gv ad) (as.reverse ++ .inr i :: st) = _; rw [List.map_append, List.map_reverse]; rfl) (lv_room (by rw [gsum]; exact hst)) hdg ⟨hR3, hR4⟩) a3 (fun q _ h => hF q h) hF (fun u t H1 locs1 ht hvm hw hB1 hz1 hk1 hS1 => ?_)
  rw [← ht] at hS1 ⊢
  exact kk u hw t.heap locs1 ls hB1.1 (hB1.2.weaken (fun k q _ h => hF q.1 h)) hS1 a4
set_option maxHeartbeats 4000000 in
theorem g_callSi {X : gX} {cc : ByteArray} {own : String} {d nL : Nat} {ret : Option FieldType} {L : List Nat} (ok : gOk X cc own d nL ret L) {pc : Nat} {lv : List (Option gV)} {st stk : List gV} {M : gM} {d1 n1 nL1 idx : Nat} {y : MethodName} {cc1 : ByteArray} {ty : FieldType} {as : List gV} {Q : Int32 → gM → Prop} (hlv : lv.length = nL)
    (hC : gCi L d1 y cc1 nL1 ty as M Q) (hs : gSt y cc1 nL1 (some ty) n1) (has : as.length = n1) (hd : d1 + 1 ≤ d) (hstt : Cond.static y ∈ gT) (hst : st.length ≤ 8) (hstk : stk = as.reverse ++ st) (hl : Cond.methodLink own idx y ∈ gT) (hdg : decode cc pc = .ok (.invokestatic idx, 3))
    (kk : ∀ r M1, Q r M1 → gW X (pc + 3) lv (.inl r :: st) M1) : gW X pc lv stk M := by
  have hB := gcallB ok hs hd hl
  obtain ⟨p, l, e, R, s, m, args, below, meth, c, D, cs, ad, A, Z, L0, kc, kn⟩ := X
  obtain ⟨rfl, hx, hb, hml, hr, hlocks, hown, hts, hN, hK, hA, hn, hR1, hR2, hR3, hR4⟩ := ok
  subst hstk
  intro H locs ls a1 a2 a3 a4
  have hF := gA_free a2 a3 hA
  refine va_calli (va_runS (As := as.map (gv ad)) (rest := st.map (gv ad)) (nL := nL) ⟨hx, hb, hml, hown, hts⟩ (hC l D cs ad H.size) ⟨hB, hts _ hstt⟩ ⟨gPre_blind, fun U hU hW => ⟨rfl, by rw [hU], by rw [hU]; exact a1, va_K.moved hW.alike hK, hN.warm hW, a2.weaken (fun _ _ _ _ => trivial)⟩⟩ rfl (by rw [List.length_map]; exact has) (a4.1.trans hlv) (by show List.map (gv ad) (as.reverse ++ st) = _; rw [List.map_append, List.map_reverse]) (lv_room (by rw [gsum]; exact hst)) hdg ⟨hR3, hR4⟩) a3 (fun q _ h => hF q h) hF (fun r u t H1 locs1 ht hvm hw hB1 hz1 hk1 hS1 => ?_)
  rw [← ht] at hS1 ⊢
  exact kk r u hw t.heap locs1 ls hB1.1 (hB1.2.weaken (fun k q _ h => hF q.1 h)) hS1 a4
set_option maxHeartbeats 4000000 in
theorem g_callSv {X : gX} {cc : ByteArray} {own : String} {d nL : Nat} {ret : Option FieldType} {L : List Nat} (ok : gOk X cc own d nL ret L) {pc : Nat} {lv : List (Option gV)} {st stk : List gV} {M : gM} {d1 n1 nL1 idx : Nat} {y : MethodName} {cc1 : ByteArray} {as : List gV} {Q : gM → Prop} (hlv : lv.length = nL)
    (hC : gCv L d1 y cc1 nL1 as M Q) (hs : gSt y cc1 nL1 none n1) (has : as.length = n1) (hd : d1 + 1 ≤ d) (hstt : Cond.static y ∈ gT) (hst : st.length ≤ 8) (hstk : stk = as.reverse ++ st) (hl : Cond.methodLink own idx y ∈ gT) (hdg : decode cc pc = .ok (.invokestatic idx, 3))
    (kk : ∀ M1, Q M1 → gW X (pc + 3) lv st M1) : gW X pc lv stk M := by
  have hB := gcallB ok hs hd hl
  obtain ⟨p, l, e, R, s, m, args, below, meth, c, D, cs, ad, A, Z, L0, kc, kn⟩ := X
  obtain ⟨rfl, hx, hb, hml, hr, hlocks, hown, hts, hN, hK, hA, hn, hR1, hR2, hR3, hR4⟩ := ok
  subst hstk
  intro H locs ls a1 a2 a3 a4
  have hF := gA_free a2 a3 hA
  refine va_callv (va_runS (As := as.map (gv ad)) (rest := st.map (gv ad)) (nL := nL) ⟨hx, hb, hml, hown, hts⟩ (hC l D cs ad H.size) ⟨hB, hts _ hstt⟩ ⟨gPre_blind, fun U hU hW => ⟨rfl, by rw [hU], by rw [hU]; exact a1, va_K.moved hW.alike hK, hN.warm hW, a2.weaken (fun _ _ _ _ => trivial)⟩⟩ rfl (by rw [List.length_map]; exact has) (a4.1.trans hlv) (by show List.map (gv ad) (as.reverse ++ st) = _; rw [List.map_append, List.map_reverse]) (lv_room (by rw [gsum]; exact hst)) hdg ⟨hR3, hR4⟩) a3 (fun q _ h => hF q h) hF (fun u t H1 locs1 ht hvm hw hB1 hz1 hk1 hS1 => ?_)
  rw [← ht] at hS1 ⊢
  exact kk u hw t.heap locs1 ls hB1.1 (hB1.2.weaken (fun k q _ h => hF q.1 h)) hS1 a4
set_option maxHeartbeats 4000000 in
theorem g_callNi {X : gX} {cc : ByteArray} {own : String} {d nL : Nat} {ret : Option FieldType} {L : List Nat} (ok : gOk X cc own d nL ret L) {pc : Nat} {lv : List (Option gV)} {st stk : List gV} {M : gM} {d1 n1 nL1 idx : Nat} {y : MethodName} {cc1 : ByteArray} {ty : FieldType} {as : List gV} {Q : Int32 → gM → Prop} (hlv : lv.length = nL)
    (hC : gCi L d1 y cc1 nL1 ty as M Q) (hs : gSt y cc1 nL1 (some ty) n1) (has : as.length = n1) (hd : d1 + 1 ≤ d) (hstt : Cond.static y ∈ gT) (hst : st.length ≤ 8) (hstk : stk = as.reverse ++ st) {host : String} (hl : Cond.methodLinkNest own idx y host ∈ gNest) (hdg : decode cc pc = .ok (.invokestatic idx, 3))
    (kk : ∀ r M1, Q r M1 → gW X (pc + 3) lv (.inl r :: st) M1) : gW X pc lv stk M := by
  obtain ⟨p, l, e, R, s, m, args, below, meth, c, D, cs, ad, A, Z, L0, kc, kn⟩ := X
  obtain ⟨rfl, hx, hb, hml, hr, hlocks, hown, hts, hN, hK, hA, hn, hR1, hR2, hR3, hR4⟩ := ok
  subst hstk
  intro H locs ls a1 a2 a3 a4
  have hF := gA_free a2 a3 hA
  have hB : va_CN R s args own idx y host cc1 nL1 (some ty) (.code y cc1 nL1 (some ty) :: gT) (gRm d1) 0 0 n1 := va_cnB n1 hts (gT_in hs.1) rfl rfl rfl (hN _ hl) (hts _ hs.2.1) hs.2.2.1 ⟨Nat.le_trans hd hR1, by
    show 8 + (nL1 + 11) + 40 * d1 ≤ R.locals
    have := hs.2.2.2
    omega⟩
  refine va_calli (va_runSN (As := as.map (gv ad)) (rest := st.map (gv ad)) (nL := nL) ⟨hx, hb, hml, hown, hts⟩ (hC l D cs ad H.size) ⟨hB, hts _ hstt, trivial⟩ ⟨gPre_blind, fun U hU hW => ⟨rfl, by rw [hU], by rw [hU]; exact a1, va_K.moved hW.alike hK, hN.warm hW, a2.weaken (fun _ _ _ _ => trivial)⟩⟩ rfl (by rw [List.length_map]; exact has) (a4.1.trans hlv) (by show List.map (gv ad) (as.reverse ++ st) = _; rw [List.map_append, List.map_reverse]) (lv_room (by rw [gsum]; exact hst)) hdg ⟨hR3, hR4⟩) a3 (fun q _ h => hF q h) hF (fun r u t H1 locs1 ht hvm hw hB1 hz1 hk1 hS1 => ?_)
  rw [← ht] at hS1 ⊢
  exact kk r u hw t.heap locs1 ls hB1.1 (hB1.2.weaken (fun k q _ h => hF q.1 h)) hS1 a4
/-! one instruction -/
theorem g_iadd {X : gX} {cc : ByteArray} {own : String} {d nL : Nat} {ret : Option FieldType} {L : List Nat} (ok : gOk X cc own d nL ret L) {pc : Nat} {lv : List (Option gV)} {st : List gV} {M : gM} {x y : Int32} (hdg : decode cc pc = .ok (.iadd, 1)) (k : gW X (pc + 1) lv (.inl (x + y) :: st) M) : gW X pc lv (.inl y :: .inl x :: st) M := by
  obtain ⟨p, l, e, R, s, m, args, below, meth, c, D, cs, ad, A, Z, L0, kc, kn⟩ := X
  exact fun H locs ls a1 a2 a3 a4 => lv_iadd ok.2.1 ok.2.2.1 hdg (k H locs ls a1 a2 a3 a4)
theorem g_isub {X : gX} {cc : ByteArray} {own : String} {d nL : Nat} {ret : Option FieldType} {L : List Nat} (ok : gOk X cc own d nL ret L) {pc : Nat} {lv : List (Option gV)} {st : List gV} {M : gM} {x y : Int32} (hdg : decode cc pc = .ok (.isub, 1)) (k : gW X (pc + 1) lv (.inl (x - y) :: st) M) : gW X pc lv (.inl y :: .inl x :: st) M := by
  obtain ⟨p, l, e, R, s, m, args, below, meth, c, D, cs, ad, A, Z, L0, kc, kn⟩ := X
  exact fun H locs ls a1 a2 a3 a4 => lv_isub ok.2.1 ok.2.2.1 hdg (k H locs ls a1 a2 a3 a4)
theorem g_imul {X : gX} {cc : ByteArray} {own : String} {d nL : Nat} {ret : Option FieldType} {L : List Nat} (ok : gOk X cc own d nL ret L) {pc : Nat} {lv : List (Option gV)} {st : List gV} {M : gM} {x y : Int32} (hdg : decode cc pc = .ok (.imul, 1)) (k : gW X (pc + 1) lv (.inl (x * y) :: st) M) : gW X pc lv (.inl y :: .inl x :: st) M := by
  obtain ⟨p, l, e, R, s, m, args, below, meth, c, D, cs, ad, A, Z, L0, kc, kn⟩ := X
  exact fun H locs ls a1 a2 a3 a4 => lv_imul ok.2.1 ok.2.2.1 hdg (k H locs ls a1 a2 a3 a4)
theorem g_iand {X : gX} {cc : ByteArray} {own : String} {d nL : Nat} {ret : Option FieldType} {L : List Nat} (ok : gOk X cc own d nL ret L) {pc : Nat} {lv : List (Option gV)} {st : List gV} {M : gM} {x y : Int32} (hdg : decode cc pc = .ok (.iand, 1)) (k : gW X (pc + 1) lv (.inl (x &&& y) :: st) M) : gW X pc lv (.inl y :: .inl x :: st) M := by
  obtain ⟨p, l, e, R, s, m, args, below, meth, c, D, cs, ad, A, Z, L0, kc, kn⟩ := X
  exact fun H locs ls a1 a2 a3 a4 => lv_iand ok.2.1 ok.2.2.1 hdg (k H locs ls a1 a2 a3 a4)
theorem g_ior {X : gX} {cc : ByteArray} {own : String} {d nL : Nat} {ret : Option FieldType} {L : List Nat} (ok : gOk X cc own d nL ret L) {pc : Nat} {lv : List (Option gV)} {st : List gV} {M : gM} {x y : Int32} (hdg : decode cc pc = .ok (.ior, 1)) (k : gW X (pc + 1) lv (.inl (x ||| y) :: st) M) : gW X pc lv (.inl y :: .inl x :: st) M := by
  obtain ⟨p, l, e, R, s, m, args, below, meth, c, D, cs, ad, A, Z, L0, kc, kn⟩ := X
  exact fun H locs ls a1 a2 a3 a4 => lv_ior ok.2.1 ok.2.2.1 hdg (k H locs ls a1 a2 a3 a4)
theorem g_ixor {X : gX} {cc : ByteArray} {own : String} {d nL : Nat} {ret : Option FieldType} {L : List Nat} (ok : gOk X cc own d nL ret L) {pc : Nat} {lv : List (Option gV)} {st : List gV} {M : gM} {x y : Int32} (hdg : decode cc pc = .ok (.ixor, 1)) (k : gW X (pc + 1) lv (.inl (x ^^^ y) :: st) M) : gW X pc lv (.inl y :: .inl x :: st) M := by
  obtain ⟨p, l, e, R, s, m, args, below, meth, c, D, cs, ad, A, Z, L0, kc, kn⟩ := X
  exact fun H locs ls a1 a2 a3 a4 => lv_ixor ok.2.1 ok.2.2.1 hdg (k H locs ls a1 a2 a3 a4)
theorem g_ishl {X : gX} {cc : ByteArray} {own : String} {d nL : Nat} {ret : Option FieldType} {L : List Nat} (ok : gOk X cc own d nL ret L) {pc : Nat} {lv : List (Option gV)} {st : List gV} {M : gM} {x y : Int32} (hdg : decode cc pc = .ok (.ishl, 1)) (k : gW X (pc + 1) lv (.inl (x <<< (y &&& 31)) :: st) M) : gW X pc lv (.inl y :: .inl x :: st) M := by
  obtain ⟨p, l, e, R, s, m, args, below, meth, c, D, cs, ad, A, Z, L0, kc, kn⟩ := X
  exact fun H locs ls a1 a2 a3 a4 => lv_ishl ok.2.1 ok.2.2.1 hdg (k H locs ls a1 a2 a3 a4)
theorem g_ishr {X : gX} {cc : ByteArray} {own : String} {d nL : Nat} {ret : Option FieldType} {L : List Nat} (ok : gOk X cc own d nL ret L) {pc : Nat} {lv : List (Option gV)} {st : List gV} {M : gM} {x y : Int32} (hdg : decode cc pc = .ok (.ishr, 1)) (k : gW X (pc + 1) lv (.inl (x >>> (y &&& 31)) :: st) M) : gW X pc lv (.inl y :: .inl x :: st) M := by
  obtain ⟨p, l, e, R, s, m, args, below, meth, c, D, cs, ad, A, Z, L0, kc, kn⟩ := X
  exact fun H locs ls a1 a2 a3 a4 => lv_ishr ok.2.1 ok.2.2.1 hdg (k H locs ls a1 a2 a3 a4)
theorem g_idiv {X : gX} {cc : ByteArray} {own : String} {d nL : Nat} {ret : Option FieldType} {L : List Nat} (ok : gOk X cc own d nL ret L) {pc : Nat} {lv : List (Option gV)} {st : List gV} {M : gM} {x y : Int32} (hdg : decode cc pc = .ok (.idiv, 1)) (hne : ¬ y = 0) (k : gW X (pc + 1) lv (.inl (x / y) :: st) M) : gW X pc lv (.inl y :: .inl x :: st) M := by
  obtain ⟨p, l, e, R, s, m, args, below, meth, c, D, cs, ad, A, Z, L0, kc, kn⟩ := X
  exact fun H locs ls a1 a2 a3 a4 => lv_idiv ok.2.1 ok.2.2.1 hdg hne (k H locs ls a1 a2 a3 a4)
theorem g_irem {X : gX} {cc : ByteArray} {own : String} {d nL : Nat} {ret : Option FieldType} {L : List Nat} (ok : gOk X cc own d nL ret L) {pc : Nat} {lv : List (Option gV)} {st : List gV} {M : gM} {x y : Int32} (hdg : decode cc pc = .ok (.irem, 1)) (hne : ¬ y = 0) (k : gW X (pc + 1) lv (.inl (x - x / y * y) :: st) M) : gW X pc lv (.inl y :: .inl x :: st) M := by
  obtain ⟨p, l, e, R, s, m, args, below, meth, c, D, cs, ad, A, Z, L0, kc, kn⟩ := X
  exact fun H locs ls a1 a2 a3 a4 => lv_irem ok.2.1 ok.2.2.1 hdg hne (k H locs ls a1 a2 a3 a4)
theorem g_ineg {X : gX} {cc : ByteArray} {own : String} {d nL : Nat} {ret : Option FieldType} {L : List Nat} (ok : gOk X cc own d nL ret L) {pc : Nat} {lv : List (Option gV)} {st : List gV} {M : gM} {x : Int32} (hdg : decode cc pc = .ok (.ineg, 1)) (k : gW X (pc + 1) lv (.inl (-x) :: st) M) : gW X pc lv (.inl x :: st) M := by
  obtain ⟨p, l, e, R, s, m, args, below, meth, c, D, cs, ad, A, Z, L0, kc, kn⟩ := X
  exact fun H locs ls a1 a2 a3 a4 => lv_ineg ok.2.1 ok.2.2.1 hdg (k H locs ls a1 a2 a3 a4)
theorem g_iushr {X : gX} {cc : ByteArray} {own : String} {d nL : Nat} {ret : Option FieldType} {L : List Nat} (ok : gOk X cc own d nL ret L) {pc : Nat} {lv : List (Option gV)} {st : List gV} {M : gM} {x y : Int32} (hdg : decode cc pc = .ok (.iushr, 1)) (k : gW X (pc + 1) lv (.inl ((x.toUInt32 >>> (y.toUInt32 &&& Int32.toUInt32 31)).toInt32) :: st) M) : gW X pc lv (.inl y :: .inl x :: st) M := by
  obtain ⟨p, l, e, R, s, m, args, below, meth, c, D, cs, ad, A, Z, L0, kc, kn⟩ := X
  exact fun H locs ls a1 a2 a3 a4 => lv_iushr ok.2.1 ok.2.2.1 hdg rfl (k H locs ls a1 a2 a3 a4)
theorem g_i2c {X : gX} {cc : ByteArray} {own : String} {d nL : Nat} {ret : Option FieldType} {L : List Nat} (ok : gOk X cc own d nL ret L) {pc : Nat} {lv : List (Option gV)} {st : List gV} {M : gM} {x : Int32} (hdg : decode cc pc = .ok (.i2c, 1)) (k : gW X (pc + 1) lv (.inl ((x.toUInt32 % 65536).toInt32) :: st) M) : gW X pc lv (.inl x :: st) M := by
  obtain ⟨p, l, e, R, s, m, args, below, meth, c, D, cs, ad, A, Z, L0, kc, kn⟩ := X
  exact fun H locs ls a1 a2 a3 a4 => lv_i2c ok.2.1 ok.2.2.1 hdg rfl (k H locs ls a1 a2 a3 a4)
theorem g_iconst {X : gX} {cc : ByteArray} {own : String} {d nL : Nat} {ret : Option FieldType} {L : List Nat} (ok : gOk X cc own d nL ret L) {pc : Nat} {lv : List (Option gV)} {st : List gV} {M : gM} {n : Int} {v : Int32} (hdg : decode cc pc = .ok (.iconst n, 1)) (hv : Int32.ofInt n = v) (k : gW X (pc + 1) lv (.inl v :: st) M) : gW X pc lv (st) M := by
  obtain ⟨p, l, e, R, s, m, args, below, meth, c, D, cs, ad, A, Z, L0, kc, kn⟩ := X
  exact fun H locs ls a1 a2 a3 a4 => lv_iconst ok.2.1 ok.2.2.1 hdg hv (k H locs ls a1 a2 a3 a4)
theorem g_bipush {X : gX} {cc : ByteArray} {own : String} {d nL : Nat} {ret : Option FieldType} {L : List Nat} (ok : gOk X cc own d nL ret L) {pc : Nat} {lv : List (Option gV)} {st : List gV} {M : gM} {n : Int} {v : Int32} (hdg : decode cc pc = .ok (.bipush n, 2)) (hv : (Int8.ofInt n).toInt32 = v) (k : gW X (pc + 2) lv (.inl v :: st) M) : gW X pc lv (st) M := by
  obtain ⟨p, l, e, R, s, m, args, below, meth, c, D, cs, ad, A, Z, L0, kc, kn⟩ := X
  exact fun H locs ls a1 a2 a3 a4 => lv_bipush ok.2.1 ok.2.2.1 hdg hv (k H locs ls a1 a2 a3 a4)
theorem g_sipush {X : gX} {cc : ByteArray} {own : String} {d nL : Nat} {ret : Option FieldType} {L : List Nat} (ok : gOk X cc own d nL ret L) {pc : Nat} {lv : List (Option gV)} {st : List gV} {M : gM} {n : Int} {v : Int32} (hdg : decode cc pc = .ok (.sipush n, 3)) (hv : (Int16.ofInt n).toInt32 = v) (k : gW X (pc + 3) lv (.inl v :: st) M) : gW X pc lv (st) M := by
  obtain ⟨p, l, e, R, s, m, args, below, meth, c, D, cs, ad, A, Z, L0, kc, kn⟩ := X
  exact fun H locs ls a1 a2 a3 a4 => lv_sipush ok.2.1 ok.2.2.1 hdg hv (k H locs ls a1 a2 a3 a4)
theorem g_dup {X : gX} {cc : ByteArray} {own : String} {d nL : Nat} {ret : Option FieldType} {L : List Nat} (ok : gOk X cc own d nL ret L) {pc : Nat} {lv : List (Option gV)} {st : List gV} {M : gM} {v : gV} (hdg : decode cc pc = .ok (.dup, 1)) (k : gW X (pc + 1) lv (v :: v :: st) M) : gW X pc lv (v :: st) M := by
  obtain ⟨p, l, e, R, s, m, args, below, meth, c, D, cs, ad, A, Z, L0, kc, kn⟩ := X
  exact fun H locs ls a1 a2 a3 a4 => lv_dup ok.2.1 ok.2.2.1 hdg (gv_cat ad v) (k H locs ls a1 a2 a3 a4)
theorem g_pop {X : gX} {cc : ByteArray} {own : String} {d nL : Nat} {ret : Option FieldType} {L : List Nat} (ok : gOk X cc own d nL ret L) {pc : Nat} {lv : List (Option gV)} {st : List gV} {M : gM} {v : gV} (hdg : decode cc pc = .ok (.pop, 1)) (k : gW X (pc + 1) lv (st) M) : gW X pc lv (v :: st) M := by
  obtain ⟨p, l, e, R, s, m, args, below, meth, c, D, cs, ad, A, Z, L0, kc, kn⟩ := X
  exact fun H locs ls a1 a2 a3 a4 => lv_pop ok.2.1 ok.2.2.1 hdg (gv_cat ad v) (k H locs ls a1 a2 a3 a4)
theorem g_dup2 {X : gX} {cc : ByteArray} {own : String} {d nL : Nat} {ret : Option FieldType} {L : List Nat} (ok : gOk X cc own d nL ret L) {pc : Nat} {lv : List (Option gV)} {st : List gV} {M : gM} {v w : gV} (hdg : decode cc pc = .ok (.dup2, 1)) (k : gW X (pc + 1) lv (v :: w :: v :: w :: st) M) : gW X pc lv (v :: w :: st) M := by
  obtain ⟨p, l, e, R, s, m, args, below, meth, c, D, cs, ad, A, Z, L0, kc, kn⟩ := X
  exact fun H locs ls a1 a2 a3 a4 => lv_dup2_11 ok.2.1 ok.2.2.1 hdg (gv_cat ad v) (gv_cat ad w) (k H locs ls a1 a2 a3 a4)
theorem g_iload_n {X : gX} {cc : ByteArray} {own : String} {d nL : Nat} {ret : Option FieldType} {L : List Nat} (ok : gOk X cc own d nL ret L) {pc : Nat} {lv : List (Option gV)} {st : List gV} {M : gM} {q : Fin 4} {i : Nat} {x : Int32} (hdg : decode cc pc = .ok (.iload_n q, 1)) (hi : (q : Nat) = i) (hl : lv[i]? = some (some (.inl x))) (k : gW X (pc + 1) lv (.inl x :: st) M) : gW X pc lv (st) M := by
  obtain ⟨p, l, e, R, s, m, args, below, meth, c, D, cs, ad, A, Z, L0, kc, kn⟩ := X
  exact fun H locs ls a1 a2 a3 a4 => lv_iload_n ok.2.1 ok.2.2.1 hdg hi (gls_at a4 hl) (k H locs ls a1 a2 a3 a4)
theorem g_iload {X : gX} {cc : ByteArray} {own : String} {d nL : Nat} {ret : Option FieldType} {L : List Nat} (ok : gOk X cc own d nL ret L) {pc : Nat} {lv : List (Option gV)} {st : List gV} {M : gM} {i : Nat} {x : Int32} (hdg : decode cc pc = .ok (.iload i, 2)) (hl : lv[i]? = some (some (.inl x))) (k : gW X (pc + 2) lv (.inl x :: st) M) : gW X pc lv (st) M := by
  obtain ⟨p, l, e, R, s, m, args, below, meth, c, D, cs, ad, A, Z, L0, kc, kn⟩ := X
  exact fun H locs ls a1 a2 a3 a4 => lv_iload ok.2.1 ok.2.2.1 hdg (gls_at a4 hl) (k H locs ls a1 a2 a3 a4)
theorem g_aload_n {X : gX} {cc : ByteArray} {own : String} {d nL : Nat} {ret : Option FieldType} {L : List Nat} (ok : gOk X cc own d nL ret L) {pc : Nat} {lv : List (Option gV)} {st : List gV} {M : gM} {q : Fin 4} {i : Nat} {x : Nat} (hdg : decode cc pc = .ok (.aload_n q, 1)) (hi : (q : Nat) = i) (hl : lv[i]? = some (some (.inr x))) (k : gW X (pc + 1) lv (.inr x :: st) M) : gW X pc lv (st) M := by
  obtain ⟨p, l, e, R, s, m, args, below, meth, c, D, cs, ad, A, Z, L0, kc, kn⟩ := X
  exact fun H locs ls a1 a2 a3 a4 => lv_aload_n ok.2.1 ok.2.2.1 hdg hi (gls_at a4 hl) (k H locs ls a1 a2 a3 a4)
theorem g_aload {X : gX} {cc : ByteArray} {own : String} {d nL : Nat} {ret : Option FieldType} {L : List Nat} (ok : gOk X cc own d nL ret L) {pc : Nat} {lv : List (Option gV)} {st : List gV} {M : gM} {i : Nat} {x : Nat} (hdg : decode cc pc = .ok (.aload i, 2)) (hl : lv[i]? = some (some (.inr x))) (k : gW X (pc + 2) lv (.inr x :: st) M) : gW X pc lv (st) M := by
  obtain ⟨p, l, e, R, s, m, args, below, meth, c, D, cs, ad, A, Z, L0, kc, kn⟩ := X
  exact fun H locs ls a1 a2 a3 a4 => lv_aload ok.2.1 ok.2.2.1 hdg (gls_at a4 hl) (k H locs ls a1 a2 a3 a4)
theorem g_istore_n {X : gX} {cc : ByteArray} {own : String} {d nL : Nat} {ret : Option FieldType} {L : List Nat} (ok : gOk X cc own d nL ret L) {pc : Nat} {lv lv1 : List (Option gV)} {st : List gV} {M : gM} {q : Fin 4} {i : Nat} {x : Int32} (hdg : decode cc pc = .ok (.istore_n q, 1)) (hi : (q : Nat) = i) (hi2 : i < lv.length) (hl : lv.set i (some (.inl x)) = lv1) (k : gW X (pc + 1) lv1 st M) : gW X pc lv (.inl x :: st) M := by
  obtain ⟨p, l, e, R, s, m, args, below, meth, c, D, cs, ad, A, Z, L0, kc, kn⟩ := X
  subst hl
  exact fun H locs ls a1 a2 a3 a4 => lv_istore_n ok.2.1 ok.2.2.1 hdg hi a4 hi2 rfl (fun ls1 b4 => k H locs ls1 a1 a2 a3 (gls_set b4))
theorem g_istore {X : gX} {cc : ByteArray} {own : String} {d nL : Nat} {ret : Option FieldType} {L : List Nat} (ok : gOk X cc own d nL ret L) {pc : Nat} {lv lv1 : List (Option gV)} {st : List gV} {M : gM} {i : Nat} {x : Int32} (hdg : decode cc pc = .ok (.istore i, 2)) (hi2 : i < lv.length) (hl : lv.set i (some (.inl x)) = lv1) (k : gW X (pc + 2) lv1 st M) : gW X pc lv (.inl x :: st) M := by
  obtain ⟨p, l, e, R, s, m, args, below, meth, c, D, cs, ad, A, Z, L0, kc, kn⟩ := X
  subst hl
  exact fun H locs ls a1 a2 a3 a4 => lv_istore ok.2.1 ok.2.2.1 hdg a4 hi2 rfl (fun ls1 b4 => k H locs ls1 a1 a2 a3 (gls_set b4))
theorem g_astore_n {X : gX} {cc : ByteArray} {own : String} {d nL : Nat} {ret : Option FieldType} {L : List Nat} (ok : gOk X cc own d nL ret L) {pc : Nat} {lv lv1 : List (Option gV)} {st : List gV} {M : gM} {q : Fin 4} {i : Nat} {x : Nat} (hdg : decode cc pc = .ok (.astore_n q, 1)) (hi : (q : Nat) = i) (hi2 : i < lv.length) (hl : lv.set i (some (.inr x)) = lv1) (k : gW X (pc + 1) lv1 st M) : gW X pc lv (.inr x :: st) M := by
  obtain ⟨p, l, e, R, s, m, args, below, meth, c, D, cs, ad, A, Z, L0, kc, kn⟩ := X
  subst hl
  exact fun H locs ls a1 a2 a3 a4 => lv_astore_n ok.2.1 ok.2.2.1 hdg hi a4 hi2 rfl (fun ls1 b4 => k H locs ls1 a1 a2 a3 (gls_set b4))
theorem g_astore {X : gX} {cc : ByteArray} {own : String} {d nL : Nat} {ret : Option FieldType} {L : List Nat} (ok : gOk X cc own d nL ret L) {pc : Nat} {lv lv1 : List (Option gV)} {st : List gV} {M : gM} {i : Nat} {x : Nat} (hdg : decode cc pc = .ok (.astore i, 2)) (hi2 : i < lv.length) (hl : lv.set i (some (.inr x)) = lv1) (k : gW X (pc + 2) lv1 st M) : gW X pc lv (.inr x :: st) M := by
  obtain ⟨p, l, e, R, s, m, args, below, meth, c, D, cs, ad, A, Z, L0, kc, kn⟩ := X
  subst hl
  exact fun H locs ls a1 a2 a3 a4 => lv_astore ok.2.1 ok.2.2.1 hdg a4 hi2 rfl (fun ls1 b4 => k H locs ls1 a1 a2 a3 (gls_set b4))
theorem g_iinc {X : gX} {cc : ByteArray} {own : String} {d nL : Nat} {ret : Option FieldType} {L : List Nat} (ok : gOk X cc own d nL ret L) {pc : Nat} {lv lv1 : List (Option gV)} {st : List gV} {M : gM} {i : Nat} {n : Int} {x v : Int32} (hdg : decode cc pc = .ok (.iinc i n, 3)) (hx : lv[i]? = some (some (.inl x))) (hv : x + Int32.ofInt n = v) (hl : lv.set i (some (.inl v)) = lv1) (k : gW X (pc + 3) lv1 st M) : gW X pc lv st M := by
  obtain ⟨p, l, e, R, s, m, args, below, meth, c, D, cs, ad, A, Z, L0, kc, kn⟩ := X
  subst hl
  intro H locs ls a1 a2 a3 a4
  obtain ⟨j, hj⟩ := List.getElem?_of_mem (gls_in (ad := ad) (n := 0) hx)
  rw [Nat.zero_add] at hj
  exact lv_iinc ok.2.1 ok.2.2.1 hdg a4 hj hv (List.getElem?_eq_some_iff.mp hx).1 rfl (fun ls1 b4 => k H locs ls1 a1 a2 a3 (gls_set (v := .inl v) b4))
theorem g_if_eq {X : gX} {cc : ByteArray} {own : String} {d nL : Nat} {ret : Option FieldType} {L : List Nat} (ok : gOk X cc own d nL ret L) {pc : Nat} {lv : List (Option gV)} {st : List gV} {M : gM} {x : Int32} {off : Int} {tgt : Nat} (hdg : decode cc pc = .ok (.ifCond .eq off, 3)) (ht : (pc : Int) + off = (tgt : Int)) (kt : x = 0 → gW X tgt lv st M) (kf : ¬ x = 0 → gW X (pc + 3) lv st M) : gW X pc lv (.inl x :: st) M := by
  obtain ⟨p, l, e, R, s, m, args, below, meth, c, D, cs, ad, A, Z, L0, kc, kn⟩ := X
  exact fun H locs ls a1 a2 a3 a4 => lv_if_eq ok.2.1 ok.2.2.1 hdg ht (fun z => kt (z) H locs ls a1 a2 a3 a4) (fun z => kf (z) H locs ls a1 a2 a3 a4)
theorem g_icmp_eq {X : gX} {cc : ByteArray} {own : String} {d nL : Nat} {ret : Option FieldType} {L : List Nat} (ok : gOk X cc own d nL ret L) {pc : Nat} {lv : List (Option gV)} {st : List gV} {M : gM} {x y : Int32} {off : Int} {tgt : Nat} (hdg : decode cc pc = .ok (.if_icmp .eq off, 3)) (ht : (pc : Int) + off = (tgt : Int)) (kt : x = y → gW X tgt lv st M) (kf : ¬ x = y → gW X (pc + 3) lv st M) : gW X pc lv (.inl y :: .inl x :: st) M := by
  obtain ⟨p, l, e, R, s, m, args, below, meth, c, D, cs, ad, A, Z, L0, kc, kn⟩ := X
  exact fun H locs ls a1 a2 a3 a4 => lv_icmp_eq ok.2.1 ok.2.2.1 hdg ht (fun z => kt (z) H locs ls a1 a2 a3 a4) (fun z => kf (z) H locs ls a1 a2 a3 a4)
theorem g_if_ne {X : gX} {cc : ByteArray} {own : String} {d nL : Nat} {ret : Option FieldType} {L : List Nat} (ok : gOk X cc own d nL ret L) {pc : Nat} {lv : List (Option gV)} {st : List gV} {M : gM} {x : Int32} {off : Int} {tgt : Nat} (hdg : decode cc pc = .ok (.ifCond .ne off, 3)) (ht : (pc : Int) + off = (tgt : Int)) (kt : ¬ x = 0 → gW X tgt lv st M) (kf : x = 0 → gW X (pc + 3) lv st M) : gW X pc lv (.inl x :: st) M := by
  obtain ⟨p, l, e, R, s, m, args, below, meth, c, D, cs, ad, A, Z, L0, kc, kn⟩ := X
  exact fun H locs ls a1 a2 a3 a4 => lv_if_ne ok.2.1 ok.2.2.1 hdg ht (fun z => kt (z) H locs ls a1 a2 a3 a4) (fun z => kf (z) H locs ls a1 a2 a3 a4)
theorem g_icmp_ne {X : gX} {cc : ByteArray} {own : String} {d nL : Nat} {ret : Option FieldType} {L : List Nat} (ok : gOk X cc own d nL ret L) {pc : Nat} {lv : List (Option gV)} {st : List gV} {M : gM} {x y : Int32} {off : Int} {tgt : Nat} (hdg : decode cc pc = .ok (.if_icmp .ne off, 3)) (ht : (pc : Int) + off = (tgt : Int)) (kt : ¬ x = y → gW X tgt lv st M) (kf : x = y → gW X (pc + 3) lv st M) : gW X pc lv (.inl y :: .inl x :: st) M := by
  obtain ⟨p, l, e, R, s, m, args, below, meth, c, D, cs, ad, A, Z, L0, kc, kn⟩ := X
  exact fun H locs ls a1 a2 a3 a4 => lv_icmp_ne ok.2.1 ok.2.2.1 hdg ht (fun z => kt (z) H locs ls a1 a2 a3 a4) (fun z => kf (z) H locs ls a1 a2 a3 a4)
theorem g_if_lt {X : gX} {cc : ByteArray} {own : String} {d nL : Nat} {ret : Option FieldType} {L : List Nat} (ok : gOk X cc own d nL ret L) {pc : Nat} {lv : List (Option gV)} {st : List gV} {M : gM} {x : Int32} {off : Int} {tgt : Nat} (hdg : decode cc pc = .ok (.ifCond .lt off, 3)) (ht : (pc : Int) + off = (tgt : Int)) (kt : x < 0 → gW X tgt lv st M) (kf : ¬ x < 0 → gW X (pc + 3) lv st M) : gW X pc lv (.inl x :: st) M := by
  obtain ⟨p, l, e, R, s, m, args, below, meth, c, D, cs, ad, A, Z, L0, kc, kn⟩ := X
  exact fun H locs ls a1 a2 a3 a4 => lv_if_lt ok.2.1 ok.2.2.1 hdg ht (fun z => kt (z) H locs ls a1 a2 a3 a4) (fun z => kf (z) H locs ls a1 a2 a3 a4)
theorem g_icmp_lt {X : gX} {cc : ByteArray} {own : String} {d nL : Nat} {ret : Option FieldType} {L : List Nat} (ok : gOk X cc own d nL ret L) {pc : Nat} {lv : List (Option gV)} {st : List gV} {M : gM} {x y : Int32} {off : Int} {tgt : Nat} (hdg : decode cc pc = .ok (.if_icmp .lt off, 3)) (ht : (pc : Int) + off = (tgt : Int)) (kt : x < y → gW X tgt lv st M) (kf : ¬ x < y → gW X (pc + 3) lv st M) : gW X pc lv (.inl y :: .inl x :: st) M := by
  obtain ⟨p, l, e, R, s, m, args, below, meth, c, D, cs, ad, A, Z, L0, kc, kn⟩ := X
  exact fun H locs ls a1 a2 a3 a4 => lv_icmp_lt ok.2.1 ok.2.2.1 hdg ht (fun z => kt (z) H locs ls a1 a2 a3 a4) (fun z => kf (z) H locs ls a1 a2 a3 a4)
theorem g_if_ge {X : gX} {cc : ByteArray} {own : String} {d nL : Nat} {ret : Option FieldType} {L : List Nat} (ok : gOk X cc own d nL ret L) {pc : Nat} {lv : List (Option gV)} {st : List gV} {M : gM} {x : Int32} {off : Int} {tgt : Nat} (hdg : decode cc pc = .ok (.ifCond .ge off, 3)) (ht : (pc : Int) + off = (tgt : Int)) (kt : ¬ x < 0 → gW X tgt lv st M) (kf : x < 0 → gW X (pc + 3) lv st M) : gW X pc lv (.inl x :: st) M := by
  obtain ⟨p, l, e, R, s, m, args, below, meth, c, D, cs, ad, A, Z, L0, kc, kn⟩ := X
  exact fun H locs ls a1 a2 a3 a4 => lv_if_ge ok.2.1 ok.2.2.1 hdg ht (fun z => kt (Int32.not_lt.mpr z) H locs ls a1 a2 a3 a4) (fun z => kf (Int32.not_le.mp z) H locs ls a1 a2 a3 a4)
theorem g_icmp_ge {X : gX} {cc : ByteArray} {own : String} {d nL : Nat} {ret : Option FieldType} {L : List Nat} (ok : gOk X cc own d nL ret L) {pc : Nat} {lv : List (Option gV)} {st : List gV} {M : gM} {x y : Int32} {off : Int} {tgt : Nat} (hdg : decode cc pc = .ok (.if_icmp .ge off, 3)) (ht : (pc : Int) + off = (tgt : Int)) (kt : ¬ x < y → gW X tgt lv st M) (kf : x < y → gW X (pc + 3) lv st M) : gW X pc lv (.inl y :: .inl x :: st) M := by
  obtain ⟨p, l, e, R, s, m, args, below, meth, c, D, cs, ad, A, Z, L0, kc, kn⟩ := X
  exact fun H locs ls a1 a2 a3 a4 => lv_icmp_ge ok.2.1 ok.2.2.1 hdg ht (fun z => kt (Int32.not_lt.mpr z) H locs ls a1 a2 a3 a4) (fun z => kf (Int32.not_le.mp z) H locs ls a1 a2 a3 a4)
theorem g_if_gt {X : gX} {cc : ByteArray} {own : String} {d nL : Nat} {ret : Option FieldType} {L : List Nat} (ok : gOk X cc own d nL ret L) {pc : Nat} {lv : List (Option gV)} {st : List gV} {M : gM} {x : Int32} {off : Int} {tgt : Nat} (hdg : decode cc pc = .ok (.ifCond .gt off, 3)) (ht : (pc : Int) + off = (tgt : Int)) (kt : 0 < x → gW X tgt lv st M) (kf : ¬ 0 < x → gW X (pc + 3) lv st M) : gW X pc lv (.inl x :: st) M := by
  obtain ⟨p, l, e, R, s, m, args, below, meth, c, D, cs, ad, A, Z, L0, kc, kn⟩ := X
  exact fun H locs ls a1 a2 a3 a4 => lv_if_gt ok.2.1 ok.2.2.1 hdg ht (fun z => kt (z) H locs ls a1 a2 a3 a4) (fun z => kf (z) H locs ls a1 a2 a3 a4)
theorem g_icmp_gt {X : gX} {cc : ByteArray} {own : String} {d nL : Nat} {ret : Option FieldType} {L : List Nat} (ok : gOk X cc own d nL ret L) {pc : Nat} {lv : List (Option gV)} {st : List gV} {M : gM} {x y : Int32} {off : Int} {tgt : Nat} (hdg : decode cc pc = .ok (.if_icmp .gt off, 3)) (ht : (pc : Int) + off = (tgt : Int)) (kt : y < x → gW X tgt lv st M) (kf : ¬ y < x → gW X (pc + 3) lv st M) : gW X pc lv (.inl y :: .inl x :: st) M := by
  obtain ⟨p, l, e, R, s, m, args, below, meth, c, D, cs, ad, A, Z, L0, kc, kn⟩ := X
  exact fun H locs ls a1 a2 a3 a4 => lv_icmp_gt ok.2.1 ok.2.2.1 hdg ht (fun z => kt (z) H locs ls a1 a2 a3 a4) (fun z => kf (z) H locs ls a1 a2 a3 a4)
theorem g_if_le {X : gX} {cc : ByteArray} {own : String} {d nL : Nat} {ret : Option FieldType} {L : List Nat} (ok : gOk X cc own d nL ret L) {pc : Nat} {lv : List (Option gV)} {st : List gV} {M : gM} {x : Int32} {off : Int} {tgt : Nat} (hdg : decode cc pc = .ok (.ifCond .le off, 3)) (ht : (pc : Int) + off = (tgt : Int)) (kt : ¬ 0 < x → gW X tgt lv st M) (kf : 0 < x → gW X (pc + 3) lv st M) : gW X pc lv (.inl x :: st) M := by
  obtain ⟨p, l, e, R, s, m, args, below, meth, c, D, cs, ad, A, Z, L0, kc, kn⟩ := X
  exact fun H locs ls a1 a2 a3 a4 => lv_if_le ok.2.1 ok.2.2.1 hdg ht (fun z => kt (Int32.not_lt.mpr z) H locs ls a1 a2 a3 a4) (fun z => kf (Int32.not_le.mp z) H locs ls a1 a2 a3 a4)
theorem g_icmp_le {X : gX} {cc : ByteArray} {own : String} {d nL : Nat} {ret : Option FieldType} {L : List Nat} (ok : gOk X cc own d nL ret L) {pc : Nat} {lv : List (Option gV)} {st : List gV} {M : gM} {x y : Int32} {off : Int} {tgt : Nat} (hdg : decode cc pc = .ok (.if_icmp .le off, 3)) (ht : (pc : Int) + off = (tgt : Int)) (kt : ¬ y < x → gW X tgt lv st M) (kf : y < x → gW X (pc + 3) lv st M) : gW X pc lv (.inl y :: .inl x :: st) M := by
  obtain ⟨p, l, e, R, s, m, args, below, meth, c, D, cs, ad, A, Z, L0, kc, kn⟩ := X
  exact fun H locs ls a1 a2 a3 a4 => lv_icmp_le ok.2.1 ok.2.2.1 hdg ht (fun z => kt (Int32.not_lt.mpr z) H locs ls a1 a2 a3 a4) (fun z => kf (Int32.not_le.mp z) H locs ls a1 a2 a3 a4)
