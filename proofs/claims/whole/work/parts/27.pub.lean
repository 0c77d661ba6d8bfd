section
variable {ver : Nat} {s : sT} {M : gM} {Q : Int32 → gM → Prop}
theorem XG_s {n : Nat} {E : List Nat} {M1 : gM} (h : XG n E M) (h1 : M1 1 0 = M 1 0) (h2 : M1 1 1 = M 1 1) (h9 : M1 9 = M 9) : XG n E M1 := ⟨h.1, h.2.1, h1.trans h.2.2.1, h2.trans h.2.2.2.1, by rw [h9]; exact h.2.2.2.2⟩
/-- scratch rows and caches may differ -/
theorem XI_scr {M1 : gM} (h : XI ver s M) (hs : same [4, 6, 7, 30, 31, 33, 34, 35, 36, 37, 38, 39, 40] M M1) (c1 : CSr ver s.1 s.2.1 M1) (c2 : CHc ver s.1 s.2.1 M1) (c3 : CD ver s.1 s.2.1 M1) : XI ver s M1 := by
  obtain ⟨a1, a2, a3, a4, a5, a6, a7, a8, a9, a10, a11, a12⟩ := h
  refine ⟨XG_s a1 (by rw [hs 1 (by decide)]) (by rw [hs 1 (by decide)]) (hs 9 (by decide)), fun v hv => by rw [hs 10 (by decide)]; exact a2 v hv, XH_same a3 (fun i hi => hs i ?_), fun v hv => by rw [hs 32 (by decide)]; exact a4 v hv, XTx_s a5 (by rw [hs 8 (by decide)]) (hs 41 (by decide)), by rw [hs 1 (by decide)]; exact a6, c1, c2, c3, a10, a11, a12⟩
  simp only [List.mem_cons, List.not_mem_nil, or_false] at hi ⊢; omega
theorem CSr_s {n : Nat} {E : List Nat} {M1 : gM} (h : CSr ver n E M) (h4 : M1 4 = M 4) (h30 : M1 30 = M 30) (h31 : M1 31 = M 31) : CSr ver n E M1 := by
  unfold CSr SS at h ⊢
  rw [h4, h30, h31]; exact h
theorem CHc_s {n : Nat} {E : List Nat} {M1 : gM} (h : CHc ver n E M) (h6 : M1 6 = M 6) (h35 : M1 35 = M 35) : CHc ver n E M1 := by
  unfold CHc at h ⊢
  rw [h6, h35]; exact h
theorem CD_s {n : Nat} {E : List Nat} {M1 : gM} (h : CD ver n E M) (h7 : M1 7 = M 7) (h36 : M1 36 = M 36) : CD ver n E M1 := by
  unfold CD at h ⊢
  rw [h7, h36]; exact h
theorem XI_search {M1 : gM} (h : XI ver s M) (h1 : SS (srch s.1 s.2.1) M1) (h2 : M1 4 7 = nI ver) (h3 : same [4, 30, 31] M M1) : XI ver s M1 := by
  have h0 := h
  obtain ⟨a1, a2, a3, a4, a5, a6, a7, a8, a9, a10, a11, a12⟩ := h
  exact XI_scr h0 (h3.sub (by decide)) ⟨by rw [h2]; exact old_self ver, fun _ => h1⟩ (CHc_s a8 (h3 6 (by decide)) (h3 35 (by decide))) (CD_s a9 (h3 7 (by decide)) (h3 36 (by decide)))
/-- the search, from the class's memory: given up, or the answers are there -/
theorem S_succ {Q : Int32 → gM → Prop} (hI : XI ver s M) (h1 : (srch s.1 s.2.1).2.2.2.2 = true → ∀ M1, XI ver s M1 → Q 0 M1) (h2 : (srch s.1 s.2.1).2.2.2.2 = false → ∀ M1, XI ver s M1 → SS (srch s.1 s.2.1) M1 → SR (srch s.1 s.2.1).1 M1 → setsB s.1 (srch s.1 s.2.1).1 → Q 1 M1) : w_X6_succeeds M Q := by
  have hI0 := hI
  obtain ⟨a1, a2, a3, a4, a5, a6, a7, a8, a9, a10, a11, a12⟩ := hI
  refine S_succeeds a1 a2 a6 a10 a7 (fun M1 k1 k2 k3 => ?_)
  have hI1 := XI_search hI0 k1 k2 k3
  cases z : (srch s.1 s.2.1).2.2.2.2 with
  | true => exact h1 z M1 hI1
  | false =>
    obtain ⟨b1, b2⟩ := srch_spec a1.2.1 a1.1.2 z
    refine h2 z M1 hI1 k1 ⟨?_, k1.1, k1.2.1⟩ (fun i hi => ((b1 _).mp (mem_ed.mpr ⟨i, hi, rfl⟩)).1)
    have := k1.2.2.2.2.2.2.2.1
    have := k1.2.2.2.2.2.2.2.2.1
    omega
/-! ### one theorem a public method -/
theorem X_reset {p : Int32} (hI : XI ver s M) (hv : ver < 999999) (h : ∀ M1 v1, XI v1 (o_reset s p).2 M1 → v1 ≤ ver + 1 → Q (o_reset s p).1 M1) : w_X8_reset p M Q := by
  have hI0 := hI
  obtain ⟨a1, a2, a3, a4, a5, a6, a7, a8, a9, a10, a11, a12⟩ := hI
  have bad : ¬ (1 ≤ pn p ∧ pn p ≤ 14) → Q (-3) M := by
    intro q
    unfold o_reset at h
    rw [if_neg q] at h
    exact h M ver hI0 (by omega)
  unfold w_X8_reset
  rcases arg_cases p with ⟨h1, h2⟩ | ⟨j, h1, h2, h3⟩
  · refine gbr_t ?_ (bad (by omega))
    have : (0 : Int32) < 1 := by decide
    exact Int32.lt_trans h1 this
  · subst h2
    refine gbr_lt j 1 rfl rfl h1 (by decide) (fun q => bad (by omega)) (fun q => ?_)
    refine gbr_lt 14 j rfl rfl (by decide) h1 (fun y => bad (by omega)) (fun y => ?_)
    unfold o_reset at h
    rw [h3, if_pos ⟨q, y⟩] at h
    rw [a1.2.2.1]
    refine nm_e ?_
    refine S_startAnew ⟨q, y⟩ a3 (fun M2 g1 g2 g3 g4 g5 => ?_)
    refine S_startW (fun M4 k1 k2 => ?_)
    have e : ∀ i, i ∉ [32] → M4 i = M2 i := k2
    obtain ⟨c1, c2, c3⟩ := caches_void (M := M) (M1 := M4) (n := j) (E := []) a7.1 a8.1 a9.1 hv (by rw [e 4 (by decide), g5 4 (by decide)]) (by rw [e 6 (by decide), g5 6 (by decide)]) (by rw [e 7 (by decide), g5 7 (by decide)])
    refine h M4 (ver + 1) ⟨XG_s g1 (by rw [e 1 (by decide)]) (by rw [e 1 (by decide)]) (e 9 (by decide)), fun v hv => by rw [e 10 (by decide)]; exact g2 v hv, XH_same g3 (fun i hi => e i ?_), k1, XTx_s a5 (by rw [e 8 (by decide), g5 8 (by decide)]) (by rw [e 41 (by decide), g5 41 (by decide)]), by rw [e 1 (by decide), g4, a6, c_add1], c1, c2, c3, (show ver + 1 < 1000000 by omega), saneL_nil _, saneL_nil _⟩ (Nat.le_refl _)
    simp only [List.mem_cons, List.not_mem_nil, or_false] at hi ⊢; omega
/-- an edit from the edges' new memory on -/
theorem S_edit {E1 : List Nat} {M1 : gM} {Q : gM → Prop} (hI : XI ver s M) (hv : ver < 999999) (g1 : XG s.1 E1 M1) (g2 : M1 1 5 = M 1 5) (hs : ∀ i, i ∉ [1, 4, 8, 9, 30, 31] → M1 i = M i) (h4 : M1 4 = M 4 ∨ M1 4 7 = nI ver) (h8 : M1 8 0 = M 8 0) (h : ∀ M2, XI (ver + 1) (edit s E1) M2 → M2 1 1 = nI E1.length → Q M2) : w_X5_endEdit M1 Q := by
  have hI0 := hI
  obtain ⟨a1, a2, a3, a4, a5, a6, a7, a8, a9, a10, a11, a12⟩ := hI
  refine S_endEdit g1 (XH_same a3 (fun i hi => hs i ?_)) (fun M2 k1 k2 k3 k4 k5 => ?_)
  · simp only [List.mem_cons, List.not_mem_nil, or_false] at hi ⊢; omega
  · refine h M2 (XI_edit hI0 hv k1 k2 k3 (by rw [k4, g2, a6, c_add1]) (fun i hi => ?_)) k1.2.2.2.1
    have e : M2 i = M1 i := k5 i (by simp only [List.mem_cons, List.not_mem_nil, or_false] at hi ⊢; omega)
    simp only [List.mem_cons, List.not_mem_nil, or_false] at hi
    by_cases q4 : i = 4
    · subst q4
      rcases h4 with q | q
      · exact Or.inl (by rw [e, q])
      · exact Or.inr (Or.inl ⟨rfl, by rw [e, q]⟩)
    · by_cases q8 : i = 8
      · subst q8
        exact Or.inr (Or.inr ⟨rfl, by rw [e, h8]⟩)
      · exact Or.inl (by rw [e]; exact hs i (by simp only [List.mem_cons, List.not_mem_nil, or_false]; omega))
theorem X_addEdge {p : Int32} (hI : XI ver s M) (hv : ver < 999999) (h : ∀ M1 v1, XI v1 (o_addEdge s p).2 M1 → v1 ≤ ver + 1 → Q (o_addEdge s p).1 M1) : w_X8_addEdge p M Q := by
  have hI0 := hI
  obtain ⟨a1, a2, a3, a4, a5, a6, a7, a8, a9, a10, a11, a12⟩ := hI
  have hn := a1.1
  have h14 := p2_14 hn.2
  unfold o_addEdge at h
  have bad : (pn p = 0 ∨ 2 ^ s.1 ≤ pn p) → Q (-3) M := fun q => by
    rw [if_pos q] at h
    exact h M ver hI0 (by omega)
  unfold w_X8_addEdge
  refine gbr_c (fun z => bad (Or.inl (by rw [z]; rfl))) (fun z => ?_)
  have hp0 : pn p ≠ 0 := fun q => by
    have := pn_eq (p := p) (by omega)
    rw [q] at this
    exact z this
  refine S_isSet a1 ?_
  refine gbr_b _ rfl (fun y => bad (Or.inr (by have := of_decide_eq_false y; omega))) (fun y => ?_)
  replace y := of_decide_eq_true y
  have ep := pn_eq (p := p) (by omega)
  rw [if_neg (by omega)] at h
  obtain ⟨j, hj⟩ : ∃ j, j = pn p := ⟨_, rfl⟩
  rw [← hj] at h ep y hp0
  subst ep
  refine S_contains a1 (by omega) ?_
  refine gbr_b _ rfl (fun x => ?_) (fun x => ?_)
  · rw [if_neg (of_decide_eq_false x)] at h
    refine S_isFull a1 ?_
    refine gbr_b _ rfl (fun u => ?_) (fun u => ?_)
    · replace u := of_decide_eq_false u
      rw [if_neg u] at h
      refine S_append_raw a1.2.2.2.1 (by omega) ?_
      refine S_edit hI0 hv (XG_app a1 (by omega) ⟨by omega, y⟩) (by rw [gst_k (by decide), gst_n (by decide)]) (fun i hi => by
        simp only [List.mem_cons, List.not_mem_nil, or_false, not_or] at hi
        rw [gst_n (by omega), gst_n (by omega)]) (Or.inl (by rw [gst_n (by decide), gst_n (by decide)])) (by rw [gst_n (by decide), gst_n (by decide)]) (fun M2 k1 k2 => ?_)
      rw [k2, List.length_append, List.length_singleton, nI_pred]
      exact h M2 (ver + 1) k1 (Nat.le_refl _)
    · rw [if_pos (of_decide_eq_true u)] at h
      exact h M ver hI0 (by omega)
  · rw [if_pos (of_decide_eq_true x)] at h
    exact h M ver hI0 (by omega)
theorem same_sub6 {M1 : gM} (hs : same [1, 9] M M1) : ∀ i, i ∉ [1, 4, 8, 9, 30, 31] → M1 i = M i := fun i hi => hs i (by
  simp only [List.mem_cons, List.not_mem_nil, or_false, not_or] at hi ⊢; omega)
theorem X_removeEdge {p : Int32} (hI : XI ver s M) (hv : ver < 999999) (h : ∀ M1 v1, XI v1 (o_removeEdge s p).2 M1 → v1 ≤ ver + 1 → Q (o_removeEdge s p).1 M1) : w_X8_removeEdge p M Q := by
  have hI0 := hI
  obtain ⟨a1, a2, a3, a4, a5, a6, a7, a8, a9, a10, a11, a12⟩ := hI
  have hl := a1.2.1.1
  unfold o_removeEdge at h
  unfold w_X8_removeEdge
  refine S_isEdge a1 ?_
  refine gbr_b _ rfl (fun y => ?_) (fun y => ?_)
  · rw [if_neg (of_decide_eq_false y)] at h
    exact h M ver hI0 (by omega)
  · replace y := of_decide_eq_true y
    rw [if_pos y] at h
    have ep := pn_eq (p := p) (by omega)
    obtain ⟨j, hj⟩ : ∃ j, j = pn p := ⟨_, rfl⟩
    rw [← hj] at h ep y
    subst ep
    refine ⟨c_in (by omega) (by decide), ?_⟩
    rw [c_cl (by omega), a1.2.2.2.2 j y]
    refine nm_e ?_
    refine S_allEdges a1 ?_
    have h24 := p2_24 hl
    have hp := Nat.two_pow_pos s.2.1.length
    rw [c_shl j (by omega), c_nd]
    have hw : nd (2 ^ s.2.1.length - 1) (2 ^ j) < 2 ^ s.2.1.length := nd_lt (by omega)
    refine S_keepOnly a1 (by omega) (fun M6 k1 k2 k3 => ?_)
    refine S_edit hI0 hv k1 k2 (same_sub6 k3) (Or.inl (k3 4 (by decide))) (by rw [k3 8 (by decide)]) (fun M2 j1 j2 => ?_)
    exact h M2 (ver + 1) j1 (Nat.le_refl _)
theorem X_minimize (hI : XI ver s M) (hv : ver < 999999) (h : ∀ M1 v1, XI v1 (o_minimize s).2 M1 → v1 ≤ ver + 1 → Q (o_minimize s).1 M1) : w_X8_minimize M Q := by
  have hI0 := hI
  obtain ⟨a1, a2, a3, a4, a5, a6, a7, a8, a9, a10, a11, a12⟩ := hI
  have hl := a1.2.1.1
  unfold o_minimize at h
  unfold w_X8_minimize
  rw [a1.2.2.2.1]
  refine nm_e ?_
  refine S_minimalEdges a1 ?_
  have hml : minE s.2.1 < 16777216 := Nat.lt_of_lt_of_le (mk_lt _ _) (p2_24 hl)
  refine S_keepOnly a1 (by omega) (fun M6 k1 k2 k3 => ?_)
  refine S_edit hI0 hv k1 k2 (same_sub6 k3) (Or.inl (k3 4 (by decide))) (by rw [k3 8 (by decide)]) (fun M2 j1 j2 => ?_)
  rw [j2, pk_sub (kp_len _ _ _)]
  exact h M2 (ver + 1) j1 (Nat.le_refl _)
theorem X_contract {p : Int32} (hI : XI ver s M) (hv : ver < 999999) (h : ∀ M1 v1, XI v1 (o_contract s p).2 M1 → v1 ≤ ver + 1 → Q (o_contract s p).1 M1) : w_X8_contract p M Q := by
  have hI0 := hI
  obtain ⟨a1, a2, a3, a4, a5, a6, a7, a8, a9, a10, a11, a12⟩ := hI
  have hn := a1.1
  unfold o_contract at h
  unfold w_X8_contract
  refine S_isVertex a1 ?_
  refine gbr_b _ rfl (fun y => ?_) (fun y => ?_)
  · rw [if_neg (of_decide_eq_false y)] at h
    exact h M ver hI0 (by omega)
  · replace y := of_decide_eq_true y
    rw [if_pos y] at h
    have ep := pn_eq (p := p) (by omega)
    obtain ⟨j, hj⟩ : ∃ j, j = pn p := ⟨_, rfl⟩
    rw [← hj] at h ep y
    subst ep
    refine ⟨c_in (by omega) (by decide), ?_⟩
    rw [c_cl (by omega), a2 j (by omega)]
    refine S_bitCount (at_lt a1.2.1.1 j) ?_
    refine S_takeOut a1 (by omega) (fun M6 k1 k2 k3 => ?_)
    refine S_edit hI0 hv k1 k2 (same_sub6 k3) (Or.inl (k3 4 (by decide))) (by rw [k3 8 (by decide)]) (fun M2 j1 j2 => ?_)
    exact h M2 (ver + 1) j1 (Nat.le_refl _)
theorem X_delete {p : Int32} (hI : XI ver s M) (hv : ver < 999999) (h : ∀ M1 v1, XI v1 (o_delete s p).2 M1 → v1 ≤ ver + 1 → Q (o_delete s p).1 M1) : w_X8_delete p M Q := by
  have hI0 := hI
  obtain ⟨a1, a2, a3, a4, a5, a6, a7, a8, a9, a10, a11, a12⟩ := hI
  have hn := a1.1
  have hl := a1.2.1.1
  unfold o_delete at h
  unfold w_X8_delete
  refine S_isVertex a1 ?_
  refine gbr_b _ rfl (fun y => ?_) (fun y => ?_)
  · rw [if_neg (of_decide_eq_false y)] at h
    exact h M ver hI0 (by omega)
  · replace y := of_decide_eq_true y
    rw [if_pos y] at h
    have ep := pn_eq (p := p) (by omega)
    obtain ⟨j, hj⟩ : ∃ j, j = pn p := ⟨_, rfl⟩
    rw [← hj] at h ep y
    subst ep
    rw [a1.2.2.2.1]
    refine nm_e ?_
    refine S_allEdges a1 ⟨c_in (by omega) (by decide), ?_⟩
    have h24 := p2_24 hl
    have hp := Nat.two_pow_pos s.2.1.length
    rw [c_cl (by omega), a2 j (by omega), c_nd]
    have hw : nd (2 ^ s.2.1.length - 1) (at_ s.2.1 j) < 2 ^ s.2.1.length := nd_lt (by omega)
    refine S_keepOnly a1 (by omega) (fun M6 k1 k2 k3 => ?_)
    refine S_edit hI0 hv k1 k2 (same_sub6 k3) (Or.inl (k3 4 (by decide))) (by rw [k3 8 (by decide)]) (fun M2 j1 j2 => ?_)
    rw [j2, pk_sub (kp_len _ _ _)]
    exact h M2 (ver + 1) j1 (Nat.le_refl _)
theorem XI_past {P : List Nat} {past fut : List (List Nat)} {M1 : gM} (hI : XI ver s M) (hv : ver < 999999) (g1 : XG s.1 P M1) (g2 : XA P M1) (g3 : XH P past fut M1) (g4 : M1 1 5 = M 1 5 + 1) (g5 : same [1, 2, 9, 10] M M1) (hp : saneL s.1 past) (hf : saneL s.1 fut) : XI (ver + 1) (s.1, P, past, fut, s.2.2.2.2) M1 := by
  obtain ⟨a1, a2, a3, a4, a5, a6, a7, a8, a9, a10, a11, a12⟩ := hI
  obtain ⟨c1, c2, c3⟩ := caches_void (M := M) (M1 := M1) (n := s.1) (E := P) a7.1 a8.1 a9.1 hv (by rw [g5 4 (by decide)]) (by rw [g5 6 (by decide)]) (by rw [g5 7 (by decide)])
  exact ⟨g1, g2, g3, fun v hv => by rw [g5 32 (by decide)]; exact a4 v hv, XTx_s a5 (by rw [g5 8 (by decide)]) (g5 41 (by decide)), by rw [g4, a6, c_add1], c1, c2, c3, (show ver + 1 < 1000000 by omega), hp, hf⟩
theorem X_undo (hI : XI ver s M) (hv : ver < 999999) (h : ∀ M1 v1, XI v1 (o_undo s).2 M1 → v1 ≤ ver + 1 → Q (o_undo s).1 M1) : w_X8_undo M Q := by
  have hI0 := hI
  obtain ⟨n, E, past, fut, w, len, c⟩ := s
  obtain ⟨a1, a2, a3, a4, a5, a6, a7, a8, a9, a10, a11, a12⟩ := hI
  unfold w_X8_undo
  cases past with
  | nil => exact S_stepBack0 a3 (gbr_t rfl (h M ver hI0 (by omega)))
  | cons P ps =>
    obtain ⟨b1, b2⟩ := saneL_tail a11
    refine S_stepBack a1.1 a1.2.2.1 b1 a3 (fun M1 g1 g2 g3 g4 g5 => gbr_f (by decide) ?_)
    have e : M1 2 0 = nI ps.length := by
      obtain ⟨now, k1, k2, k3, -⟩ := g3
      exact k3
    rw [e]
    exact h M1 (ver + 1) (XI_past hI0 hv g1 g2 g3 g4 g5 b2 (saneL_cons a1.2.1 a12)) (Nat.le_refl _)
theorem X_redo (hI : XI ver s M) (hv : ver < 999999) (h : ∀ M1 v1, XI v1 (o_redo s).2 M1 → v1 ≤ ver + 1 → Q (o_redo s).1 M1) : w_X8_redo M Q := by
  have hI0 := hI
  obtain ⟨n, E, past, fut, w, len, c⟩ := s
  obtain ⟨a1, a2, a3, a4, a5, a6, a7, a8, a9, a10, a11, a12⟩ := hI
  unfold w_X8_redo
  cases fut with
  | nil => exact S_stepForward0 a3 (gbr_t rfl (h M ver hI0 (by omega)))
  | cons P fs =>
    obtain ⟨b1, b2⟩ := saneL_tail a12
    refine S_stepForward a1.1 a1.2.2.1 b1 a3 (fun M1 g1 g2 g3 g4 g5 => gbr_f (by decide) ?_)
    have e : M1 2 1 = nI fs.length := by
      obtain ⟨now, k1, k2, k3, k4, -⟩ := g3
      exact k4
    rw [e]
    exact h M1 (ver + 1) (XI_past hI0 hv g1 g2 g3 g4 g5 (saneL_cons a1.2.1 a11) b2) (Nat.le_refl _)
theorem X_edge {p : Int32} (hI : XI ver s M) (h : ∀ M1 v1, XI v1 (o_edge s p).2 M1 → v1 ≤ ver + 1 → Q (o_edge s p).1 M1) : w_X8_edge p M Q := by
  have hI0 := hI
  obtain ⟨a1, a2, a3, a4, a5, a6, a7, a8, a9, a10, a11, a12⟩ := hI
  have hl := a1.2.1.1
  replace h := h M ver hI0 (by omega)
  unfold o_edge at h
  unfold w_X8_edge
  refine S_isEdge a1 ?_
  refine gbr_b _ rfl (fun y => ?_) (fun y => ?_)
  · rw [if_neg (of_decide_eq_false y)] at h; exact h
  · replace y := of_decide_eq_true y
    rw [if_pos y] at h
    have ep := pn_eq (p := p) (by omega)
    obtain ⟨j, hj⟩ : ∃ j, j = pn p := ⟨_, rfl⟩
    rw [← hj] at h ep y
    subst ep
    refine ⟨c_in (by omega) (by decide), ?_⟩
    rw [c_cl (by omega), a1.2.2.2.2 j y]
    exact h
theorem X_edgesOf {p : Int32} (hI : XI ver s M) (h : ∀ M1 v1, XI v1 (o_edgesOf s p).2 M1 → v1 ≤ ver + 1 → Q (o_edgesOf s p).1 M1) : w_X8_edgesOf p M Q := by
  have hI0 := hI
  obtain ⟨a1, a2, a3, a4, a5, a6, a7, a8, a9, a10, a11, a12⟩ := hI
  have hn := a1.1
  replace h := h M ver hI0 (by omega)
  unfold o_edgesOf at h
  unfold w_X8_edgesOf
  refine S_isVertex a1 ?_
  refine gbr_b _ rfl (fun y => ?_) (fun y => ?_)
  · rw [if_neg (of_decide_eq_false y)] at h; exact h
  · replace y := of_decide_eq_true y
    rw [if_pos y] at h
    have ep := pn_eq (p := p) (by omega)
    obtain ⟨j, hj⟩ : ∃ j, j = pn p := ⟨_, rfl⟩
    rw [← hj] at h ep y
    subst ep
    refine ⟨c_in (by omega) (by decide), ?_⟩
    rw [c_cl (by omega), a2 j (by omega)]
    exact h
theorem gbr_pe {p : Int32} {A B : Prop} (k : Nat) {y : Int32} (hy : y = nI k) (hk : k < 2147483648) (f : pn p = k → A) (g : pn p ≠ k → B) : gbr (p = y) A B := by
  subst hy
  refine gbr_c (fun z => f (by rw [z, pn_nI hk])) (fun z => g (fun q => z ?_))
  have := pn_eq (p := p) (by omega)
  rw [this, q]
theorem X_value {p : Int32} (hI : XI ver s M) (h : ∀ M1 v1, XI v1 (o_value s p).2 M1 → v1 ≤ ver + 1 → Q (o_value s p).1 M1) : w_X8_value p M Q := by
  have hI0 := hI
  obtain ⟨a1, a2, a3, a4, a5, a6, a7, a8, a9, a10, a11, a12⟩ := hI
  have hl := a1.2.1.1
  replace h := h M ver hI0 (by omega)
  unfold o_value at h
  have hml : minE s.2.1 < 16777216 := Nat.lt_of_lt_of_le (mk_lt _ _) (p2_24 hl)
  unfold w_X8_value
  refine gbr_pe 0 rfl (by decide) (fun q => ?_) (fun q0 => ?_)
  · rw [if_pos q] at h
    rw [a1.2.2.1]; exact h
  rw [if_neg q0] at h
  refine gbr_pe 1 rfl (by decide) (fun q => ?_) (fun q1 => ?_)
  · rw [if_pos q] at h
    rw [a1.2.2.2.1]; exact h
  rw [if_neg q1] at h
  refine gbr_pe 2 rfl (by decide) (fun q => ?_) (fun q2 => ?_)
  · rw [if_pos q] at h
    refine S_minimalEdges a1 ?_
    exact S_bitCount hml h
  rw [if_neg q2] at h
  refine gbr_pe 3 rfl (by decide) (fun q => ?_) (fun q3 => ?_)
  · rw [if_pos q] at h
    obtain ⟨now, k1, k2, k3, -⟩ := a3
    rw [k3]; exact h
  rw [if_neg q3] at h
  refine gbr_pe 4 rfl (by decide) (fun q => ?_) (fun q4 => ?_)
  · rw [if_pos q] at h
    exact S_smallestSize a1 h
  rw [if_neg q4] at h
  refine gbr_pe 5 rfl (by decide) (fun q => ?_) (fun q5 => ?_)
  · rw [if_pos q] at h
    refine S_minimalEdges a1 ?_
    exact S_unionOf a1 (by omega) h
  rw [if_neg q5] at h
  exact h
theorem X_setWeight {p q : Int32} (hI : XI ver s M) (h : ∀ M1 v1, XI v1 (o_setWeight s p q).2 M1 → v1 ≤ ver + 1 → Q (o_setWeight s p q).1 M1) : w_X8_setWeight p q M Q := by
  have hI0 := hI
  obtain ⟨a1, a2, a3, a4, a5, a6, a7, a8, a9, a10, a11, a12⟩ := hI
  have hn := a1.1
  unfold o_setWeight at h
  unfold w_X8_setWeight
  refine S_isVertex a1 ?_
  refine gbr_b _ rfl (fun y => ?_) (fun y => ?_)
  · rw [if_neg (of_decide_eq_false y)] at h
    exact h M ver hI0 (by omega)
  · replace y := of_decide_eq_true y
    rw [if_pos y] at h
    have ep := pn_eq (p := p) (by omega)
    obtain ⟨j, hj⟩ : ∃ j, j = pn p := ⟨_, rfl⟩
    rw [← hj] at h ep y
    subst ep
    have bad : ¬ pn q ≤ 99 → Q (-3) M := fun z => by
      rw [if_neg z] at h
      exact h M ver hI0 (by omega)
    rcases arg_cases q with ⟨h1, h2⟩ | ⟨x, h1, h2, h3⟩
    · exact gbr_t h1 (bad (by omega))
    · subst h2
      refine gbr_f (nI_lt0 h1) ?_
      refine gbr_lt 99 x rfl rfl (by decide) h1 (fun z => bad (by omega)) (fun z => ?_)
      rw [h3, if_pos z] at h
      refine ⟨c_in (by omega) (by decide), ?_⟩
      rw [c_cl (by omega), (a4 j (by omega)).1]
      refine nm_e ⟨c_in (by omega) (by decide), ?_⟩
      intro M4 e4
      have hs : same [32] M M4 := by rw [e4]; exact same.rfl.st (by decide)
      refine h M4 ver ⟨XG_s a1 (by rw [hs 1 (by decide)]) (by rw [hs 1 (by decide)]) (hs 9 (by decide)), fun v hv => by rw [hs 10 (by decide)]; exact a2 v hv, XH_same a3 (fun i hi => hs i ?_), fun v hv => ?_, XTx_s a5 (by rw [hs 8 (by decide)]) (hs 41 (by decide)), by rw [hs 1 (by decide)]; exact a6, CSr_s a7 (hs 4 (by decide)) (hs 30 (by decide)) (hs 31 (by decide)), CHc_s a8 (hs 6 (by decide)) (hs 35 (by decide)), CD_s a9 (hs 7 (by decide)) (hs 36 (by decide)), a10, a11, a12⟩ (by omega)
      · simp only [List.mem_cons, List.not_mem_nil, or_false] at hi ⊢; omega
      · show M4 32 v = nI (setW s.2.2.2.2.1 j x v) ∧ setW s.2.2.2.2.1 j x v ≤ 99
        rw [e4, gst_c, setW]
        by_cases u : v = j
        · rw [if_pos u, if_pos u]; exact ⟨rfl, z⟩
        · rw [if_neg u, if_neg u]; exact a4 v hv
theorem X_missed {p : Int32} (hI : XI ver s M) (h : ∀ M1 v1, XI v1 (o_missed s p).2 M1 → v1 ≤ ver + 1 → Q (o_missed s p).1 M1) : w_X8_missed p M Q := by
  have hI0 := hI
  obtain ⟨a1, a2, a3, a4, a5, a6, a7, a8, a9, a10, a11, a12⟩ := hI
  have h14 := p2_14 a1.1.2
  replace h := h M ver hI0 (by omega)
  unfold o_missed at h
  unfold w_X8_missed
  refine S_isSet a1 ?_
  refine gbr_b _ rfl (fun y => ?_) (fun y => ?_)
  · rw [if_neg (of_decide_eq_false y)] at h; exact h
  · replace y := of_decide_eq_true y
    rw [if_pos y] at h
    rw [pn_eq (p := p) (by omega)]
    exact S_missedBy a1 a2 (by omega) h
theorem hit1_at {E : List Nat} {t v : Nat} (hv : t.testBit v = true) : hit1 E t &&& at_ E v = privE E t v := by
  refine mk_of fun e => ?_
  rw [Nat.testBit_and, at_tb]
  apply bool_iff
  rw [Bool.and_eq_true, Bool.and_eq_true, Bool.and_eq_true, decide_eq_true_eq, decide_eq_true_eq, hit1_tb]
  constructor
  · rintro ⟨⟨h1, w, h2⟩, -, h3⟩
    have := (and_pow.mp h2).2.2 v h3 hv
    subst this
    exact ⟨h1, h2⟩
  · rintro ⟨h1, h2⟩
    exact ⟨⟨h1, v, h2⟩, h1, (and_pow.mp h2).1⟩
theorem X_private {p q : Int32} (hI : XI ver s M) (h : ∀ M1 v1, XI v1 (o_private s p q).2 M1 → v1 ≤ ver + 1 → Q (o_private s p q).1 M1) : w_X8_privateEdges p q M Q := by
  have hI0 := hI
  obtain ⟨a1, a2, a3, a4, a5, a6, a7, a8, a9, a10, a11, a12⟩ := hI
  have hn := a1.1
  have h14 := p2_14 a1.1.2
  replace h := h M ver hI0 (by omega)
  unfold o_private at h
  unfold w_X8_privateEdges
  refine S_isSet a1 ?_
  refine gbr_b _ rfl (fun y => ?_) (fun y => ?_)
  · rw [if_neg (of_decide_eq_false y)] at h; exact h
  replace y := of_decide_eq_true y
  rw [if_pos y] at h
  refine S_isVertex a1 ?_
  refine gbr_b _ rfl (fun z => ?_) (fun z => ?_)
  · rw [if_neg (of_decide_eq_false z)] at h; exact h
  replace z := of_decide_eq_true z
  rw [if_pos z] at h
  have ep := pn_eq (p := p) (by omega)
  have eq := pn_eq (p := q) (by omega)
  obtain ⟨j, hj⟩ : ∃ j, j = pn p := ⟨_, rfl⟩
  obtain ⟨v, hv⟩ : ∃ v, v = pn q := ⟨_, rfl⟩
  rw [← hj] at h ep y
  rw [← hv] at h eq z
  subst ep; subst eq
  refine S_has (by omega) (by omega) ?_
  refine gbr_b _ rfl (fun x => ?_) (fun x => ?_)
  · rw [if_neg (by rw [x]; decide)] at h; exact h
  · rw [if_pos x] at h
    refine S_hitOnceBy a1 a2 (by omega) ⟨c_in (by omega) (by decide), ?_⟩
    rw [c_cl (by omega), a2 v (by omega), c_and, hit1_at x]
    exact h
theorem X_kindOf {p : Int32} (hI : XI ver s M) (h : ∀ M1 v1, XI v1 (o_kindOf s p).2 M1 → v1 ≤ ver + 1 → Q (o_kindOf s p).1 M1) : w_X8_kindOf p M Q := by
  have hI0 := hI
  obtain ⟨a1, a2, a3, a4, a5, a6, a7, a8, a9, a10, a11, a12⟩ := hI
  have h14 := p2_14 a1.1.2
  replace h := h M ver hI0 (by omega)
  unfold o_kindOf at h
  unfold w_X8_kindOf
  refine S_isSet a1 ?_
  refine gbr_b _ rfl (fun y => ?_) (fun y => ?_)
  · rw [if_neg (of_decide_eq_false y)] at h; exact h
  · replace y := of_decide_eq_true y
    rw [if_pos y] at h
    rw [pn_eq (p := p) (by omega)]
    refine S_missedBy a1 a2 (by omega) ?_
    have := missE_lt a1.2.1.1 (pn p)
    refine gbr_eq _ 0 rfl rfl (by omega) (by decide) (fun z => ?_) (fun z => ?_)
    · rw [if_pos z] at h
      refine S_isAnswer a1 a2 (by omega) ?_
      refine gbr_b _ rfl (fun x => ?_) (fun x => ?_)
      · rw [if_neg (by rw [x]; decide)] at h; exact h
      · rw [if_pos x] at h; exact h
    · rw [if_neg z] at h; exact h
theorem shr_lt {E : List Nat} {t n : Nat} (h : t < 2 ^ n) (k : Nat) : shr E t k < 2 ^ n := by
  induction k with
  | zero => exact h
  | succ k ih => rw [shr]; split; exact nd_lt ih; exact ih
theorem X_shrink {p : Int32} (hI : XI ver s M) (h : ∀ M1 v1, XI v1 (o_shrink s p).2 M1 → v1 ≤ ver + 1 → Q (o_shrink s p).1 M1) : w_X8_shrink p M Q := by
  have hI0 := hI
  obtain ⟨a1, a2, a3, a4, a5, a6, a7, a8, a9, a10, a11, a12⟩ := hI
  have hn := a1.1
  have h14 := p2_14 a1.1.2
  replace h := h M ver hI0 (by omega)
  unfold o_shrink at h
  unfold w_X8_shrink
  refine S_isSet a1 ?_
  refine gbr_b _ rfl (fun y => ?_) (fun y => ?_)
  · rw [if_neg (of_decide_eq_false y)] at h; exact h
  · replace y := of_decide_eq_true y
    rw [if_pos y] at h
    have ep := pn_eq (p := p) (by omega)
    obtain ⟨j, hj⟩ : ∃ j, j = pn p := ⟨_, rfl⟩
    rw [← hj] at h ep y
    subst ep
    refine S_missedBy a1 a2 (by omega) ?_
    have := missE_lt a1.2.1.1 j
    refine gbr_eq _ 0 rfl rfl (by omega) (by decide) (fun z => ?_) (fun z => ?_)
    · rw [if_pos z] at h
      refine lp (σ := Int32) (fun k x t => w_X8_shrink_L32 Q _ (nI j) k t x M) (fun i t => t = nI (shr s.2.1 j i)) s.1 0 rfl (Nat.zero_le _) rfl ?_ ?_
      · intro k t hJ
        rw [w_X8_shrink_L32.eq_2]
        refine gbr_ltF s.1 s.1 rfl a1.2.2.1 (by omega) (by omega) (Nat.le_refl _) ?_
        rw [hJ]; exact h
      · intro k i t hi hJ ih
        rw [w_X8_shrink_L32.eq_2]
        have hlt := shr_lt (E := s.2.1) y i
        refine gbr_ltT i s.1 rfl a1.2.2.1 (by omega) (by omega) hi ?_
        rw [hJ, c_shl i (by omega), c_nd]
        refine nm_e ?_
        have hlt2 : nd (shr s.2.1 j i) (2 ^ i) < 2 ^ s.1 := nd_lt hlt
        refine S_missedBy a1 a2 (by omega) ?_
        have := missE_lt a1.2.1.1 (nd (shr s.2.1 j i) (2 ^ i))
        refine gbr_eq _ 0 rfl rfl (by omega) (by decide) (fun x => ?_) (fun x => ?_)
        · refine nm_r (c_add1 i) (ih _ ?_)
          rw [shr, if_pos x]
        · refine nm_r (c_add1 i) (ih _ ?_)
          rw [shr, if_neg x]
    · rw [if_neg z] at h; exact h
theorem grw_lt {n : Nat} {E : List Nat} {t : Nat} (hn : 1 ≤ n) (h : t < 2 ^ n) (k : Nat) : grw n E t k < 2 ^ n := by
  induction k with
  | zero => exact h
  | succ k ih =>
    rw [grw]
    split
    · exact ih
    · exact Nat.or_lt_two_pow ih (p2_lt (amx_lt _ hn))
theorem grw_stop {n : Nat} {E : List Nat} {t k : Nat} (h : missE E (grw n E t k) = 0) : ∀ j, grw n E t (k + j) = grw n E t k := by
  intro j
  induction j with
  | zero => rfl
  | succ j ih =>
    show grw n E t ((k + j) + 1) = _
    rw [grw, ih, if_pos h]
theorem X_grow {p : Int32} (hI : XI ver s M) (h : ∀ M1 v1, XI v1 (o_grow s p).2 M1 → v1 ≤ ver + 1 → Q (o_grow s p).1 M1) : w_X8_grow p M Q := by
  have hI0 := hI
  obtain ⟨a1, a2, a3, a4, a5, a6, a7, a8, a9, a10, a11, a12⟩ := hI
  have hn := a1.1
  have h14 := p2_14 a1.1.2
  replace h := h M ver hI0 (by omega)
  unfold o_grow at h
  unfold w_X8_grow
  refine S_isSet a1 ?_
  refine gbr_b _ rfl (fun y => ?_) (fun y => ?_)
  · rw [if_neg (of_decide_eq_false y)] at h; exact h
  · replace y := of_decide_eq_true y
    rw [if_pos y] at h
    have ep := pn_eq (p := p) (by omega)
    obtain ⟨j, hj⟩ : ∃ j, j = pn p := ⟨_, rfl⟩
    rw [← hj] at h ep y
    subst ep
    refine lp (σ := Int32) (fun k x t => w_X8_grow_L18 Q _ _ (nI j) k t x M) (fun i t => t = nI (grw s.1 s.2.1 j i)) s.1 0 rfl (Nat.zero_le _) rfl ?_ ?_
    · intro k t hJ
      rw [w_X8_grow_L18.eq_2]
      refine gbr_ltF s.1 s.1 rfl a1.2.2.1 (by omega) (by omega) (Nat.le_refl _) ?_
      rw [hJ]; exact h
    · intro k i t hi hJ ih
      rw [w_X8_grow_L18.eq_2]
      have hlt := grw_lt (E := s.2.1) hn.1 y i
      refine gbr_ltT i s.1 rfl a1.2.2.1 (by omega) (by omega) hi ?_
      rw [hJ]
      refine S_missedBy a1 a2 (by omega) ?_
      have := missE_lt a1.2.1.1 (grw s.1 s.2.1 j i)
      refine gbr_eq _ 0 rfl rfl (by omega) (by decide) (fun x => ?_) (fun x => ?_)
      · have e := grw_stop x (s.1 - i)
        rw [show i + (s.1 - i) = s.1 by omega] at e
        rw [e] at h; exact h
      · refine S_busiest a1 a2 ?_
        have hb : busy s.1 s.2.1 (missE s.2.1 (grw s.1 s.2.1 j i)) < s.1 := amx_lt _ hn.1
        rw [c_shl _ (by omega), c_or]
        refine nm_e (nm_r (c_add1 i) (ih _ ?_))
        rw [grw, if_neg x]
end
