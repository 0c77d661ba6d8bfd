/-! the reference: undo and redo, a state's memory, the edits -/
theorem N_undoL {u f : Nat} {M : gM} {Q : Int32 → gM → Prop} {K : Int32 → gM → Prop} (h5 : M 42 5 = nI u) (h6 : M 42 6 = nI f) (hu : u ≤ 15) (hf : f ≤ 15) (h : ∀ M1, same [43, 46] M M1 → (∀ i, i < 25 → M1 46 (25 * f + i) = M 43 i) → (∀ j, j < 25 * f → M1 46 j = M 46 j) → (∀ i, i < 25 → M1 43 i = M 45 (25 * u + i)) → K (nI 25) M1) : ∃ nf, w_X9_undo_L22 Q K nf 0 M := by
  refine lp (σ := gM) (fun k x t => w_X9_undo_L22 Q K k x t) (fun i t => same [43, 46] M t ∧ (∀ j, j < i → t 46 (25 * f + j) = M 43 j) ∧ (∀ j, j < 25 * f → t 46 j = M 46 j) ∧ (∀ j, j < i → t 43 j = M 45 (25 * u + j)) ∧ (∀ j, i ≤ j → t 43 j = M 43 j)) 25 0 rfl (Nat.zero_le _) ⟨same.rfl, fun j hj => absurd hj (Nat.not_lt_zero _), fun _ _ => rfl, fun j hj => absurd hj (Nat.not_lt_zero _), fun _ _ => rfl⟩ ?_ ?_
  · rintro k t ⟨h1, h2, h3, h4, -⟩
    rw [w_X9_undo_L22.eq_2]
    exact gbr_ltF 25 25 rfl rfl (by decide) (by decide) (Nat.le_refl _) (h t h1 h2 h3 h4)
  · rintro k i t hi ⟨h1, h2, h3, h4, h7⟩ ih
    rw [w_X9_undo_L22.eq_2]
    refine gbr_ltT i 25 rfl rfl (by omega) (by decide) hi ?_
    rw [show t 42 = M 42 from h1 42 (by decide), h6, c_25]
    refine ⟨c_in hi (by decide), c_in (by omega) (by decide), ?_⟩
    intro M2 e2
    rw [c_cl (by omega), c_cl (by omega), h7 i (Nat.le_refl _)] at e2
    have e42 : M2 42 5 = nI u := by rw [e2, gst_n (by decide), h1 42 (by decide)]; exact h5
    rw [e42, c_25]
    refine ⟨c_in (by omega) (by decide), c_in hi (by decide), ?_⟩
    intro M3 e3
    rw [c_cl (by omega), c_cl (by omega), show M2 45 = M 45 by rw [e2, gst_n (by decide)]; exact h1 45 (by decide)] at e3
    refine nm_r (c_add1 i) (ih M3 ?_)
    rw [e3, e2]
    refine ⟨(h1.st (by decide)).st (by decide), fun j hj => ?_, fun j hj => ?_, fun j hj => ?_, fun j hj => ?_⟩
    · rw [gst_n (by decide)]
      rcases Nat.lt_succ_iff_lt_or_eq.mp hj with q | q
      · rw [gst_k (by omega)]; exact h2 j q
      · rw [q, gst_s]
    · rw [gst_n (by decide), gst_k (by omega)]; exact h3 j hj
    · rcases Nat.lt_succ_iff_lt_or_eq.mp hj with q | q
      · rw [gst_k (by omega), gst_n (by decide)]; exact h4 j q
      · rw [q, gst_s]
    · rw [gst_k (by omega), gst_n (by decide)]; exact h7 j (by omega)
theorem N_redoL {u f : Nat} {M : gM} {Q : Int32 → gM → Prop} {K : Int32 → gM → Prop} (h5 : M 42 6 = nI u) (h6 : M 42 5 = nI f) (hu : u ≤ 15) (hf : f ≤ 15) (h : ∀ M1, same [43, 45] M M1 → (∀ i, i < 25 → M1 45 (25 * f + i) = M 43 i) → (∀ j, j < 25 * f → M1 45 j = M 45 j) → (∀ i, i < 25 → M1 43 i = M 46 (25 * u + i)) → K (nI 25) M1) : ∃ nf, w_X9_redo_L22 Q K nf 0 M := by
  refine lp (σ := gM) (fun k x t => w_X9_redo_L22 Q K k x t) (fun i t => same [43, 45] M t ∧ (∀ j, j < i → t 45 (25 * f + j) = M 43 j) ∧ (∀ j, j < 25 * f → t 45 j = M 45 j) ∧ (∀ j, j < i → t 43 j = M 46 (25 * u + j)) ∧ (∀ j, i ≤ j → t 43 j = M 43 j)) 25 0 rfl (Nat.zero_le _) ⟨same.rfl, fun j hj => absurd hj (Nat.not_lt_zero _), fun _ _ => rfl, fun j hj => absurd hj (Nat.not_lt_zero _), fun _ _ => rfl⟩ ?_ ?_
  · rintro k t ⟨h1, h2, h3, h4, -⟩
    rw [w_X9_redo_L22.eq_2]
    exact gbr_ltF 25 25 rfl rfl (by decide) (by decide) (Nat.le_refl _) (h t h1 h2 h3 h4)
  · rintro k i t hi ⟨h1, h2, h3, h4, h7⟩ ih
    rw [w_X9_redo_L22.eq_2]
    refine gbr_ltT i 25 rfl rfl (by omega) (by decide) hi ?_
    rw [show t 42 = M 42 from h1 42 (by decide), h6, c_25]
    refine ⟨c_in hi (by decide), c_in (by omega) (by decide), ?_⟩
    intro M2 e2
    rw [c_cl (by omega), c_cl (by omega), h7 i (Nat.le_refl _)] at e2
    have e42 : M2 42 6 = nI u := by rw [e2, gst_n (by decide), h1 42 (by decide)]; exact h5
    rw [e42, c_25]
    refine ⟨c_in (by omega) (by decide), c_in hi (by decide), ?_⟩
    intro M3 e3
    rw [c_cl (by omega), c_cl (by omega), show M2 46 = M 46 by rw [e2, gst_n (by decide)]; exact h1 46 (by decide)] at e3
    refine nm_r (c_add1 i) (ih M3 ?_)
    rw [e3, e2]
    refine ⟨(h1.st (by decide)).st (by decide), fun j hj => ?_, fun j hj => ?_, fun j hj => ?_, fun j hj => ?_⟩
    · rw [gst_n (by decide)]
      rcases Nat.lt_succ_iff_lt_or_eq.mp hj with q | q
      · rw [gst_k (by omega)]; exact h2 j q
      · rw [q, gst_s]
    · rw [gst_n (by decide), gst_k (by omega)]; exact h3 j hj
    · rcases Nat.lt_succ_iff_lt_or_eq.mp hj with q | q
      · rw [gst_k (by omega), gst_n (by decide)]; exact h4 j q
      · rw [q, gst_s]
    · rw [gst_k (by omega), gst_n (by decide)]; exact h7 j (by omega)
def RW (w : Nat → Nat) (M : gM) : Prop := ∀ v, v < 14 → M 44 v = nI (w v) ∧ w v ≤ 99
def RT (len : Nat) (c : Nat → Nat) (M : gM) : Prop := M 42 22 = nI len ∧ len ≤ 100 ∧ ∀ i, i < len → M 57 i = nI (c i) ∧ c i < 65536
def MI (s : sT) (M : gM) : Prop := RG s.1 s.2.1 M ∧ RH s.2.2.1 s.2.2.2.1 M ∧ RW s.2.2.2.2.1 M ∧ RT s.2.2.2.2.2.1 s.2.2.2.2.2.2 M ∧ saneL s.1 s.2.2.1 ∧ saneL s.1 s.2.2.2.1
/-- what a state tells is alike -/
def MF (M M1 : gM) : Prop := (M1 43 = M 43 ∧ M1 44 = M 44 ∧ M1 45 = M 45 ∧ M1 46 = M 46 ∧ M1 57 = M 57) ∧ M1 42 0 = M 42 0 ∧ M1 42 5 = M 42 5 ∧ M1 42 6 = M 42 6 ∧ M1 42 22 = M 42 22
theorem RH_s {past fut : List (List Nat)} {M M1 : gM} (h : RH past fut M) (h5 : M1 42 5 = M 42 5) (h6 : M1 42 6 = M 42 6) (e45 : M1 45 = M 45) (e46 : M1 46 = M 46) : RH past fut M1 := ⟨h5.trans h.1, h6.trans h.2.1, h.2.2.1, by rw [e45]; exact h.2.2.2.1, by rw [e46]; exact h.2.2.2.2⟩
theorem RW_s {w : Nat → Nat} {M M1 : gM} (h : RW w M) (e : M1 44 = M 44) : RW w M1 := fun v hv => by rw [e]; exact h v hv
theorem RT_s {len : Nat} {c : Nat → Nat} {M M1 : gM} (h : RT len c M) (e : M1 42 22 = M 42 22) (e2 : M1 57 = M 57) : RT len c M1 := ⟨e.trans h.1, h.2.1, fun i hi => by rw [e2]; exact h.2.2 i hi⟩
theorem MI_s {s : sT} {M M1 : gM} (h : MI s M) (k : MF M M1) : MI s M1 := ⟨RG_s h.1 k.1.1 k.2.1, RH_s h.2.1 k.2.2.1 k.2.2.2.1 k.1.2.2.1 k.1.2.2.2.1, RW_s h.2.2.1 k.1.2.1, RT_s h.2.2.2.1 k.2.2.2.2 k.1.2.2.2.2, h.2.2.2.2⟩
section
variable {s : sT} {M : gM} {Q : Int32 → gM → Prop}
theorem MI_edit {E1 : List Nat} {M1 : gM} (h : MI s M) (g1 : RR E1 M1) (g2 : sane s.1 E1) (g3 : RH ((s.2.1 :: s.2.2.1).take 16) [] M1) (e0 : M1 42 0 = M 42 0) (e22 : M1 42 22 = M 42 22) (e44 : M1 44 = M 44) (e57 : M1 57 = M 57) : MI (edit s E1) M1 := ⟨⟨h.1.1, g2, e0.trans h.1.2.2.1, g1⟩, g3, RW_s h.2.2.1 e44, RT_s h.2.2.2.1 e22 e57, saneL_take (saneL_cons h.1.2.1 h.2.2.2.2.1) 16, saneL_nil _⟩
/-- an edit that starts with keep -/
theorem MI_keep {Q : gM → Prop} (h : MI s M) (k : ∀ M1, RG s.1 s.2.1 M1 → (∀ (E1 : List Nat) M2, same [43] M1 M2 → RR E1 M2 → sane s.1 E1 → MI (edit s E1) M2) → M1 43 = M 43 → Q M1) : w_X9_keep M Q := by
  refine N_keep h.1.2.2.2 h.2.1 (fun M1 g1 g2 g3 => k M1 (RG_s h.1 (g2 43 (by decide)) (g3 0 (by decide) (by decide))) (fun E1 M2 j1 j2 j3 => ?_) (g2 43 (by decide)))
  have e42 : M2 42 = M1 42 := j1 42 (by decide)
  refine MI_edit h j2 j3 (RH_s g1 (by rw [e42]) (by rw [e42]) (j1 45 (by decide)) (j1 46 (by decide))) (by rw [e42]; exact g3 0 (by decide) (by decide)) (by rw [e42]; exact g3 22 (by decide) (by decide)) ((j1 44 (by decide)).trans (g2 44 (by decide))) ((j1 57 (by decide)).trans (g2 57 (by decide)))
theorem N_reset {p : Int32} (hI : MI s M) (h : ∀ M1, MI (o_reset s p).2 M1 → Q (o_reset s p).1 M1) : w_X9_reset p M Q := by
  unfold o_reset at h
  unfold w_X9_reset w_X9_in
  have h0 : ¬ (1 ≤ pn p ∧ pn p ≤ 14) → Q (-3) M := fun q => by
    rw [if_neg q] at h; exact h M hI
  rcases arg_cases p with ⟨h1, h2⟩ | ⟨j, h1, h2, h3⟩
  · refine gbr_t (Int32.lt_trans h1 (by decide)) ?_
    exact gbr_t rfl (h0 (by omega))
  · subst h2
    refine gbr_lt j 1 rfl rfl h1 (by decide) (fun q => gbr_t rfl (h0 (by omega))) (fun q1 => ?_)
    refine gbr_lt 14 j rfl rfl (by decide) h1 (fun q => gbr_t rfl (h0 (by omega))) (fun q2 => ?_)
    refine gbr_f (by decide) ?_
    rw [if_pos (by omega), h3] at h
    rw [hI.1.2.2.1]
    refine nm_e ?_
    intro M4 e4
    refine ⟨v24, ?_⟩
    intro M5 e5
    rw [show Int32.toNatClampNeg 24 = 24 from rfl] at e5
    unfold w_X9_restWeights
    refine lp (σ := gM) (fun k x t => w_X9_restWeights_L2 _ _ k x t) (fun i t => same [44] M5 t ∧ ∀ v, v < i → t 44 v = nI 1) 14 0 rfl (Nat.zero_le _) ⟨same.rfl, fun v hv => absurd hv (Nat.not_lt_zero _)⟩ ?_ ?_
    · rintro k t ⟨g1, g2⟩
      rw [w_X9_restWeights_L2.eq_2]
      refine gbr_ltF 14 14 rfl rfl (by decide) (by decide) (Nat.le_refl _) ?_
      refine nm_e (nm_e ?_)
      have e42 : t 42 = M5 42 := g1 42 (by decide)
      refine h _ ⟨⟨by dsimp only; omega, sane_nil _, ?_, Nat.zero_le _, fun i hi => by simp at hi, ?_, fun i hi => by simp at hi⟩, ⟨?_, ?_, Nat.zero_le _, fun k hk => by simp at hk, fun k hk => by simp at hk⟩, fun v hv => ⟨?_, show 1 ≤ 99 by decide⟩, RT_s hI.2.2.2.1 ?_ ?_, saneL_nil _, saneL_nil _⟩
      · rw [gst_k (by decide), gst_k (by decide), e42, e5, gst_n (by decide), e4, gst_s]
      · rw [gst_n (by decide), gst_n (by decide), g1 43 (by decide), e5, gst_s]; rfl
      · rw [gst_k (by decide), gst_s]; rfl
      · rw [gst_s]; rfl
      · rw [gst_n (by decide), gst_n (by decide)]; exact g2 v hv
      · rw [gst_k (by decide), gst_k (by decide), e42, e5, gst_n (by decide), e4, gst_k (by decide)]
      · rw [gst_n (by decide), gst_n (by decide), g1 57 (by decide), e5, gst_n (by decide), e4, gst_n (by decide)]
    · rintro k i t hi ⟨g1, g2⟩ ih
      rw [w_X9_restWeights_L2.eq_2]
      refine gbr_ltT i 14 rfl rfl (by omega) (by decide) hi ⟨c_in (by omega) (by decide), ?_⟩
      rw [c_cl (by omega)]
      refine nm_e (nm_r (c_add1 i) (ih _ ⟨g1.st (by decide), fun v hv => ?_⟩))
      rcases Nat.lt_succ_iff_lt_or_eq.mp hv with q | q
      · rw [gst_k (by omega)]; exact g2 v q
      · rw [q, gst_s]; rfl
theorem N_append {L : List Nat} {x : Nat} {Q : gM → Prop} (hR : RR L M) (hl : L.length < 24) (hx : x < 16384) (h : ∀ M1, RR (L ++ [x]) M1 → same [43] M M1 → Q M1) : w_X9_append (nI x) M Q := by
  unfold w_X9_append
  rw [show Int32.toNatClampNeg 24 = 24 from rfl, hR.2.2.1]
  refine ⟨v24, c_in (by omega) (by decide), ?_⟩
  rw [c_cl (by omega)]
  refine nm_e ⟨v24, v24, ?_⟩
  rw [gst_k (by omega), hR.2.2.1, c_add1]
  refine nm_e (h _ ⟨?_, fun i hi => ?_, ?_, ?_⟩ ((same.rfl.st (by decide)).st (by decide)))
  · rw [List.length_append, List.length_singleton]; omega
  · rw [List.length_append, List.length_singleton] at hi
    by_cases q : i < L.length
    · rw [ed_app q]; exact hR.2.1 i q
    · rw [show i = L.length by omega, ed_last]; exact hx
  · rw [gst_s, List.length_append, List.length_singleton]
  · rw [gst_f, if_pos rfl, gst_f, if_pos rfl]
    intro i hi
    rw [List.length_append, List.length_singleton] at hi
    rw [upd_f, if_neg (by omega)]
    exact rowIs_app (rowIs_upd hR.2.2.2 (Nat.le_refl _)) (by rw [upd_f, if_pos rfl]) i (by rw [List.length_append, List.length_singleton]; exact hi)
theorem N_addEdge {p : Int32} (hI : MI s M) (h : ∀ M1, MI (o_addEdge s p).2 M1 → Q (o_addEdge s p).1 M1) : w_X9_addEdge p M Q := by
  have hG := hI.1
  have h14 := p2_14 hG.1.2
  have hl := hG.2.1.1
  unfold o_addEdge at h
  unfold w_X9_addEdge
  refine N_noSet hG.1.2 hG.2.2.1 ?_
  refine gbr_b _ rfl (fun z => ?_) (fun z => ?_)
  · replace z : pn p < 2 ^ s.1 := by simpa using z
    have ep := pn_eq (p := p) (by omega)
    refine gbr_pe 0 rfl (by decide) (fun q => ?_) (fun q => ?_)
    · rw [if_pos (Or.inl q)] at h; exact h M hI
    rw [if_neg (by omega)] at h
    obtain ⟨j, hj⟩ : ∃ j, j = pn p := ⟨_, rfl⟩
    rw [← hj] at h ep z q
    subst ep
    refine N_placeOf hG.2.2.2 (by omega) (fun q2 => ?_) (fun i q1 q2 _ => ?_)
    · rw [if_neg (fun y => by obtain ⟨i, y1, y2⟩ := mem_ed.mp y; exact q2 i y1 y2)] at h
      refine gbr_t (by decide) ?_
      refine N_many hG.2.2.2 ?_
      refine gbr_eq _ 24 rfl rfl (by omega) (by decide) (fun y => ?_) (fun y => ?_)
      · rw [if_pos (by omega)] at h; exact h M hI
      · rw [if_neg (by omega)] at h
        refine MI_keep hI (fun M1 g1 g2 _ => ?_)
        refine N_append g1.2.2.2 (by omega) (by omega) (fun M2 k1 k2 => ?_)
        refine N_many k1 ?_
        rw [List.length_append, List.length_singleton, sub1, nI_dec]
        exact h M2 (g2 _ M2 k2 k1 (sane_app hG.2.1 (by omega) ⟨by omega, z⟩))
    · rw [if_pos (mem_ed.mpr ⟨i, q1, q2⟩)] at h
      exact gbr_f (nI_lt0 (by omega)) (h M hI)
  · replace z : ¬ pn p < 2 ^ s.1 := by simpa using z
    rw [if_pos (Or.inr (by omega))] at h; exact h M hI
theorem N_removeEdge {p : Int32} (hI : MI s M) (h : ∀ M1, MI (o_removeEdge s p).2 M1 → Q (o_removeEdge s p).1 M1) : w_X9_removeEdge p M Q := by
  have hG := hI.1
  have hl := hG.2.1.1
  unfold o_removeEdge at h
  unfold w_X9_removeEdge
  refine N_noEdge hG.2.2.2 ?_
  refine gbr_b _ rfl (fun z => ?_) (fun z => ?_)
  · replace z : pn p < s.2.1.length := by simpa using z
    have ep := pn_eq (p := p) (by omega)
    rw [if_pos z] at h
    obtain ⟨j, hj⟩ : ∃ j, j = pn p := ⟨_, rfl⟩
    rw [← hj] at h ep z
    subst ep
    refine ⟨c_in (by omega) (by decide), ?_⟩
    rw [c_cl (by omega), hG.2.2.2.2.2.2 j z]
    refine nm_e ?_
    refine MI_keep hI (fun M1 g1 g2 _ => ?_)
    obtain ⟨w, hw⟩ : ∃ w, w = nd (2 ^ s.2.1.length - 1) (2 ^ j) := ⟨_, rfl⟩
    rw [← hw] at h
    have hb : ∀ i, i < s.2.1.length → (w.testBit i = true ↔ i ≠ j) := fun i hi => by
      rw [hw, nd_tb, tb_all, tb_pow, decide_eq_true hi, Bool.true_and, Bool.not_eq_true', decide_eq_false_iff_not]
      exact ⟨fun q r => q r.symm, fun q r => q r.symm⟩
    have hA : (s.2.1.take j).length = j := by rw [List.length_take]; omega
    have ks_all : ∀ m i, i + m = s.2.1.length → j < i → ks s.2.1 w i m = s.2.1.drop i := by
      intro m
      induction m with
      | zero => intro i e _; rw [ks, List.drop_of_length_le (by omega)]
      | succ m ih =>
        intro i e q
        rw [ks, if_pos ((hb i (by omega)).mpr (by omega)), ih (i + 1) (by omega) (by omega)]
        have hi : i < s.2.1.length := by omega
        rw [List.drop_eq_getElem_cons hi]
        unfold ed
        rw [List.getD_eq_getElem?_getD, List.getElem?_eq_getElem hi]; rfl
    have kp_all : ∀ i, i ≤ j → kp s.2.1 w i = s.2.1.take i := by
      intro i
      induction i with
      | zero => intro _; rfl
      | succ i ih =>
        intro q
        rw [kp, if_pos ((hb i (by omega)).mpr (by omega)), ih (by omega), take_ed (by omega)]
    have e1 : kp s.2.1 w s.2.1.length = s.2.1.take j ++ s.2.1.drop (j + 1) := by
      have e2 := kp_ks s.2.1 w (s.2.1.length - (j + 1)) (j + 1)
      rw [ks_all _ _ (by omega) (by omega), show j + 1 + (s.2.1.length - (j + 1)) = s.2.1.length by omega] at e2
      rw [← e2, kp, if_neg (fun y => ((hb j z).mp y) rfl), kp_all j (Nat.le_refl _)]
    have e3 : s.2.1 = s.2.1.take j ++ ed s.2.1 j :: s.2.1.drop (j + 1) := by
      have e4 := take_ed z
      have e5 := List.take_append_drop (j + 1) s.2.1
      rw [e4, List.append_assoc, List.singleton_append] at e5
      exact e5.symm
    have g3 := g1.2.2.2
    rw [e3] at g3
    refine N_drop (by rw [hA]) g3 (fun M2 k1 k2 => ?_)
    rw [← e1] at k1
    exact h M2 (g2 _ M2 k2 k1 (kp_sane hG.2.1 w _ (Nat.le_refl _)))
  · replace z : ¬ pn p < s.2.1.length := by simpa using z
    rw [if_neg z] at h
    exact h M hI
theorem c_bits {w m : Nat} (hm : m ≤ 24) (hw : w < 2147483648) : ∀ e, e < m → (nI w >>> (nI e &&& 31)) &&& 1 = b2 (w.testBit e) := fun e he => c_bit hw (by omega)
theorem N_minimize (hI : MI s M) (h : ∀ M1, MI (o_minimize s).2 M1 → Q (o_minimize s).1 M1) : w_X9_minimize M Q := by
  have hG := hI.1
  have hl := hG.2.1.1
  unfold o_minimize at h
  unfold w_X9_minimize
  refine MI_keep hI (fun M1 g1 g2 _ => ?_)
  refine N_minimalEdges g1.2.2.2 ?_
  have hml : minE s.2.1 < 16777216 := Nat.lt_of_lt_of_le (mk_lt _ _) (p2_24 hl)
  refine N_keepOnly g1.2.2.2 (c_bits hl (by omega)) (fun M2 k1 k2 => ?_)
  exact h M2 (g2 _ M2 k2 k1 (kp_sane hG.2.1 _ _ (Nat.le_refl _)))
theorem c_nbit {a e : Nat} (he : e < 31) : ((nI a ^^^ (-1)) >>> (nI e &&& 31)) &&& 1 = b2 (!a.testBit e) := by
  have h1 : (-1 : Int32).toBitVec = BitVec.allOnes 32 := by decide
  have hs := c_sm e (by omega)
  have e1 : (b2 (!a.testBit e)).toBitVec = BitVec.ofNat 32 (if a.testBit e then 0 else 1) := by cases a.testBit e <;> rfl
  apply Int32.toBitVec_inj.mp
  rw [e1]
  apply BitVec.eq_of_getLsbD_eq
  intro i hi
  rw [Int32.toBitVec_and, BitVec.getLsbD_and, Int32.toBitVec_shiftRight, BitVec.sshiftRight', hs, BitVec.getLsbD_sshiftRight]
  have e2 : (1 : Int32).toBitVec.getLsbD i = decide (i = 0) := by
    show (BitVec.ofNat 32 1).getLsbD i = _
    rw [BitVec.getLsbD_ofNat, show (1 : Nat) = 2 ^ 0 from rfl, Nat.testBit_two_pow]
    simp [hi, eq_comm]
  rw [e2]
  by_cases q : i = 0
  · subst q
    simp only [Int32.toBitVec_xor, h1, nI, Int32.toBitVec_ofNat', BitVec.getLsbD_xor, BitVec.getLsbD_ofNat, BitVec.getLsbD_allOnes]
    have h32 : e < 32 := by omega
    cases a.testBit e <;> simp [h32]
  · rw [decide_eq_false q, Bool.and_false]
    cases a.testBit e
    · show false = (BitVec.ofNat 32 1).getLsbD i
      rw [BitVec.getLsbD_ofNat, show (1 : Nat) = 2 ^ 0 from rfl, Nat.testBit_two_pow]
      simp [hi]; omega
    · simp
theorem N_delete {p : Int32} (hI : MI s M) (h : ∀ M1, MI (o_delete s p).2 M1 → Q (o_delete s p).1 M1) : w_X9_delete p M Q := by
  have hG := hI.1
  have hn := hG.1
  have hl := hG.2.1.1
  unfold o_delete at h
  unfold w_X9_delete
  refine N_noVertex hn.2 hG.2.2.1 ?_
  refine gbr_b _ rfl (fun z => ?_) (fun z => ?_)
  · replace z : pn p < s.1 := by simpa using z
    have ep := pn_eq (p := p) (by omega)
    rw [if_pos z] at h
    obtain ⟨j, hj⟩ : ∃ j, j = pn p := ⟨_, rfl⟩
    rw [← hj] at h ep z
    subst ep
    refine N_edgesWith hG.2.2.2 (by omega) ?_
    refine MI_keep hI (fun M1 g1 g2 _ => ?_)
    refine N_keepOnly (w := nd (2 ^ s.2.1.length - 1) (at_ s.2.1 j)) g1.2.2.2 (fun e he => ?_) (fun M2 k1 k2 => ?_)
    · rw [c_nbit (by omega), nd_tb, tb_all, decide_eq_true he, Bool.true_and]
    · exact h M2 (g2 _ M2 k2 k1 (kp_sane hG.2.1 _ _ (Nat.le_refl _)))
  · replace z : ¬ pn p < s.1 := by simpa using z
    rw [if_neg z] at h
    exact h M hI
def cutE (E : List Nat) (v : Nat) : List Nat := E.map (fun x => nd x (2 ^ v))
theorem cutE_len (E : List Nat) (v : Nat) : (cutE E v).length = E.length := List.length_map ..
theorem cutE_ed {E : List Nat} {v i : Nat} (h : i < E.length) : ed (cutE E v) i = nd (ed E i) (2 ^ v) := by
  unfold ed cutE
  rw [List.getD_eq_getElem?_getD, List.getD_eq_getElem?_getD, List.getElem?_map, List.getElem?_eq_getElem h]; rfl
theorem tk_mem {E : List Nat} {v x : Nat} : ∀ k, x ∈ tk E v k ↔ x ≠ 0 ∧ ∃ j, j < k ∧ nd (ed E j) (2 ^ v) = x := by
  intro k
  induction k with
  | zero => simp [tk]
  | succ k ih =>
    rw [tk]
    have hs : (∃ j, j < k + 1 ∧ nd (ed E j) (2 ^ v) = x) ↔ (∃ j, j < k ∧ nd (ed E j) (2 ^ v) = x) ∨ nd (ed E k) (2 ^ v) = x := by
      constructor
      · rintro ⟨j, h1, h2⟩
        rcases Nat.lt_succ_iff_lt_or_eq.mp h1 with q | q
        · exact Or.inl ⟨j, q, h2⟩
        · rw [q] at h2; exact Or.inr h2
      · rintro (⟨j, h1, h2⟩ | h)
        · exact ⟨j, by omega, h2⟩
        · exact ⟨k, by omega, h⟩
    rw [hs]
    split
    · rename_i q
      rw [List.mem_append, List.mem_singleton, ih]
      constructor
      · rintro (⟨h1, h2⟩ | h)
        · exact ⟨h1, Or.inl h2⟩
        · rw [h]; exact ⟨q.1, Or.inr rfl⟩
      · rintro ⟨h1, h2 | h2⟩
        · exact Or.inl ⟨h1, h2⟩
        · exact Or.inr h2.symm
    · rename_i q
      rw [ih]
      constructor
      · rintro ⟨h1, h2⟩; exact ⟨h1, Or.inl h2⟩
      · rintro ⟨h1, h2 | h2⟩
        · exact ⟨h1, h2⟩
        · apply Classical.byContradiction
          intro y
          refine q ⟨by rw [h2]; exact h1, fun y2 => ?_⟩
          rw [h2] at y2
          exact y (ih.mp y2)
/-- the first places of sets that are not empty -/
noncomputable def fst1 (F : List Nat) : Nat := mk F.length (fun e => bd (ed F e ≠ 0 ∧ ∀ j, j < e → ed F j ≠ ed F e))
theorem cut_tk (E : List Nat) (v : Nat) : ∀ k, k ≤ E.length → kp (cutE E v) (fst1 (cutE E v)) k = tk E v k := by
  intro k
  induction k with
  | zero => intro _; rfl
  | succ k ih =>
    intro hk
    rw [kp, tk, ih (by omega), cutE_ed (by omega)]
    have hb : (fst1 (cutE E v)).testBit k = true ↔ nd (ed E k) (2 ^ v) ≠ 0 ∧ nd (ed E k) (2 ^ v) ∉ tk E v k := by
      unfold fst1
      rw [mk_tb, cutE_len, decide_eq_true (by omega), Bool.true_and]
      constructor
      · intro h
        obtain ⟨h1, h2⟩ := of_bd_t h
        rw [cutE_ed (by omega)] at h1
        refine ⟨h1, fun y => ?_⟩
        obtain ⟨-, j, y1, y2⟩ := (tk_mem k).mp y
        have h3 := h2 j y1
        rw [cutE_ed (by omega), cutE_ed (by omega)] at h3
        exact h3 y2
      · rintro ⟨h1, h2⟩
        refine bd_t ⟨by rw [cutE_ed (by omega)]; exact h1, fun j hj y => h2 ((tk_mem k).mpr ⟨h1, j, hj, ?_⟩)⟩
        rw [cutE_ed (by omega), cutE_ed (by omega)] at y
        exact y
    by_cases q : (fst1 (cutE E v)).testBit k = true
    · rw [if_pos q, if_pos (hb.mp q)]
    · rw [if_neg q, if_neg (fun y => q (hb.mpr y))]
theorem N_contract {p : Int32} (hI : MI s M) (h : ∀ M1, MI (o_contract s p).2 M1 → Q (o_contract s p).1 M1) : w_X9_contract p M Q := by
  have hG := hI.1
  have hn := hG.1
  have hl := hG.2.1.1
  unfold o_contract at h
  unfold w_X9_contract
  refine N_noVertex hn.2 hG.2.2.1 ?_
  refine gbr_b _ rfl (fun z => ?_) (fun z => ?_)
  · replace z : pn p < s.1 := by simpa using z
    have ep := pn_eq (p := p) (by omega)
    rw [if_pos z] at h
    obtain ⟨v, hj⟩ : ∃ j, j = pn p := ⟨_, rfl⟩
    rw [← hj] at h ep z
    subst ep
    refine N_edgesWith hG.2.2.2 (by omega) ?_
    refine MI_keep hI (fun M1 g1 g2 _ => ?_)
    have g3 := g1.2.2.2
    refine lp (σ := gM) (fun k x t => w_X9_contract_L22 _ _ _ _ k x t) (fun i t => same [43] M1 t ∧ t 43 24 = nI s.2.1.length ∧ (∀ j, j < i → t 43 j = nI (ed (cutE s.2.1 v) j)) ∧ ∀ j, i ≤ j → j < s.2.1.length → t 43 j = nI (ed s.2.1 j)) s.2.1.length 0 rfl (Nat.zero_le _) ⟨same.rfl, g3.2.2.1, fun j hj => absurd hj (Nat.not_lt_zero _), fun j _ hj => g3.2.2.2 j hj⟩ ?_ ?_
    · rintro k t ⟨j1, j2, j3, -⟩
      rw [w_X9_contract_L22.eq_2]
      refine N_many' j2 ?_
      refine gbr_ltF _ _ rfl rfl (by omega) (by omega) (Nat.le_refl _) ?_
      have hF : RR (cutE s.2.1 v) t := ⟨by rw [cutE_len]; exact hl, fun i hi => by
        rw [cutE_len] at hi
        rw [cutE_ed hi]
        exact nd_lt (n := 14) (g3.2.1 i hi), by rw [cutE_len]; exact j2, fun i hi => j3 i (by rw [cutE_len] at hi; exact hi)⟩
      refine lp (σ := Int32) (fun k x u => w_X9_contract_L55 _ _ _ _ k u x t) (fun i u => u = nI (mk i (fun e => bd (ed (cutE s.2.1 v) e ≠ 0 ∧ ∀ j, j < e → ed (cutE s.2.1 v) j ≠ ed (cutE s.2.1 v) e)))) (cutE s.2.1 v).length 0 rfl (Nat.zero_le _) rfl ?_ ?_
      · intro k u hJ
        rw [w_X9_contract_L55.eq_2]
        refine N_many hF ?_
        refine gbr_ltF _ _ rfl rfl (by have := hF.1; omega) (by have := hF.1; omega) (Nat.le_refl _) ?_
        subst hJ
        have hfl : fst1 (cutE s.2.1 v) < 16777216 := Nat.lt_of_lt_of_le (mk_lt _ _) (p2_24 hF.1)
        refine N_keepOnly (w := fst1 (cutE s.2.1 v)) hF (c_bits (w := fst1 (cutE s.2.1 v)) hF.1 (by omega)) (fun M2 k1 k2 => ?_)
        rw [cutE_len, cut_tk _ _ _ (Nat.le_refl _)] at k1
        refine N_bits (at_lt hl v) ?_
        exact h M2 (g2 _ M2 (j1.tr k2) k1 (tk_sane hG.2.1 _ _ (Nat.le_refl _)))
      · intro k i u hi hJ ih
        have hl2 := hF.1
        have hb := hF.2.1 i hi
        rw [w_X9_contract_L55.eq_2]
        refine N_many hF ?_
        refine gbr_ltT i _ rfl rfl (by omega) (by omega) hi ⟨c_in (by omega) (by decide), ?_⟩
        rw [c_cl (by omega), hF.2.2.2 i hi]
        have no : ∀ P : Prop, ¬ P → mk i (fun e => bd (ed (cutE s.2.1 v) e ≠ 0 ∧ ∀ j, j < e → ed (cutE s.2.1 v) j ≠ ed (cutE s.2.1 v) e)) ||| 0 = mk i (fun e => bd (ed (cutE s.2.1 v) e ≠ 0 ∧ ∀ j, j < e → ed (cutE s.2.1 v) j ≠ ed (cutE s.2.1 v) e)) ||| (if bd P then 2 ^ i else 0) := fun P q => by rw [bd_f q]; rfl
        refine gbr_eq _ 0 rfl rfl (by omega) (by decide) (fun y => ?_) (fun y => ?_)
        · refine nm_e (nm_r (c_add1 i) (ih _ ?_))
          rw [hJ, show (0 : Int32) = nI 0 from rfl, c_or, mk]
          exact congrArg nI (no _ (fun q => q.1 y))
        · refine ⟨c_in (by omega) (by decide), ?_⟩
          refine N_placeOf hF (by omega) (fun q => absurd rfl (q i hi)) (fun f f1 f2 f3 => ?_)
          refine gbr_eq f i rfl rfl (by omega) (by omega) (fun q => ?_) (fun q => ?_)
          · refine nm_e (nm_r (c_add1 i) (ih _ ?_))
            rw [hJ, c_shl i (by omega), c_or, mk, bd_t ⟨y, by rw [q] at f3; exact f3⟩]; rfl
          · refine nm_e (nm_r (c_add1 i) (ih _ ?_))
            rw [hJ, show (0 : Int32) = nI 0 from rfl, c_or, mk]
            refine congrArg nI (no _ (fun x => ?_))
            rcases Nat.lt_or_gt_of_ne q with q2 | q2
            · exact x.2 f q2 f2
            · exact f3 i q2 rfl
    · rintro k i t hi ⟨j1, j2, j3, j4⟩ ih
      rw [w_X9_contract_L22.eq_2]
      refine N_many' j2 ?_
      refine gbr_ltT i _ rfl rfl (by omega) (by omega) hi ⟨c_in (by omega) (by decide), c_in (by omega) (by decide), ?_⟩
      rw [c_cl (by omega), j4 i (Nat.le_refl _) hi, c_shl v (by omega), c_nd]
      refine nm_e (nm_r (c_add1 i) (ih _ ⟨j1.st (by decide), by rw [gst_k (by omega)]; exact j2, fun j hj => ?_, fun j hj hj2 => ?_⟩))
      · rcases Nat.lt_succ_iff_lt_or_eq.mp hj with q | q
        · rw [gst_k (by omega)]; exact j3 j q
        · rw [q, gst_s, cutE_ed hi]
      · rw [gst_k (by omega)]; exact j4 j (by omega) hj2
  · replace z : ¬ pn p < s.1 := by simpa using z
    rw [if_neg z] at h
    exact h M hI
theorem N_undo (hI : MI s M) (h : ∀ M1, MI (o_undo s).2 M1 → Q (o_undo s).1 M1) : w_X9_undo M Q := by
  obtain ⟨n, E, past, fut, w, len, c⟩ := s
  obtain ⟨hG, hH, hW, hT, hp, hf⟩ := hI
  obtain ⟨h5, h6, h16, b1, b2⟩ := hH
  dsimp only at hG hW hT hp hf h5 h6 h16 b1 b2
  unfold w_X9_undo
  cases past with
  | nil =>
    refine gbr_t h5 ?_
    exact h M ⟨hG, ⟨h5, h6, h16, b1, b2⟩, hW, hT, hp, hf⟩
  | cons P ps =>
    rw [List.length_cons] at h5 h16 b1
    have hp := saneL_tail hp
    replace h : ∀ M1, MI (n, P, ps, E :: fut, w, len, c) M1 → Q (nI ps.length) M1 := h
    refine gbr_eq _ 0 h5 rfl (by omega) (by decide) (fun q => by omega) (fun _ => ?_)
    rw [h5, sub1, nI_dec]
    intro M1 e1
    refine N_undoL (u := ps.length) (f := fut.length) (by rw [e1, gst_s]) (by rw [e1, gst_k (by decide)]; exact h6) (by omega) (by omega) (fun M2 g1 g2 g3 g4 => ?_)
    have e42 : M2 42 = M1 42 := g1 42 (by decide)
    rw [e42, show M1 42 6 = nI fut.length by rw [e1, gst_k (by decide)]; exact h6, c_add1]
    refine nm_e ?_
    rw [gst_k (by decide), e42, show M1 42 5 = nI ps.length by rw [e1, gst_s]]
    have hrow : RR P M2 := blk_use (blk_c (b1 0 (by omega)) (fun i hi => by
      rw [Nat.zero_add, g4 i hi, e1, gst_n (by decide)]
      congr 1)) (fun i hi => sane_lt hp.1 hG.1.2 hi)
    have e1' : ∀ j, j ≠ 42 → M1 j = M j := fun j hj => by rw [e1, gst_n hj]
    have e2' : ∀ j, j ≠ 5 → M1 42 j = M 42 j := fun j hj => by rw [e1, gst_k hj]
    refine h _ ⟨⟨hG.1, hp.1, ?_, RR_s hrow (gst_n (by decide))⟩, ⟨?_, ?_, by dsimp only; rw [List.length_cons]; omega, fun k hk => ?_, fun k hk => ?_⟩, RW_s hW ?_, RT_s hT ?_ ?_, hp.2, saneL_cons hG.2.1 hf⟩
    · rw [gst_k (by decide), e42, e2' 0 (by decide)]; exact hG.2.2.1
    · rw [gst_k (by decide), e42, e1, gst_s]
    · rw [gst_s]; rfl
    · dsimp only at hk ⊢
      rw [gst_n (by decide), g1 45 (by decide), e1' 45 (by decide)]
      have b3 := b1 (k + 1) (by omega)
      rw [getD_consS, show ps.length + 1 - 1 - (k + 1) = ps.length - 1 - k by omega] at b3
      exact b3
    · dsimp only at hk ⊢
      rw [List.length_cons] at hk ⊢
      rw [gst_n (by decide)]
      cases k with
      | zero =>
        refine blk_c (blk_now hG.2.2.2) (fun i hi => ?_)
        rw [show fut.length + 1 - 1 - 0 = fut.length by omega, g2 i hi, Nat.zero_add, e1' 43 (by decide)]
      | succ k =>
        rw [getD_consS]
        refine blk_c (b2 k (by omega)) (fun i hi => ?_)
        rw [g3 _ (by omega), e1' 46 (by decide)]
        congr 1; omega
    · rw [gst_n (by decide), g1 44 (by decide), e1' 44 (by decide)]
    · rw [gst_k (by decide), e42, e2' 22 (by decide)]
    · rw [gst_n (by decide), g1 57 (by decide), e1' 57 (by decide)]
theorem N_redo (hI : MI s M) (h : ∀ M1, MI (o_redo s).2 M1 → Q (o_redo s).1 M1) : w_X9_redo M Q := by
  obtain ⟨n, E, past, fut, w, len, c⟩ := s
  obtain ⟨hG, hH, hW, hT, hp, hf⟩ := hI
  obtain ⟨h5, h6, h16, b1, b2⟩ := hH
  dsimp only at hG hW hT hp hf h5 h6 h16 b1 b2
  unfold w_X9_redo
  cases fut with
  | nil =>
    refine gbr_t h6 ?_
    exact h M ⟨hG, ⟨h5, h6, h16, b1, b2⟩, hW, hT, hp, hf⟩
  | cons P ps =>
    rw [List.length_cons] at h6 h16 b2
    have hf := saneL_tail hf
    replace h : ∀ M1, MI (n, P, E :: past, ps, w, len, c) M1 → Q (nI ps.length) M1 := h
    refine gbr_eq _ 0 h6 rfl (by omega) (by decide) (fun q => by omega) (fun _ => ?_)
    rw [h6, sub1, nI_dec]
    intro M1 e1
    refine N_redoL (u := ps.length) (f := past.length) (by rw [e1, gst_s]) (by rw [e1, gst_k (by decide)]; exact h5) (by omega) (by omega) (fun M2 g1 g2 g3 g4 => ?_)
    have e42 : M2 42 = M1 42 := g1 42 (by decide)
    rw [e42, show M1 42 5 = nI past.length by rw [e1, gst_k (by decide)]; exact h5, c_add1]
    refine nm_e ?_
    rw [gst_k (by decide), e42, show M1 42 6 = nI ps.length by rw [e1, gst_s]]
    have hrow : RR P M2 := blk_use (blk_c (b2 0 (by omega)) (fun i hi => by
      rw [Nat.zero_add, g4 i hi, e1, gst_n (by decide)]
      congr 1)) (fun i hi => sane_lt hf.1 hG.1.2 hi)
    have e1' : ∀ j, j ≠ 42 → M1 j = M j := fun j hj => by rw [e1, gst_n hj]
    have e2' : ∀ j, j ≠ 6 → M1 42 j = M 42 j := fun j hj => by rw [e1, gst_k hj]
    refine h _ ⟨⟨hG.1, hf.1, ?_, RR_s hrow (gst_n (by decide))⟩, ⟨?_, ?_, by dsimp only; rw [List.length_cons]; omega, fun k hk => ?_, fun k hk => ?_⟩, RW_s hW ?_, RT_s hT ?_ ?_, saneL_cons hG.2.1 hp, hf.2⟩
    · rw [gst_k (by decide), e42, e2' 0 (by decide)]; exact hG.2.2.1
    · rw [gst_s]; rfl
    · rw [gst_k (by decide), e42, e1, gst_s]
    · dsimp only at hk ⊢
      rw [List.length_cons] at hk ⊢
      rw [gst_n (by decide)]
      cases k with
      | zero =>
        refine blk_c (blk_now hG.2.2.2) (fun i hi => ?_)
        rw [show past.length + 1 - 1 - 0 = past.length by omega, g2 i hi, Nat.zero_add, e1' 43 (by decide)]
      | succ k =>
        rw [getD_consS]
        refine blk_c (b1 k (by omega)) (fun i hi => ?_)
        rw [g3 _ (by omega), e1' 45 (by decide)]
        congr 1; omega
    · dsimp only at hk ⊢
      rw [gst_n (by decide), g1 46 (by decide), e1' 46 (by decide)]
      have b3 := b2 (k + 1) (by omega)
      rw [getD_consS, show ps.length + 1 - 1 - (k + 1) = ps.length - 1 - k by omega] at b3
      exact b3
    · rw [gst_n (by decide), g1 44 (by decide), e1' 44 (by decide)]
    · rw [gst_k (by decide), e42, e2' 22 (by decide)]
    · rw [gst_n (by decide), g1 57 (by decide), e1' 57 (by decide)]
end
