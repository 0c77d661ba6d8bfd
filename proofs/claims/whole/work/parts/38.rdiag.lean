/-! the reference: diagrams -/
def FD (M M1 : gM) : Prop := same [42, 53, 54, 55, 56] M M1 ∧ ∀ i, i ≠ 18 → M1 42 i = M 42 i
theorem FD.rfl {M : gM} : FD M M := ⟨same.rfl, fun _ _ => Eq.refl _⟩
theorem FD.tr {A B C : gM} (h : FD A B) (k : FD B C) : FD A C := ⟨h.1.tr k.1, fun i hi => (k.2 i hi).trans (h.2 i hi)⟩
theorem FD.st {A B : gM} (h : FD A B) {i k : Nat} {x : Int32} (hi : i ∈ [53, 54, 55, 56]) : FD A (gst B i k x) := ⟨h.1.st (by simp only [List.mem_cons, List.not_mem_nil, or_false] at hi ⊢; omega), fun j hj => by
  rw [gst_n (by simp only [List.mem_cons, List.not_mem_nil, or_false] at hi; omega)]; exact h.2 j hj⟩
theorem FD.sf {A B : gM} (h : FD A B) {x : Int32} : FD A (gst B 42 18 x) := ⟨h.1.st (by decide), fun j hj => by rw [gst_k hj]; exact h.2 j hj⟩
theorem FD_MF {M M1 : gM} (h : FD M M1) : MF M M1 := ⟨⟨h.1 43 (by decide), h.1 44 (by decide), h.1 45 (by decide), h.1 46 (by decide), h.1 57 (by decide)⟩, h.2 0 (by decide), h.2 5 (by decide), h.2 6 (by decide), h.2 22 (by decide)⟩
theorem FD_RG {n : Nat} {E : List Nat} {M M1 : gM} (h : RG n E M) (k : FD M M1) : RG n E M1 := RG_s h (k.1 43 (by decide)) (k.2 0 (by decide))
theorem FD_of {M M1 : gM} (h : same [53] M M1) : FD M M1 := ⟨h.sub (by decide), fun i _ => by rw [h 42 (by decide)]⟩
section
variable {n : Nat} {E A : List Nat} {M : gM}
theorem N_family {what : Nat} {Q : gM → Prop} (hG : RG n E M) (hw : what < 3) (hA : what = 1 → M 42 7 = nI A.length ∧ rowIs (M 47) A ∧ setsB n A ∧ A.length ≤ 4000) (h : ∀ M1, (∀ t, t < 2 ^ n → M1 53 t = nI (famT what E A t)) → same [53] M M1 → Q M1) : w_X9_layFamily (nI what) M Q := by
  have hn := hG.1
  have h14 := p2_14 hn.2
  have hp := Nat.two_pow_pos n
  unfold w_X9_layFamily
  refine lp (σ := gM) (fun k x t => w_X9_layFamily_L2 Q _ (nI what) k x t) (fun i t => same [53] M t ∧ ∀ a, a < i → t 53 a = nI (if what = 2 then fam2 E a else 0)) (2 ^ n) 0 rfl (Nat.zero_le _) ⟨same.rfl, fun a ha => absurd ha (Nat.not_lt_zero _)⟩ ?_ ?_
  · rintro k t ⟨g1, g2⟩
    have hGt := FD_RG hG (FD_of g1)
    rw [w_X9_layFamily_L2.eq_2]
    refine N_whole hn.2 hGt.2.2.1 ?_
    refine gbr_ltT _ (2 ^ n) rfl rfl (by omega) (by omega) (by omega) ?_
    -- the edges
    suffices H2 : ∀ M18, same [53] M M18 → (∀ a, a < 2 ^ n → M18 53 a = nI (if what = 2 then fam2 E a else if what = 0 then mkd E E.length a else 0)) → ∃ nf, w_X9_layFamily_L74 Q (fun (x21 : Int32) (M22 : gM) => Q M22) (nI what) nf 0 M18 by
      by_cases w0 : what = 0
      · refine lp (σ := gM) (fun k x u => w_X9_layFamily_L42 Q _ (nI what) k x u) (fun i u => same [53] M u ∧ ∀ a, a < 2 ^ n → u 53 a = nI (mkd E i a)) E.length 0 rfl (Nat.zero_le _) ⟨g1, fun a ha => ?_⟩ ?_ ?_
        · rw [g2 a ha, if_neg (by omega)]; rfl
        · rintro k u ⟨u1, u2⟩
          have hGu := FD_RG hG (FD_of u1)
          have hl := hGu.2.2.2.1
          rw [w_X9_layFamily_L42.eq_2]
          refine N_many hGu.2.2.2 ?_
          refine gbr_ltF _ _ rfl rfl (by omega) (by omega) (Nat.le_refl _) ?_
          refine H2 u u1 (fun a ha => ?_)
          rw [if_neg (by omega), if_pos w0]; exact u2 a ha
        · rintro k i u hi ⟨u1, u2⟩ ih
          have hGu := FD_RG hG (FD_of u1)
          have hl := hGu.2.2.2.1
          have he := hGu.2.2.2.2.1 i hi
          have he2 := (hG.2.1.2 i hi).2
          rw [w_X9_layFamily_L42.eq_2]
          refine N_many hGu.2.2.2 ?_
          refine gbr_ltT i _ rfl rfl (by omega) (by omega) hi ?_
          refine gbr_t (by rw [w0]; rfl) ⟨c_in (by omega) (by decide), ?_⟩
          rw [c_cl (by omega), hGu.2.2.2.2.2.2 i hi]
          refine ⟨c_in he (by decide), ?_⟩
          rw [c_cl (by omega)]
          refine nm_e (nm_r (c_add1 i) (ih _ ⟨u1.st (by decide), fun a ha => ?_⟩))
          rw [mkd]
          by_cases q : ed E i = a
          · rw [if_pos q, ← q, gst_s]; rfl
          · rw [if_neg q, gst_k (fun y => q y.symm)]; exact u2 a ha
      · refine ⟨1, ?_⟩
        have hl := hGt.2.2.2.1
        rw [w_X9_layFamily_L42.eq_2]
        refine N_many hGt.2.2.2 ?_
        have r := H2 t g1 (fun a ha => by rw [g2 a ha, if_neg w0])
        refine gbr_c (fun _ => ?_) (fun _ => r)
        exact gbr_f (fun y => w0 (nI_inj (b := 0) (by omega) (by decide) y)) r
    intro M18 m1 m2
    by_cases w1 : what = 1
    · obtain ⟨b1, b2, b3, b4⟩ := hA w1
      refine lp (σ := gM) (fun k x u => w_X9_layFamily_L74 Q _ (nI what) k x u) (fun i u => same [53] M u ∧ ∀ a, a < 2 ^ n → u 53 a = nI (mkd A i a)) A.length 0 rfl (Nat.zero_le _) ⟨m1, fun a ha => ?_⟩ ?_ ?_
      · rw [m2 a ha, if_neg (by omega), if_neg (by omega)]; rfl
      · rintro k u ⟨u1, u2⟩
        rw [w_X9_layFamily_L74.eq_2]
        refine gbr_ltF _ _ rfl (by rw [u1 42 (by decide)]; exact b1) (by omega) (by omega) (Nat.le_refl _) ?_
        refine h u (fun a ha => ?_) u1
        unfold famT
        rw [if_neg (by omega), if_pos w1]; exact u2 a ha
      · rintro k i u hi ⟨u1, u2⟩ ih
        have he2 := b3 i hi
        rw [w_X9_layFamily_L74.eq_2]
        refine gbr_ltT i _ rfl (by rw [u1 42 (by decide)]; exact b1) (by omega) (by omega) hi ?_
        refine gbr_t (by rw [w1]; rfl) ⟨c_in (by omega) (by decide), ?_⟩
        rw [c_cl (by omega), u1 47 (by decide), b2 i hi]
        refine ⟨c_in (by omega) (by decide), ?_⟩
        rw [c_cl (by omega)]
        refine nm_e (nm_r (c_add1 i) (ih _ ⟨u1.st (by decide), fun a ha => ?_⟩))
        rw [mkd]
        by_cases q : ed A i = a
        · rw [if_pos q, ← q, gst_s]; rfl
        · rw [if_neg q, gst_k (fun y => q y.symm)]; exact u2 a ha
    · refine ⟨1, ?_⟩
      rw [w_X9_layFamily_L74.eq_2]
      have r := h M18 (fun a ha => by
        rw [m2 a ha]
        unfold famT
        by_cases w0 : what = 0
        · rw [if_neg (by omega), if_pos w0, if_pos w0]
        · rw [if_pos (by omega), if_neg w0, if_neg w1]) m1
      refine gbr_c (fun _ => ?_) (fun _ => r)
      exact gbr_f (fun y => w1 (nI_inj (b := 1) (by omega) (by decide) y)) r
  · rintro k i t hi ⟨g1, g2⟩ ih
    have hGt := FD_RG hG (FD_of g1)
    rw [w_X9_layFamily_L2.eq_2]
    refine N_whole hn.2 hGt.2.2.1 ?_
    refine gbr_ltF _ i rfl rfl (by omega) (by omega) (by omega) ?_
    have vi : vp_in (nI i) 16384 := c_in (by omega) (by decide)
    have put : ∀ x, (x = nI (if what = 2 then fam2 E i else 0)) → ∀ M9 : gM, M9 = gst t 53 (Int32.toNatClampNeg (nI i)) x → ∀ x10 : Int32, x10 = nI i + 1 → w_X9_layFamily_L2 Q _ (nI what) k x10 M9 := fun x hx => by
      rw [c_cl (by omega)]
      refine nm_e (nm_r (c_add1 i) (ih _ ⟨g1.st (by decide), fun a ha => ?_⟩))
      rcases Nat.lt_succ_iff_lt_or_eq.mp ha with y | y
      · rw [gst_k (by omega)]; exact g2 a y
      · rw [y, gst_s]; exact hx
    refine gbr_eq what 2 rfl rfl (by omega) (by decide) (fun q => ?_) (fun q => ⟨vi, put _ (by rw [if_neg q]; rfl)⟩)
    refine N_missedBy hGt.2.2.2 ?_
    have hml := missE_lt hG.2.1.1 i
    refine gbr_eq _ 0 rfl rfl (by omega) (by decide) (fun y => ⟨vi, put _ ?_⟩) (fun y => ⟨vi, put _ ?_⟩)
    · rw [if_pos q]; unfold fam2; rw [if_pos y]; rfl
    · rw [if_pos q]; unfold fam2; rw [if_neg y]; rfl
def ND (NL : nl) (M : gM) : Prop := M 42 18 = nI NL.length ∧ ∀ k, k < NL.length → M 54 k = nI (nda NL k).1 ∧ M 55 k = nI (nda NL k).2 ∧ (nda NL k).1 < 2303 ∧ (nda NL k).2 < 2303
theorem N_nodeFor {NL : nl} {a b fr : Nat} {Q : Int32 → gM → Prop} (hN : ND NL M) (ha : a < 2303) (hb : b < 2303) (hl : NL.length ≤ 2301) (hf : fr ≤ NL.length) (hu : ∀ i j, fr ≤ i → i < j → j < NL.length → nda NL i ≠ nda NL j)
    (h : ∀ M1, ND (mkNode NL fr (a, b)).2 M1 → FD M M1 → M1 53 = M 53 → M1 56 = M 56 → Q (nI (mkNode NL fr (a, b)).1) M1) : w_X9_nodeFor (nI a) (nI b) (nI fr) M Q := by
  obtain ⟨h1, h2⟩ := hN
  unfold w_X9_nodeFor
  refine lp (σ := Unit) (s0 := ()) (fun k x _ => w_X9_nodeFor_L3 Q _ _ (nI a) (nI b) (nI fr) k x M) (fun i _ => fr ≤ i ∧ ∀ j, fr ≤ j → j < i → nda NL j ≠ (a, b)) NL.length fr rfl hf ⟨Nat.le_refl _, fun j h3 h4 => by omega⟩ ?_ ?_
  · rintro k _ ⟨-, hJ⟩
    rw [w_X9_nodeFor_L3.eq_2]
    refine gbr_ltF _ _ rfl h1 (by omega) (by omega) (Nat.le_refl _) ?_
    rw [h1]
    refine ⟨c_in (by omega) (by decide), ?_⟩
    rw [c_cl (by omega)]
    intro M5 e5
    rw [show M5 42 = M 42 by rw [e5, gst_n (by decide)], h1]
    refine ⟨c_in (by omega) (by decide), ?_⟩
    rw [c_cl (by omega)]
    intro M6 e6
    rw [show M6 42 = M 42 by rw [e6, gst_n (by decide), e5, gst_n (by decide)], h1, c_add1]
    intro M7 e7
    rw [show M7 42 18 = nI (NL.length + 1) by rw [e7, gst_s], c_add1]
    have hm := mkNode_new (NL := NL) (fr := fr) (p := (a, b)) (fun i y1 y2 => hJ i y1 y2)
    rw [hm] at h
    refine h M7 ⟨?_, fun k hk => ?_⟩ ?_ ?_ ?_
    · rw [e7, gst_s, List.length_append, List.length_singleton]
    · rw [List.length_append, List.length_singleton] at hk
      have e54 : M7 54 k = if k = NL.length then nI a else M 54 k := by
        rw [e7, gst_n (by decide), e6, gst_n (by decide), e5, gst_c]
      have e55 : M7 55 k = if k = NL.length then nI b else M 55 k := by
        rw [e7, gst_n (by decide), e6, gst_c, e5, gst_n (by decide)]
      rw [e54, e55]
      by_cases q : k = NL.length
      · rw [if_pos q, if_pos q, q, nda_last]; exact ⟨rfl, rfl, ha, hb⟩
      · rw [if_neg q, if_neg q, nda_app (by omega)]; exact h2 k (by omega)
    · rw [e7, e6, e5]; exact ((FD.rfl.st (by decide)).st (by decide)).sf
    · rw [e7, gst_n (by decide), e6, gst_n (by decide), e5, gst_n (by decide)]
    · rw [e7, gst_n (by decide), e6, gst_n (by decide), e5, gst_n (by decide)]
  · rintro k i _ hi ⟨hfi, hJ⟩ ih
    rw [w_X9_nodeFor_L3.eq_2]
    obtain ⟨c1, c2, c3, c4⟩ := h2 i hi
    have vi : vp_in (nI i) 16384 := c_in (by omega) (by decide)
    have next : nda NL i ≠ (a, b) → ∀ x1 : Int32, x1 = nI i + 1 → w_X9_nodeFor_L3 Q _ _ (nI a) (nI b) (nI fr) k x1 M := fun q => nm_r (c_add1 i) (ih () ⟨by omega, fun j y1 y2 => by
      rcases Nat.lt_succ_iff_lt_or_eq.mp y2 with y | y
      · exact hJ j y1 y
      · rw [y]; exact q⟩)
    refine gbr_ltT i _ rfl h1 (by omega) (by omega) hi ⟨vi, ?_⟩
    rw [c_cl (by omega), c1]
    refine gbr_eq _ a rfl rfl (by omega) (by omega) (fun q1 => ⟨vi, ?_⟩) (fun q1 => next (fun y => q1 (by rw [y])))
    rw [c2]
    refine gbr_eq _ b rfl rfl (by omega) (by omega) (fun q2 => ?_) (fun q2 => next (fun y => q2 (by rw [y])))
    have hp : nda NL i = (a, b) := Prod.ext q1 q2
    have hm := mkNode_old (NL := NL) (fr := fr) (p := (a, b)) hi hfi hp (fun j y1 y2 y3 => hu i j hfi y1 y2 (hp.trans y3.symm))
    rw [hm] at h
    rw [show (2 : Int32) = nI 2 from rfl, nI_add]
    exact h M ⟨h1, h2⟩ FD.rfl rfl rfl
theorem or_half {i v : Nat} (h : i < 2 ^ v) : i ||| 2 ^ v = 2 ^ v + i := by
  rw [Nat.or_comm]
  have := Nat.two_pow_add_eq_or_of_lt h 1
  rw [Nat.mul_one] at this
  exact this.symm
theorem N_level {n j : Nat} {what : Int32} {T0 : Nat → Nat} {K : Int32 → gM → Prop} {Q : gM → Prop} (hn : 1 ≤ n ∧ n ≤ 14) (h0 : ∀ t, t < 2 ^ n → T0 t < 2) (hj : j < n) (hT : ∀ t, t < 2 ^ (n - j) → M 53 t = nI ((dvs n T0 j).1 t)) (hD : ND (dvs n T0 j).2.1 M)
    (h : ∀ M1 x, (∀ t, t < 2 ^ (n - (j + 1)) → M1 53 t = nI ((dvs n T0 (j + 1)).1 t)) → ND (dvs n T0 (j + 1)).2.1 M1 → FD M M1 → M1 56 = M 56 → (dvs n T0 j).2.1.length ≤ (dvs n T0 (j + 1)).2.1.length → (dvs n T0 (j + 1)).2.1.length ≤ 2301 → K x M1) : ∃ nf, w_X9_layDiagram_L29 Q K what (nI (n - 1 - j)) (nI (dvs n T0 j).2.1.length) nf 0 M := by
  have hfew := fun (i : Nat) (hi : i ≤ 2 ^ (n - 1 - j)) => dl_few hn.2 h0 hj hi
  obtain ⟨T, hTd⟩ : ∃ T, T = (dvs n T0 j).1 := ⟨_, rfl⟩
  obtain ⟨NL, hNL⟩ : ∃ NL, NL = (dvs n T0 j).2.1 := ⟨_, rfl⟩
  obtain ⟨hlen, hval⟩ := dvs_inv h0 j (by omega)
  have hv1 : (dvs n T0 (j + 1)).1 = (dl T NL (2 ^ (n - 1 - j)) (2 ^ (n - 1 - j))).1 := by rw [hTd, hNL]; rfl
  have hv2 : (dvs n T0 (j + 1)).2.1 = (dl T NL (2 ^ (n - 1 - j)) (2 ^ (n - 1 - j))).2 := by rw [hTd, hNL]; rfl
  have hub : NL.length ≤ 2301 := by
    have u1 := ub_mono n j n (by omega)
    have u2 := ub_top n (by omega)
    rw [hNL]; omega
  rw [← hTd, ← hNL] at hfew hval
  rw [← hNL] at hlen
  rw [← hTd] at hT
  rw [← hNL] at hD
  rw [hv1, hv2, ← hNL] at h
  rw [← hNL]
  clear hv1 hv2
  obtain ⟨v, hv⟩ : ∃ v, v = n - 1 - j := ⟨_, rfl⟩
  obtain ⟨half, hh⟩ : ∃ half, half = 2 ^ v := ⟨_, rfl⟩
  rw [← hv, ← hh] at h hfew
  rw [← hv]
  have hp : 2 ^ (n - j) = half + half := by
    rw [hh, hv, show n - j = (n - 1 - j) + 1 by omega, Nat.pow_succ]; omega
  have h14 : 2 ^ (n - j) ≤ 16384 := p2_14 (by omega)
  have hvl : v < 14 := by omega
  rw [hp] at hT hval h14
  have hinv := dl_inv (T := T) (NL := NL) (half := half) (fun s hs => hval s hs)
  refine lp (σ := gM) (fun k x t => w_X9_layDiagram_L29 Q K what (nI v) (nI NL.length) k x t) (fun i t => (∀ s, s < half + half → t 53 s = nI ((dl T NL half i).1 s)) ∧ ND (dl T NL half i).2 t ∧ FD M t ∧ t 56 = M 56) half 0 rfl (Nat.zero_le _) ⟨hT, hD, FD.rfl, rfl⟩ ?_ ?_
  · rintro k t ⟨g1, g2, g3, g4⟩
    rw [w_X9_layDiagram_L29.eq_2, c_shl v (by omega), ← hh]
    refine gbr_ltF half half rfl rfl (by omega) (by omega) (Nat.le_refl _) ?_
    obtain ⟨B, b1, -, -, -, -, -⟩ := hinv half (Nat.le_refl _)
    refine h t _ (fun s hs => g1 s ?_) g2 g3 g4 (by rw [b1, List.length_append]; omega) (hfew half (Nat.le_refl _))
    rw [show n - (j + 1) = v by omega, ← hh] at hs
    omega
  · rintro k i t hi ⟨g1, g2, g3, g4⟩ ih
    rw [w_X9_layDiagram_L29.eq_2, c_shl v (by omega), ← hh]
    obtain ⟨B, b1, b2, b3, b4, b5, b6⟩ := hinv i (by omega)
    have hL := hfew i (by omega)
    have ei : (dl T NL half i).1 i = T i := b5 i (Nat.le_refl _)
    have eh : (dl T NL half i).1 (half + i) = T (half + i) := b5 _ (by omega)
    have l1 := hval i (by omega)
    have l2 := hval (half + i) (by omega)
    have hge : NL.length ≤ (dl T NL half i).2.length := by rw [b1, List.length_append]; omega
    have vi : vp_in (nI i) 16384 := c_in (by omega) (by decide)
    refine gbr_ltT i half rfl rfl (by omega) (by omega) hi ?_
    rw [c_or, hh, or_half (by rw [← hh]; exact hi), ← hh]
    refine ⟨c_in (by omega) (by decide), ?_⟩
    rw [c_cl (by omega), g1 _ (by omega), eh]
    refine nm_e ?_
    have hdl : dl T NL half (i + 1) = if T (half + i) = 0 then dl T NL half i else (fun s => if s = i then (mkNode (dl T NL half i).2 NL.length (T i, T (half + i))).1 else (dl T NL half i).1 s, (mkNode (dl T NL half i).2 NL.length (T i, T (half + i))).2) := by rw [dl, ei, eh]
    rw [c_cl (by omega), g1 i (by omega), ei]
    refine gbr_eq _ 0 rfl rfl (by omega) (by decide) (fun z => ⟨vi, vi, ?_⟩) (fun z => ⟨vi, ?_⟩)
    · rw [if_pos z] at hdl
      refine nm_e (nm_r (c_add1 i) (ih _ ?_))
      rw [hdl]
      refine ⟨fun s hs => ?_, ⟨by rw [gst_n (by decide)]; exact g2.1, fun k hk => by rw [gst_n (by decide), gst_n (by decide)]; exact g2.2 k hk⟩, g3.st (by decide), by rw [gst_n (by decide)]; exact g4⟩
      by_cases q : s = i
      · rw [q, gst_s, ei]
      · rw [gst_k q]; exact g1 s hs
    · rw [if_neg z] at hdl
      refine N_nodeFor g2 (by omega) (by omega) hL hge (fun x y y1 y2 y3 e => ?_) (fun M7 j1 j2 j3 j4 => ⟨vi, ?_⟩)
      · have nB := List.pairwise_iff_getElem.mp b2
        rw [b1, List.length_append] at y3
        have ge : ∀ u, NL.length ≤ u → u < NL.length + B.length → ∃ hu : u - NL.length < B.length, nda (dl T NL half i).2 u = B[u - NL.length] := by
          intro u u1 u2
          refine ⟨by omega, ?_⟩
          rw [b1]
          unfold nda
          rw [List.getD_eq_getElem?_getD, List.getElem?_append_right u1, List.getElem?_eq_getElem (by omega)]
          rfl
        obtain ⟨p1, p2⟩ := ge x y1 (by omega)
        obtain ⟨p3, p4⟩ := ge y (by omega) y3
        exact nB (x - NL.length) (y - NL.length) p1 p3 (by omega) (by rw [← p2, ← p4]; exact e)
      · refine nm_e (nm_r (c_add1 i) (ih _ ?_))
        rw [hdl]
        refine ⟨fun s hs => ?_, ⟨by rw [gst_n (by decide)]; exact j1.1, fun k hk => by rw [gst_n (by decide), gst_n (by decide)]; exact j1.2 k hk⟩, (g3.tr j2).st (by decide), by rw [gst_n (by decide), j4]; exact g4⟩
        dsimp only
        by_cases q : s = i
        · rw [if_pos q, q, gst_s]
        · rw [if_neg q, gst_k q, j3]; exact g1 s hs
theorem N_layDiagram {n what : Nat} {E A : List Nat} {Q : gM → Prop} (hG : RG n E M) (hw : what < 3) (hA : what = 1 → M 42 7 = nI A.length ∧ rowIs (M 47) A ∧ setsB n A ∧ A.length ≤ 4000)
    (h : ∀ M1, M1 42 18 = nI (dvs n (famT what E A) n).2.1.length → (∀ v, v < n → M1 56 v = nI ((dvs n (famT what E A) n).2.2 v)) → FD M M1 → (dvs n (famT what E A) n).2.1.length ≤ 2301 → Q M1) : w_X9_layDiagram (nI what) M Q := by
  have hn := hG.1
  unfold w_X9_layDiagram
  refine N_family hG hw hA (fun M1 g1 g2 => ?_)
  intro M3 e3
  obtain ⟨T0, hT0⟩ : ∃ T, T = famT what E A := ⟨_, rfl⟩
  have h0 : ∀ t, t < 2 ^ n → T0 t < 2 := fun t _ => by rw [hT0]; exact famT_lt _ _ _ _
  rw [← hT0] at h g1
  have f3 : FD M M3 := by rw [e3]; exact (FD_of g2).sf
  rw [f3.2 0 (by decide), hG.2.2.1]
  refine nm_r (sub1 _) ?_
  have key : ∀ r, r < n → n - 1 - (n - (r + 1)) = r := fun r hr => by omega
  refine lpd (σ := gM) (fun k x t => w_X9_layDiagram_L17 Q _ (nI what) k x t) (fun r t => r ≤ n ∧ (∀ a, a < 2 ^ r → t 53 a = nI ((dvs n T0 (n - r)).1 a)) ∧ ND (dvs n T0 (n - r)).2.1 t ∧ FD M t ∧ ∀ v, r ≤ v → v < n → t 56 v = nI ((dvs n T0 (n - r)).2.2 v)) rfl ?_ ?_ ?_
  · refine ⟨Nat.le_refl _, fun a ha => ?_, ?_, f3, fun v h1 h2 => by omega⟩
    · rw [Nat.sub_self, e3, gst_n (by decide)]; exact g1 a ha
    · rw [Nat.sub_self]
      exact ⟨by rw [e3, gst_s]; rfl, fun k hk => absurd hk (Nat.not_lt_zero _)⟩
  · rintro k t ⟨-, -, g3, g4, g5⟩
    rw [w_X9_layDiagram_L17.eq_2]
    refine gbr_t (by decide) ?_
    rw [Nat.sub_zero] at g3 g5
    have u1 := (dvs_inv h0 n (Nat.le_refl _)).1
    have u2 := ub_top n (by omega)
    exact h t g3.1 (fun v hv => g5 v (Nat.zero_le _) hv) g4 (by omega)
  · rintro k r t hr ⟨-, g2', g3, g4, g5⟩ ih
    rw [w_X9_layDiagram_L17.eq_2]
    refine gbr_f (nI_lt0 (by omega)) ?_
    rw [g3.1]
    refine nm_e ?_
    have hkr := key r hr
    have hl := N_level (M := t) (j := n - (r + 1)) (T0 := T0) (what := nI what) (Q := Q) (K := fun (x13 : Int32) (M15 : gM) => vp_in (nI r) 14 ∧ ∀ M16 : gM, M16 = gst M15 56 (Int32.toNatClampNeg (nI r)) ((M15 42 18) - nI (dvs n T0 (n - (r + 1))).2.1.length) → ∀ x17 : Int32, x17 = nI r + (-1) → w_X9_layDiagram_L17 Q (fun (x18 : Int32) (M22 : gM) => Q M22) (nI what) k x17 M16) hn h0 (by omega) (by rw [show n - (n - (r + 1)) = r + 1 by omega]; exact g2') g3 ?_
    · rw [hkr] at hl; exact hl
    · intro M15 x j1 j2 j3 j4 j5 j6
      have e1 : n - (r + 1) + 1 = n - r := by omega
      rw [e1] at j1 j2 j5 j6
      rw [show n - (n - r) = r by omega] at j1
      refine ⟨c_in (by omega) (by decide), ?_⟩
      rw [c_cl (by omega), j2.1, pk_sub j5]
      refine nm_e (nm_e (ih _ ⟨by omega, fun a ha => by rw [gst_n (by decide)]; exact j1 a ha, ⟨by rw [gst_n (by decide)]; exact j2.1, fun k hk => by rw [gst_n (by decide), gst_n (by decide)]; exact j2.2 k hk⟩, (g4.tr j3).st (by decide), fun v h1 h2 => ?_⟩))
      have ed2 : ∀ u, (dvs n T0 (n - r)).2.2 u = if u = r then (dvs n T0 (n - r)).2.1.length - (dvs n T0 (n - (r + 1))).2.1.length else (dvs n T0 (n - (r + 1))).2.2 u := fun u => by
        rw [← e1]
        show (if u = n - 1 - (n - (r + 1)) then _ else _) = if u = r then (dl (dvs n T0 (n - (r + 1))).1 (dvs n T0 (n - (r + 1))).2.1 (2 ^ (n - 1 - (n - (r + 1)))) (2 ^ (n - 1 - (n - (r + 1))))).2.length - _ else _
        rw [hkr]
      rw [ed2]
      by_cases q : v = r
      · rw [if_pos q, q, gst_s]
      · rw [if_neg q, gst_k q, j4]; exact g5 v (by omega) h2
end
section
variable {s : sT} {M : gM} {Q : Int32 → gM → Prop}
theorem N_barred {p : Int32} (hI : MI s M) (hp : pn p < 3) (h1 : pn p = 1 ∧ (srch s.1 s.2.1).2.2.2.2 = true → ∀ M1, MI s M1 → Q (-6) M1)
    (h2 : ¬ (pn p = 1 ∧ (srch s.1 s.2.1).2.2.2.2 = true) → ∀ M1, MI s M1 → M1 42 18 = nI (dgA s.1 s.2.1 (pn p)).2.1.length → (∀ v, v < s.1 → M1 56 v = nI ((dgA s.1 s.2.1 (pn p)).2.2 v)) → Q 0 M1) : w_X9_diagramBarred p M Q := by
  have ep := pn_eq (p := p) (by omega)
  obtain ⟨j, hj⟩ : ∃ j, j = pn p := ⟨_, rfl⟩
  rw [← hj] at h1 h2 hp ep
  subst ep
  unfold w_X9_diagramBarred
  intro M1 e1
  have hI1 : MI s M1 := MI_s hI ⟨⟨by rw [e1, gst_n (by decide)], by rw [e1, gst_n (by decide)], by rw [e1, gst_n (by decide)], by rw [e1, gst_n (by decide)], by rw [e1, gst_n (by decide)]⟩, by rw [e1, gst_k (by decide)], by rw [e1, gst_k (by decide)], by rw [e1, gst_k (by decide)], by rw [e1, gst_k (by decide)]⟩
  refine gbr_eq j 1 rfl rfl (by omega) (by decide) (fun q => ?_) (fun q => ?_)
  · refine N_srch hI1 (fun M4 a1 a2 => ?_)
    refine gup a2 (fun y => ?_) (fun y => h1 ⟨q, y⟩ M4 a1)
    obtain ⟨c1, c2, c3, c4, c5, c6, c7, c8, c9, c10, c11⟩ := a2
    exact N_layDiagram (A := (srch s.1 s.2.1).1) a1.1 hp (fun _ => ⟨c1, c2, c11, by omega⟩) (fun M6 b1 b2 b3 _ => h2 (fun x => by rw [y] at x; cases x.2) M6 (MI_s a1 (FD_MF b3)) b1 b2)
  · exact N_layDiagram (A := (srch s.1 s.2.1).1) hI1.1 hp (fun x => absurd x q) (fun M6 b1 b2 b3 _ => h2 (fun x => q x.1) M6 (MI_s hI1 (FD_MF b3)) b1 b2)
theorem N_diagramSize {p : Int32} (hI : MI s M) (h : ∀ M1, MI (o_diagramSize s p).2 M1 → Q (o_diagramSize s p).1 M1) : w_X9_diagramSize p M Q := by
  unfold o_diagramSize at h
  unfold w_X9_diagramSize
  refine N_in0 3 (by decide) (by decide) ?_
  refine gbr_b _ rfl (fun z => ?_) (fun z => ?_)
  · rw [if_neg (of_decide_eq_false z)] at h; exact h M hI
  · replace z := of_decide_eq_true z
    rw [if_pos z] at h
    refine N_barred hI z (fun q M1 a1 => ?_) (fun q M1 a1 a2 a3 => ?_)
    · rw [if_pos q] at h; exact gbr_t (by decide) (h M1 a1)
    · rw [if_neg q] at h
      refine gbr_f (by decide) ?_
      rw [a2]; exact h M1 a1
theorem N_nodesAt {p q : Int32} (hI : MI s M) (h : ∀ M1, MI (o_nodesAt s p q).2 M1 → Q (o_nodesAt s p q).1 M1) : w_X9_nodesAt p q M Q := by
  have hn := hI.1.1
  unfold o_nodesAt at h
  unfold w_X9_nodesAt
  refine N_in0 3 (by decide) (by decide) ?_
  refine gbr_b _ rfl (fun z => ?_) (fun z => ?_)
  · rw [if_neg (of_decide_eq_false z)] at h; exact h M hI
  · replace z := of_decide_eq_true z
    rw [if_pos z] at h
    refine N_noVertex hn.2 hI.1.2.2.1 ?_
    refine gbr_b _ rfl (fun y => ?_) (fun y => ?_)
    · replace y : pn q < s.1 := by simpa using y
      rw [if_pos y] at h
      refine N_barred hI z (fun x M1 a1 => ?_) (fun x M1 a1 a2 a3 => ?_)
      · rw [if_pos x] at h; exact gbr_t (by decide) (h M1 a1)
      · rw [if_neg x] at h
        have eq := pn_eq (p := q) (by omega)
        refine gbr_f (by decide) ⟨by rw [eq]; exact c_in (by omega) (by decide), ?_⟩
        rw [eq, c_cl (by omega), a3 _ y]
        exact h M1 a1
    · replace y : ¬ pn q < s.1 := by simpa using y
      rw [if_neg y] at h; exact h M hI
end
