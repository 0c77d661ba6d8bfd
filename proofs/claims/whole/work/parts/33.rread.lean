/-! the reference: reads -/
section
variable {n : Nat} {E : List Nat} {M : gM} {Q : Int32 → gM → Prop}
theorem N_missedBy {t : Nat} (hR : RR E M) (h : Q (nI (missE E t)) M) : w_X9_missedBy (nI t) M Q := by
  have hl := hR.1
  unfold w_X9_missedBy
  refine lp (σ := Int32) (fun k x u => w_X9_missedBy_L4 Q _ (nI t) k u x M) (fun i u => u = nI (mk i (fun e => decide (ed E e &&& t = 0)))) E.length 0 rfl (Nat.zero_le _) rfl ?_ ?_
  · intro k u hI
    rw [w_X9_missedBy_L4.eq_2]
    refine N_many hR ?_
    refine gbr_ltF E.length E.length rfl rfl (by omega) (by omega) (Nat.le_refl _) ?_
    rw [hI]; exact h
  · intro k i u hi hI ih
    rw [w_X9_missedBy_L4.eq_2]
    have hb := hR.2.1 i hi
    have h2 : ed E i &&& t ≤ ed E i := Nat.and_le_left
    refine N_many hR ?_
    refine gbr_ltT i E.length rfl rfl (by omega) (by omega) hi ⟨c_in (by omega) (by omega), ?_⟩
    rw [c_cl (by omega), hR.2.2.2 i hi, c_and]
    refine gbr_eq (ed E i &&& t) 0 rfl rfl (by omega) (by decide) (fun q => ?_) (fun q => ?_)
    · refine nm_e (nm_r (c_add1 i) (ih _ ?_))
      rw [hI, c_shl i (by omega), c_or, mk, decide_eq_true q]; rfl
    · refine nm_e (nm_r (c_add1 i) (ih _ ?_))
      rw [hI, show (0 : Int32) = nI 0 from rfl, c_or, mk, decide_eq_false q]; rfl
theorem N_private {t v : Nat} (hR : RR E M) (hv : v < 14) (h : Q (nI (privE E t v)) M) : w_X9_privateTo (nI t) (nI v) M Q := by
  have hl := hR.1
  have hp := p2_lt hv
  unfold w_X9_privateTo
  refine lp (σ := Int32) (fun k x u => w_X9_privateTo_L5 Q _ (nI t) (nI v) k u x M) (fun i u => u = nI (mk i (fun e => decide (ed E e &&& t = 2 ^ v)))) E.length 0 rfl (Nat.zero_le _) rfl ?_ ?_
  · intro k u hI
    rw [w_X9_privateTo_L5.eq_2]
    refine N_many hR ?_
    refine gbr_ltF E.length E.length rfl rfl (by omega) (by omega) (Nat.le_refl _) ?_
    rw [hI]; exact h
  · intro k i u hi hI ih
    rw [w_X9_privateTo_L5.eq_2]
    have hb := hR.2.1 i hi
    have h2 : ed E i &&& t ≤ ed E i := Nat.and_le_left
    refine N_many hR ?_
    refine gbr_ltT i E.length rfl rfl (by omega) (by omega) hi ⟨c_in (by omega) (by omega), ?_⟩
    rw [c_cl (by omega), hR.2.2.2 i hi, c_and, c_shl v (by omega)]
    refine gbr_eq (ed E i &&& t) (2 ^ v) rfl rfl (by omega) (by omega) (fun q => ?_) (fun q => ?_)
    · refine nm_e (nm_r (c_add1 i) (ih _ ?_))
      rw [hI, c_shl i (by omega), c_or, mk, decide_eq_true q]; rfl
    · refine nm_e (nm_r (c_add1 i) (ih _ ?_))
      rw [hI, show (0 : Int32) = nI 0 from rfl, c_or, mk, decide_eq_false q]; rfl
theorem privE_0 {t v : Nat} : privE E t v ≠ 0 ↔ ∃ e, e < E.length ∧ ed E e &&& t = 2 ^ v := by
  unfold privE
  rw [Ne, mk_0]
  constructor
  · intro h
    apply Classical.byContradiction
    intro q
    exact h (fun i hi => decide_eq_false (fun y => q ⟨i, hi, y⟩))
  · rintro ⟨e, h1, h2⟩ h
    exact of_decide_eq_false (h e h1) h2
theorem privE_lt {t v : Nat} (h : E.length ≤ 24) : privE E t v < 16777216 := Nat.lt_of_lt_of_le (mk_lt _ _) (p2_24 h)
theorem N_allP {t : Nat} (hG : RG n E M) (ht : t < 2147483648) (h : Q (b2 (bd (allP n E t))) M) : w_X9_haveAllPrivate (nI t) M Q := by
  have hn := hG.1
  have hl := hG.2.1.1
  unfold w_X9_haveAllPrivate
  refine lp (σ := Int32) (fun k x u => w_X9_haveAllPrivate_L4 Q _ (nI t) k u x M) (fun i u => u = b2 (bd (∀ v, v < i → t.testBit v = true → ∃ e, e < E.length ∧ ed E e &&& t = 2 ^ v))) n 0 rfl (Nat.zero_le _) ?_ ?_ ?_
  · rw [bd_t (fun v hv => absurd hv (Nat.not_lt_zero _))]; rfl
  · intro k u hI
    rw [w_X9_haveAllPrivate_L4.eq_2]
    refine gbr_ltF n n rfl hG.2.2.1 (by omega) (by omega) (Nat.le_refl _) ?_
    rw [hI]
    exact ⟨b2_01 _, h⟩
  · intro k i u hi hI ih
    rw [w_X9_haveAllPrivate_L4.eq_2]
    refine gbr_ltT i n rfl hG.2.2.1 (by omega) (by omega) hi ?_
    refine gbr_b _ hI (fun z => ?_) (fun z => ?_)
    · refine nm_r (c_add1 i) (ih _ ?_)
      rw [bd_f (fun y => of_bd_f z (fun f hf => y f (by omega)))]; rfl
    · have z := of_bd_t z
      refine gbr_b _ (c_bit ht (by omega)) (fun q => ?_) (fun q => ?_)
      · refine nm_r (c_add1 i) (ih _ ?_)
        rw [bd_t (fun v hv hs => ?_)]
        · rfl
        · rcases Nat.lt_succ_iff_lt_or_eq.mp hv with y | y
          · exact z v y hs
          · rw [y, q] at hs; cases hs
      · refine N_private hG.2.2.2 (by omega) ?_
        have := privE_lt (t := t) (v := i) hl
        refine gbr_eq (privE E t i) 0 rfl rfl (by omega) (by decide) (fun y => ?_) (fun y => ?_)
        · refine nm_r (c_add1 i) (ih _ ?_)
          rw [bd_f (fun x => privE_0.mpr (x i (Nat.lt_succ_self i) q) y)]; rfl
        · refine nm_r (c_add1 i) (ih _ ?_)
          rw [bd_t (fun v hv hs => ?_)]
          · rfl
          · rcases Nat.lt_succ_iff_lt_or_eq.mp hv with x | x
            · exact z v x hs
            · rw [x]; exact privE_0.mp y
theorem N_isAnswer {t : Nat} (hG : RG n E M) (ht : t < 2147483648) (h : Q (b2 (bd (isAns n E t))) M) : w_X9_isAnswer (nI t) M Q := by
  have hl := hG.2.1.1
  unfold w_X9_isAnswer
  refine N_missedBy hG.2.2.2 ?_
  have h1 := missE_lt hl t
  refine gbr_eq (missE E t) 0 rfl rfl (by omega) (by decide) (fun q => ?_) (fun q => ?_)
  · refine N_allP hG ht ?_
    refine gbr_b _ rfl (fun z => ?_) (fun z => ?_)
    · rw [bd_f (fun y : isAns n E t => of_bd_f z y.2)] at h
      exact h
    · rw [bd_t (show isAns n E t from ⟨q, of_bd_t z⟩)] at h
      exact h
  · rw [bd_f (fun y : isAns n E t => q y.1)] at h
    exact h
theorem N_minEdge {t : Nat} (hR : RR E M) (ht : t < 2147483648) (h : Q (b2 (bd (minEdge E t))) M) : w_X9_isMinimal (nI t) M Q := by
  have hl := hR.1
  unfold w_X9_isMinimal
  refine N_placeOf hR ht (fun q => ?_) (fun i q1 q2 _ => ?_)
  · rw [bd_f (fun y => by obtain ⟨e, y1, y2, -⟩ := y; exact q e y1 y2)] at h
    exact gbr_t (by decide) h
  · refine gbr_f (nI_lt0 (by omega)) ?_
    refine N_isMinimal hR q1 ?_
    have he := minEdge_at q1
    rw [q2] at he
    refine gbr_b _ rfl (fun z => ?_) (fun z => ?_)
    · rw [bd_f (fun y => by rw [he.mp y] at z; cases z)] at h; exact h
    · rw [bd_t (he.mpr z)] at h; exact h
theorem N_weighs {w : Nat → Nat} {t : Nat} (h0 : M 42 0 = nI n) (hn : n ≤ 14) (hW : RW w M) (ht : t < 2 ^ n) (h : Q (nI (wsum w t)) M) : w_X9_weighs (nI t) M Q := by
  have h14 := p2_14 hn
  have cut : ∀ j, sumf (n + j) (fun v => if t.testBit v then w v else 0) = sumf n (fun v => if t.testBit v then w v else 0) := by
    intro j
    induction j with
    | zero => rfl
    | succ j ih => rw [← Nat.add_assoc, sumf, ih, tb_big ht (by omega)]; rfl
  have e14 := cut (14 - n)
  rw [show n + (14 - n) = 14 by omega] at e14
  unfold w_X9_weighs
  refine lp (σ := Int32) (fun k x u => w_X9_weighs_L4 Q _ (nI t) k u x M) (fun i u => u = nI (sumf i (fun v => if t.testBit v then w v else 0))) n 0 rfl (Nat.zero_le _) rfl ?_ ?_
  · intro k u hI
    rw [w_X9_weighs_L4.eq_2]
    refine gbr_ltF n n rfl h0 (by omega) (by omega) (Nat.le_refl _) ?_
    rw [hI, ← e14]; exact h
  · intro k i u hi hI ih
    rw [w_X9_weighs_L4.eq_2]
    refine gbr_ltT i n rfl h0 (by omega) (by omega) hi ⟨c_in (by omega) (by decide), ?_⟩
    rw [c_cl (by omega), c_bit (by omega) (by omega), (hW i (by omega)).1]
    refine nm_e (nm_r (c_add1 i) (ih _ ?_))
    rw [hI, sumf]
    cases z : t.testBit i
    · rw [show b2 false = nI 0 from rfl, pk_mul, nI_add, Nat.zero_mul]; rfl
    · rw [show b2 true = nI 1 from rfl, pk_mul, nI_add, Nat.one_mul]; rfl
end
section
variable {s : sT} {M : gM} {Q : Int32 → gM → Prop}
theorem N_edge {p : Int32} (hI : MI s M) (h : ∀ M1, MI (o_edge s p).2 M1 → Q (o_edge s p).1 M1) : w_X9_edge p M Q := by
  have hG := hI.1
  have hl := hG.2.1.1
  replace h := h M hI
  unfold o_edge at h
  unfold w_X9_edge
  refine N_noEdge hG.2.2.2 ?_
  refine gbr_b _ rfl (fun z => ?_) (fun z => ?_)
  · replace z : pn p < s.2.1.length := by simpa using z
    have ep := pn_eq (p := p) (by omega)
    rw [if_pos z] at h
    obtain ⟨j, hj⟩ : ∃ j, j = pn p := ⟨_, rfl⟩
    rw [← hj] at h ep z
    subst ep
    refine ⟨c_in (by omega) (by decide), ?_⟩
    rw [c_cl (by omega), hG.2.2.2.2.2.2 j z]
    exact h
  · replace z : ¬ pn p < s.2.1.length := by simpa using z
    rw [if_neg z] at h; exact h
theorem N_edgesOf {p : Int32} (hI : MI s M) (h : ∀ M1, MI (o_edgesOf s p).2 M1 → Q (o_edgesOf s p).1 M1) : w_X9_edgesOf p M Q := by
  have hG := hI.1
  have hn := hG.1
  replace h := h M hI
  unfold o_edgesOf at h
  unfold w_X9_edgesOf
  refine N_noVertex hn.2 hG.2.2.1 ?_
  refine gbr_b _ rfl (fun z => ?_) (fun z => ?_)
  · replace z : pn p < s.1 := by simpa using z
    rw [if_pos z] at h
    rw [pn_eq (p := p) (by omega)]
    exact N_edgesWith hG.2.2.2 (by omega) h
  · replace z : ¬ pn p < s.1 := by simpa using z
    rw [if_neg z] at h; exact h
theorem N_setWeight {p q : Int32} (hI : MI s M) (h : ∀ M1, MI (o_setWeight s p q).2 M1 → Q (o_setWeight s p q).1 M1) : w_X9_setWeight p q M Q := by
  have hG := hI.1
  have hn := hG.1
  unfold o_setWeight at h
  unfold w_X9_setWeight
  refine N_noVertex hn.2 hG.2.2.1 ?_
  refine gbr_b _ rfl (fun z => ?_) (fun z => ?_)
  · replace z : pn p < s.1 := by simpa using z
    rw [if_pos z] at h
    refine N_in0 100 (by decide) (by decide) ?_
    refine gbr_b _ rfl (fun y => ?_) (fun y => ?_)
    · replace y := of_decide_eq_false y
      rw [if_neg (by omega)] at h; exact h M hI
    · replace y := of_decide_eq_true y
      rw [if_pos (by omega)] at h
      have ep := pn_eq (p := p) (by omega)
      have eq := pn_eq (p := q) (by omega)
      obtain ⟨j, hj⟩ : ∃ j, j = pn p := ⟨_, rfl⟩
      rw [← hj] at h ep z
      subst ep
      have v1 : vp_in (nI j) 14 := c_in (by omega) (by decide)
      refine ⟨v1, ?_⟩
      rw [c_cl (by omega), (hI.2.2.1 j (by omega)).1]
      refine nm_e ⟨v1, ?_⟩
      refine nm_e (h _ ⟨RG_s hG (gst_n (by decide)) (by rw [gst_n (by decide)]), RH_s hI.2.1 (by rw [gst_n (by decide)]) (by rw [gst_n (by decide)]) (gst_n (by decide)) (gst_n (by decide)), fun v hv => ?_, RT_s hI.2.2.2.1 (by rw [gst_n (by decide)]) (gst_n (by decide)), hI.2.2.2.2⟩)
      show gst M 44 j q 44 v = nI (setW s.2.2.2.2.1 j (pn q) v) ∧ setW s.2.2.2.2.1 j (pn q) v ≤ 99
      unfold setW
      by_cases x : v = j
      · rw [if_pos x, x, gst_s]; exact ⟨eq, by omega⟩
      · rw [if_neg x, gst_k x]; exact hI.2.2.1 v hv
  · replace z : ¬ pn p < s.1 := by simpa using z
    rw [if_neg z] at h; exact h M hI
theorem N_missed {p : Int32} (hI : MI s M) (h : ∀ M1, MI (o_missed s p).2 M1 → Q (o_missed s p).1 M1) : w_X9_missed p M Q := by
  have hG := hI.1
  have hn := hG.1
  have h14 := p2_14 hn.2
  replace h := h M hI
  unfold o_missed at h
  unfold w_X9_missed
  refine N_noSet hn.2 hG.2.2.1 ?_
  refine gbr_b _ rfl (fun z => ?_) (fun z => ?_)
  · replace z : pn p < 2 ^ s.1 := by simpa using z
    rw [if_pos z] at h
    rw [pn_eq (p := p) (by omega)]
    exact N_missedBy hG.2.2.2 h
  · replace z : ¬ pn p < 2 ^ s.1 := by simpa using z
    rw [if_neg z] at h; exact h
theorem N_privateEdges {p q : Int32} (hI : MI s M) (h : ∀ M1, MI (o_private s p q).2 M1 → Q (o_private s p q).1 M1) : w_X9_privateEdges p q M Q := by
  have hG := hI.1
  have hn := hG.1
  have h14 := p2_14 hn.2
  replace h := h M hI
  unfold o_private at h
  unfold w_X9_privateEdges
  refine N_noSet hn.2 hG.2.2.1 ?_
  refine gbr_b _ rfl (fun z => ?_) (fun z => ?_)
  · replace z : pn p < 2 ^ s.1 := by simpa using z
    rw [if_pos z] at h
    refine N_noVertex hn.2 hG.2.2.1 ?_
    refine gbr_b _ rfl (fun y => ?_) (fun y => ?_)
    · replace y : pn q < s.1 := by simpa using y
      rw [if_pos y] at h
      rw [pn_eq (p := p) (by omega), pn_eq (p := q) (by omega)]
      refine gbr_b _ (c_bit (by omega) (by omega)) (fun x => ?_) (fun x => ?_)
      · rw [if_neg (by rw [x]; simp)] at h; exact h
      · rw [if_pos x] at h
        exact N_private hG.2.2.2 (by omega) h
    · replace y : ¬ pn q < s.1 := by simpa using y
      rw [if_neg y] at h; exact h
  · replace z : ¬ pn p < 2 ^ s.1 := by simpa using z
    rw [if_neg z] at h; exact h
theorem N_kindOf {p : Int32} (hI : MI s M) (h : ∀ M1, MI (o_kindOf s p).2 M1 → Q (o_kindOf s p).1 M1) : w_X9_kindOf p M Q := by
  have hG := hI.1
  have hn := hG.1
  have h14 := p2_14 hn.2
  replace h := h M hI
  unfold o_kindOf at h
  unfold w_X9_kindOf
  refine N_noSet hn.2 hG.2.2.1 ?_
  refine gbr_b _ rfl (fun z => ?_) (fun z => ?_)
  · replace z : pn p < 2 ^ s.1 := by simpa using z
    rw [if_pos z] at h
    have ep := pn_eq (p := p) (by omega)
    obtain ⟨j, hj⟩ : ∃ j, j = pn p := ⟨_, rfl⟩
    rw [← hj] at h ep z
    subst ep
    refine N_missedBy hG.2.2.2 ?_
    have h1 := missE_lt hG.2.1.1 j
    refine gbr_eq _ 0 rfl rfl (by omega) (by decide) (fun y => ?_) (fun y => ?_)
    · rw [if_pos y] at h
      refine N_allP hG (by omega) ?_
      refine gbr_b _ rfl (fun x => ?_) (fun x => ?_)
      · rw [if_neg (fun q => of_bd_f x (of_bd_t q).2)] at h; exact h
      · rw [if_pos (bd_t (show isAns s.1 s.2.1 j from ⟨y, of_bd_t x⟩))] at h; exact h
    · rw [if_neg y] at h; exact h
  · replace z : ¬ pn p < 2 ^ s.1 := by simpa using z
    rw [if_neg z] at h; exact h
theorem N_shrink {p : Int32} (hI : MI s M) (h : ∀ M1, MI (o_shrink s p).2 M1 → Q (o_shrink s p).1 M1) : w_X9_shrink p M Q := by
  have hG := hI.1
  have hn := hG.1
  have h14 := p2_14 hn.2
  replace h := h M hI
  unfold o_shrink at h
  unfold w_X9_shrink
  refine N_noSet hn.2 hG.2.2.1 ?_
  refine gbr_b _ rfl (fun z => ?_) (fun z => ?_)
  · replace z : pn p < 2 ^ s.1 := by simpa using z
    rw [if_pos z] at h
    have ep := pn_eq (p := p) (by omega)
    obtain ⟨j, hj⟩ : ∃ j, j = pn p := ⟨_, rfl⟩
    rw [← hj] at h ep z
    subst ep
    refine N_missedBy hG.2.2.2 ?_
    have h1 := missE_lt hG.2.1.1 j
    refine gbr_eq _ 0 rfl rfl (by omega) (by decide) (fun y => ?_) (fun y => ?_)
    · rw [if_pos y] at h
      refine lp (σ := Int32) (fun k x t => w_X9_shrink_L26 Q _ (nI j) k t x M) (fun i t => t = nI (shr s.2.1 j i)) s.1 0 rfl (Nat.zero_le _) rfl ?_ ?_
      · intro k t hJ
        rw [w_X9_shrink_L26.eq_2]
        refine gbr_ltF s.1 s.1 rfl hG.2.2.1 (by omega) (by omega) (Nat.le_refl _) ?_
        rw [hJ]; exact h
      · intro k i t hi hJ ih
        rw [w_X9_shrink_L26.eq_2]
        refine gbr_ltT i s.1 rfl hG.2.2.1 (by omega) (by omega) hi ?_
        rw [hJ, c_shl i (by omega), c_nd]
        refine N_missedBy hG.2.2.2 ?_
        have := missE_lt hG.2.1.1 (nd (shr s.2.1 j i) (2 ^ i))
        refine gbr_eq _ 0 rfl rfl (by omega) (by decide) (fun x => ?_) (fun x => ?_)
        · refine nm_e (nm_r (c_add1 i) (ih _ ?_))
          rw [shr, if_pos x]
        · refine nm_r (c_add1 i) (ih _ ?_)
          rw [shr, if_neg x]
    · rw [if_neg y] at h; exact h
  · replace z : ¬ pn p < 2 ^ s.1 := by simpa using z
    rw [if_neg z] at h; exact h
theorem N_weightOf {p : Int32} (hI : MI s M) (h : ∀ M1, MI (o_weightOf s p).2 M1 → Q (o_weightOf s p).1 M1) : w_X9_weightOf p M Q := by
  have hG := hI.1
  have hn := hG.1
  have h14 := p2_14 hn.2
  replace h := h M hI
  unfold o_weightOf at h
  unfold w_X9_weightOf
  refine N_noSet hn.2 hG.2.2.1 ?_
  refine gbr_b _ rfl (fun z => ?_) (fun z => ?_)
  · replace z : pn p < 2 ^ s.1 := by simpa using z
    rw [if_pos z] at h
    have ep := pn_eq (p := p) (by omega)
    obtain ⟨j, hj⟩ : ∃ j, j = pn p := ⟨_, rfl⟩
    rw [← hj] at h ep z
    subst ep
    exact N_weighs hG.2.2.1 hn.2 hI.2.2.1 z h
  · replace z : ¬ pn p < 2 ^ s.1 := by simpa using z
    rw [if_neg z] at h; exact h
theorem N_isIntersecting (hI : MI s M) (h : ∀ M1, MI (o_isIntersecting s).2 M1 → Q (o_isIntersecting s).1 M1) : w_X9_isIntersecting M Q := by
  have hR := hI.1.2.2.2
  have hl := hR.1
  replace h := h M hI
  unfold o_isIntersecting at h
  dsimp only at h
  obtain ⟨E, hE⟩ : ∃ E, E = s.2.1 := ⟨_, rfl⟩
  rw [← hE] at hR hl h
  unfold w_X9_isIntersecting
  refine lp (σ := Unit) (s0 := ()) (fun k x _ => w_X9_isIntersecting_L2 Q _ _ k x M) (fun i _ => ∀ e, e < i → ∀ f, f < e → ed E e &&& ed E f ≠ 0) E.length 0 rfl (Nat.zero_le _) (fun j hj => absurd hj (Nat.not_lt_zero _)) ?_ ?_
  · intro k _ hJ
    rw [w_X9_isIntersecting_L2.eq_2]
    refine N_many hR ?_
    refine gbr_ltF E.length E.length rfl rfl (by omega) (by omega) (Nat.le_refl _) ?_
    rw [meet, decide_eq_true hJ] at h
    exact h
  · intro k i _ hi hJ ih
    rw [w_X9_isIntersecting_L2.eq_2]
    refine N_many hR ?_
    refine gbr_ltT i E.length rfl rfl (by omega) (by omega) hi ?_
    refine lp (σ := Unit) (s0 := ()) (fun k x _ => w_X9_isIntersecting_L12 Q _ _ (nI i) k x M) (fun j _ => ∀ f, f < j → ed E i &&& ed E f ≠ 0) i 0 rfl (Nat.zero_le _) (fun j hj => absurd hj (Nat.not_lt_zero _)) ?_ ?_
    · intro k _ hK
      rw [w_X9_isIntersecting_L12.eq_2]
      refine gbr_ltF i i rfl rfl (by omega) (by omega) (Nat.le_refl _) ?_
      refine nm_r (c_add1 i) (ih () fun e he => ?_)
      rcases Nat.lt_succ_iff_lt_or_eq.mp he with y | y
      · exact hJ e y
      · rw [y]; exact hK
    · intro k j _ hj hK ih2
      rw [w_X9_isIntersecting_L12.eq_2]
      have h1 := hR.2.1 i hi
      refine gbr_ltT j i rfl rfl (by omega) (by omega) hj ⟨c_in (by omega) (by omega), c_in (by omega) (by omega), ?_⟩
      rw [c_cl (by omega), c_cl (by omega), hR.2.2.2 i hi, hR.2.2.2 j (by omega), c_and]
      have h2 : ed E i &&& ed E j ≤ ed E i := Nat.and_le_left
      refine gbr_eq (ed E i &&& ed E j) 0 rfl rfl (by omega) (by decide) (fun q => ?_) (fun q => ?_)
      · rw [meet, decide_eq_false (fun y => y i hi j hj q)] at h
        exact h
      · refine nm_r (c_add1 j) (ih2 () fun f hf => ?_)
        rcases Nat.lt_succ_iff_lt_or_eq.mp hf with y | y
        · exact hK f y
        · rw [y]; exact q
theorem N_clearText (hI : MI s M) (h : ∀ M1, MI (o_clearText s).2 M1 → Q (o_clearText s).1 M1) : w_X9_clearText M Q := by
  unfold o_clearText at h
  unfold w_X9_clearText
  rw [hI.2.2.2.1.1]
  refine nm_e (nm_e (h _ ⟨RG_s hI.1 (gst_n (by decide)) (by rw [gst_k (by decide)]), RH_s hI.2.1 (by rw [gst_k (by decide)]) (by rw [gst_k (by decide)]) (gst_n (by decide)) (gst_n (by decide)), RW_s hI.2.2.1 (gst_n (by decide)), ⟨by rw [gst_s]; rfl, Nat.zero_le _, fun i hi => absurd hi (Nat.not_lt_zero _)⟩, hI.2.2.2.2⟩))
theorem N_type {q : Nat} (hI : MI s M) (hq : q < 65536) (h : ∀ M1, MI (o_type s q).2 M1 → Q (o_type s q).1 M1) : w_X9_type (nI q) M Q := by
  obtain ⟨t1, t2, t3⟩ := hI.2.2.2.1
  unfold o_type at h
  unfold w_X9_type
  refine gbr_eq _ 100 t1 rfl (by omega) (by decide) (fun z => ?_) (fun z => ?_)
  · rw [if_neg (by omega)] at h; exact h M hI
  · rw [if_pos (by omega)] at h
    rw [t1]
    refine ⟨c_in (by omega) (by decide), ?_⟩
    intro M1 e1 M2 e2
    have ec : vp_nar .char (nI q) = nI q := by
      have := (pk_charN hq).1
      unfold vp_nar
      rw [this]
    rw [c_cl (by omega), ec] at e1
    have f1 : M1 42 22 = nI s.2.2.2.2.2.1 := by rw [e1, gst_n (by decide)]; exact t1
    rw [f1, c_add1] at e2
    have f2 : M2 42 22 = nI (s.2.2.2.2.2.1 + 1) := by rw [e2, gst_s]
    have hs : ∀ i, i ≠ 42 → i ≠ 57 → M2 i = M i := fun i h1 h2 => by rw [e2, gst_n h1, e1, gst_n h2]
    have hs2 : ∀ i, i ≠ 22 → M2 42 i = M 42 i := fun i h1 => by rw [e2, gst_k h1, e1, gst_n (by decide)]
    rw [f2]
    refine h M2 ⟨RG_s hI.1 (hs 43 (by decide) (by decide)) (hs2 0 (by decide)), RH_s hI.2.1 (hs2 5 (by decide)) (hs2 6 (by decide)) (hs 45 (by decide) (by decide)) (hs 46 (by decide) (by decide)), RW_s hI.2.2.1 (hs 44 (by decide) (by decide)), ⟨f2, (show s.2.2.2.2.2.1 + 1 ≤ 100 by omega), fun i hi => ?_⟩, hI.2.2.2.2⟩
    show M2 57 i = nI (setW s.2.2.2.2.2.2 s.2.2.2.2.2.1 q i) ∧ setW s.2.2.2.2.2.2 s.2.2.2.2.2.1 q i < 65536
    have hi : i < s.2.2.2.2.2.1 + 1 := hi
    rw [e2, gst_n (by decide), e1, gst_c, setW]
    by_cases u : i = s.2.2.2.2.2.1
    · rw [if_pos u, if_pos u]; exact ⟨rfl, hq⟩
    · rw [if_neg u, if_neg u]; exact t3 i (by omega)
theorem amx_max {k : Nat} {f : Nat → Nat} : ∀ v, v < k → f v ≤ f (amx k f) := by
  induction k with
  | zero => intro v hv; omega
  | succ k ih =>
    intro v hv
    rw [amx]
    split
    · rename_i q
      rcases Nat.lt_succ_iff_lt_or_eq.mp hv with y | y
      · have := ih v y; omega
      · rw [y]; exact Nat.le_refl _
    · rename_i q
      rcases Nat.lt_succ_iff_lt_or_eq.mp hv with y | y
      · exact ih v y
      · rw [y]; omega
theorem cnt_full {k : Nat} {p : Nat → Bool} (h : k ≤ cnt k p) : ∀ i, i < k → p i = true := by
  induction k with
  | zero => intro i hi; omega
  | succ k ih =>
    intro i hi
    have h1 := cnt_le k p
    rw [cnt] at h
    cases hp : p k
    · rw [hp] at h; simp at h; omega
    · rw [hp] at h
      rcases Nat.lt_succ_iff_lt_or_eq.mp hi with y | y
      · exact ih (by simpa using h) i y
      · rw [y]; exact hp
theorem ed_bit {n : Nat} {E : List Nat} (hS : sane n E) {e : Nat} (he : e < E.length) : ∃ v, v < n ∧ (ed E e).testBit v = true := by
  have h := hS.2 e he
  have h1 : ed E e &&& ed E e ≠ 0 := by rw [Nat.and_self]; omega
  obtain ⟨v, h2, -⟩ := and_ne0.mp h1
  exact ⟨v, tb_lt h.2 h2, h2⟩
theorem busy_new {n : Nat} {E : List Nat} (hS : sane n E) (hl : E.length ≤ 24) (hn : 1 ≤ n) {t : Nat} (h : missE E t ≠ 0) : t.testBit (busy n E (missE E t)) = false := by
  have h2 : missE E t &&& missE E t ≠ 0 := by rw [Nat.and_self]; exact h
  obtain ⟨e, h3, -⟩ := and_ne0.mp h2
  have h4 := h3
  rw [missE_tb, Bool.and_eq_true, decide_eq_true_eq, decide_eq_true_eq] at h4
  obtain ⟨v, h5, h6⟩ := ed_bit hS h4.1
  have h7 : at_ E v &&& missE E t ≠ 0 := and_ne0.mpr ⟨e, by rw [at_tb, decide_eq_true h4.1, h6]; rfl, h3⟩
  have hb : ∀ u, at_ E u &&& missE E t < 16777216 := fun u => Nat.lt_of_le_of_lt Nat.and_le_left (at_lt hl u)
  have h8 : pc (at_ E v &&& missE E t) ≠ 0 := fun q => h7 (pc_0 (hb v) q)
  have h9 := amx_max (f := fun v => pc (at_ E v &&& missE E t)) v h5
  have h10 : at_ E (busy n E (missE E t)) &&& missE E t ≠ 0 := fun q => by
    unfold busy at q
    rw [q, pc_zero] at h9
    omega
  obtain ⟨f, k1, k2⟩ := and_ne0.mp h10
  rw [at_tb, Bool.and_eq_true, decide_eq_true_eq] at k1
  rw [missE_tb, Bool.and_eq_true, decide_eq_true_eq, decide_eq_true_eq] at k2
  cases z : t.testBit (busy n E (missE E t))
  · rfl
  · exact (and_0.mp k2.2 _ k1.2 z).elim
theorem grw_done {n : Nat} {E : List Nat} (hS : sane n E) (hl : E.length ≤ 24) (hn : 1 ≤ n) (t : Nat) : missE E (grw n E t n) = 0 := by
  have key : ∀ k, missE E (grw n E t k) ≠ 0 → k ≤ cnt n (fun i => (grw n E t k).testBit i) := by
    intro k
    induction k with
    | zero => intro _; exact Nat.zero_le _
    | succ k ih =>
      intro h
      rw [grw] at h ⊢
      by_cases q : missE E (grw n E t k) = 0
      · rw [if_pos q] at h; exact absurd q h
      · rw [if_neg q]
        have h1 := ih q
        have h2 := busy_new hS hl hn q
        have h3 : busy n E (missE E (grw n E t k)) < n := amx_lt _ hn
        have h4 := cnt_one (k := n) (j := busy n E (missE E (grw n E t k))) (p := fun i => (grw n E t k).testBit i) (q := fun i => (grw n E t k ||| 2 ^ busy n E (missE E (grw n E t k))).testBit i) h3 (by rw [or_pow_tb]; simp) h2 (fun i _ hne => by rw [or_pow_tb, decide_eq_false (fun q => hne q.symm), Bool.or_false])
        rw [h4]; omega
  apply Classical.byContradiction
  intro h
  have h1 := cnt_full (key n h)
  refine h (missE_0.mpr (fun e he => ?_))
  obtain ⟨v, h2, h3⟩ := ed_bit hS he
  exact and_ne0.mpr ⟨v, h3, h1 v h2⟩
theorem N_grow {p : Int32} (hI : MI s M) (h : ∀ M1, MI (o_grow s p).2 M1 → Q (o_grow s p).1 M1) : w_X9_grow p M Q := by
  have hG := hI.1
  have hn := hG.1
  have hl := hG.2.1.1
  have h14 := p2_14 hn.2
  replace h := h M hI
  unfold o_grow at h
  unfold w_X9_grow
  refine N_noSet hn.2 hG.2.2.1 ?_
  refine gbr_b _ rfl (fun z => ?_) (fun z => ?_)
  · replace z : pn p < 2 ^ s.1 := by simpa using z
    rw [if_pos z] at h
    have ep := pn_eq (p := p) (by omega)
    obtain ⟨t, hj⟩ : ∃ j, j = pn p := ⟨_, rfl⟩
    rw [← hj] at h ep z
    subst ep
    have hdone := grw_done hG.2.1 hl hn.1 t
    dsimp only at h
    suffices H : ∀ j i, i + j = s.1 → w_X9_grow_L13 Q (fun (x21 : Int32) (M25 : gM) => Q x21 M25) (nI t) (j + 1) (nI (grw s.1 s.2.1 t i)) M from ⟨s.1 + 1, H s.1 0 (Nat.zero_add _)⟩
    intro j
    induction j with
    | zero =>
      intro i hi
      rw [w_X9_grow_L13.eq_2]
      rw [Nat.add_zero] at hi
      refine N_missedBy hG.2.2.2 ?_
      rw [hi, hdone]
      exact gbr_t rfl h
    | succ j ih =>
      intro i hi
      rw [w_X9_grow_L13.eq_2]
      have hlt := grw_lt (E := s.2.1) hn.1 z i
      refine N_missedBy hG.2.2.2 ?_
      have hm := missE_lt hl (grw s.1 s.2.1 t i)
      refine gbr_eq _ 0 rfl rfl (by omega) (by decide) (fun q => ?_) (fun q => ?_)
      · have e := grw_stop q (s.1 - i)
        rw [show i + (s.1 - i) = s.1 by omega] at e
        rw [← e]; exact h
      · refine N_missedBy hG.2.2.2 ?_
        obtain ⟨w, hw⟩ : ∃ w, w = missE s.2.1 (grw s.1 s.2.1 t i) := ⟨_, rfl⟩
        rw [← hw]
        have hbw : ∀ v, at_ s.2.1 v &&& w < 16777216 := fun v => Nat.lt_of_le_of_lt Nat.and_le_left (at_lt hl v)
        have hp24 : ∀ v, pc (at_ s.2.1 v &&& w) ≤ 24 := fun v => pc_le (n := 24) (Nat.le_refl _) (hbw v)
        refine lp (σ := Int32) (fun k x u => w_X9_grow_L33 _ _ _ _ (nI w) k u x M) (fun a u => 1 ≤ a ∧ u = nI (amx a (fun v => pc (at_ s.2.1 v &&& w)))) s.1 1 rfl hn.1 ⟨Nat.le_refl _, by rw [amx, amx, ite_self]; rfl⟩ ?_ ?_
        · rintro k u ⟨-, hJ⟩
          rw [w_X9_grow_L33.eq_2]
          refine gbr_ltF s.1 s.1 rfl hG.2.2.1 (by omega) (by omega) (Nat.le_refl _) ?_
          have hb : busy s.1 s.2.1 w < s.1 := amx_lt _ hn.1
          rw [hJ]
          show ∀ x20 : Int32, x20 = nI (grw s.1 s.2.1 t i) ||| (1 <<< (nI (busy s.1 s.2.1 w) &&& 31)) → _
          rw [c_shl _ (by omega), c_or]
          have e := ih (i + 1) (by omega)
          rw [grw, if_neg q, ← hw] at e
          exact nm_e e
        · rintro k a u ha ⟨h1, hJ⟩ ih2
          rw [w_X9_grow_L33.eq_2]
          have hal := amx_lt (fun v => pc (at_ s.2.1 v &&& w)) h1
          refine gbr_ltT a s.1 rfl hG.2.2.1 (by omega) (by omega) ha ?_
          refine N_edgesWith hG.2.2.2 (by omega) ?_
          rw [c_and]
          refine N_bits (hbw a) ?_
          rw [hJ]
          refine N_edgesWith hG.2.2.2 (by omega) ?_
          rw [c_and]
          refine N_bits (hbw _) ?_
          have p1 := hp24 a
          have p2 := hp24 (amx a (fun v => pc (at_ s.2.1 v &&& w)))
          refine gbr_lt _ _ rfl rfl (by omega) (by omega) (fun y => ?_) (fun y => ?_)
          · refine nm_r (c_add1 a) (ih2 _ ⟨by omega, ?_⟩)
            rw [amx, if_pos y]
          · refine nm_r (c_add1 a) (ih2 _ ⟨by omega, ?_⟩)
            rw [amx, if_neg (by omega)]
  · replace z : ¬ pn p < 2 ^ s.1 := by simpa using z
    rw [if_neg z] at h; exact h
theorem mnf_99 {f : Nat → Nat} (h : f 0 ≤ 14) : ∀ k, mnf (k + 1) f 99 = mnf (k + 1) f 14 := by
  intro k
  induction k with
  | zero =>
    rw [mnf, mnf, mnf, mnf]
    split <;> split <;> omega
  | succ k ih => rw [mnf, ih]; rfl
theorem N_value {p : Int32} (hI : MI s M) (h : ∀ M1, MI (o_value s p).2 M1 → Q (o_value s p).1 M1) : w_X9_value p M Q := by
  have hG := hI.1
  have hR := hG.2.2.2
  have hl := hR.1
  replace h := h M hI
  unfold o_value at h
  have hml : minE s.2.1 < 16777216 := Nat.lt_of_lt_of_le (mk_lt _ _) (p2_24 hl)
  obtain ⟨E, hE⟩ : ∃ E, E = s.2.1 := ⟨_, rfl⟩
  have fin : ∀ K : Int32 → Int32 → Int32 → gM → Prop, ∀ a, (∀ x, K (nI (mnf E.length (fun e => pc (ed E e)) a)) (nI (uniE E (minE E))) x M) → a ≤ 99 → ∃ nf, w_X9_value_L25 Q K p (nI (minE E)) nf (nI a) 0 0 M := by
    intro K a hK ha
    rw [← hE] at hR hl hml
    refine lp (σ := Int32 × Int32) (s0 := (nI a, 0)) (fun k x t => w_X9_value_L25 Q K p (nI (minE E)) k t.1 t.2 x M) (fun i t => t.1 = nI (mnf i (fun e => pc (ed E e)) a) ∧ t.2 = nI (orf i (fun e => if (minE E).testBit e then ed E e else 0))) E.length 0 rfl (Nat.zero_le _) ⟨rfl, rfl⟩ ?_ ?_
    · rintro k t ⟨h1, h2⟩
      rw [w_X9_value_L25.eq_2]
      refine N_many hR ?_
      refine gbr_ltF _ _ rfl rfl (by omega) (by omega) (Nat.le_refl _) ?_
      rw [h1, h2]; exact hK _
    · rintro k i t hi ⟨h1, h2⟩ ih
      rw [w_X9_value_L25.eq_2]
      have hb := hR.2.1 i hi
      have hp : pc (ed E i) ≤ 24 := pc_le (n := 24) (Nat.le_refl _) (Nat.lt_of_lt_of_le hb (by decide))
      have hm := mnf_le i (fun e => pc (ed E e)) a
      have vi : vp_in (nI i) 25 := c_in (by omega) (by decide)
      refine N_many hR ?_
      refine gbr_ltT i _ rfl rfl (by omega) (by omega) hi ⟨vi, ?_⟩
      rw [c_cl (by omega), hR.2.2.2 i hi]
      refine N_bits (by omega) ?_
      have bit : ∀ A B : Prop, ((minE E).testBit i = true → A) → ((minE E).testBit i = false → B) → gbr (((nI (minE E) >>> (nI i &&& 31)) &&& 1 : Int32) = 1) A B := by
        intro A B f g
        rw [c_bit (by omega) (by omega)]
        cases z : (minE E).testBit i
        · exact gbr_f (by decide) (g z)
        · exact gbr_t rfl (f z)
      have o1 : (minE E).testBit i = true → t.2 ||| M 43 i = nI (orf (i + 1) (fun e => if (minE E).testBit e then ed E e else 0)) := fun z => by
        rw [h2, hR.2.2.2 i hi, c_or, orf, z]; rfl
      have o2 : (minE E).testBit i = false → t.2 ||| 0 = nI (orf (i + 1) (fun e => if (minE E).testBit e then ed E e else 0)) := fun z => by
        rw [h2, show (0 : Int32) = nI 0 from rfl, c_or, orf, z]; rfl
      refine gbr_lt _ _ rfl h1 (by omega) (by omega) (fun q => ⟨vi, ?_⟩) (fun q => ?_)
      · have m1 : nI (pc (ed E i)) = nI (mnf (i + 1) (fun e => pc (ed E e)) a) := by rw [mnf, if_pos q]
        rw [hR.2.2.2 i hi]
        refine N_bits (by omega) ?_
        exact bit _ _ (fun z => ⟨vi, nm_r (o1 z) (nm_r (c_add1 i) (ih (nI (pc (ed E i)), _) ⟨m1, rfl⟩))⟩) (fun z => nm_r (o2 z) (nm_r (c_add1 i) (ih (nI (pc (ed E i)), _) ⟨m1, rfl⟩)))
      · have m1 : t.1 = nI (mnf (i + 1) (fun e => pc (ed E e)) a) := by rw [h1, mnf, if_neg (by omega)]
        rw [m1]
        exact bit _ _ (fun z => ⟨vi, nm_r (o1 z) (nm_r (c_add1 i) (ih (nI (mnf (i + 1) (fun e => pc (ed E e)) a), _) ⟨rfl, rfl⟩))⟩) (fun z => nm_r (o2 z) (nm_r (c_add1 i) (ih (nI (mnf (i + 1) (fun e => pc (ed E e)) a), _) ⟨rfl, rfl⟩)))
  have out : ∀ a, (a = if E.length = 0 then 0 else mnf E.length (fun e => pc (ed E e)) 14) → gbr ((p : Int32) = 0) (Q (M 42 0) M) (gbr ((p : Int32) = 1) (w_X9_many M (fun (r32 : Int32) (M31 : gM) => Q r32 M31)) (gbr ((p : Int32) = 2) (w_X9_bits (nI (minE E)) M (fun (r34 : Int32) (M33 : gM) => Q r34 M33)) (gbr ((p : Int32) = 3) (Q (M 42 5) M) (gbr ((p : Int32) = 4) (Q (nI a) M) (gbr ((p : Int32) = 5) (Q (nI (uniE E (minE E))) M) (Q (-3) M)))))) := by
    intro a ha
    rw [← hE] at h
    refine gbr_pe 0 rfl (by decide) (fun q => ?_) (fun q0 => ?_)
    · rw [if_pos q] at h
      rw [hG.2.2.1]; exact h
    rw [if_neg q0] at h
    refine gbr_pe 1 rfl (by decide) (fun q => ?_) (fun q1 => ?_)
    · rw [if_pos q] at h
      rw [hE] at h
      exact N_many hR h
    rw [if_neg q1] at h
    refine gbr_pe 2 rfl (by decide) (fun q => ?_) (fun q2 => ?_)
    · rw [if_pos q] at h
      exact N_bits (by rw [hE]; exact hml) h
    rw [if_neg q2] at h
    refine gbr_pe 3 rfl (by decide) (fun q => ?_) (fun q3 => ?_)
    · rw [if_pos q] at h
      rw [hI.2.1.1]; exact h
    rw [if_neg q3] at h
    refine gbr_pe 4 rfl (by decide) (fun q => ?_) (fun q4 => ?_)
    · rw [if_pos q] at h
      rw [ha]; exact h
    rw [if_neg q4] at h
    refine gbr_pe 5 rfl (by decide) (fun q => ?_) (fun q5 => ?_)
    · rw [if_pos q] at h
      exact h
    rw [if_neg q5] at h
    exact h
  unfold w_X9_value
  refine N_minimalEdges hR ?_
  refine N_many hR ?_
  rw [← hE]
  refine gbr_eq _ 0 rfl rfl (by rw [hE]; omega) (by decide) (fun z => ?_) (fun z => ?_)
  · refine fin _ 0 (fun x => ?_) (by decide)
    refine out _ ?_
    rw [if_pos z, z, mnf]
  · refine fin _ 99 (fun x => ?_) (by decide)
    refine out _ ?_
    rw [if_neg z]
    have h0 : pc (ed E 0) ≤ 14 := by
      have h1 := hR.2.1 0 (by rw [← hE]; omega)
      rw [← hE] at h1
      exact pc_le (n := 14) (by decide) h1
    obtain ⟨k, hk⟩ : ∃ k, E.length = k + 1 := ⟨E.length - 1, by omega⟩
    rw [hk]
    exact mnf_99 (f := fun e => pc (ed E e)) h0 k
end
