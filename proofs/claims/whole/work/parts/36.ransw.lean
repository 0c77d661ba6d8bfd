/-! the reference: what the search tells -/
theorem N_inm1 {p m : Int32} {M : gM} {Q : Int32 → gM → Prop} (b : Nat) (h1 : 1 ≤ b) (hb : b < 2147483648) (hm : m = nI (b - 1)) (h : Q (b2 (bd (p = -1 ∨ pn p < b))) M) : w_X9_in p (-1) m M Q := by
  unfold w_X9_in
  subst hm
  by_cases q : p = -1
  · rw [bd_t (Or.inl q)] at h
    subst q
    exact gbr_f (by decide) (gbr_f (fun z => nI_lt0 (a := b - 1) (by omega) (Int32.lt_trans z (by decide))) h)
  rcases arg_cases p with ⟨c1, c2⟩ | ⟨j, c1, c2, c3⟩
  · rw [bd_f (fun z => by rcases z with z | z; exact q z; omega)] at h
    refine gbr_t ?_ h
    have e1 : (-1 : Int32).toInt = -1 := by decide
    have e0 : (0 : Int32).toInt = 0 := by decide
    have e2 : p.toInt ≠ -1 := fun z => q (Int32.toInt_inj.mp (z.trans e1.symm))
    rw [Int32.lt_iff_toInt_lt] at c1 ⊢
    omega
  · subst c2
    refine gbr_f (fun z => nI_lt0 c1 (Int32.lt_trans z (by decide))) ?_
    refine gbr_lt (b - 1) j rfl rfl (by omega) c1 (fun z => ?_) (fun z => ?_)
    · rw [bd_f (fun y => by rcases y with y | y; exact q y; omega)] at h; exact h
    · rw [bd_t (Or.inr (by omega))] at h; exact h
section
variable {s : sT} {M : gM} {Q : Int32 → gM → Prop}
theorem N_srch {Q : gM → Prop} (hI : MI s M) (h : ∀ M1, MI s M1 → SM s.1 (srch s.1 s.2.1) M1 → Q M1) : w_X9_search M Q := N_search hI.1 (fun M1 a1 a2 => h M1 (MI_s hI (FR_MF a2)) a1)
theorem gup {g : sg} {n : Nat} {A B : Prop} (hM : SM n g M) (f : g.2.2.2.2 = false → A) (k : g.2.2.2.2 = true → B) : gbr (M 42 9 = 0) A B := gbr_b _ hM.2.2.2.2.2.2.1 f k
theorem N_answerCount (hI : MI s M) (h : ∀ M1, MI (o_answerCount s).2 M1 → Q (o_answerCount s).1 M1) : w_X9_answerCount M Q := by
  unfold o_answerCount at h
  unfold w_X9_answerCount
  refine N_srch hI (fun M1 a1 a2 => ?_)
  replace h := h M1 a1
  refine gup a2 (fun q => ?_) (fun q => ?_)
  · rw [if_neg (by rw [q]; simp)] at h; rw [a2.1]; exact h
  · rw [if_pos q] at h; exact h
theorem N_visits (hI : MI s M) (h : ∀ M1, MI (o_visits s).2 M1 → Q (o_visits s).1 M1) : w_X9_visits M Q := by
  unfold o_visits at h
  unfold w_X9_visits
  refine N_srch hI (fun M1 a1 a2 => ?_)
  replace h := h M1 a1
  refine gup a2 (fun q => ?_) (fun q => ?_)
  · rw [if_neg (by rw [q]; simp)] at h; rw [a2.2.2.2.2.1]; exact h
  · rw [if_pos q] at h; exact h
theorem N_answer {p : Int32} (hI : MI s M) (h : ∀ M1, MI (o_answer s p).2 M1 → Q (o_answer s p).1 M1) : w_X9_answer p M Q := by
  unfold o_answer at h
  unfold w_X9_answer
  refine gbr_c (fun z => ?_) (fun z => ?_)
  · rw [if_pos z] at h; exact h M hI
  rw [if_neg z] at h
  refine N_srch hI (fun M1 a1 a2 => ?_)
  replace h := h M1 a1
  have hl : (srch s.1 s.2.1).1.length ≤ 4000 := Nat.le_trans a2.2.2.2.2.2.2.2.2.1 a2.2.2.2.2.2.2.2.1
  refine gup a2 (fun q => ?_) (fun q => ?_)
  · rw [if_neg (by rw [q]; simp)] at h
    obtain ⟨j, h1, rfl⟩ := nI_of z
    rw [pn_nI h1] at h
    refine gbr_lt j _ rfl a2.1 h1 (by omega) (fun y => ?_) (fun y => ?_)
    · rw [if_pos y] at h
      refine ⟨c_in (by omega) (by decide), ?_⟩
      rw [c_cl h1, a2.2.1 j y]; exact h
    · rw [if_neg (by omega)] at h; exact h
  · rw [if_pos q] at h; exact h
theorem N_delay {p : Int32} (hI : MI s M) (h : ∀ M1, MI (o_delay s p).2 M1 → Q (o_delay s p).1 M1) : w_X9_delay p M Q := by
  unfold o_delay at h
  unfold w_X9_delay
  refine gbr_c (fun z => ?_) (fun z => ?_)
  · rw [if_pos z] at h; exact h M hI
  rw [if_neg z] at h
  refine N_srch hI (fun M1 a1 a2 => ?_)
  replace h := h M1 a1
  have hl : (srch s.1 s.2.1).1.length ≤ 4000 := Nat.le_trans a2.2.2.2.2.2.2.2.2.1 a2.2.2.2.2.2.2.2.1
  refine gup a2 (fun q => ?_) (fun q => ?_)
  · rw [if_neg (by rw [q]; simp)] at h
    obtain ⟨j, h1, rfl⟩ := nI_of z
    rw [pn_nI h1] at h
    refine gbr_lt j _ rfl a2.1 h1 (by omega) (fun y => ?_) (fun y => ?_)
    · rw [if_pos y] at h
      refine ⟨c_in (by omega) (by decide), ?_⟩
      rw [c_cl h1, a2.2.2.1 j (by rw [a2.2.2.2.1]; exact y)]; exact h
    · rw [if_neg (by omega)] at h; exact h
  · rw [if_pos q] at h; exact h
theorem N_nextL {n t : Nat} {g : sg} {p : Int32} {K : Int32 → Int32 → gM → Prop} (hn : n ≤ 14) (hM : SM n g M) (hb : below p t) (h : ∀ x, K (laI (la g.1 t g.1.length)) x M) : ∃ nf, w_X9_next_L24 Q K p nf (-7) 0 M := by
  obtain ⟨h1, h2, h3, h4, h5, h6, h7, h8, h9, h10, h11⟩ := hM
  have hl : g.1.length ≤ 4000 := by omega
  refine lp (σ := Int32) (fun k x b => w_X9_next_L24 Q K p k b x M) (fun i b => b = laI (la g.1 t i)) g.1.length 0 rfl (Nat.zero_le _) rfl ?_ ?_
  · intro k b hJ
    rw [w_X9_next_L24.eq_2]
    refine gbr_ltF _ _ rfl h1 (by omega) (by omega) (Nat.le_refl _) ?_
    rw [hJ]; exact h _
  · intro k i b hi hJ ih
    rw [w_X9_next_L24.eq_2]
    have he : ed g.1 i < 16384 := ed_lt14 h11 hn hi
    have vi : vp_in (nI i) 4000 := c_in (by omega) (by decide)
    refine gbr_ltT i _ rfl h1 (by omega) (by omega) hi ⟨vi, ?_⟩
    rw [c_cl (by omega), h2 i hi]
    refine gbr_c (fun q => ?_) (fun q => ?_)
    · have ht := (below_lt hb (a := ed g.1 i) (by omega)).mp q
      cases hla : la g.1 t i with
      | none =>
        rw [hla] at hJ
        refine gbr_t (by rw [hJ]; decide) ⟨vi, nm_e (nm_r (c_add1 i) (ih _ ?_))⟩
        rw [la, if_pos ht, hla]; rfl
      | some m =>
        rw [hla] at hJ
        have hm : m < 16384 := by
          rcases la_out (A := g.1) (t := t) i (by omega) with ⟨y, -⟩ | ⟨m2, y1, ⟨a, y2, y3⟩, -⟩
          · rw [hla] at y; cases y
          · rw [hla] at y1
            cases y1
            rw [← y3]; exact ed_lt14 h11 hn (by omega)
        have hJ2 : b = nI m := hJ
        refine gbr_f (by rw [hJ2]; exact nI_lt0 (by omega)) ⟨vi, ?_⟩
        refine gbr_lt _ m rfl hJ2 (by omega) (by omega) (fun y => ⟨vi, nm_e (nm_r (c_add1 i) (ih _ ?_))⟩) (fun y => nm_r (c_add1 i) (ih b ?_))
        · rw [la, if_pos ht, hla]
          dsimp only
          rw [if_pos y]; rfl
        · rw [la, if_pos ht, hla]
          dsimp only
          rw [if_neg (by omega)]; exact hJ
    · have ht : ¬ t ≤ ed g.1 i := fun z => q ((below_lt hb (a := ed g.1 i) (by omega)).mpr z)
      refine nm_r (c_add1 i) (ih b ?_)
      rw [la, if_neg ht]; exact hJ
theorem N_next {p : Int32} (hI : MI s M) (h : ∀ M1, MI (o_next s p).2 M1 → Q (o_next s p).1 M1) : w_X9_next p M Q := by
  have hG := hI.1
  have hn := hG.1
  have h14 := p2_14 hn.2
  have hp := Nat.two_pow_pos s.1
  unfold o_next at h
  unfold w_X9_next
  refine N_whole hn.2 hG.2.2.1 ?_
  refine N_inm1 (2 ^ s.1) hp (by omega) rfl ?_
  refine gbr_b _ rfl (fun z => ?_) (fun z => ?_)
  · have z := of_bd_f z
    rw [if_neg (fun q => z (Or.inl q)), if_neg (fun q => z (Or.inr q))] at h
    exact h M hI
  · have z := of_bd_t z
    obtain ⟨t, hb, ht⟩ : ∃ t, below p t ∧ (∀ M1, MI s M1 → Q (if (srch s.1 s.2.1).2.2.2.2 = true then -6 else laI (la (srch s.1 s.2.1).1 t (srch s.1 s.2.1).1.length)) M1) := by
      by_cases q : p = -1
      · rw [if_pos q] at h
        exact ⟨0, by rw [q]; exact below_m1, h⟩
      · rw [if_neg q] at h
        have z : pn p < 2 ^ s.1 := by rcases z with z | z; exact absurd z q; exact z
        rw [if_pos z] at h
        refine ⟨pn p + 1, ?_, h⟩
        have ep := pn_eq (p := p) (by omega)
        rw [show below p (pn p + 1) = below (nI (pn p)) (pn p + 1) by rw [← ep]]
        exact below_nI (by omega)
    refine N_srch hI (fun M1 a1 a2 => ?_)
    refine N_nextL hn.2 a2 hb (fun x => ?_)
    have r := ht M1 a1
    refine gup a2 (fun q => ?_) (fun q => ?_)
    · rw [if_neg (by rw [q]; simp)] at r; exact r
    · rw [if_pos q] at r; exact r
theorem N_answersOfSize {p : Int32} (hI : MI s M) (h : ∀ M1, MI (o_answersOfSize s p).2 M1 → Q (o_answersOfSize s p).1 M1) : w_X9_answersOfSize p M Q := by
  have hG := hI.1
  have hn := hG.1
  unfold o_answersOfSize at h
  unfold w_X9_answersOfSize
  refine N_in0 (s.1 + 1) (by omega) ?_ ?_
  · rw [hG.2.2.1, sub1, nI_dec]
  refine gbr_b _ rfl (fun z => ?_) (fun z => ?_)
  · replace z := of_decide_eq_false z
    rw [if_neg (by omega)] at h; exact h M hI
  · replace z := of_decide_eq_true z
    rw [if_pos (by omega)] at h
    have ep := pn_eq (p := p) (by omega)
    obtain ⟨j, hj⟩ : ∃ j, j = pn p := ⟨_, rfl⟩
    rw [← hj] at h ep z
    subst ep
    refine N_srch hI (fun M1 a1 a2 => ?_)
    replace h := h M1 a1
    obtain ⟨h1, h2, h3, h4, h5, h6, h7, h8, h9, h10, h11⟩ := id a2
    obtain ⟨A, hA⟩ : ∃ A, A = (srch s.1 s.2.1).1 := ⟨_, rfl⟩
    rw [← hA] at h1 h2 h9 h11 h
    have hl : A.length ≤ 4000 := by omega
    refine lp (σ := Int32) (fun k x t => w_X9_answersOfSize_L23 Q _ _ k t x M1) (fun i t => t = nI (cnt i (fun i => decide (pc (ed A i) = j)))) A.length 0 rfl (Nat.zero_le _) rfl ?_ ?_
    · intro k t hJ
      rw [w_X9_answersOfSize_L23.eq_2]
      refine gbr_ltF _ _ rfl h1 (by omega) (by omega) (Nat.le_refl _) ?_
      refine gup a2 (fun q => ?_) (fun q => ?_)
      · rw [if_neg (by rw [q]; simp)] at h; rw [hJ]; exact h
      · rw [if_pos q] at h; exact h
    · intro k i t hi hJ ih
      rw [w_X9_answersOfSize_L23.eq_2]
      have he : ed A i < 16384 := ed_lt14 h11 hn.2 hi
      have hp : pc (ed A i) ≤ 14 := pc_le (n := 14) (by decide) he
      refine gbr_ltT i _ rfl h1 (by omega) (by omega) hi ⟨c_in (by omega) (by decide), ?_⟩
      rw [c_cl (by omega), h2 i hi]
      refine N_bits (by omega) ?_
      refine gbr_eq _ j rfl rfl (by omega) (by omega) (fun y => ?_) (fun y => ?_)
      · rw [hJ]
        refine nm_r (c_add1 _) (nm_r (c_add1 i) (ih _ ?_))
        rw [cnt, decide_eq_true y]; rfl
      · rw [hJ, show (0 : Int32) = nI 0 from rfl, nI_add]
        refine nm_e (nm_r (c_add1 i) (ih _ ?_))
        rw [cnt, decide_eq_false y]; rfl
theorem N_answersWith {p : Int32} (hI : MI s M) (h : ∀ M1, MI (o_answersWith s p).2 M1 → Q (o_answersWith s p).1 M1) : w_X9_answersWith p M Q := by
  have hG := hI.1
  have hn := hG.1
  unfold o_answersWith at h
  unfold w_X9_answersWith
  refine N_noVertex hn.2 hG.2.2.1 ?_
  refine gbr_b _ rfl (fun z => ?_) (fun z => ?_)
  · replace z : pn p < s.1 := by simpa using z
    rw [if_pos z] at h
    have ep := pn_eq (p := p) (by omega)
    obtain ⟨j, hj⟩ : ∃ j, j = pn p := ⟨_, rfl⟩
    rw [← hj] at h ep z
    subst ep
    refine N_srch hI (fun M1 a1 a2 => ?_)
    replace h := h M1 a1
    obtain ⟨h1, h2, h3, h4, h5, h6, h7, h8, h9, h10, h11⟩ := id a2
    obtain ⟨A, hA⟩ : ∃ A, A = (srch s.1 s.2.1).1 := ⟨_, rfl⟩
    rw [← hA] at h1 h2 h9 h11 h
    have hl : A.length ≤ 4000 := by omega
    refine lp (σ := Int32) (fun k x t => w_X9_answersWith_L18 Q _ _ k t x M1) (fun i t => t = nI (cnt i (fun i => (ed A i).testBit j))) A.length 0 rfl (Nat.zero_le _) rfl ?_ ?_
    · intro k t hJ
      rw [w_X9_answersWith_L18.eq_2]
      refine gbr_ltF _ _ rfl h1 (by omega) (by omega) (Nat.le_refl _) ?_
      refine gup a2 (fun q => ?_) (fun q => ?_)
      · rw [if_neg (by rw [q]; simp)] at h; rw [hJ]; exact h
      · rw [if_pos q] at h; exact h
    · intro k i t hi hJ ih
      rw [w_X9_answersWith_L18.eq_2]
      have he : ed A i < 16384 := ed_lt14 h11 hn.2 hi
      refine gbr_ltT i _ rfl h1 (by omega) (by omega) hi ⟨c_in (by omega) (by decide), ?_⟩
      rw [c_cl (by omega), h2 i hi, c_bit (by omega) (by omega), hJ]
      refine nm_e (nm_r (c_add1 i) (ih _ ?_))
      rw [cnt]
      cases (ed A i).testBit j
      · rw [show b2 false = nI 0 from rfl, nI_add]; rfl
      · rw [show b2 true = nI 1 from rfl, nI_add]; rfl
  · replace z : ¬ pn p < s.1 := by simpa using z
    rw [if_neg z] at h; exact h M hI
theorem N_hittingL {n : Nat} {E : List Nat} {p : Int32} (hG : RG n E M) (f : Nat → Bool) (h : Q (nI (cnt (2 ^ n) f)) M)
    (hf : (p < 0 ∧ ∀ t, f t = decide (missE E t = 0)) ∨ ∃ j, p = nI j ∧ j < 2147483648 ∧ ∀ t, f t = (decide (missE E t = 0) && decide (pc t = j))) : w_X9_hitting p M Q := by
  have hn := hG.1
  have h14 := p2_14 hn.2
  have hp := Nat.two_pow_pos n
  have e0 : ∀ a, nI a + 0 = nI a := fun a => by rw [show (0 : Int32) = nI 0 from rfl, nI_add]; rfl
  unfold w_X9_hitting
  refine lp (σ := Int32) (fun k x t => w_X9_hitting_L4 Q _ p k t x M) (fun i t => t = nI (cnt i f)) (2 ^ n) 0 rfl (Nat.zero_le _) rfl ?_ ?_
  · intro k t hJ
    rw [w_X9_hitting_L4.eq_2]
    refine N_whole hn.2 hG.2.2.1 ?_
    refine gbr_ltT _ (2 ^ n) rfl rfl (by omega) (by omega) (by omega) ?_
    rw [hJ]; exact h
  · intro k i t hi hJ ih
    rw [w_X9_hitting_L4.eq_2]
    refine N_whole hn.2 hG.2.2.1 ?_
    refine gbr_ltF _ i rfl rfl (by omega) (by omega) (by omega) ?_
    have hml := missE_lt hG.2.1.1 i
    have yes : f i = true → ∀ (W : Int32 → Prop), W (nI (cnt (i + 1) f)) → ∀ x, x = t + 1 → W x := fun q W hW x hx => by
      rw [hx, hJ, c_add1]; rw [cnt, q] at hW; exact hW
    have no : f i = false → ∀ (W : Int32 → Prop), W (nI (cnt (i + 1) f)) → ∀ x, x = t + 0 → W x := fun q W hW x hx => by
      rw [hx, hJ, e0]; rw [cnt, q] at hW; exact hW
    rcases hf with ⟨h1, h2⟩ | ⟨j, h1, h2, h3⟩
    · refine gbr_t h1 ?_
      refine N_missedBy hG.2.2.2 ?_
      refine gbr_eq _ 0 rfl rfl (by omega) (by decide) (fun q => ?_) (fun q => ?_)
      · exact yes (by rw [h2, decide_eq_true q]) (fun x => ∀ x8 : Int32, x8 = nI i + 1 → w_X9_hitting_L4 Q _ p k x x8 M) (nm_r (c_add1 i) (ih _ rfl))
      · exact no (by rw [h2, decide_eq_false q]) (fun x => ∀ x8 : Int32, x8 = nI i + 1 → w_X9_hitting_L4 Q _ p k x x8 M) (nm_r (c_add1 i) (ih _ rfl))
    · refine gbr_f (by rw [h1]; exact nI_lt0 h2) ?_
      have hpc : pc i ≤ 14 := pc_le (n := 14) (by decide) (by omega)
      refine N_bits (by omega) ?_
      refine gbr_eq _ j rfl h1 (by omega) h2 (fun y => ?_) (fun y => ?_)
      · refine N_missedBy hG.2.2.2 ?_
        refine gbr_eq _ 0 rfl rfl (by omega) (by decide) (fun q => ?_) (fun q => ?_)
        · exact yes (by rw [h3, decide_eq_true q, decide_eq_true y]; rfl) (fun x => ∀ x8 : Int32, x8 = nI i + 1 → w_X9_hitting_L4 Q _ p k x x8 M) (nm_r (c_add1 i) (ih _ rfl))
        · exact no (by rw [h3, decide_eq_false q]; rfl) (fun x => ∀ x8 : Int32, x8 = nI i + 1 → w_X9_hitting_L4 Q _ p k x x8 M) (nm_r (c_add1 i) (ih _ rfl))
      · exact no (by rw [h3, decide_eq_false y, Bool.and_false]) (fun x => ∀ x8 : Int32, x8 = nI i + 1 → w_X9_hitting_L4 Q _ p k x x8 M) (nm_r (c_add1 i) (ih _ rfl))
theorem N_hittingSets {p : Int32} (hI : MI s M) (h : ∀ M1, MI (o_hittingSets s p).2 M1 → Q (o_hittingSets s p).1 M1) : w_X9_hittingSets p M Q := by
  have hG := hI.1
  have hn := hG.1
  replace h := h M hI
  unfold o_hittingSets at h
  unfold w_X9_hittingSets
  refine N_inm1 (s.1 + 1) (by omega) (by omega) (by rw [hG.2.2.1]; rfl) ?_
  refine gbr_b _ rfl (fun z => ?_) (fun z => ?_)
  · have z := of_bd_f z
    rw [if_neg (fun q => z (Or.inl q)), if_neg (fun q => z (Or.inr (by omega)))] at h
    exact h
  · have z := of_bd_t z
    by_cases q : p = -1
    · rw [if_pos q] at h
      exact N_hittingL hG _ h (Or.inl ⟨by rw [q]; decide, fun _ => rfl⟩)
    · rw [if_neg q] at h
      have z : pn p < s.1 + 1 := by rcases z with z | z; exact absurd z q; exact z
      rw [if_pos (by omega)] at h
      exact N_hittingL hG _ h (Or.inr ⟨pn p, pn_eq (by omega), by omega, fun _ => rfl⟩)
theorem N_diff {Q : Int32 → gM → Prop} (hI : MI s M) (h : ∀ M1 r, diffO s r → MI s M1 → Q r M1) : w_X9_difference M Q := by
  have hn := hI.1.1
  have h14 := p2_14 hn.2
  have hp := Nat.two_pow_pos s.1
  unfold w_X9_difference
  refine N_srch hI (fun M1 a1 a2 => ?_)
  have hG := a1.1
  refine gup a2 (fun q => ?_) (fun q => ?_)
  · have fin : ∀ r, lstP (diffP s.1 s.2.1) r → Q r M1 := fun r hr => h M1 r (by unfold diffO; rw [if_neg (by rw [q]; simp)]; exact hr) a1
    refine lp (σ := Unit) (s0 := ()) (fun k x _ => w_X9_difference_L16 Q _ _ k x M1) (fun i _ => ∀ t, t < i → ¬ diffP s.1 s.2.1 t) (2 ^ s.1) 0 rfl (Nat.zero_le _) (fun t ht => absurd ht (Nat.not_lt_zero _)) ?_ ?_
    · intro k _ hJ
      rw [w_X9_difference_L16.eq_2]
      refine N_whole hn.2 hG.2.2.1 ?_
      refine gbr_ltT _ (2 ^ s.1) rfl rfl (by omega) (by omega) (by omega) ?_
      exact fin _ (Or.inr ⟨fun t ht => hJ t ht.1 ht, rfl⟩)
    · intro k i _ hi hJ ih
      rw [w_X9_difference_L16.eq_2]
      refine N_whole hn.2 hG.2.2.1 ?_
      refine gbr_ltF _ i rfl rfl (by omega) (by omega) (by omega) ?_
      refine N_minEdge hG.2.2.2 (by omega) ?_
      refine N_isAnswer hG (by omega) ?_
      refine gbr_c (fun y => ?_) (fun y => ?_)
      · refine nm_r (c_add1 i) (ih () fun t ht => ?_)
        rcases Nat.lt_succ_iff_lt_or_eq.mp ht with x | x
        · exact hJ t x
        · rw [x]
          rintro ⟨-, ⟨d1, d2⟩ | ⟨d1, d2⟩⟩
          · rw [bd_t d1, bd_f d2] at y; exact absurd y (by decide)
          · rw [bd_t d1, bd_f d2] at y; exact absurd y (by decide)
      · refine fin _ (Or.inl ⟨i, ⟨hi, ?_⟩, fun t ht => ?_, rfl⟩)
        · by_cases d1 : minEdge s.2.1 i
          · refine Or.inl ⟨d1, fun d2 => y ?_⟩
            rw [bd_t d1, bd_t d2]
          · refine Or.inr ⟨?_, d1⟩
            apply Classical.byContradiction
            intro d2
            exact y (by rw [bd_f d1, bd_f d2])
        · apply Classical.byContradiction
          intro x
          exact hJ t (by omega) ht
  · exact h M1 (-6) (by unfold diffO; rw [if_pos q]) a1
theorem N_difference (hI : MI s M) (h : ∀ M1 r, diffO s r → MI s M1 → Q r M1) : w_X9_difference M Q := N_diff hI h
theorem N_isSelfDual (hI : MI s M) (h : ∀ M1 r, selfO s r → MI s M1 → Q r M1) : w_X9_isSelfDual M Q := by
  have h14 := p2_14 hI.1.1.2
  unfold w_X9_isSelfDual
  refine N_diff hI (fun M1 r hr a1 => ?_)
  unfold diffO at hr
  by_cases q : (srch s.1 s.2.1).2.2.2.2 = true
  · rw [if_pos q] at hr
    subst hr
    refine gbr_t rfl (h M1 (-6) ?_ a1)
    unfold selfO; rw [if_pos q]
  · rw [if_neg q] at hr
    have so : selfO s (if r = -7 then 1 else 0) := by
      unfold selfO; rw [if_neg q]; exact ⟨r, hr, rfl⟩
    have ne6 : ¬ r = -6 := by
      rcases hr with ⟨t, t1, t2, t3⟩ | ⟨t1, t2⟩
      · rw [t3]
        intro y
        have y1 := nI_toInt (n := t) (by have := t1.1; omega)
        rw [y] at y1
        have y2 : (-6 : Int32).toInt = -6 := by decide
        omega
      · rw [t2]; decide
    refine gbr_f ne6 (gbr_c (fun y => ?_) (fun y => ?_))
    · rw [if_pos y] at so; exact h M1 1 so a1
    · rw [if_neg y] at so; exact h M1 0 so a1
end
