/-- a statement as a Bool -/
noncomputable def bd (p : Prop) : Bool := @decide p (Classical.propDecidable p)
theorem bd_t {p : Prop} (h : p) : bd p = true := by unfold bd; exact @decide_eq_true p (Classical.propDecidable p) h
theorem bd_f {p : Prop} (h : ¬ p) : bd p = false := by unfold bd; exact @decide_eq_false p (Classical.propDecidable p) h
theorem of_bd_t {p : Prop} (h : bd p = true) : p := by
  unfold bd at h; exact @of_decide_eq_true p (Classical.propDecidable p) h
theorem of_bd_f {p : Prop} (h : bd p = false) : ¬ p := by
  unfold bd at h; exact @of_decide_eq_false p (Classical.propDecidable p) h
theorem bd_cg {p q : Prop} (h : p ↔ q) : bd p = bd q := by
  by_cases z : p
  · rw [bd_t z, bd_t (h.mp z)]
  · rw [bd_f z, bd_f (fun y => z (h.mpr y))]
theorem bd_dec {p : Prop} [Decidable p] : bd p = decide p := by
  by_cases z : p
  · rw [bd_t z, decide_eq_true z]
  · rw [bd_f z, decide_eq_false z]
theorem and_0 {a b : Nat} : a &&& b = 0 ↔ ∀ i, a.testBit i = true → b.testBit i = true → False := by
  rw [tb_0]
  constructor
  · intro h i h1 h2
    have := h i
    rw [Nat.testBit_and, h1, h2] at this
    cases this
  · intro h i
    rw [Nat.testBit_and]
    cases h1 : a.testBit i
    · rfl
    · cases h2 : b.testBit i
      · rfl
      · exact (h i h1 h2).elim
theorem and_ne0 {a b : Nat} : a &&& b ≠ 0 ↔ ∃ i, a.testBit i = true ∧ b.testBit i = true := by
  constructor
  · intro h
    apply Classical.byContradiction
    intro q
    exact h (and_0.mpr fun i h1 h2 => q ⟨i, h1, h2⟩)
  · rintro ⟨i, h1, h2⟩ h
    exact and_0.mp h i h1 h2
theorem tb_all (k i : Nat) : (2 ^ k - 1).testBit i = decide (i < k) := Nat.testBit_two_pow_sub_one ..
theorem bool_iff {a b : Bool} (h : a = true ↔ b = true) : a = b := by
  cases a <;> cases b <;> simp_all
/-- the edges that a set misses -/
def missE (E : List Nat) (s : Nat) : Nat := mk E.length (fun e => decide (ed E e &&& s = 0))
theorem missE_tb (E : List Nat) (s e : Nat) : (missE E s).testBit e = (decide (e < E.length) && decide (ed E e &&& s = 0)) := mk_tb _ _ _
theorem missE_0 {E : List Nat} {s : Nat} : missE E s = 0 ↔ ∀ e, e < E.length → ed E e &&& s ≠ 0 := by
  unfold missE
  rw [mk_0]
  exact ⟨fun h e he => of_decide_eq_false (h e he), fun h e he => decide_eq_false (h e he)⟩
theorem missE_lt {E : List Nat} (h : E.length ≤ 24) (s : Nat) : missE E s < 16777216 := Nat.lt_of_lt_of_le (mk_lt _ _) (p2_24 h)
/-- the edges at the vertices of a set, vertex by vertex -/
def atS (E : List Nat) (s : Nat) (v : Nat) : Nat := if s.testBit v then at_ E v else 0
theorem atS_tb (E : List Nat) (s v e : Nat) : (atS E s v).testBit e = true ↔ e < E.length ∧ s.testBit v = true ∧ (ed E e).testBit v = true := by
  unfold atS
  split
  · rename_i h
    rw [at_tb, Bool.and_eq_true, decide_eq_true_eq]
    exact ⟨fun q => ⟨q.1, h, q.2⟩, fun q => ⟨q.1, q.2.2⟩⟩
  · rename_i h
    rw [Nat.zero_testBit]
    exact ⟨fun q => (by cases q), fun q => absurd q.2.1 h⟩
theorem hit_tb {n : Nat} {E : List Nat} (hS : sane n E) (s e : Nat) (he : e < E.length) : (orf n (atS E s)).testBit e = true ↔ ed E e &&& s ≠ 0 := by
  rw [orf_tb, and_ne0]
  constructor
  · rintro ⟨v, h1, h2⟩
    obtain ⟨-, h3, h4⟩ := (atS_tb E s v e).mp h2
    exact ⟨v, h4, h3⟩
  · rintro ⟨v, h1, h2⟩
    exact ⟨v, tb_lt (hS.2 e he).2 h1, (atS_tb E s v e).mpr ⟨he, h2, h1⟩⟩
theorem hit_big {n : Nat} {E : List Nat} (s e : Nat) (he : ¬ e < E.length) : (orf n (atS E s)).testBit e = false := by
  apply Bool.eq_false_iff.mpr
  intro h
  obtain ⟨v, -, h2⟩ := (orf_tb _ _ _).mp h
  exact he ((atS_tb E s v e).mp h2).1
theorem miss_eq {n : Nat} {E : List Nat} (hS : sane n E) (s : Nat) : nd (2 ^ E.length - 1) (orf n (atS E s)) = missE E s := by
  refine mk_of fun e => ?_
  rw [nd_tb, tb_all]
  by_cases he : e < E.length
  · simp only [he, decide_true, Bool.true_and]
    apply bool_iff
    rw [Bool.not_eq_true', ← Bool.not_eq_true, hit_tb hS s e he, decide_eq_true_eq, Decidable.not_not]
  · simp [he]
/-- hit again -/
def agf : Nat → (Nat → Nat) → Nat
  | 0, _ => 0
  | k + 1, f => agf k f ||| (orf k f &&& f k)
theorem agf_tb (k : Nat) (f : Nat → Nat) (e : Nat) : (agf k f).testBit e = true ↔ ∃ v w, v < w ∧ w < k ∧ (f v).testBit e = true ∧ (f w).testBit e = true := by
  induction k with
  | zero =>
    constructor
    · intro h; simp [agf] at h
    · rintro ⟨v, w, _, h, _⟩; omega
  | succ k ih =>
    rw [agf, Nat.testBit_or, Bool.or_eq_true, ih, Nat.testBit_and, Bool.and_eq_true, orf_tb]
    constructor
    · rintro (⟨v, w, h1, h2, h3⟩ | ⟨⟨v, h1, h2⟩, h3⟩)
      · exact ⟨v, w, h1, by omega, h3⟩
      · exact ⟨v, k, h1, by omega, h2, h3⟩
    · rintro ⟨v, w, h1, h2, h3, h4⟩
      by_cases q : w = k
      · subst q
        exact Or.inr ⟨⟨v, h1, h3⟩, h4⟩
      · exact Or.inl ⟨v, w, h1, by omega, h3, h4⟩
/-- edge e is hit once -/
def onceP (E : List Nat) (s e : Nat) : Prop := ∃ v, ed E e &&& s = 2 ^ v
theorem and_pow {a s v : Nat} : a &&& s = 2 ^ v ↔ a.testBit v = true ∧ s.testBit v = true ∧ ∀ w, a.testBit w = true → s.testBit w = true → w = v := by
  constructor
  · intro h
    have h1 : ∀ w, (a.testBit w && s.testBit w) = decide (v = w) := fun w => by rw [← Nat.testBit_and, h, tb_pow]
    have h2 := h1 v
    simp only [decide_true, Bool.and_eq_true] at h2
    refine ⟨h2.1, h2.2, fun w p q => ?_⟩
    have h3 := h1 w
    rw [p, q] at h3
    exact (of_decide_eq_true h3.symm).symm
  · rintro ⟨h1, h2, h3⟩
    refine Nat.eq_of_testBit_eq fun w => ?_
    rw [Nat.testBit_and, tb_pow]
    by_cases q : v = w
    · subst q; rw [h1, h2]; simp
    · rw [decide_eq_false q]
      cases p1 : a.testBit w
      · rfl
      · cases p2 : s.testBit w
        · rfl
        · exact absurd (h3 w p1 p2).symm q
noncomputable def hit1 (E : List Nat) (s : Nat) : Nat := mk E.length (fun e => bd (onceP E s e))
theorem hit1_tb (E : List Nat) (s e : Nat) : (hit1 E s).testBit e = true ↔ e < E.length ∧ onceP E s e := by
  unfold hit1
  rw [mk_tb, Bool.and_eq_true, decide_eq_true_eq]
  exact ⟨fun h => ⟨h.1, of_bd_t h.2⟩, fun h => ⟨h.1, bd_t h.2⟩⟩
theorem hit1_lt {E : List Nat} (h : E.length ≤ 24) (s : Nat) : hit1 E s < 16777216 := Nat.lt_of_lt_of_le (mk_lt _ _) (p2_24 h)
theorem once_eq {n : Nat} {E : List Nat} (hS : sane n E) (s : Nat) : nd (orf n (atS E s)) (agf n (atS E s)) = hit1 E s := by
  refine Nat.eq_of_testBit_eq fun e => ?_
  apply bool_iff
  rw [nd_tb, Bool.and_eq_true, Bool.not_eq_true', ← Bool.not_eq_true, hit1_tb, agf_tb, orf_tb]
  constructor
  · rintro ⟨⟨v, h1, h2⟩, h3⟩
    obtain ⟨q1, q2, q3⟩ := (atS_tb E s v e).mp h2
    refine ⟨q1, v, and_pow.mpr ⟨q3, q2, fun w p1 p2 => ?_⟩⟩
    apply Classical.byContradiction
    intro hne
    have hw : w < n := tb_lt (hS.2 e q1).2 p1
    have h4 := (atS_tb E s w e).mpr ⟨q1, p2, p1⟩
    rcases Nat.lt_or_gt_of_ne hne with q | q
    · exact h3 ⟨w, v, q, h1, h4, h2⟩
    · exact h3 ⟨v, w, q, hw, h2, h4⟩
  · rintro ⟨q1, v, h⟩
    obtain ⟨h1, h2, h3⟩ := and_pow.mp h
    refine ⟨⟨v, tb_lt (hS.2 e q1).2 h1, (atS_tb E s v e).mpr ⟨q1, h2, h1⟩⟩, ?_⟩
    rintro ⟨x, y, p1, p2, p3, p4⟩
    obtain ⟨-, a1, a2⟩ := (atS_tb E s x e).mp p3
    obtain ⟨-, b1, b2⟩ := (atS_tb E s y e).mp p4
    have := h3 x a2 a1
    have := h3 y b2 b1
    omega
/-- each vertex of the set has an edge of its own -/
def allP (n : Nat) (E : List Nat) (s : Nat) : Prop := ∀ v, v < n → s.testBit v = true → ∃ e, e < E.length ∧ ed E e &&& s = 2 ^ v
def isAns (n : Nat) (E : List Nat) (s : Nat) : Prop := missE E s = 0 ∧ allP n E s
theorem hp_eq {n : Nat} {E : List Nat} (s : Nat) : (∀ v, v < n → s.testBit v = true → at_ E v &&& hit1 E s ≠ 0) ↔ allP n E s := by
  constructor
  · intro h v hv hs
    obtain ⟨e, h1, h2⟩ := and_ne0.mp (h v hv hs)
    rw [at_tb, Bool.and_eq_true, decide_eq_true_eq] at h1
    obtain ⟨he, w, hw⟩ := (hit1_tb E s e).mp h2
    have := (and_pow.mp hw).2.2 v h1.2 hs
    subst this
    exact ⟨e, he, hw⟩
  · intro h v hv hs
    obtain ⟨e, he, hw⟩ := h v hv hs
    refine and_ne0.mpr ⟨e, ?_, (hit1_tb E s e).mpr ⟨he, v, hw⟩⟩
    rw [at_tb, (and_pow.mp hw).1]
    simp [he]
section
variable {n : Nat} {E : List Nat} {M : gM} {Q : Int32 → gM → Prop}
theorem S_missedBy {s : Nat} (hG : XG n E M) (hA : XA E M) (hs : s < 2147483648) (h : Q (nI (missE E s)) M) : w_X5_missedBy (nI s) M Q := by
  have hG0 := hG
  obtain ⟨hn, hS, hv, hc, hr⟩ := hG
  have hl := hS.1
  unfold w_X5_missedBy
  refine lp (σ := Int32) (fun k x t => w_X5_missedBy_L4 Q _ (nI s) k t x M) (fun i t => t = nI (orf i (atS E s))) n 0 rfl (Nat.zero_le _) rfl ?_ ?_
  · intro k t hI
    rw [w_X5_missedBy_L4.eq_2]
    refine gbr_ltF n n rfl hv (by omega) (by omega) (Nat.le_refl _) ?_
    refine S_allEdges hG0 ?_
    rw [hI, c_nd, miss_eq hS]
    exact h
  · intro k i t hi hI ih
    rw [w_X5_missedBy_L4.eq_2]
    refine gbr_ltT i n rfl hv (by omega) (by omega) hi ?_
    refine S_has hs (by omega) ?_
    refine gbr_b _ rfl (fun z => ?_) (fun z => ?_)
    · refine nm_r (c_add1 i) (ih t ?_)
      rw [hI, orf, atS, z]; simp
    · refine ⟨c_in (by omega) (by omega), nm_e (nm_r (c_add1 i) (ih _ ?_))⟩
      rw [c_cl (by omega), hA i (by omega), hI, c_or, orf, atS, z]; simp
theorem S_hitOnceBy {s : Nat} (hG : XG n E M) (hA : XA E M) (hs : s < 2147483648) (h : Q (nI (hit1 E s)) M) : w_X5_hitOnceBy (nI s) M Q := by
  have hG0 := hG
  obtain ⟨hn, hS, hv, hc, hr⟩ := hG
  have hl := hS.1
  unfold w_X5_hitOnceBy
  refine lp (σ := Int32 × Int32) (s0 := (0, 0)) (fun k x t => w_X5_hitOnceBy_L7 Q _ (nI s) k t.1 t.2 x M) (fun i t => t.1 = nI (orf i (atS E s)) ∧ t.2 = nI (agf i (atS E s))) n 0 rfl (Nat.zero_le _) ⟨rfl, rfl⟩ ?_ ?_
  · intro k t hI
    rw [w_X5_hitOnceBy_L7.eq_2]
    refine gbr_ltF n n rfl hv (by omega) (by omega) (Nat.le_refl _) ?_
    rw [hI.1, hI.2, c_nd, once_eq hS]
    exact h
  · intro k i t hi hI ih
    rw [w_X5_hitOnceBy_L7.eq_2]
    refine gbr_ltT i n rfl hv (by omega) (by omega) hi ?_
    refine S_has hs (by omega) ?_
    refine gbr_b _ rfl (fun z => ?_) (fun z => ?_)
    · refine nm_r (c_add1 i) (ih t ?_)
      rw [hI.1, hI.2, orf, agf, atS, z]; simp
    · refine ⟨c_in (by omega) (by omega), nm_e ⟨c_in (by omega) (by omega), nm_e (nm_r (c_add1 i) (ih (_, _) ?_))⟩⟩
      rw [c_cl (by omega), hA i (by omega), hI.1, hI.2, c_or, c_and, c_or, orf, agf, atS, z]; simp
theorem S_eachHasPrivate {s w : Nat} (hG : XG n E M) (hA : XA E M) (hs : s < 2147483648) (h : Q (b2 (bd (∀ v, v < n → s.testBit v = true → at_ E v &&& w ≠ 0))) M) : w_X5_eachHasPrivate (nI s) (nI w) M Q := by
  obtain ⟨hn, hS, hv, hc, hr⟩ := hG
  have hl := hS.1
  unfold w_X5_eachHasPrivate
  refine lp (σ := Unit) (s0 := ()) (fun k x _ => w_X5_eachHasPrivate_L2 Q _ _ (nI s) (nI w) k x M) (fun i _ => ∀ v, v < i → s.testBit v = true → at_ E v &&& w ≠ 0) n 0 rfl (Nat.zero_le _) (fun j hj => absurd hj (Nat.not_lt_zero _)) ?_ ?_
  · intro k _ hI
    rw [w_X5_eachHasPrivate_L2.eq_2]
    refine gbr_ltF n n rfl hv (by omega) (by omega) (Nat.le_refl _) ?_
    rw [bd_t hI] at h
    exact h
  · intro k i _ hi hI ih
    rw [w_X5_eachHasPrivate_L2.eq_2]
    refine gbr_ltT i n rfl hv (by omega) (by omega) hi ?_
    refine S_has hs (by omega) ?_
    refine gbr_b _ rfl (fun z => ?_) (fun z => ?_)
    · refine nm_r (c_add1 i) (ih () fun v hv2 hs2 => ?_)
      rcases Nat.lt_succ_iff_lt_or_eq.mp hv2 with y | y
      · exact hI v y hs2
      · rw [y, z] at hs2; cases hs2
    · refine ⟨c_in (by omega) (by omega), ?_⟩
      rw [c_cl (by omega), hA i (by omega), c_and]
      have h1 := at_lt hl i
      have h2 : at_ E i &&& w ≤ at_ E i := Nat.and_le_left
      refine gbr_eq (at_ E i &&& w) 0 rfl rfl (by omega) (by decide) (fun q => ?_) (fun q => ?_)
      · rw [bd_f (fun y => y i hi z q)] at h
        exact h
      · refine nm_r (c_add1 i) (ih () fun v hv2 hs2 => ?_)
        rcases Nat.lt_succ_iff_lt_or_eq.mp hv2 with y | y
        · exact hI v y hs2
        · rw [y]; exact q
theorem S_allP {s : Nat} (hG : XG n E M) (hA : XA E M) (hs : s < 2147483648) (h : Q (b2 (bd (allP n E s))) M) : w_X5_eachHasPrivate (nI s) (nI (hit1 E s)) M Q := by
  refine S_eachHasPrivate hG hA hs ?_
  rw [bd_cg (hp_eq s)]
  exact h
theorem S_isAnswer {s : Nat} (hG : XG n E M) (hA : XA E M) (hs : s < 2147483648) (h : Q (b2 (bd (isAns n E s))) M) : w_X5_isAnswer (nI s) M Q := by
  have hl := hG.2.1.1
  unfold w_X5_isAnswer
  refine S_missedBy hG hA hs ?_
  have h1 := missE_lt hl s
  refine gbr_eq (missE E s) 0 rfl rfl (by omega) (by decide) (fun q => ?_) (fun q => ?_)
  · refine S_hitOnceBy hG hA hs ?_
    refine S_allP hG hA hs ?_
    refine gbr_b _ rfl (fun z => ?_) (fun z => ?_)
    · rw [bd_f (fun y : isAns n E s => of_bd_f z y.2)] at h
      exact h
    · rw [bd_t (show isAns n E s from ⟨q, of_bd_t z⟩)] at h
      exact h
  · rw [bd_f (fun y : isAns n E s => q y.1)] at h
    exact h
/-- the first of the greatest -/
def amx : Nat → (Nat → Nat) → Nat
  | 0, _ => 0
  | k + 1, f => if f (amx k f) < f k then k else amx k f
theorem amx_lt {k : Nat} (f : Nat → Nat) (h : 0 < k) : amx k f < k := by
  induction k with
  | zero => omega
  | succ k ih =>
    rw [amx]
    split
    · omega
    · by_cases q : k = 0
      · subst q; simp [amx]
      · have := ih (by omega); omega
def busy (n : Nat) (E : List Nat) (w : Nat) : Nat := amx n (fun v => pc (at_ E v &&& w))
theorem S_busiest {w : Nat} (hG : XG n E M) (hA : XA E M) (h : Q (nI (busy n E w)) M) : w_X5_busiestVertex (nI w) M Q := by
  obtain ⟨hn, hS, hv, hc, hr⟩ := hG
  have hl := hS.1
  unfold w_X5_busiestVertex
  refine lp (σ := Int32 × Int32) (s0 := (0, -1)) (fun k x t => w_X5_busiestVertex_L7 Q _ (nI w) k t.1 t.2 x M) (fun i t => t.1 = nI (amx i (fun v => pc (at_ E v &&& w))) ∧ ((i = 0 ∧ t.2 = -1) ∨ t.2 = nI (pc (at_ E (amx i (fun v => pc (at_ E v &&& w))) &&& w)))) n 0 rfl (Nat.zero_le _) ⟨rfl, Or.inl ⟨rfl, rfl⟩⟩ ?_ ?_
  · intro k t hI
    rw [w_X5_busiestVertex_L7.eq_2]
    refine gbr_ltF n n rfl hv (by omega) (by omega) (Nat.le_refl _) ?_
    rw [hI.1]
    exact h
  · intro k i t hi hI ih
    rw [w_X5_busiestVertex_L7.eq_2]
    have hpc : ∀ v, at_ E v &&& w < 16777216 := fun v => Nat.lt_of_le_of_lt Nat.and_le_left (at_lt hl v)
    have hp24 : ∀ v, pc (at_ E v &&& w) ≤ 24 := fun v => pc_le (n := 24) (Nat.le_refl _) (hpc v)
    refine gbr_ltT i n rfl hv (by omega) (by omega) hi ⟨c_in (by omega) (by omega), ?_⟩
    rw [c_cl (by omega), hA i (by omega), c_and]
    refine S_bitCount (hpc i) ?_
    rcases hI.2 with ⟨q1, q2⟩ | q2
    · subst q1
      rw [q2]
      have ea : amx (0 + 1) (fun v => pc (at_ E v &&& w)) = 0 := by simp [amx]
      refine gbr_t ?_ (nm_r (c_add1 0) (ih (nI 0, nI (pc (at_ E 0 &&& w))) ⟨?_, Or.inr ?_⟩))
      · have := hp24 0
        rw [Int32.lt_iff_toInt_lt, nI_toInt (by omega), show (-1 : Int32).toInt = -1 by decide]
        omega
      · rw [ea]
      · rw [ea]
    · refine gbr_lt _ _ q2 rfl (by have := hp24 (amx i fun v => pc (at_ E v &&& w)); omega) (by have := hp24 i; omega) (fun z => ?_) (fun z => ?_)
      · have ea : amx (i + 1) (fun v => pc (at_ E v &&& w)) = i := by rw [amx, if_pos z]
        refine nm_r (c_add1 i) (ih (nI i, nI (pc (at_ E i &&& w))) ⟨?_, Or.inr ?_⟩)
        · rw [ea]
        · rw [ea]
      · have ea : amx (i + 1) (fun v => pc (at_ E v &&& w)) = amx i (fun v => pc (at_ E v &&& w)) := by rw [amx, if_neg (by omega)]
        refine nm_r (c_add1 i) (ih t ⟨?_, Or.inr ?_⟩)
        · rw [ea]; exact hI.1
        · rw [ea]; exact q2
/-- the first of the wanted edges with the fewest candidates: those, and how many -/
def fcf (E : List Nat) (w c : Nat) : Nat → Nat × Nat
  | 0 => (0, 15)
  | k + 1 => if w.testBit k = true ∧ pc (ed E k &&& c) < (fcf E w c k).2 then (ed E k &&& c, pc (ed E k &&& c)) else fcf E w c k
theorem fcf_le (E : List Nat) (w c k : Nat) : (fcf E w c k).2 ≤ 15 := by
  induction k with
  | zero => exact Nat.le_refl _
  | succ k ih =>
    rw [fcf]
    split
    · rename_i h
      exact Nat.le_trans (Nat.le_of_lt h.2) ih
    · exact ih
theorem S_fewest {w c : Nat} (hG : XG n E M) (hw : w < 2147483648) (h : Q (nI (fcf E w c E.length).1) M) : w_X5_fewestCandidates (nI w) (nI c) M Q := by
  obtain ⟨hn, hS, hv, hc, hr⟩ := hG
  have hl := hS.1
  unfold w_X5_fewestCandidates
  refine lp (σ := Int32 × Int32) (s0 := (0, 15)) (fun k x t => w_X5_fewestCandidates_L9 Q _ (nI w) (nI c) k t.1 t.2 x M) (fun i t => t.1 = nI (fcf E w c i).1 ∧ t.2 = nI (fcf E w c i).2) E.length 0 rfl (Nat.zero_le _) ⟨rfl, rfl⟩ ?_ ?_
  · intro k t hI
    rw [w_X5_fewestCandidates_L9.eq_2]
    refine gbr_ltF E.length E.length rfl hc (by omega) (by omega) (Nat.le_refl _) ?_
    rw [hI.1]
    exact h
  · intro k i t hi hI ih
    rw [w_X5_fewestCandidates_L9.eq_2]
    have h1 := sane_lt hS hn.2 hi
    refine gbr_ltT i E.length rfl hc (by omega) (by omega) hi ?_
    refine S_has hw (by omega) ?_
    refine gbr_b _ rfl (fun z => ?_) (fun z => ?_)
    · refine nm_r (c_add1 i) (ih t ?_)
      rw [fcf, if_neg (by rw [z]; simp)]
      exact hI
    · refine ⟨c_in (by omega) (by omega), nm_e ?_⟩
      rw [c_cl (by omega), hr i hi, c_and]
      have h2 : ed E i &&& c < 16777216 := Nat.lt_of_le_of_lt Nat.and_le_left (by omega)
      have h3 : pc (ed E i &&& c) ≤ 24 := pc_le (n := 24) (Nat.le_refl _) h2
      have h4 := fcf_le E w c i
      refine S_bitCount h2 ?_
      refine gbr_lt _ _ rfl hI.2 (by omega) (by omega) (fun y => ?_) (fun y => ?_)
      · refine nm_r (c_add1 i) (ih (nI (ed E i &&& c), nI (pc (ed E i &&& c))) ?_)
        rw [fcf, if_pos ⟨z, y⟩]
        exact ⟨rfl, rfl⟩
      · refine nm_r (c_add1 i) (ih t ?_)
        rw [fcf, if_neg (fun q => absurd q.2 (by omega))]
        exact hI
end
