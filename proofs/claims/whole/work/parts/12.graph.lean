theorem gbr_ltT {x y : Int32} {A B : Prop} (a b : Nat) (hx : x = nI a) (hy : y = nI b) (ha : a < 2147483648) (hb : b < 2147483648) (h : a < b) (k : A) : gbr (x < y) A B := gbr_lt a b hx hy ha hb (fun _ => k) (fun q => absurd h (by omega))
theorem gbr_ltF {x y : Int32} {A B : Prop} (a b : Nat) (hx : x = nI a) (hy : y = nI b) (ha : a < 2147483648) (hb : b < 2147483648) (h : b ≤ a) (k : B) : gbr (x < y) A B := gbr_lt a b hx hy ha hb (fun q => absurd q (by omega)) (fun _ => k)
def ed (E : List Nat) (i : Nat) : Nat := E.getD i 0
def rowIs (r : Nat → Int32) (E : List Nat) : Prop := ∀ i, i < E.length → r i = nI (ed E i)
def sane (n : Nat) (E : List Nat) : Prop := E.length ≤ 24 ∧ ∀ i, i < E.length → 0 < ed E i ∧ ed E i < 2 ^ n
def XG (n : Nat) (E : List Nat) (M : gM) : Prop := (1 ≤ n ∧ n ≤ 14) ∧ sane n E ∧ M 1 0 = nI n ∧ M 1 1 = nI E.length ∧ rowIs (M 9) E
def at_ (E : List Nat) (v : Nat) : Nat := mk E.length (fun e => (ed E e).testBit v)
def XA (E : List Nat) (M : gM) : Prop := ∀ v, v < 14 → M 10 v = nI (at_ E v)
theorem mem_ed {E : List Nat} {s : Nat} : s ∈ E ↔ ∃ i, i < E.length ∧ ed E i = s := by
  constructor
  · intro h
    obtain ⟨i, hi, he⟩ := List.getElem_of_mem h
    exact ⟨i, hi, by unfold ed; rw [List.getD_eq_getElem?_getD, List.getElem?_eq_getElem hi]; exact he⟩
  · rintro ⟨i, hi, rfl⟩
    unfold ed
    rw [List.getD_eq_getElem?_getD, List.getElem?_eq_getElem hi]
    exact List.getElem_mem hi
theorem sane_lt {n : Nat} {E : List Nat} (h : sane n E) (hn : n ≤ 14) {i : Nat} (hi : i < E.length) : ed E i < 16384 := Nat.lt_of_lt_of_le (h.2 i hi).2 (p2_14 hn)
theorem at_lt {E : List Nat} (h : E.length ≤ 24) (v : Nat) : at_ E v < 16777216 := Nat.lt_of_lt_of_le (mk_lt _ _) (p2_24 h)
theorem at_tb (E : List Nat) (v e : Nat) : (at_ E v).testBit e = (decide (e < E.length) && (ed E e).testBit v) := mk_tb _ _ _
theorem S_has {s v : Nat} {M : gM} {Q : Int32 → gM → Prop} (hs : s < 2147483648) (hv : v < 31) (h : Q (b2 (s.testBit v)) M) : w_X8_has (nI s) (nI v) M Q := by
  unfold w_X8_has
  refine gbr_b (s.testBit v) (c_bit hs hv) (fun e => ?_) (fun e => ?_) <;> (rw [e] at h; exact h)
theorem S_within {a b : Nat} {M : gM} {Q : Int32 → gM → Prop} (ha : a < 2147483648) (h : Q (b2 (decide (nd a b = 0))) M) : w_X8_isWithin (nI a) (nI b) M Q := by
  unfold w_X8_isWithin
  rw [c_nd]
  have hl : nd a b < 2 ^ 31 := nd_lt (n := 31) ha
  refine gbr_eq (nd a b) 0 rfl rfl hl (by decide) (fun e => ?_) (fun e => ?_)
  · rw [e] at h; exact h
  · rw [decide_eq_false e] at h; exact h
section
variable {n : Nat} {E : List Nat} {M : gM} {Q : Int32 → gM → Prop}
theorem S_allEdges (hG : XG n E M) (h : Q (nI (2 ^ E.length - 1)) M) : w_X5_allEdges M Q := by
  obtain ⟨hn, hS, hv, hc, hr⟩ := hG
  have := hS.1
  unfold w_X5_allEdges
  rw [hc, c_all (by omega)]
  exact h
theorem S_isFull (hG : XG n E M) (h : Q (b2 (decide (24 ≤ E.length))) M) : w_X5_isFull M Q := by
  obtain ⟨hn, hS, hv, hc, hr⟩ := hG
  have := hS.1
  unfold w_X5_isFull
  refine gbr_lt E.length 24 hc rfl (by omega) (by decide) (fun q => ?_) (fun q => ?_)
  · rw [decide_eq_false (by omega)] at h; exact h
  · rw [decide_eq_true q] at h; exact h
theorem S_contains {s : Nat} (hG : XG n E M) (hs : s < 2147483648) (h : Q (b2 (decide (s ∈ E))) M) : w_X5_contains (nI s) M Q := by
  obtain ⟨hn, hS, hv, hc, hr⟩ := hG
  have hl := hS.1
  unfold w_X5_contains
  refine lp (σ := Unit) (s0 := ()) (fun k x _ => w_X5_contains_L2 Q _ _ (nI s) k x M) (fun i _ => ∀ j, j < i → ed E j ≠ s) E.length 0 rfl (Nat.zero_le _) (fun j hj => absurd hj (Nat.not_lt_zero _)) ?_ ?_
  · intro k _ hI
    rw [w_X5_contains_L2.eq_2]
    refine gbr_ltF E.length E.length rfl hc (by omega) (by omega) (Nat.le_refl _) ?_
    rw [decide_eq_false (fun q => by obtain ⟨i, hi, he⟩ := mem_ed.mp q; exact hI i hi he)] at h
    exact h
  · intro k i _ hi hI ih
    rw [w_X5_contains_L2.eq_2]
    have he := sane_lt hS hn.2 hi
    refine gbr_ltT i E.length rfl hc (by omega) (by omega) hi ⟨c_in (by omega) (by omega), ?_⟩
    rw [c_cl (by omega)]
    refine gbr_eq (ed E i) s (hr i hi) rfl (by omega) hs (fun e => ?_) (fun e => ?_)
    · rw [decide_eq_true (mem_ed.mpr ⟨i, hi, e⟩)] at h
      exact h
    · refine nm_r (c_add1 i) (ih () fun j hj => ?_)
      rcases Nat.lt_succ_iff_lt_or_eq.mp hj with q | q
      · exact hI j q
      · rw [q]; exact e
def minB (E : List Nat) (e : Nat) : Bool := decide (∀ f, f < E.length → f ≠ e → nd (ed E f) (ed E e) ≠ 0)
def minE (E : List Nat) : Nat := mk E.length (minB E)
theorem S_isMinimal {e : Nat} (hG : XG n E M) (he : e < E.length) (h : Q (b2 (minB E e)) M) : w_X5_isMinimal (nI e) M Q := by
  obtain ⟨hn, hS, hv, hc, hr⟩ := hG
  have hl := hS.1
  unfold w_X5_isMinimal
  refine lp (σ := Unit) (s0 := ()) (fun k x _ => w_X5_isMinimal_L2 Q _ _ (nI e) k x M) (fun i _ => ∀ f, f < i → f ≠ e → nd (ed E f) (ed E e) ≠ 0) E.length 0 rfl (Nat.zero_le _) (fun j hj => absurd hj (Nat.not_lt_zero _)) ?_ ?_
  · intro k _ hI
    rw [w_X5_isMinimal_L2.eq_2]
    refine gbr_ltF E.length E.length rfl hc (by omega) (by omega) (Nat.le_refl _) ?_
    rw [minB, decide_eq_true hI] at h
    exact h
  · intro k i _ hi hI ih
    rw [w_X5_isMinimal_L2.eq_2]
    have h1 := sane_lt hS hn.2 hi
    refine gbr_ltT i E.length rfl hc (by omega) (by omega) hi ?_
    refine gbr_eq i e rfl rfl (by omega) (by omega) (fun q => ?_) (fun q => ?_)
    · refine nm_r (c_add1 i) (ih () fun f hf hne => ?_)
      rcases Nat.lt_succ_iff_lt_or_eq.mp hf with z | z
      · exact hI f z hne
      · exact absurd (z.trans q) hne
    · refine ⟨c_in (by omega) (by omega), c_in (by omega) (by omega), ?_⟩
      rw [c_cl (by omega), c_cl (by omega), hr i hi, hr e he]
      refine S_within (by omega) ?_
      refine gbr_b _ rfl (fun z => ?_) (fun z => ?_)
      · have z := of_decide_eq_false z
        refine nm_r (c_add1 i) (ih () fun f hf hne => ?_)
        rcases Nat.lt_succ_iff_lt_or_eq.mp hf with y | y
        · exact hI f y hne
        · rw [y]; exact z
      · have z := of_decide_eq_true z
        rw [minB, decide_eq_false (fun y => y i hi q z)] at h
        exact h
theorem S_minimalEdges (hG : XG n E M) (h : Q (nI (minE E)) M) : w_X5_minimalEdges M Q := by
  have hG0 := hG
  obtain ⟨hn, hS, hv, hc, hr⟩ := hG
  have hl := hS.1
  unfold w_X5_minimalEdges
  refine lp (σ := Int32) (fun k x s => w_X5_minimalEdges_L4 Q _ k s x M) (fun i s => s = nI (mk i (minB E))) E.length 0 rfl (Nat.zero_le _) rfl ?_ ?_
  · intro k s hI
    rw [w_X5_minimalEdges_L4.eq_2]
    refine gbr_ltF E.length E.length rfl hc (by omega) (by omega) (Nat.le_refl _) ?_
    rw [hI]; exact h
  · intro k i s hi hI ih
    rw [w_X5_minimalEdges_L4.eq_2]
    refine gbr_ltT i E.length rfl hc (by omega) (by omega) hi ?_
    refine S_isMinimal hG0 hi ?_
    refine gbr_b _ rfl (fun z => ?_) (fun z => ?_)
    · refine nm_r (c_add1 i) (ih s ?_)
      rw [hI, mk, z]; simp
    · refine nm_e (nm_r (c_add1 i) (ih _ ?_))
      rw [hI, mk, z, c_shl i (by omega), c_or]; simp
/-- the union of some sets -/
def orf : Nat → (Nat → Nat) → Nat
  | 0, _ => 0
  | k + 1, f => orf k f ||| f k
theorem orf_tb (k : Nat) (f : Nat → Nat) (i : Nat) : (orf k f).testBit i = true ↔ ∃ j, j < k ∧ (f j).testBit i = true := by
  induction k with
  | zero => simp [orf]
  | succ k ih =>
    rw [orf, Nat.testBit_or, Bool.or_eq_true, ih]
    constructor
    · rintro (⟨j, h1, h2⟩ | h)
      · exact ⟨j, by omega, h2⟩
      · exact ⟨k, by omega, h⟩
    · rintro ⟨j, h1, h2⟩
      by_cases q : j = k
      · subst q; exact Or.inr h2
      · exact Or.inl ⟨j, by omega, h2⟩
theorem orf_lt {k m : Nat} {f : Nat → Nat} (h : ∀ j, j < k → f j < 2 ^ m) : orf k f < 2 ^ m := by
  induction k with
  | zero => exact Nat.two_pow_pos m
  | succ k ih => exact Nat.or_lt_two_pow (ih fun j hj => h j (by omega)) (h k (by omega))
def uniE (E : List Nat) (w : Nat) : Nat := orf E.length (fun e => if w.testBit e then ed E e else 0)
theorem S_unionOf {w : Nat} (hG : XG n E M) (hw : w < 2147483648) (h : Q (nI (uniE E w)) M) : w_X5_unionOf (nI w) M Q := by
  obtain ⟨hn, hS, hv, hc, hr⟩ := hG
  have hl := hS.1
  unfold w_X5_unionOf
  refine lp (σ := Int32) (fun k x s => w_X5_unionOf_L4 Q _ (nI w) k s x M) (fun i s => s = nI (orf i (fun e => if w.testBit e then ed E e else 0))) E.length 0 rfl (Nat.zero_le _) rfl ?_ ?_
  · intro k s hI
    rw [w_X5_unionOf_L4.eq_2]
    refine gbr_ltF E.length E.length rfl hc (by omega) (by omega) (Nat.le_refl _) ?_
    rw [hI]; exact h
  · intro k i s hi hI ih
    rw [w_X5_unionOf_L4.eq_2]
    refine gbr_ltT i E.length rfl hc (by omega) (by omega) hi ?_
    refine S_has hw (by omega) ?_
    refine gbr_b _ rfl (fun z => ?_) (fun z => ?_)
    · refine nm_r (c_add1 i) (ih s ?_)
      rw [hI, orf, z]; simp
    · refine ⟨c_in (by omega) (by omega), nm_e (nm_r (c_add1 i) (ih _ ?_))⟩
      rw [c_cl (by omega), hr i hi, hI, c_or, orf, z]; simp
def mnf : Nat → (Nat → Nat) → Nat → Nat
  | 0, _, a => a
  | k + 1, f, a => if f k < mnf k f a then f k else mnf k f a
theorem mnf_le (k : Nat) (f : Nat → Nat) (a : Nat) : mnf k f a ≤ a := by
  induction k with
  | zero => exact Nat.le_refl _
  | succ k ih => rw [mnf]; split <;> omega
theorem S_smallestSize (hG : XG n E M) (h : Q (nI (if E.length = 0 then 0 else mnf E.length (fun e => pc (ed E e)) 14)) M) : w_X5_smallestSize M Q := by
  obtain ⟨hn, hS, hv, hc, hr⟩ := hG
  have hl := hS.1
  unfold w_X5_smallestSize
  refine gbr_eq E.length 0 hc rfl (by omega) (by decide) (fun e => ?_) (fun e => ?_)
  · rw [if_pos e] at h; exact h
  rw [if_neg e] at h
  refine lp (σ := Int32) (fun k x s => w_X5_smallestSize_L14 Q _ k s x M) (fun i s => s = nI (mnf i (fun e => pc (ed E e)) 14)) E.length 0 rfl (Nat.zero_le _) rfl ?_ ?_
  · intro k s hI
    rw [w_X5_smallestSize_L14.eq_2]
    refine gbr_ltF E.length E.length rfl hc (by omega) (by omega) (Nat.le_refl _) ?_
    rw [hI]; exact h
  · intro k i s hi hI ih
    rw [w_X5_smallestSize_L14.eq_2]
    have h1 := sane_lt hS hn.2 hi
    refine gbr_ltT i E.length rfl hc (by omega) (by omega) hi ⟨c_in (by omega) (by omega), ?_⟩
    rw [c_cl (by omega), hr i hi]
    refine S_bitCount (by omega) ?_
    refine nm_e (nm_r (c_add1 i) (ih _ ?_))
    have h2 := mnf_le i (fun e => pc (ed E e)) 14
    have h3 : pc (ed E i) ≤ 24 := pc_le (n := 24) (Nat.le_refl _) (Nat.lt_of_lt_of_le h1 (by decide))
    rw [hI, mnf]
    by_cases q : pc (ed E i) < mnf i (fun e => pc (ed E e)) 14
    · rw [if_pos q, if_pos ((nI_ltI (by omega) (by omega)).mpr q)]
    · rw [if_neg q, if_neg (fun z => q ((nI_ltI (by omega) (by omega)).mp z))]
def meet (E : List Nat) : Bool := decide (∀ e, e < E.length → ∀ f, f < e → ed E e &&& ed E f ≠ 0)
theorem S_eachTwoMeet (hG : XG n E M) (h : Q (b2 (meet E)) M) : w_X5_eachTwoMeet M Q := by
  obtain ⟨hn, hS, hv, hc, hr⟩ := hG
  have hl := hS.1
  unfold w_X5_eachTwoMeet
  refine lp (σ := Unit) (s0 := ()) (fun k x _ => w_X5_eachTwoMeet_L2 Q _ _ k x M) (fun i _ => ∀ e, e < i → ∀ f, f < e → ed E e &&& ed E f ≠ 0) E.length 0 rfl (Nat.zero_le _) (fun j hj => absurd hj (Nat.not_lt_zero _)) ?_ ?_
  · intro k _ hI
    rw [w_X5_eachTwoMeet_L2.eq_2]
    refine gbr_ltF E.length E.length rfl hc (by omega) (by omega) (Nat.le_refl _) ?_
    rw [meet, decide_eq_true hI] at h
    exact h
  · intro k i _ hi hI ih
    rw [w_X5_eachTwoMeet_L2.eq_2]
    refine gbr_ltT i E.length rfl hc (by omega) (by omega) hi ?_
    refine lp (σ := Unit) (s0 := ()) (fun k x _ => w_X5_eachTwoMeet_L12 Q _ _ (nI i) k x M) (fun j _ => ∀ f, f < j → ed E i &&& ed E f ≠ 0) i 0 rfl (Nat.zero_le _) (fun j hj => absurd hj (Nat.not_lt_zero _)) ?_ ?_
    · intro k _ hJ
      rw [w_X5_eachTwoMeet_L12.eq_2]
      refine gbr_ltF i i rfl rfl (by omega) (by omega) (Nat.le_refl _) ?_
      refine nm_r (c_add1 i) (ih () fun e he => ?_)
      rcases Nat.lt_succ_iff_lt_or_eq.mp he with y | y
      · exact hI e y
      · rw [y]; exact hJ
    · intro k j _ hj hJ ih2
      rw [w_X5_eachTwoMeet_L12.eq_2]
      have h1 := sane_lt hS hn.2 hi
      refine gbr_ltT j i rfl rfl (by omega) (by omega) hj ⟨c_in (by omega) (by omega), c_in (by omega) (by omega), ?_⟩
      rw [c_cl (by omega), c_cl (by omega), hr i hi, hr j (by omega), c_and]
      have h2 : ed E i &&& ed E j ≤ ed E i := Nat.and_le_left
      refine gbr_eq (ed E i &&& ed E j) 0 rfl rfl (by omega) (by decide) (fun q => ?_) (fun q => ?_)
      · rw [meet, decide_eq_false (fun y => y i hi j hj q)] at h
        exact h
      · refine nm_r (c_add1 j) (ih2 () fun f hf => ?_)
        rcases Nat.lt_succ_iff_lt_or_eq.mp hf with y | y
        · exact hJ f y
        · rw [y]; exact q
end
