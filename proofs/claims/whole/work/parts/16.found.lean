/-! what the search has found, read -/
def SR (A : List Nat) (M : gM) : Prop := A.length ≤ 4000 ∧ M 4 2 = nI A.length ∧ rowIs (M 30) A
def setsB (n : Nat) (A : List Nat) : Prop := ∀ i, i < A.length → ed A i < 2 ^ n
/-- how many places below k -/
def cnt : Nat → (Nat → Bool) → Nat
  | 0, _ => 0
  | k + 1, p => cnt k p + (if p k then 1 else 0)
theorem cnt_le (k : Nat) (p : Nat → Bool) : cnt k p ≤ k := by
  induction k with
  | zero => exact Nat.le_refl _
  | succ k ih => rw [cnt]; split <;> omega
theorem cnt_cg {k : Nat} {p q : Nat → Bool} (h : ∀ i, i < k → p i = q i) : cnt k p = cnt k q := by
  induction k with
  | zero => rfl
  | succ k ih => rw [cnt, cnt, ih (fun i hi => h i (by omega)), h k (by omega)]
theorem cnt_mono {k : Nat} {p q : Nat → Bool} (h : ∀ i, i < k → p i = true → q i = true) : cnt k p ≤ cnt k q := by
  induction k with
  | zero => exact Nat.le_refl _
  | succ k ih =>
    have h1 := ih (fun i hi => h i (by omega))
    have h2 := h k (by omega)
    rw [cnt, cnt]
    cases hp : p k
    · simp; omega
    · simp [h2 hp]; exact h1
theorem cnt_all {k : Nat} {p : Nat → Bool} (h : ∀ i, i < k → p i = true) : cnt k p = k := by
  induction k with
  | zero => rfl
  | succ k ih => rw [cnt, ih (fun i hi => h i (by omega)), h k (by omega)]; rfl
theorem cnt_none {k : Nat} {p : Nat → Bool} (h : ∀ i, i < k → p i = false) : cnt k p = 0 := by
  induction k with
  | zero => rfl
  | succ k ih => rw [cnt, ih (fun i hi => h i (by omega)), h k (by omega)]; rfl
/-- the least from t on -/
def la (A : List Nat) (t : Nat) : Nat → Option Nat
  | 0 => none
  | k + 1 => if t ≤ ed A k then (match la A t k with | none => some (ed A k) | some m => if ed A k < m then some (ed A k) else some m) else la A t k
def laI (o : Option Nat) : Int32 := match o with
  | none => -7
  | some a => nI a
/-- b is the number below t -/
def below (b : Int32) (t : Nat) : Prop := b.toInt = (t : Int) - 1 ∧ t ≤ 16384
theorem below_lt {b : Int32} {t a : Nat} (h : below b t) (ha : a < 2147483648) : b < nI a ↔ t ≤ a := by
  rw [Int32.lt_iff_toInt_lt, h.1, nI_toInt ha]; omega
theorem below_m1 : below (-1) 0 := ⟨by decide, by decide⟩
theorem below_nI {a : Nat} (h : a < 16384) : below (nI a) (a + 1) := ⟨by rw [nI_toInt (by omega)]; omega, by omega⟩
theorem nI_ne7 {a : Nat} (h : a < 16384) : ¬ nI a = (-7) := fun q => by
  have h1 := nI_toInt (n := a) (by omega)
  rw [q] at h1
  have h2 : (-7 : Int32).toInt = -7 := by decide
  omega
def sumf : Nat → (Nat → Nat) → Nat
  | 0, _ => 0
  | k + 1, f => sumf k f + f k
theorem sumf_le {k m : Nat} {f : Nat → Nat} (h : ∀ i, i < k → f i ≤ m) : sumf k f ≤ k * m := by
  induction k with
  | zero => simp [sumf]
  | succ k ih =>
    have := ih (fun i hi => h i (by omega))
    have := h k (by omega)
    rw [sumf, Nat.succ_mul]; omega
def wsum (w : Nat → Nat) (s : Nat) : Nat := sumf 14 (fun v => if s.testBit v then w v else 0)
def XW (w : Nat → Nat) (M : gM) : Prop := ∀ v, v < 14 → M 32 v = nI (w v) ∧ w v ≤ 99
theorem wsum_le {w : Nat → Nat} (h : ∀ v, v < 14 → w v ≤ 99) (s : Nat) : wsum w s ≤ 1386 := sumf_le (k := 14) (m := 99) (fun v hv => by split; exact h v hv; omega)
def key (w : Nat → Nat) (s : Nat) : Nat := wsum w s * 16384 + s
section
variable {n : Nat} {E A : List Nat} {M : gM} {w : Nat → Nat}
theorem ed_lt14 (hA : setsB n A) (hn : n ≤ 14) {i : Nat} (hi : i < A.length) : ed A i < 16384 := Nat.lt_of_lt_of_le (hA i hi) (p2_14 hn)
theorem S_leastAbove {b : Int32} {t : Nat} {Q : Int32 → gM → Prop} (hR : SR A M) (hA : setsB n A) (hn : n ≤ 14) (hb : below b t) (h : Q (laI (la A t A.length)) M) : w_X6_leastAbove b M Q := by
  obtain ⟨hl, hf, hr⟩ := hR
  have lb : ∀ k, k ≤ A.length → ∀ m, la A t k = some m → m < 16384 := by
    intro k
    induction k with
    | zero => intro _ m h; cases h
    | succ k ih =>
      intro hk m hm
      have e1 := ed_lt14 hA hn (show k < A.length by omega)
      rw [la] at hm
      split at hm
      · split at hm
        · cases hm; exact e1
        · rename_i m2 e2
          split at hm
          · cases hm; exact e1
          · cases hm; exact ih (by omega) m e2
      · exact ih (by omega) m hm
  unfold w_X6_leastAbove
  refine lp (σ := Int32) (fun k x s => w_X6_leastAbove_L5 Q _ b k s x M) (fun i s => s = laI (la A t i)) A.length 0 rfl (Nat.zero_le _) rfl ?_ ?_
  · intro k s hI
    rw [w_X6_leastAbove_L5.eq_2]
    refine gbr_ltF A.length A.length rfl hf (by omega) (by omega) (Nat.le_refl _) ?_
    rw [hI]; exact h
  · intro k i s hi hI ih
    rw [w_X6_leastAbove_L5.eq_2]
    have h1 := ed_lt14 hA hn hi
    refine gbr_ltT i A.length rfl hf (by omega) (by omega) hi ⟨c_in (by omega) (by omega), ?_⟩
    rw [c_cl (by omega), hr i hi]
    refine gbr_c (fun z => ?_) (fun z => ?_)
    · have z := (below_lt hb (by omega)).mp z
      cases e : la A t i with
      | none =>
        rw [e] at hI
        refine gbr_t hI ⟨c_in (by omega) (by omega), nm_e (nm_r (c_add1 i) (ih _ ?_))⟩
        rw [la, if_pos z, e]; rfl
      | some m =>
        rw [e] at hI
        have hm := lb i (by omega) m e
        refine gbr_f (by rw [hI]; exact nI_ne7 hm) ⟨c_in (by omega) (by omega), ?_⟩
        refine gbr_lt _ _ rfl hI (by omega) (by omega) (fun y => ?_) (fun y => ?_)
        · refine ⟨c_in (by omega) (by omega), nm_e (nm_r (c_add1 i) (ih _ ?_))⟩
          rw [la, if_pos z, e]; simp [y, laI]
        · refine nm_r (c_add1 i) (ih _ ?_)
          rw [la, if_pos z, e, hI]; simp [show ¬ ed A i < m by omega, laI]
    · have z : ¬ t ≤ ed A i := fun q => z ((below_lt hb (by omega)).mpr q)
      refine nm_r (c_add1 i) (ih _ ?_)
      rw [la, if_neg z]; exact hI
theorem S_countOfSize {j : Nat} {Q : Int32 → gM → Prop} (hR : SR A M) (hA : setsB n A) (hn : n ≤ 14) (hj : j < 2147483648) (h : Q (nI (cnt A.length (fun i => decide (pc (ed A i) = j)))) M) : w_X6_countOfSize (nI j) M Q := by
  obtain ⟨hl, hf, hr⟩ := hR
  unfold w_X6_countOfSize
  refine lp (σ := Int32) (fun k x s => w_X6_countOfSize_L4 Q _ (nI j) k s x M) (fun i s => s = nI (cnt i (fun i => decide (pc (ed A i) = j)))) A.length 0 rfl (Nat.zero_le _) rfl ?_ ?_
  · intro k s hI
    rw [w_X6_countOfSize_L4.eq_2]
    refine gbr_ltF A.length A.length rfl hf (by omega) (by omega) (Nat.le_refl _) ?_
    rw [hI]; exact h
  · intro k i s hi hI ih
    rw [w_X6_countOfSize_L4.eq_2]
    have h1 := ed_lt14 hA hn hi
    have h2 : pc (ed A i) ≤ 24 := pc_le (n := 24) (Nat.le_refl _) (by omega)
    refine gbr_ltT i A.length rfl hf (by omega) (by omega) hi ⟨c_in (by omega) (by omega), ?_⟩
    rw [c_cl (by omega), hr i hi]
    refine S_bitCount (by omega) ?_
    refine gbr_eq _ _ rfl rfl (by omega) hj (fun z => ?_) (fun z => ?_)
    · refine nm_e (nm_r (c_add1 i) (ih _ ?_))
      rw [hI, c_add1, cnt, decide_eq_true z]; rfl
    · refine nm_r (c_add1 i) (ih _ ?_)
      rw [hI, cnt, decide_eq_false z]; rfl
theorem S_countWith {v : Nat} {Q : Int32 → gM → Prop} (hR : SR A M) (hA : setsB n A) (hn : n ≤ 14) (hv : v < 31) (h : Q (nI (cnt A.length (fun i => (ed A i).testBit v))) M) : w_X6_countWith (nI v) M Q := by
  obtain ⟨hl, hf, hr⟩ := hR
  unfold w_X6_countWith
  refine lp (σ := Int32) (fun k x s => w_X6_countWith_L4 Q _ (nI v) k s x M) (fun i s => s = nI (cnt i (fun i => (ed A i).testBit v))) A.length 0 rfl (Nat.zero_le _) rfl ?_ ?_
  · intro k s hI
    rw [w_X6_countWith_L4.eq_2]
    refine gbr_ltF A.length A.length rfl hf (by omega) (by omega) (Nat.le_refl _) ?_
    rw [hI]; exact h
  · intro k i s hi hI ih
    rw [w_X6_countWith_L4.eq_2]
    have h1 := ed_lt14 hA hn hi
    refine gbr_ltT i A.length rfl hf (by omega) (by omega) hi ⟨c_in (by omega) (by omega), ?_⟩
    rw [c_cl (by omega), hr i hi]
    refine S_has (by omega) hv ?_
    refine gbr_b _ rfl (fun z => ?_) (fun z => ?_)
    · refine nm_r (c_add1 i) (ih _ ?_)
      rw [hI, cnt, z]; rfl
    · refine nm_e (nm_r (c_add1 i) (ih _ ?_))
      rw [hI, c_add1, cnt, z]; rfl
/-- s is a minimal edge -/
def minEdge (E : List Nat) (s : Nat) : Prop := ∃ e, e < E.length ∧ ed E e = s ∧ minB E e = true
theorem minEdge_at {e : Nat} (he : e < E.length) : minEdge E (ed E e) ↔ minB E e = true := by
  constructor
  · rintro ⟨f, h1, h2, h3⟩
    by_cases q : e = f
    · rw [q]; exact h3
    · exfalso
      have h4 := of_decide_eq_true (show decide (∀ g, g < E.length → g ≠ f → nd (ed E g) (ed E f) ≠ 0) = true from h3) e he q
      apply h4
      rw [h2]
      refine tb_0.mpr fun i => ?_
      rw [nd_tb]; cases (ed E e).testBit i <;> rfl
  · intro h
    exact ⟨e, he, rfl, h⟩
theorem minE_tb {e : Nat} (he : e < E.length) : (minE E).testBit e = minB E e := by
  unfold minE
  rw [mk_tb, decide_eq_true he, Bool.true_and]
theorem S_isMinimalEdge {s : Nat} {Q : Int32 → gM → Prop} (hG : XG n E M) (hs : s < 2147483648) (h : Q (b2 (bd (minEdge E s))) M) : w_X6_isMinimalEdge (nI s) (nI (minE E)) M Q := by
  obtain ⟨hn, hS, hv, hc, hr⟩ := hG
  have hl := hS.1
  have hml : minE E < 16777216 := Nat.lt_of_lt_of_le (mk_lt _ _) (p2_24 hl)
  unfold w_X6_isMinimalEdge
  refine lp (σ := Unit) (s0 := ()) (fun k x _ => w_X6_isMinimalEdge_L2 Q _ _ (nI s) (nI (minE E)) k x M) (fun i _ => ∀ j, j < i → ed E j ≠ s) E.length 0 rfl (Nat.zero_le _) (fun j hj => absurd hj (Nat.not_lt_zero _)) ?_ ?_
  · intro k _ hI
    rw [w_X6_isMinimalEdge_L2.eq_2]
    refine gbr_ltF E.length E.length rfl hc (by omega) (by omega) (Nat.le_refl _) ?_
    rw [bd_f (fun q : minEdge E s => by obtain ⟨e, h1, h2, -⟩ := q; exact hI e h1 h2)] at h
    exact h
  · intro k i _ hi hI ih
    rw [w_X6_isMinimalEdge_L2.eq_2]
    have h1 := sane_lt hS hn.2 hi
    refine gbr_ltT i E.length rfl hc (by omega) (by omega) hi ⟨c_in (by omega) (by omega), ?_⟩
    rw [c_cl (by omega), hr i hi]
    refine gbr_eq _ _ rfl rfl (by omega) hs (fun z => ?_) (fun z => ?_)
    · refine S_has (by omega) (by omega) ⟨b2_01 _, ?_⟩
      rw [minE_tb hi]
      rw [← z, bd_cg (minEdge_at hi), bd_dec] at h
      simpa using h
    · refine nm_r (c_add1 i) (ih () fun j hj => ?_)
      rcases Nat.lt_succ_iff_lt_or_eq.mp hj with q | q
      · exact hI j q
      · rw [q]; exact z
/-- the least one of a kind, or -7 -/
def lstP (P : Nat → Prop) (r : Int32) : Prop := (∃ s, P s ∧ (∀ t, P t → s ≤ t) ∧ r = nI s) ∨ ((∀ s, ¬ P s) ∧ r = -7)
theorem lstP_uniq {P : Nat → Prop} {r q : Int32} (h : lstP P r) (k : lstP P q) : r = q := by
  rcases h with ⟨s, h1, h2, h3⟩ | ⟨h1, h2⟩ <;> rcases k with ⟨t, k1, k2, k3⟩ | ⟨k1, k2⟩
  · have := h2 t k1
    have := k2 s h1
    rw [h3, k3, show s = t by omega]
  · exact absurd h1 (k1 s)
  · exact absurd k1 (h1 t)
  · rw [h2, k2]
def diffP (n : Nat) (E : List Nat) (s : Nat) : Prop := s < 2 ^ n ∧ ((minEdge E s ∧ ¬ isAns n E s) ∨ (isAns n E s ∧ ¬ minEdge E s))
/-- A has just the answers -/
def allA (n : Nat) (E A : List Nat) : Prop := ∀ s, s ∈ A ↔ (s < 2 ^ n ∧ isAns n E s)
theorem S_leastDifference {Q : Int32 → gM → Prop} (hG : XG n E M) (hX : XA E M) (hR : SR A M) (hA : allA n E A) (h : ∀ r, lstP (diffP n E) r → Q r M) : w_X6_leastDifference M Q := by
  have hG0 := hG
  obtain ⟨hn, hS, hv, hc, hr⟩ := hG
  obtain ⟨hla, hf, hra⟩ := hR
  have hl := hS.1
  have hml : minE E < 16777216 := Nat.lt_of_lt_of_le (mk_lt _ _) (p2_24 hl)
  have h14 := p2_14 hn.2
  have hAB : setsB n A := fun i hi => ((hA _).mp (mem_ed.mpr ⟨i, hi, rfl⟩)).1
  unfold w_X6_leastDifference
  refine S_minimalEdges hG0 ?_
  -- the first loop: I1 i s: s is 16384 or a difference among the first i edges, the least of them
  refine lp (σ := Int32) (fun k x s => w_X6_leastDifference_L14 Q _ (nI (minE E)) k s x M) (fun i s => ∃ a, s = nI a ∧ a ≤ 16384 ∧ (a < 16384 → diffP n E a) ∧ ∀ e, e < i → minB E e = true → ¬ isAns n E (ed E e) → a ≤ ed E e) E.length 0 rfl (Nat.zero_le _) ⟨16384, rfl, Nat.le_refl _, fun q => absurd q (by decide), fun e he => absurd he (Nat.not_lt_zero _)⟩ ?_ ?_
  · rintro k s ⟨a, rfl, h1, h2, h3⟩
    rw [w_X6_leastDifference_L14.eq_2]
    refine gbr_ltF E.length E.length rfl hc (by omega) (by omega) (Nat.le_refl _) ?_
    refine lp (σ := Int32) (fun k x s => w_X6_leastDifference_L73 Q _ (nI (minE E)) k s x M) (fun i s => ∃ b, s = nI b ∧ b ≤ a ∧ (b < 16384 → diffP n E b) ∧ ∀ j, j < i → ¬ minEdge E (ed A j) → b ≤ ed A j) A.length 0 rfl (Nat.zero_le _) ⟨a, rfl, Nat.le_refl _, h2, fun e he => absurd he (Nat.not_lt_zero _)⟩ ?_ ?_
    · rintro k s ⟨b, rfl, g1, g2, g3⟩
      rw [w_X6_leastDifference_L73.eq_2]
      refine gbr_ltF A.length A.length rfl hf (by omega) (by omega) (Nat.le_refl _) ?_
      have hle : ∀ t, diffP n E t → b ≤ t := by
        rintro t ⟨t0, ⟨t1, t2⟩ | ⟨t1, t2⟩⟩
        · obtain ⟨e, e1, e2, e3⟩ := t1
          rw [← e2] at t2 ⊢
          exact Nat.le_trans g1 (h3 e e1 e3 t2)
        · obtain ⟨j, j1, j2⟩ := mem_ed.mp ((hA t).mpr ⟨t0, t1⟩)
          rw [← j2] at t2 ⊢
          exact g3 j j1 t2
      refine gbr_lt b 16384 rfl rfl (by omega) (by decide) (fun q => h _ (Or.inl ⟨b, g2 q, hle, rfl⟩)) (fun q => h _ (Or.inr ⟨fun t ht => ?_, rfl⟩))
      have := hle t ht
      have := ht.1
      omega
    · rintro k i s hi ⟨b, rfl, g1, g2, g3⟩ ih
      rw [w_X6_leastDifference_L73.eq_2]
      have h1 := ed_lt14 hAB hn.2 hi
      refine gbr_ltT i A.length rfl hf (by omega) (by omega) hi ⟨c_in (by omega) (by omega), ?_⟩
      rw [c_cl (by omega), hra i hi]
      refine gbr_lt _ _ rfl rfl (by omega) (by omega) (fun q => ?_) (fun q => ?_)
      · refine ⟨c_in (by omega) (by omega), ?_⟩
        refine S_isMinimalEdge hG0 (by omega) ?_
        refine gbr_b _ rfl (fun z => ?_) (fun z => ?_)
        · refine ⟨c_in (by omega) (by omega), ?_⟩
          refine nm_e (nm_r (c_add1 i) (ih _ ⟨ed A i, hra i hi, by omega, fun _ => ?_, fun j hj hm => ?_⟩))
          · have := (hA (ed A i)).mp (mem_ed.mpr ⟨i, hi, rfl⟩)
            exact ⟨this.1, Or.inr ⟨this.2, of_bd_f z⟩⟩
          · rcases Nat.lt_succ_iff_lt_or_eq.mp hj with y | y
            · have := g3 j y hm; omega
            · rw [y]; exact Nat.le_refl _
        · refine nm_r (c_add1 i) (ih _ ⟨b, rfl, g1, g2, fun j hj hm => ?_⟩)
          rcases Nat.lt_succ_iff_lt_or_eq.mp hj with y | y
          · exact g3 j y hm
          · rw [y] at hm; exact absurd (of_bd_t z) hm
      · refine nm_r (c_add1 i) (ih _ ⟨b, rfl, g1, g2, fun j hj hm => ?_⟩)
        rcases Nat.lt_succ_iff_lt_or_eq.mp hj with y | y
        · exact g3 j y hm
        · rw [y]; exact q
  · rintro k i s hi ⟨a, rfl, h1, h2, h3⟩ ih
    rw [w_X6_leastDifference_L14.eq_2]
    have hb := sane_lt hS hn.2 hi
    refine gbr_ltT i E.length rfl hc (by omega) (by omega) hi ⟨c_in (by omega) (by omega), nm_e ?_⟩
    rw [c_cl (by omega), hr i hi]
    refine S_has (by omega) (by omega) ?_
    rw [minE_tb hi]
    have keep : (minB E i = true → ¬ isAns n E (ed E i) → a ≤ ed E i) → ∀ e, e < i + 1 → minB E e = true → ¬ isAns n E (ed E e) → a ≤ ed E e := by
      intro q e he
      rcases Nat.lt_succ_iff_lt_or_eq.mp he with y | y
      · exact h3 e y
      · rw [y]; exact q
    refine gbr_b _ rfl (fun z => ?_) (fun z => ?_)
    · exact nm_r (c_add1 i) (ih _ ⟨a, rfl, h1, h2, keep (fun q => by rw [z] at q; cases q)⟩)
    · refine gbr_lt _ _ rfl rfl (by omega) (by omega) (fun q => ?_) (fun q => ?_)
      · refine S_isAnswer hG0 hX (by omega) ?_
        refine gbr_b _ rfl (fun y => ?_) (fun y => ?_)
        · refine nm_r (c_add1 i) (ih _ ⟨ed E i, rfl, by omega, fun _ => ⟨(hS.2 i hi).2, Or.inl ⟨(minEdge_at hi).mpr z, of_bd_f y⟩⟩, fun e he p1 p2 => ?_⟩)
          rcases Nat.lt_succ_iff_lt_or_eq.mp he with x | x
          · have := h3 e x p1 p2; omega
          · rw [x]; exact Nat.le_refl _
        · exact nm_r (c_add1 i) (ih _ ⟨a, rfl, h1, h2, keep (fun _ q => absurd (of_bd_t y) q)⟩)
      · exact nm_r (c_add1 i) (ih _ ⟨a, rfl, h1, h2, keep (fun _ _ => q)⟩)
end
