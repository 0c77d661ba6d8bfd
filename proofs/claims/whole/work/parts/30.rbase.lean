/-! the reference: its small functions -/
theorem pcn_low (k : Nat) : ∀ s, s ≠ 0 → s < 2 ^ k → pcn k (s &&& (s - 1)) + 1 = pcn k s := by
  induction k with
  | zero => intro s h0 hl; simp at hl; exact absurd hl h0
  | succ k ih =>
    intro s h0 hl
    have e1 : (s &&& (s - 1)) % 2 ^ 1 = s % 2 ^ 1 &&& (s - 1) % 2 ^ 1 := Nat.and_mod_two_pow
    have e2 : (s &&& (s - 1)) / 2 ^ 1 = s / 2 ^ 1 &&& (s - 1) / 2 ^ 1 := Nat.and_div_two_pow
    rw [show (2 : Nat) ^ 1 = 2 from rfl] at e1 e2
    rw [Nat.pow_succ] at hl
    rw [pcn, pcn, e1, e2]
    rcases Nat.mod_two_eq_zero_or_one s with h | h
    · have h3 : (s - 1) / 2 = s / 2 - 1 := by omega
      rw [h, h3, Nat.zero_and, Nat.zero_add, Nat.zero_add]
      exact ih (s / 2) (by omega) (by omega)
    · have h2 : (s - 1) % 2 = 0 := by omega
      have h3 : (s - 1) / 2 = s / 2 := by omega
      rw [h, h2, h3, Nat.and_zero, Nat.and_self]
      omega
theorem pc_0 {s : Nat} (hs : s < 16777216) (h : pc s = 0) : s = 0 := by
  apply Classical.byContradiction
  intro q
  have := pcn_low 24 s q hs
  unfold pc at h
  omega
theorem pc_zero : pc 0 = 0 := pcn_zero 24
theorem N_bits {s : Nat} {M : gM} {Q : Int32 → gM → Prop} (hs : s < 16777216) (h : Q (nI (pc s)) M) : w_X9_bits (nI s) M Q := by
  unfold w_X9_bits
  suffices H : ∀ j t c, pc t = j → t < 16777216 → c + j = pc s → w_X9_bits_L4 Q (fun (x3 : Int32) (x4 : Int32) (M5 : gM) => Q x3 M5) (nI s) (j + 1) (nI c) (nI t) M from ⟨pc s + 1, H (pc s) s 0 rfl hs (Nat.zero_add _)⟩
  intro j
  induction j with
  | zero =>
    intro t c h1 h2 h3
    rw [w_X9_bits_L4.eq_2]
    have h4 := pc_0 h2 h1
    subst h4
    refine gbr_t rfl ?_
    rw [Nat.add_zero] at h3
    rw [h3]; exact h
  | succ j ih =>
    intro t c h1 h2 h3
    rw [w_X9_bits_L4.eq_2]
    have h0 : t ≠ 0 := fun q => by rw [q, pc_zero] at h1; omega
    have h5 := pcn_low 24 t h0 h2
    have h6 : t &&& (t - 1) ≤ t := Nat.and_le_left
    refine gbr_eq t 0 rfl rfl (by omega) (by decide) (fun q => absurd q h0) (fun _ => ?_)
    refine nm_r (c_add1 c) (nm_r (e' := nI (t &&& (t - 1))) ?_ (ih _ _ (by unfold pc at h1 ⊢; omega) (by omega) (by omega)))
    rw [show (1 : Int32) = nI 1 from rfl, pk_sub (by omega), c_and]
theorem m1_int {b : Nat} (hb : b < 2147483648) : (nI b - 1).toInt = (b : Int) - 1 := by
  cases b with
  | zero => decide
  | succ b =>
    rw [show (1 : Int32) = nI 1 from rfl, pk_sub (by omega), Nat.add_sub_cancel, nI_toInt (by omega)]
    omega
theorem N_in0 {p m : Int32} {M : gM} {Q : Int32 → gM → Prop} (b : Nat) (hb : b < 2147483648) (hm : m = nI b - 1) (h : Q (b2 (decide (pn p < b))) M) : w_X9_in p 0 m M Q := by
  unfold w_X9_in
  rcases arg_cases p with ⟨h1, h2⟩ | ⟨j, h1, h2, h3⟩
  · rw [decide_eq_false (by omega)] at h
    exact gbr_t h1 h
  · refine gbr_f (by rw [h2]; exact nI_lt0 h1) ?_
    have e1 := m1_int hb
    have e2 := nI_toInt h1
    refine gbr_c (fun q => ?_) (fun q => ?_)
    · rw [hm, h2, Int32.lt_iff_toInt_lt, e1, e2] at q
      rw [decide_eq_false (by omega)] at h; exact h
    · rw [hm, h2, Int32.lt_iff_toInt_lt, e1, e2] at q
      rw [decide_eq_true (by omega)] at h; exact h
/-- edges as they lie in the row -/
def RR (L : List Nat) (M : gM) : Prop := L.length ≤ 24 ∧ (∀ i, i < L.length → ed L i < 16384) ∧ M 43 24 = nI L.length ∧ rowIs (M 43) L
def RG (n : Nat) (E : List Nat) (M : gM) : Prop := (1 ≤ n ∧ n ≤ 14) ∧ sane n E ∧ M 42 0 = nI n ∧ RR E M
theorem RG_of {n : Nat} {E : List Nat} {M : gM} (hn : 1 ≤ n ∧ n ≤ 14) (hS : sane n E) (h0 : M 42 0 = nI n) (h1 : M 43 24 = nI E.length) (h2 : rowIs (M 43) E) : RG n E M := ⟨hn, hS, h0, hS.1, fun i hi => sane_lt hS hn.2 hi, h1, h2⟩
theorem RR_s {L : List Nat} {M M1 : gM} (h : RR L M) (e : M1 43 = M 43) : RR L M1 := ⟨h.1, h.2.1, by rw [e]; exact h.2.2.1, by rw [e]; exact h.2.2.2⟩
theorem RG_s {n : Nat} {E : List Nat} {M M1 : gM} (h : RG n E M) (e : M1 43 = M 43) (e2 : M1 42 0 = M 42 0) : RG n E M1 := ⟨h.1, h.2.1, by rw [e2]; exact h.2.2.1, RR_s h.2.2.2 e⟩
theorem v24 : vp_in (24 : Int32) 25 := c_in (k := 24) (by decide) (by decide)
theorem N_many {L : List Nat} {M : gM} {Q : Int32 → gM → Prop} (hR : RR L M) (h : Q (nI L.length) M) : w_X9_many M Q := by
  unfold w_X9_many
  refine ⟨v24, ?_⟩
  rw [show Int32.toNatClampNeg 24 = 24 from rfl, hR.2.2.1]
  exact h
section
variable {n : Nat} {E : List Nat} {M : gM} {Q : Int32 → gM → Prop}
theorem N_whole (hn : n ≤ 14) (h0 : M 42 0 = nI n) (h : Q (nI (2 ^ n - 1)) M) : w_X9_whole M Q := by
  unfold w_X9_whole
  rw [h0, c_all (by omega)]
  exact h
theorem N_noVertex {p : Int32} (hn : n ≤ 14) (h0 : M 42 0 = nI n) (h : Q (b2 (!decide (pn p < n))) M) : w_X9_noVertex p M Q := by
  unfold w_X9_noVertex
  refine N_in0 n (by omega) (by rw [h0]) ?_
  refine gbr_b _ rfl (fun z => ?_) (fun z => ?_) <;> (rw [z] at h; exact h)
theorem N_noSet {p : Int32} (hn : n ≤ 14) (h0 : M 42 0 = nI n) (h : Q (b2 (!decide (pn p < 2 ^ n))) M) : w_X9_noSet p M Q := by
  have h14 := p2_14 hn
  unfold w_X9_noSet
  refine N_whole hn h0 ?_
  refine N_in0 (2 ^ n) (by omega) ?_ ?_
  · rw [show (1 : Int32) = nI 1 from rfl, pk_sub (Nat.two_pow_pos n)]
  refine gbr_b _ rfl (fun z => ?_) (fun z => ?_) <;> (rw [z] at h; exact h)
theorem N_noEdge {p : Int32} (hR : RR E M) (h : Q (b2 (!decide (pn p < E.length))) M) : w_X9_noEdge p M Q := by
  have := hR.1
  unfold w_X9_noEdge
  refine N_many hR ?_
  refine N_in0 E.length (by omega) rfl ?_
  refine gbr_b _ rfl (fun z => ?_) (fun z => ?_) <;> (rw [z] at h; exact h)
theorem N_placeOf {s : Nat} (hR : RR E M) (hs : s < 2147483648) (h1 : (∀ i, i < E.length → ed E i ≠ s) → Q (-1) M) (h2 : ∀ i, i < E.length → ed E i = s → (∀ j, j < i → ed E j ≠ s) → Q (nI i) M) : w_X9_placeOf (nI s) M Q := by
  have hl := hR.1
  unfold w_X9_placeOf
  refine lp (σ := Unit) (s0 := ()) (fun k x _ => w_X9_placeOf_L2 Q _ _ (nI s) k x M) (fun i _ => ∀ j, j < i → ed E j ≠ s) E.length 0 rfl (Nat.zero_le _) (fun j hj => absurd hj (Nat.not_lt_zero _)) ?_ ?_
  · intro k _ hI
    rw [w_X9_placeOf_L2.eq_2]
    refine N_many hR ?_
    refine gbr_ltF E.length E.length rfl rfl (by omega) (by omega) (Nat.le_refl _) ?_
    exact h1 hI
  · intro k i _ hi hI ih
    rw [w_X9_placeOf_L2.eq_2]
    have he := hR.2.1 i hi
    refine N_many hR ?_
    refine gbr_ltT i E.length rfl rfl (by omega) (by omega) hi ⟨c_in (by omega) (by omega), ?_⟩
    rw [c_cl (by omega)]
    refine gbr_eq (ed E i) s (hR.2.2.2 i hi) rfl (by omega) hs (fun e => ?_) (fun e => ?_)
    · exact h2 i hi e hI
    · refine nm_r (c_add1 i) (ih () fun j hj => ?_)
      rcases Nat.lt_succ_iff_lt_or_eq.mp hj with q | q
      · exact hI j q
      · rw [q]; exact e
theorem N_isMinimal {e : Nat} (hR : RR E M) (he : e < E.length) (h : Q (b2 (minB E e)) M) : w_X9_isMinimalEdge (nI e) M Q := by
  have hl := hR.1
  unfold w_X9_isMinimalEdge
  refine lp (σ := Int32) (fun k x t => w_X9_isMinimalEdge_L4 Q _ (nI e) k t x M) (fun i t => t = b2 (bd (∀ f, f < i → f ≠ e → nd (ed E f) (ed E e) ≠ 0))) E.length 0 rfl (Nat.zero_le _) ?_ ?_ ?_
  · rw [bd_t (fun f hf => absurd hf (Nat.not_lt_zero _))]; rfl
  · intro k t hI
    rw [w_X9_isMinimalEdge_L4.eq_2]
    refine N_many hR ?_
    refine gbr_ltF E.length E.length rfl rfl (by omega) (by omega) (Nat.le_refl _) ?_
    rw [minB, ← bd_dec] at h
    rw [hI]
    exact ⟨b2_01 _, h⟩
  · intro k i t hi hI ih
    rw [w_X9_isMinimalEdge_L4.eq_2]
    have h1 := hR.2.1 i hi
    refine N_many hR ?_
    refine gbr_ltT i E.length rfl rfl (by omega) (by omega) hi ?_
    refine gbr_b _ hI (fun z => ?_) (fun z => ?_)
    · refine nm_r (c_add1 i) (ih _ ?_)
      rw [bd_f (fun y => of_bd_f z (fun f hf => y f (by omega)))]; rfl
    · have z := of_bd_t z
      refine gbr_eq i e rfl rfl (by omega) (by omega) (fun q => ?_) (fun q => ?_)
      · refine nm_r (c_add1 i) (ih _ ?_)
        rw [bd_t (fun f hf hne => ?_)]
        · rfl
        · rcases Nat.lt_succ_iff_lt_or_eq.mp hf with y | y
          · exact z f y hne
          · exact absurd (y.trans q) hne
      · refine ⟨c_in (by omega) (by omega), c_in (by omega) (by omega), ?_⟩
        rw [c_cl (by omega), c_cl (by omega), hR.2.2.2 i hi, hR.2.2.2 e he, c_nd]
        have hd : nd (ed E i) (ed E e) < 2 ^ 14 := nd_lt h1
        refine gbr_eq (nd (ed E i) (ed E e)) 0 rfl rfl (by omega) (by decide) (fun y => ?_) (fun y => ?_)
        · refine nm_r (c_add1 i) (ih _ ?_)
          rw [bd_f (fun x => x i (Nat.lt_succ_self i) q y)]; rfl
        · refine nm_r (c_add1 i) (ih _ ?_)
          rw [bd_t (fun f hf hne => ?_)]
          · rfl
          · rcases Nat.lt_succ_iff_lt_or_eq.mp hf with x | x
            · exact z f x hne
            · rw [x]; exact y
theorem N_minimalEdges (hR : RR E M) (h : Q (nI (minE E)) M) : w_X9_minimalEdges M Q := by
  have hl := hR.1
  unfold w_X9_minimalEdges
  refine lp (σ := Int32) (fun k x s => w_X9_minimalEdges_L4 Q _ k s x M) (fun i s => s = nI (mk i (minB E))) E.length 0 rfl (Nat.zero_le _) rfl ?_ ?_
  · intro k s hI
    rw [w_X9_minimalEdges_L4.eq_2]
    refine N_many hR ?_
    refine gbr_ltF E.length E.length rfl rfl (by omega) (by omega) (Nat.le_refl _) ?_
    rw [hI]; exact h
  · intro k i s hi hI ih
    rw [w_X9_minimalEdges_L4.eq_2]
    refine N_many hR ?_
    refine gbr_ltT i E.length rfl rfl (by omega) (by omega) hi ?_
    refine N_isMinimal hR hi ?_
    refine gbr_b _ rfl (fun z => ?_) (fun z => ?_)
    · refine nm_e (nm_r (c_add1 i) (ih _ ?_))
      rw [hI, mk, z, show (0 : Int32) = nI 0 from rfl, c_or]; simp
    · refine nm_e (nm_r (c_add1 i) (ih _ ?_))
      rw [hI, mk, z, c_shl i (by omega), c_or]; simp
theorem N_edgesWith {v : Nat} (hR : RR E M) (hv : v < 31) (h : Q (nI (at_ E v)) M) : w_X9_edgesWith (nI v) M Q := by
  have hl := hR.1
  unfold w_X9_edgesWith
  refine lp (σ := Int32) (fun k x s => w_X9_edgesWith_L4 Q _ (nI v) k s x M) (fun i s => s = nI (mk i (fun e => (ed E e).testBit v))) E.length 0 rfl (Nat.zero_le _) rfl ?_ ?_
  · intro k s hI
    rw [w_X9_edgesWith_L4.eq_2]
    refine N_many hR ?_
    refine gbr_ltF E.length E.length rfl rfl (by omega) (by omega) (Nat.le_refl _) ?_
    rw [hI]; exact h
  · intro k i s hi hI ih
    rw [w_X9_edgesWith_L4.eq_2]
    have he := hR.2.1 i hi
    refine N_many hR ?_
    refine gbr_ltT i E.length rfl rfl (by omega) (by omega) hi ⟨c_in (by omega) (by omega), ?_⟩
    rw [c_cl (by omega), hR.2.2.2 i hi, c_bit (by omega) hv]
    refine nm_e (nm_r (c_add1 i) (ih _ ?_))
    rw [hI, mk]
    cases z : (ed E i).testBit v
    · have e0 : ∀ x : Int32, (b2 false) <<< x = nI 0 := fun x => by
        show (0 : Int32) <<< x = 0
        exact Int32.zero_shiftLeft
      rw [e0, c_or]; simp
    · have e1 : (b2 true) <<< (nI i &&& 31) = nI (2 ^ i) := c_shl i (by omega)
      rw [e1, c_or]; simp
end
