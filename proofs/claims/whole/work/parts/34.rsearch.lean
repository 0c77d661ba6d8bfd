/-! the reference: its search -/
def SM (n : Nat) (g : sg) (M : gM) : Prop := M 42 7 = nI g.1.length ∧ rowIs (M 47) g.1 ∧ rowIs (M 48) g.2.1 ∧ g.2.1.length = g.1.length ∧ M 42 8 = nI g.2.2.1 ∧ M 42 16 = nI g.2.2.2.1 ∧ M 42 9 = b2 g.2.2.2.2 ∧ g.2.2.1 ≤ 4000 ∧ g.1.length ≤ g.2.2.1 ∧ g.2.2.2.1 ≤ g.2.2.1 ∧ setsB n g.1
def FR (M M1 : gM) : Prop := same [42, 47, 48, 49, 50, 51, 52] M M1 ∧ ∀ i, i ∉ [7, 8, 9, 16] → M1 42 i = M 42 i
def stk (d : Nat) (M M1 : gM) : Prop := ∀ j, j < d → M1 49 j = M 49 j ∧ M1 50 j = M 50 j ∧ M1 51 j = M 51 j ∧ M1 52 j = M 52 j
theorem FR.rfl {M : gM} : FR M M := ⟨same.rfl, fun _ _ => Eq.refl _⟩
theorem FR.tr {A B C : gM} (h : FR A B) (k : FR B C) : FR A C := ⟨h.1.tr k.1, fun i hi => (k.2 i hi).trans (h.2 i hi)⟩
theorem FR.st {A B : gM} (h : FR A B) {i k : Nat} {x : Int32} (hi : i ∈ [47, 48, 49, 50, 51, 52]) : FR A (gst B i k x) := ⟨h.1.st (by simp only [List.mem_cons, List.not_mem_nil, or_false] at hi ⊢; omega), fun j hj => by
  rw [gst_n (by simp only [List.mem_cons, List.not_mem_nil, or_false] at hi; omega)]; exact h.2 j hj⟩
theorem FR.sf {A B : gM} (h : FR A B) {k : Nat} {x : Int32} (hk : k ∈ [7, 8, 9, 16]) : FR A (gst B 42 k x) := ⟨h.1.st (by decide), fun j hj => by
  rw [gst_k (fun q => hj (by rw [q]; exact hk))]; exact h.2 j hj⟩
theorem FR_MF {M M1 : gM} (h : FR M M1) : MF M M1 := ⟨⟨h.1 43 (by decide), h.1 44 (by decide), h.1 45 (by decide), h.1 46 (by decide), h.1 57 (by decide)⟩, h.2 0 (by decide), h.2 5 (by decide), h.2 6 (by decide), h.2 22 (by decide)⟩
theorem FR_RG {n : Nat} {E : List Nat} {M M1 : gM} (h : RG n E M) (k : FR M M1) : RG n E M1 := RG_s h (k.1 43 (by decide)) (k.2 0 (by decide))
theorem SM_s {n : Nat} {g : sg} {M M1 : gM} (h : SM n g M) (k : same [49, 50, 51, 52] M M1) : SM n g M1 := by
  obtain ⟨h1, h2, h3, h4, h5, h6, h7, h8⟩ := h
  have e42 := k 42 (by decide)
  exact ⟨by rw [e42]; exact h1, by rw [k 47 (by decide)]; exact h2, by rw [k 48 (by decide)]; exact h3, h4, by rw [e42]; exact h5, by rw [e42]; exact h6, by rw [e42]; exact h7, h8⟩
theorem stk.tr {d : Nat} {A B C : gM} (h : stk d A B) (k : stk d B C) : stk d A C := fun j hj => ⟨(k j hj).1.trans (h j hj).1, (k j hj).2.1.trans (h j hj).2.1, (k j hj).2.2.1.trans (h j hj).2.2.1, (k j hj).2.2.2.trans (h j hj).2.2.2⟩
theorem stk.le {d e : Nat} {A B : gM} (h : stk d A B) (k : e ≤ d) : stk e A B := fun j hj => h j (by omega)
theorem stk_st {d k i : Nat} {x : Int32} {A B : gM} (h : stk d A B) (hk : d ≤ k) : stk d A (gst B i k x) := fun j hj => by
  have e : ∀ r, gst B i k x r j = B r j := fun r => by
    by_cases q : r = i
    · rw [q, gst_k (by omega)]
    · rw [gst_n q]
  rw [e, e, e, e]; exact h j hj
theorem stk_42 {d k i : Nat} {x : Int32} {A B : gM} (h : stk d A B) (hi : i ∉ [49, 50, 51, 52]) : stk d A (gst B i k x) := fun j hj => by
  simp only [List.mem_cons, List.not_mem_nil, or_false] at hi
  rw [gst_n (by omega), gst_n (by omega), gst_n (by omega), gst_n (by omega)]; exact h j hj
theorem stk.rfl {d : Nat} {M : gM} : stk d M M := fun _ _ => ⟨Eq.refl _, Eq.refl _, Eq.refl _, Eq.refl _⟩
theorem low_nd : ∀ i h, h.testBit i = true → (∀ j, j < i → h.testBit j = false) → nd h (h - 1) = 2 ^ i := by
  intro i
  induction i with
  | zero =>
    intro h h1 _
    have h2 : h % 2 = 1 := by rw [Nat.testBit_zero] at h1; exact of_decide_eq_true h1
    refine Nat.eq_of_testBit_eq fun j => ?_
    rw [nd_tb, tb_pow]
    cases j with
    | zero =>
      have h3 : (h - 1) % 2 = 0 := by omega
      rw [Nat.testBit_zero, Nat.testBit_zero, h2, h3]; rfl
    | succ j =>
      rw [Nat.testBit_succ, Nat.testBit_succ, show (h - 1) / 2 = h / 2 by omega, decide_eq_false (by omega)]
      cases (h / 2).testBit j <;> rfl
  | succ i ih =>
    intro h h1 h2
    have h3 := h2 0 (by omega)
    have h4 : h % 2 = 0 := by
      rw [Nat.testBit_zero] at h3
      have := of_decide_eq_false h3
      omega
    rw [Nat.testBit_succ] at h1
    have h5 : h / 2 ≠ 0 := fun q => by rw [q, Nat.zero_testBit] at h1; cases h1
    have h6 := ih (h / 2) h1 (fun j hj => by rw [← Nat.testBit_succ]; exact h2 (j + 1) (by omega))
    refine Nat.eq_of_testBit_eq fun j => ?_
    rw [nd_tb, tb_pow]
    cases j with
    | zero => rw [h3, decide_eq_false (by omega)]; rfl
    | succ j =>
      rw [Nat.testBit_succ, Nat.testBit_succ, show (h - 1) / 2 = h / 2 - 1 by omega, ← nd_tb, h6, tb_pow]
      exact decide_eq_decide.mpr (by omega)
theorem c_neg {h : Nat} (h0 : 0 < h) (hl : h < 2147483648) : -(nI h) = nI (h - 1) ^^^ (-1) := by
  apply Int32.toBitVec_inj.mp
  have h1 : (-1 : Int32).toBitVec = BitVec.allOnes 32 := by decide
  rw [Int32.toBitVec_xor, h1, BitVec.xor_allOnes, Int32.toBitVec_neg]
  apply BitVec.eq_of_toNat_eq
  rw [BitVec.toNat_neg, BitVec.toNat_not]
  have e1 : (nI h).toBitVec.toNat = h := by
    show (BitVec.ofNat 32 h).toNat = h
    rw [BitVec.toNat_ofNat]; omega
  have e2 : (nI (h - 1)).toBitVec.toNat = h - 1 := by
    show (BitVec.ofNat 32 (h - 1)).toNat = h - 1
    rw [BitVec.toNat_ofNat]; omega
  rw [e1, e2]; omega
theorem c_low {h i : Nat} (hl : h < 2147483648) (h1 : h.testBit i = true) (h2 : ∀ j, j < i → h.testBit j = false) : nI h &&& -(nI h) = nI (2 ^ i) := by
  have h0 : h ≠ 0 := fun q => by rw [q, Nat.zero_testBit] at h1; cases h1
  rw [c_neg (by omega) hl, c_nd, low_nd i h h1 h2]
section
variable {n : Nat} {E : List Nat} {M : gM}
theorem N_toTry {S C : Nat} {Q : Int32 → gM → Prop} (hG : RG n E M) (hm : missE E S ≠ 0) (h : Q (nI (fcf E (missE E S) C E.length).1) M) : w_X9_toTry (nI S) (nI C) M Q := by
  have hR := hG.2.2.2
  have hl := hR.1
  unfold w_X9_toTry
  refine lp (σ := Int32) (fun k x b => w_X9_toTry_L5 Q _ (nI S) (nI C) k b x M) (fun i b => (b = -1 ∧ (∀ e, e < i → (missE E S).testBit e = false) ∧ fcf E (missE E S) C i = (0, 15)) ∨ ∃ a, a < i ∧ b = nI a ∧ fcf E (missE E S) C i = (ed E a &&& C, pc (ed E a &&& C))) E.length 0 rfl (Nat.zero_le _) (Or.inl ⟨rfl, fun e he => absurd he (Nat.not_lt_zero _), rfl⟩) ?_ ?_
  · intro k b hI
    rw [w_X9_toTry_L5.eq_2]
    refine N_many hR ?_
    refine gbr_ltF _ _ rfl rfl (by omega) (by omega) (Nat.le_refl _) ?_
    rcases hI with ⟨-, h2, -⟩ | ⟨a, h1, h2, h3⟩
    · exfalso
      refine hm (tb_0.mpr (fun e => ?_))
      rcases Nat.lt_or_ge e E.length with q | q
      · exact h2 e q
      · rw [missE_tb, decide_eq_false (by omega)]; rfl
    · subst h2
      refine ⟨c_in (by omega) (by decide), ?_⟩
      rw [c_cl (by omega), hR.2.2.2 a h1, c_and]
      rw [h3] at h
      exact h
  · intro k i b hi hI ih
    rw [w_X9_toTry_L5.eq_2]
    have hb := hR.2.1 i hi
    have ha : ed E i &&& S ≤ ed E i := Nat.and_le_left
    have hbc : ∀ a, a < E.length → ed E a &&& C < 16384 := fun a ha => Nat.lt_of_le_of_lt Nat.and_le_left (hR.2.1 a ha)
    have hpc : ∀ a, a < E.length → pc (ed E a &&& C) ≤ 14 := fun a ha => pc_le (n := 14) (by decide) (hbc a ha)
    have vi : vp_in (nI i) 25 := c_in (by omega) (by decide)
    refine N_many hR ?_
    refine gbr_ltT i _ rfl rfl (by omega) (by omega) hi ⟨vi, ?_⟩
    rw [c_cl (by omega), hR.2.2.2 i hi, c_and]
    refine gbr_eq _ 0 rfl rfl (by omega) (by decide) (fun z => ?_) (fun z => ?_)
    · have hbit : (missE E S).testBit i = true := by rw [missE_tb, decide_eq_true hi, decide_eq_true z]; rfl
      rcases hI with ⟨h1, h2, h3⟩ | ⟨a, h1, h2, h3⟩
      · rw [h1]
        refine gbr_t (by decide) (nm_r (c_add1 i) (ih _ (Or.inr ⟨i, Nat.lt_succ_self i, rfl, ?_⟩)))
        rw [fcf, if_pos ⟨hbit, by rw [h3]; have := hpc i hi; show pc (ed E i &&& C) < 15; omega⟩]
      · subst h2
        refine gbr_f (nI_lt0 (by omega)) ⟨vi, ?_⟩
        rw [c_and]
        refine N_bits (by have := hbc i hi; omega) ⟨c_in (by omega) (by decide), ?_⟩
        rw [c_cl (by omega), hR.2.2.2 a (by omega), c_and]
        refine N_bits (by have := hbc a (by omega); omega) ?_
        have p1 := hpc i hi
        have p2 := hpc a (by omega)
        refine gbr_lt _ _ rfl rfl (by omega) (by omega) (fun y => ?_) (fun y => ?_)
        · refine nm_r (c_add1 i) (ih _ (Or.inr ⟨i, Nat.lt_succ_self i, rfl, ?_⟩))
          rw [fcf, if_pos ⟨hbit, by rw [h3]; exact y⟩]
        · refine nm_r (c_add1 i) (ih _ (Or.inr ⟨a, by omega, rfl, ?_⟩))
          rw [fcf, if_neg (fun q => by rw [h3] at q; have := q.2; dsimp only at this; omega), h3]
    · have hbit : (missE E S).testBit i = false := by rw [missE_tb, decide_eq_true hi, decide_eq_false z]; rfl
      have e : fcf E (missE E S) C (i + 1) = fcf E (missE E S) C i := by rw [fcf, if_neg (fun q => by rw [hbit] at q; cases q.1)]
      refine nm_r (c_add1 i) (ih b ?_)
      rw [e]
      rcases hI with ⟨h1, h2, h3⟩ | ⟨a, h1, h2, h3⟩
      · refine Or.inl ⟨h1, fun e he => ?_, h3⟩
        rcases Nat.lt_succ_iff_lt_or_eq.mp he with y | y
        · exact h2 e y
        · rw [y]; exact hbit
      · exact Or.inr ⟨a, by omega, h2, h3⟩
theorem N_visit {d S C : Nat} {g : sg} {Q : Int32 → gM → Prop} (hG : RG n E M) (hg : SM n g M) (hd : d < 16) (h49 : M 49 d = nI S) (h50 : M 50 d = nI C) (hS : S < 2 ^ n) (hv : g.2.2.1 < 4000)
    (k0 : missE E S = 0 → ∀ M1, SM n (sKeep S (g.1, g.2.1, g.2.2.1 + 1, g.2.2.2)) M1 → FR M M1 → stk 16 M M1 → Q 0 M1)
    (k1 : missE E S ≠ 0 → ∀ M1 F, F = (fcf E (missE E S) C E.length).1 → SM n (g.1, g.2.1, g.2.2.1 + 1, g.2.2.2) M1 → FR M M1 → stk d M M1 → M1 49 d = nI S → M1 50 d = nI (nd C F) → M1 51 d = nI F → M1 52 d = nI 0 → gbr (nI F = 0) (Q 0 M1) (Q 1 M1)) : w_X9_visit (nI d) M Q := by
  obtain ⟨A, D, vis, last, up⟩ := g
  obtain ⟨h1, h2, h3, h4, h5, h6, h7, h8, h9, h10, h11⟩ := hg
  dsimp only at h1 h2 h3 h4 h5 h6 h7 h8 h9 h10 h11 hv k0 k1
  have h14 := p2_14 hG.1.2
  have vd : vp_in (nI d) 16 := c_in hd (by decide)
  unfold w_X9_visit
  rw [h5, c_add1]
  intro M1 e1
  refine ⟨vd, ?_⟩
  rw [c_cl (by omega), show M1 49 = M 49 by rw [e1, gst_n (by decide)], h49]
  refine nm_e ?_
  have f1 : FR M M1 := by rw [e1]; exact FR.rfl.sf (by decide)
  have s1 : stk 16 M M1 := by rw [e1]; exact stk_42 stk.rfl (by decide)
  have hR1 := (FR_RG hG f1).2.2.2
  have x8 : M1 42 8 = nI (vis + 1) := by rw [e1, gst_s]
  have xo : ∀ i, i ≠ 8 → M1 42 i = M 42 i := fun i hi => by rw [e1, gst_k hi]
  have xr : ∀ i, i ≠ 42 → M1 i = M i := fun i hi => by rw [e1, gst_n hi]
  refine N_missedBy hR1 ?_
  have hml := missE_lt hG.2.1.1 S
  refine gbr_eq _ 0 rfl rfl (by omega) (by decide) (fun z => ?_) (fun z => ?_)
  · rw [xo 7 (by decide), h1]
    refine ⟨c_in (by omega) (by decide), ?_⟩
    intro M10 e10
    rw [c_cl (by omega)] at e10
    have y42 : M10 42 = M1 42 := by rw [e10, gst_n (by decide)]
    rw [y42, xo 7 (by decide), h1, x8, xo 16 (by decide), h6, pk_sub (by omega)]
    refine ⟨c_in (by omega) (by decide), ?_⟩
    rw [c_cl (by omega)]
    intro M11 e11
    have y11 : M11 42 = M1 42 := by rw [e11, gst_n (by decide), y42]
    rw [y11, x8]
    intro M12 e12
    rw [show M12 42 7 = nI A.length by rw [e12, gst_k (by decide), y11, xo 7 (by decide), h1], c_add1]
    intro M13 e13
    refine k0 z M13 ⟨?_, ?_, ?_, ?_, ?_, ?_, ?_, ?_, ?_, ?_, ?_⟩ ?_ ?_
    · rw [e13, gst_s]; dsimp only [sKeep]; rw [List.length_append, List.length_singleton]
    · rw [e13, gst_n (by decide), e12, gst_n (by decide), e11, gst_n (by decide), e10, gst_f, if_pos rfl, xr 47 (by decide)]
      exact rowIs_app (rowIs_upd h2 (Nat.le_refl _)) (by rw [upd_f, if_pos rfl])
    · rw [e13, gst_n (by decide), e12, gst_n (by decide), e11, gst_f, if_pos rfl, e10, gst_n (by decide), xr 48 (by decide)]
      dsimp only [sKeep]
      rw [← h4]
      refine rowIs_app (rowIs_upd h3 (Nat.le_refl _)) ?_
      rw [upd_f, if_pos rfl]
    · dsimp only [sKeep]; rw [List.length_append, List.length_append, h4]; rfl
    · rw [e13, gst_k (by decide), e12, gst_k (by decide), y11]; exact x8
    · rw [e13, gst_k (by decide), e12, gst_s]; rfl
    · rw [e13, gst_k (by decide), e12, gst_k (by decide), y11, xo 9 (by decide)]; exact h7
    · dsimp only [sKeep]; omega
    · dsimp only [sKeep]; rw [List.length_append, List.length_singleton]; omega
    · dsimp only [sKeep]; omega
    · dsimp only [sKeep]
      intro i hi
      rw [List.length_append, List.length_singleton] at hi
      by_cases q : i < A.length
      · rw [ed_app q]; exact h11 i q
      · rw [show i = A.length by omega, ed_last]; exact hS
    · rw [e13, e12, e11, e10]
      exact (((f1.st (by decide)).st (by decide)).sf (by decide)).sf (by decide)
    · rw [e13, e12, e11, e10]
      exact stk_42 (stk_42 (stk_42 (stk_42 s1 (by decide)) (by decide)) (by decide)) (by decide)
  · refine ⟨vd, ?_⟩
    rw [xr 50 (by decide), h50]
    refine N_toTry (FR_RG hG f1) z ?_
    obtain ⟨F, hF⟩ : ∃ F, F = (fcf E (missE E S) C E.length).1 := ⟨_, rfl⟩
    rw [← hF]
    refine ⟨vd, ?_⟩
    intro M7 e7
    refine ⟨vd, vd, ?_⟩
    rw [show M7 50 = M 50 by rw [e7, gst_n (by decide), xr 50 (by decide)], h50, c_nd]
    intro M8 e8
    refine ⟨vd, ?_⟩
    intro M9 e9
    have s9 : stk d M M9 := by
      rw [e9, e8, e7]
      exact stk_st (stk_st (stk_st (s1.le (by omega)) (Nat.le_refl _)) (Nat.le_refl _)) (Nat.le_refl _)
    have sa : same [49, 50, 51, 52] M1 M9 := by
      rw [e9, e8, e7]
      exact ((same.rfl.st (by decide)).st (by decide)).st (by decide)
    refine k1 z M9 F hF (SM_s (M := M1) ⟨?_, ?_, ?_, h4, x8, ?_, ?_, ?_, ?_, ?_, h11⟩ sa) ?_ s9 ?_ ?_ ?_ ?_
    · rw [xo 7 (by decide)]; exact h1
    · rw [xr 47 (by decide)]; exact h2
    · rw [xr 48 (by decide)]; exact h3
    · rw [xo 16 (by decide)]; exact h6
    · rw [xo 9 (by decide)]; exact h7
    · dsimp only; omega
    · dsimp only; omega
    · dsimp only; omega
    · rw [e9, e8, e7]
      exact ((f1.st (by decide)).st (by decide)).st (by decide)
    · rw [e9, gst_n (by decide), e8, gst_n (by decide), e7, gst_n (by decide), xr 49 (by decide)]; exact h49
    · rw [e9, gst_n (by decide), e8, gst_s]
    · rw [e9, gst_n (by decide), e8, gst_n (by decide), e7, gst_s]
    · rw [e9, gst_s]; rfl
end
