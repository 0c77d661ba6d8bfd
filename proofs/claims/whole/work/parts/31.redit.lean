/-! the reference: edges go, edges are kept -/
theorem ed_l {A B : List Nat} {i : Nat} (h : i < A.length) : ed (A ++ B) i = ed A i := by
  unfold ed
  rw [List.getD_eq_getElem?_getD, List.getD_eq_getElem?_getD, List.getElem?_append_left h]
theorem ed_r {A B : List Nat} {i : Nat} (h : A.length ≤ i) : ed (A ++ B) i = ed B (i - A.length) := by
  unfold ed
  rw [List.getD_eq_getElem?_getD, List.getD_eq_getElem?_getD, List.getElem?_append_right h]
theorem ed_cS (x : Nat) (B : List Nat) (i : Nat) : ed (x :: B) (i + 1) = ed B i := rfl
theorem ed_c0 (x : Nat) (B : List Nat) : ed (x :: B) 0 = x := rfl
theorem ed_drop {A B : List Nat} {x i : Nat} (h : A.length ≤ i) : ed (A ++ x :: B) (i + 1) = ed (A ++ B) i := by
  rw [ed_r (by omega), ed_r h, show i + 1 - A.length = (i - A.length) + 1 by omega, ed_cS]
theorem ed_keepl {A B C : List Nat} {i : Nat} (h : i < A.length) : ed (A ++ B) i = ed (A ++ C) i := by rw [ed_l h, ed_l h]
theorem sub1 (x : Int32) : x - 1 = x + (-1) := Int32.sub_eq_add_neg x 1
theorem nI_dec {a : Nat} : nI (a + 1) + (-1) = nI a := by
  rw [← sub1, show (1 : Int32) = nI 1 from rfl, pk_sub (by omega), Nat.add_sub_cancel]
theorem N_many' {c : Nat} {M : gM} {Q : Int32 → gM → Prop} (hc : M 43 24 = nI c) (h : Q (nI c) M) : w_X9_many M Q := by
  unfold w_X9_many
  refine ⟨v24, ?_⟩
  rw [show Int32.toNatClampNeg 24 = 24 from rfl, hc]
  exact h
theorem N_drop {A B : List Nat} {x : Nat} {p : Int32} {M : gM} {Q : gM → Prop} (hp : p = nI A.length) (hR : RR (A ++ x :: B) M) (h : ∀ M1, RR (A ++ B) M1 → same [43] M M1 → Q M1) : w_X9_drop p M Q := by
  subst hp
  obtain ⟨hl, hb, hc, hr⟩ := hR
  have hlen : (A ++ x :: B).length = (A ++ B).length + 1 := by simp only [List.length_append, List.length_cons]; omega
  have hAB : (A ++ B).length = A.length + B.length := List.length_append
  rw [hlen] at hl hc
  unfold w_X9_drop
  refine ⟨v24, v24, ?_⟩
  intro M1 e1
  rw [show Int32.toNatClampNeg 24 = 24 from rfl, hc, sub1, nI_dec] at e1
  refine lp (σ := gM) (fun k y t => w_X9_drop_L13 Q _ (nI A.length) k y t) (fun i t => A.length ≤ i ∧ same [43] M t ∧ t 43 24 = nI (A ++ B).length ∧ (∀ j, j < i → t 43 j = nI (ed (A ++ B) j)) ∧ (∀ j, i ≤ j → j < (A ++ B).length + 1 → t 43 j = nI (ed (A ++ x :: B) j))) (A ++ B).length A.length rfl (by omega) ?_ ?_ ?_
  · refine ⟨Nat.le_refl _, by rw [e1]; exact same.rfl.st (by decide), by rw [e1, gst_s], fun j hj => ?_, fun j _ hj => ?_⟩
    · rw [e1, gst_k (by omega), hr j (by omega), ed_keepl hj]
    · rw [e1, gst_k (by omega), hr j (by omega)]
  · rintro k t ⟨h0, h1, h2, h3, h4⟩
    rw [w_X9_drop_L13.eq_2]
    refine N_many' h2 ?_
    refine gbr_ltF _ _ rfl rfl (by omega) (by omega) (Nat.le_refl _) ?_
    refine h t ⟨by omega, fun i hi => ?_, h2, fun i hi => h3 i hi⟩ h1
    rcases Nat.lt_or_ge i A.length with q | q
    · rw [ed_keepl (C := x :: B) q]; exact hb i (by omega)
    · rw [← ed_drop q]; exact hb (i + 1) (by omega)
  · rintro k i t hi ⟨h0, h1, h2, h3, h4⟩ ih
    rw [w_X9_drop_L13.eq_2]
    refine N_many' h2 ?_
    refine gbr_ltT i _ rfl rfl (by omega) (by omega) hi ?_
    rw [c_add1]
    refine ⟨c_in (by omega) (by omega), c_in (by omega) (by omega), ?_⟩
    intro M4 e4
    refine nm_e (ih M4 ?_)
    rw [c_cl (by omega), c_cl (by omega), h4 (i + 1) (by omega) (by omega)] at e4
    rw [e4]
    refine ⟨by omega, h1.st (by decide), by rw [gst_k (by omega)]; exact h2, fun j hj => ?_, fun j hj hj2 => ?_⟩
    · rcases Nat.lt_succ_iff_lt_or_eq.mp hj with q | q
      · rw [gst_k (by omega)]; exact h3 j q
      · rw [q, gst_s, ed_drop h0]
    · rw [gst_k (by omega)]; exact h4 j (by omega) hj2
/-- the edges at the places of w from i on -/
def ks (E : List Nat) (w : Nat) : Nat → Nat → List Nat
  | _, 0 => []
  | i, j + 1 => if w.testBit i then ed E i :: ks E w (i + 1) j else ks E w (i + 1) j
theorem kp_ks (E : List Nat) (w : Nat) : ∀ j i, kp E w i ++ ks E w i j = kp E w (i + j) := by
  intro j
  induction j with
  | zero => intro i; rw [ks, List.append_nil, Nat.add_zero]
  | succ j ih =>
    intro i
    rw [ks, show i + (j + 1) = (i + 1) + j by omega, ← ih (i + 1), kp]
    split
    · rw [List.append_assoc, List.singleton_append]
    · rfl
theorem take_ed {E : List Nat} {i : Nat} (h : i < E.length) : E.take (i + 1) = E.take i ++ [ed E i] := by
  rw [List.take_add_one, List.getElem?_eq_getElem h]
  unfold ed
  rw [List.getD_eq_getElem?_getD, List.getElem?_eq_getElem h]
  rfl
theorem ks_len (E : List Nat) (w : Nat) : ∀ j i, (ks E w i j).length ≤ j := by
  intro j
  induction j with
  | zero => intro i; exact Nat.le_refl _
  | succ j ih =>
    intro i
    have := ih (i + 1)
    rw [ks]
    split
    · rw [List.length_cons]; omega
    · omega
theorem N_keepOnly {E : List Nat} {p : Int32} {w : Nat} {M : gM} {Q : Int32 → gM → Prop} (hR : RR E M) (hp : ∀ e, e < E.length → (p >>> (nI e &&& 31)) &&& 1 = b2 (w.testBit e)) (h : ∀ M1, RR (kp E w E.length) M1 → same [43] M M1 → Q (nI (E.length - (kp E w E.length).length)) M1) : w_X9_keepOnly p M Q := by
  have hl := hR.1
  unfold w_X9_keepOnly
  refine N_many hR ?_
  refine nm_r (sub1 _) ?_
  refine lpd (σ := Int32 × gM) (s0 := (0, M)) (fun k x t => w_X9_keepOnly_L9 Q _ p k t.1 x t.2) (fun r t => r ≤ E.length ∧ t.1 = nI (E.length - (r + (ks E w r (E.length - r)).length)) ∧ RR (E.take r ++ ks E w r (E.length - r)) t.2 ∧ same [43] M t.2) rfl ?_ ?_ ?_
  · refine ⟨Nat.le_refl _, ?_, ?_, same.rfl⟩
    · rw [Nat.sub_self, ks, List.length_nil, Nat.add_zero, Nat.sub_self]; rfl
    · rw [Nat.sub_self, ks, List.append_nil, List.take_length]; exact hR
  · rintro k t ⟨-, h1, h2, h3⟩
    rw [w_X9_keepOnly_L9.eq_2]
    refine gbr_t (by decide) ?_
    rw [Nat.zero_add, Nat.sub_zero] at h1
    rw [Nat.sub_zero, List.take_zero, List.nil_append] at h2
    have e := kp_ks E w E.length 0
    rw [kp, List.nil_append, Nat.zero_add] at e
    rw [e] at h1 h2
    rw [h1]
    exact h _ h2 h3
  · rintro k r t hr ⟨-, h1, h2, h3⟩ ih
    rw [w_X9_keepOnly_L9.eq_2]
    have e0 : E.length - r = (E.length - (r + 1)) + 1 := by omega
    have hk := ks_len E w (E.length - (r + 1)) (r + 1)
    refine gbr_f (nI_lt0 (by omega)) ?_
    refine gbr_b _ (hp r hr) (fun z => ?_) (fun z => ?_)
    · have hA : (E.take r).length = r := by rw [List.length_take]; omega
      rw [take_ed hr, List.append_assoc, List.singleton_append] at h2
      refine N_drop (by rw [hA]) h2 (fun M5 g1 g2 => ?_)
      rw [h1]
      refine nm_r (c_add1 _) (nm_e (ih (_, M5) ⟨by omega, ?_, ?_, h3.tr g2⟩))
      · rw [e0, ks, z, if_neg (by simp)]
        show nI (E.length - (r + 1 + (ks E w (r + 1) (E.length - (r + 1))).length) + 1) = _
        congr 1
        omega
      · rw [e0, ks, z, if_neg (by simp)]; exact g1
    · refine nm_e (ih t ⟨by omega, ?_, ?_, h3⟩)
      · rw [h1, e0, ks, if_pos z, List.length_cons]
        congr 1
        omega
      · rw [e0, ks, if_pos z]
        rw [take_ed hr, List.append_assoc, List.singleton_append] at h2
        exact h2
/-! kept states -/
def blk (r : Nat → Int32) (b : Nat) (L : List Nat) : Prop := L.length ≤ 24 ∧ r (b + 24) = nI L.length ∧ ∀ i, i < L.length → r (b + i) = nI (ed L i)
theorem blk_c {r q : Nat → Int32} {b c : Nat} {L : List Nat} (h : blk r b L) (k : ∀ i, i < 25 → q (c + i) = r (b + i)) : blk q c L := ⟨h.1, (k 24 (by decide)).trans h.2.1, fun i hi => (k i (by have := h.1; omega)).trans (h.2.2 i hi)⟩
theorem blk_now {E : List Nat} {M : gM} (hR : RR E M) : blk (M 43) 0 E := ⟨hR.1, by rw [Nat.zero_add]; exact hR.2.2.1, fun i hi => by rw [Nat.zero_add]; exact hR.2.2.2 i hi⟩
theorem blk_use {E : List Nat} {M : gM} (h : blk (M 43) 0 E) (hb : ∀ i, i < E.length → ed E i < 16384) : RR E M := ⟨h.1, hb, by have := h.2.1; rwa [Nat.zero_add] at this, fun i hi => by have := h.2.2 i hi; rwa [Nat.zero_add] at this⟩
def RH (past fut : List (List Nat)) (M : gM) : Prop := M 42 5 = nI past.length ∧ M 42 6 = nI fut.length ∧ past.length + fut.length ≤ 16 ∧ (∀ k, k < past.length → blk (M 45) (25 * (past.length - 1 - k)) (past.getD k [])) ∧ (∀ k, k < fut.length → blk (M 46) (25 * (fut.length - 1 - k)) (fut.getD k []))
theorem c_25 (u i : Nat) : 25 * nI u + nI i = nI (25 * u + i) := by
  rw [show (25 : Int32) = nI 25 from rfl, pk_mul, nI_add]
theorem N_copy {u : Nat} {M : gM} {Q : gM → Prop} {K : Int32 → gM → Prop} (h5 : M 42 5 = nI u) (hu : u ≤ 15) (h : ∀ M1, same [45] M M1 → (∀ i, i < 25 → M1 45 (25 * u + i) = M 43 i) → (∀ j, j < 25 * u → M1 45 j = M 45 j) → K (nI 25) M1) : ∃ nf, w_X9_keep_L55 Q K nf 0 M := by
  refine lp (σ := gM) (fun k x t => w_X9_keep_L55 Q K k x t) (fun i t => same [45] M t ∧ (∀ j, j < i → t 45 (25 * u + j) = M 43 j) ∧ (∀ j, j < 25 * u → t 45 j = M 45 j)) 25 0 rfl (Nat.zero_le _) ⟨same.rfl, fun j hj => absurd hj (Nat.not_lt_zero _), fun _ _ => rfl⟩ ?_ ?_
  · rintro k t ⟨h1, h2, h3⟩
    rw [w_X9_keep_L55.eq_2]
    exact gbr_ltF 25 25 rfl rfl (by decide) (by decide) (Nat.le_refl _) (h t h1 h2 h3)
  · rintro k i t hi ⟨h1, h2, h3⟩ ih
    rw [w_X9_keep_L55.eq_2]
    refine gbr_ltT i 25 rfl rfl (by omega) (by decide) hi ?_
    rw [show t 42 = M 42 from h1 42 (by decide), h5, c_25]
    refine ⟨c_in hi (by decide), c_in (by omega) (by decide), ?_⟩
    intro M1 e1
    refine nm_r (c_add1 i) (ih M1 ?_)
    rw [c_cl (by omega), c_cl (by omega), show t 43 = M 43 from h1 43 (by decide)] at e1
    rw [e1]
    refine ⟨h1.st (by decide), fun j hj => ?_, fun j hj => ?_⟩
    · rcases Nat.lt_succ_iff_lt_or_eq.mp hj with q | q
      · rw [gst_k (by omega)]; exact h2 j q
      · rw [q, gst_s]
    · rw [gst_k (by omega)]; exact h3 j hj
theorem N_shift {M : gM} {Q : gM → Prop} {K : Int32 → gM → Prop} (h5 : M 42 5 = nI 15) (h : ∀ M1, same [45] M M1 → (∀ j, j < 375 → M1 45 j = M 45 (j + 25)) → K (nI 375) M1) : ∃ nf, w_X9_keep_L21 Q K nf 0 M := by
  have e3 : (25 : Int32) * nI 15 = nI 375 := by decide
  refine lp (σ := gM) (fun k x t => w_X9_keep_L21 Q K k x t) (fun i t => same [45] M t ∧ (∀ j, j < i → t 45 j = M 45 (j + 25)) ∧ (∀ j, i ≤ j → t 45 j = M 45 j)) 375 0 rfl (Nat.zero_le _) ⟨same.rfl, fun j hj => absurd hj (Nat.not_lt_zero _), fun _ _ => rfl⟩ ?_ ?_
  · rintro k t ⟨h1, h2, h3⟩
    rw [w_X9_keep_L21.eq_2, show t 42 = M 42 from h1 42 (by decide), h5, e3]
    exact gbr_ltF 375 375 rfl rfl (by decide) (by decide) (Nat.le_refl _) (h t h1 h2)
  · rintro k i t hi ⟨h1, h2, h3⟩ ih
    rw [w_X9_keep_L21.eq_2, show t 42 = M 42 from h1 42 (by decide), h5, e3]
    refine gbr_ltT i 375 rfl rfl (by omega) (by decide) hi ?_
    rw [show (25 : Int32) = nI 25 from rfl, nI_add]
    refine ⟨c_in (by omega) (by decide), c_in (by omega) (by decide), ?_⟩
    intro M1 e1
    refine nm_r (c_add1 i) (ih M1 ?_)
    rw [c_cl (by omega), c_cl (by omega), h3 (i + 25) (by omega)] at e1
    rw [e1]
    refine ⟨h1.st (by decide), fun j hj => ?_, fun j hj => ?_⟩
    · rcases Nat.lt_succ_iff_lt_or_eq.mp hj with q | q
      · rw [gst_k (by omega)]; exact h2 j q
      · rw [q, gst_s]
    · rw [gst_k (by omega)]; exact h3 j (by omega)
theorem N_keep {E : List Nat} {past fut : List (List Nat)} {M : gM} {Q : gM → Prop} (hR : RR E M) (hH : RH past fut M) (h : ∀ M1, RH ((E :: past).take 16) [] M1 → same [42, 45] M M1 → (∀ i, i ≠ 5 → i ≠ 6 → M1 42 i = M 42 i) → Q M1) : w_X9_keep M Q := by
  obtain ⟨h5, h6, h16, hp, hf⟩ := hH
  unfold w_X9_keep
  refine gbr_eq past.length 16 h5 rfl (by omega) (by decide) (fun q => ?_) (fun q => ?_)
  · intro M7 e7
    rw [h5, q, show nI 16 - 1 = nI 15 from by decide] at e7
    have s7 : same [42, 45] M M7 := by rw [e7]; exact same.rfl.st (by decide)
    refine N_shift (by rw [e7, gst_s]) (fun M8 g1 g2 => ?_)
    have e85 : M8 42 5 = nI 15 := by rw [g1 42 (by decide), e7, gst_s]
    refine N_copy e85 (by decide) (fun M9 k1 k2 k3 => ?_)
    rw [show M9 42 5 = nI 15 from (congrFun (k1 42 (by decide)) 5).trans e85]
    refine nm_e (nm_e (h _ ⟨?_, ?_, ?_, ?_, fun k hk => by simp at hk⟩ ?_ ?_))
    · rw [gst_k (by decide), gst_s, List.length_take, List.length_cons, q]; rfl
    · rw [gst_s]; rfl
    · rw [List.length_take, List.length_cons, q]; decide
    · intro k hk
      rw [List.length_take, List.length_cons, q] at hk ⊢
      have hk : k < 16 := by omega
      rw [gst_n (by decide), gst_n (by decide)]
      have eg : ((E :: past).take 16).getD k [] = (E :: past).getD k [] := by
        rw [List.getD_eq_getElem?_getD, List.getD_eq_getElem?_getD, List.getElem?_take_of_lt hk]
      rw [eg, show min 16 (16 + 1) - 1 - k = 15 - k by omega]
      cases k with
      | zero =>
        refine blk_c (blk_now hR) (fun i hi => ?_)
        rw [k2 i hi, g1 43 (by decide), e7, gst_n (by decide), Nat.zero_add]
      | succ k =>
        rw [getD_consS]
        refine blk_c (hp k (by omega)) (fun i hi => ?_)
        rw [k3 _ (by omega), g2 _ (by omega), e7, gst_n (by decide), q]
        congr 1
        omega
    · refine ((same.tr (same.tr s7 (g1.sub (fun i hi => ?_))) (k1.sub (fun i hi => ?_))).st (by decide)).st (by decide) <;> (simp only [List.mem_cons, List.not_mem_nil, or_false] at hi ⊢; omega)
    · intro i hi1 hi2
      rw [gst_k hi2, gst_k hi1, k1 42 (by decide), g1 42 (by decide), e7, gst_k hi1]
  · refine N_copy h5 (by omega) (fun M9 k1 k2 k3 => ?_)
    rw [show M9 42 5 = nI past.length from (congrFun (k1 42 (by decide)) 5).trans h5, c_add1]
    have et : (E :: past).take 16 = E :: past := List.take_of_length_le (by rw [List.length_cons]; omega)
    rw [et] at h
    refine nm_e (nm_e (h _ ⟨?_, ?_, ?_, ?_, fun k hk => by simp at hk⟩ ?_ ?_))
    · rw [gst_k (by decide), gst_s, List.length_cons]
    · rw [gst_s]; rfl
    · rw [List.length_cons]; simp only [List.length_nil]; omega
    · intro k hk
      rw [List.length_cons] at hk ⊢
      rw [gst_n (by decide), gst_n (by decide)]
      cases k with
      | zero =>
        refine blk_c (blk_now hR) (fun i hi => ?_)
        rw [show past.length + 1 - 1 - 0 = past.length by omega, k2 i hi, Nat.zero_add]
      | succ k =>
        rw [getD_consS]
        refine blk_c (hp k (by omega)) (fun i hi => ?_)
        rw [k3 _ (by omega)]
        congr 1
        omega
    · refine ((k1.sub (fun i hi => ?_)).st (by decide)).st (by decide)
      simp only [List.mem_cons, List.not_mem_nil, or_false] at hi ⊢; omega
    · intro i hi1 hi2
      rw [gst_k hi2, gst_k hi1, k1 42 (by decide)]
