theorem pcn_cnt (k s : Nat) : pcn k s = cnt k (fun i => s.testBit i) := by
  induction k with
  | zero => rfl
  | succ k ih =>
    rw [pcn_app, ih, cnt, Nat.testBit_eq_decide_div_mod_eq]
    have : pcn 1 (s / 2 ^ k) = s / 2 ^ k % 2 := by simp [pcn]
    rw [this]
    rcases Nat.mod_two_eq_zero_or_one (s / 2 ^ k) with h | h <;> rw [h] <;> rfl
theorem or_pow_tb (s v i : Nat) : (s ||| 2 ^ v).testBit i = (s.testBit i || decide (v = i)) := by rw [Nat.testBit_or, tb_pow]
theorem pc_add {s v : Nat} (hv : v < 24) (h : s.testBit v = false) : pc (s ||| 2 ^ v) = pc s + 1 := by
  unfold pc
  rw [pcn_cnt, pcn_cnt]
  refine cnt_one (j := v) hv ?_ h (fun i _ hne => ?_)
  · show (s ||| 2 ^ v).testBit v = true
    rw [or_pow_tb]; simp
  · show (s ||| 2 ^ v).testBit i = s.testBit i
    rw [or_pow_tb, decide_eq_false (fun q => hne q.symm), Bool.or_false]
/-! the search as a function: answers, delays, visits, visits at the last answer, given up -/
abbrev sg : Type := List Nat × List Nat × Nat × Nat × Bool
def sKeep (S : Nat) (g : sg) : sg := (g.1 ++ [S], g.2.1 ++ [g.2.2.1 - g.2.2.2.1], g.2.2.1, g.2.2.1, g.2.2.2.2)
noncomputable def sl (n : Nat) (E : List Nat) (rc : Nat → Nat → sg → sg) (S F L0 : Nat) (g0 : sg) : Nat → Nat × sg
  | 0 => (L0, g0)
  | i + 1 => if (sl n E rc S F L0 g0 i).2.2.2.2.2 = true then sl n E rc S F L0 g0 i else
      if F.testBit i = true then ((sl n E rc S F L0 g0 i).1 ||| 2 ^ i, if bd (allP n E (S ||| 2 ^ i)) = true then rc (S ||| 2 ^ i) (sl n E rc S F L0 g0 i).1 (sl n E rc S F L0 g0 i).2 else (sl n E rc S F L0 g0 i).2)
      else sl n E rc S F L0 g0 i
noncomputable def sx (n : Nat) (E : List Nat) : Nat → Nat → Nat → sg → sg
  | 0, _, _, g => g
  | f + 1, S, C, g => if 4000 ≤ g.2.2.1 then (g.1, g.2.1, g.2.2.1, g.2.2.2.1, true) else
      if missE E S = 0 then sKeep S (g.1, g.2.1, g.2.2.1 + 1, g.2.2.2) else
      (sl n E (sx n E f) S (fcf E (missE E S) C E.length).1 (nd C (fcf E (missE E S) C E.length).1) (g.1, g.2.1, g.2.2.1 + 1, g.2.2.2) n).2
theorem sl_up {n : Nat} {E : List Nat} {rc : Nat → Nat → sg → sg} {S F L0 : Nat} {g0 : sg} {i : Nat} (h : (sl n E rc S F L0 g0 i).2.2.2.2.2 = true) : ∀ j, (sl n E rc S F L0 g0 (i + j)) = sl n E rc S F L0 g0 i := by
  intro j
  induction j with
  | zero => rfl
  | succ j ih =>
    show sl n E rc S F L0 g0 ((i + j) + 1) = _
    rw [sl, ih, if_pos h]
/-- the search's state in memory -/
def SS (g : sg) (M : gM) : Prop := M 4 2 = nI g.1.length ∧ rowIs (M 30) g.1 ∧ rowIs (M 31) g.2.1 ∧ g.2.1.length = g.1.length ∧ M 4 3 = nI g.2.2.1 ∧ M 4 5 = nI g.2.2.2.1 ∧ M 4 6 = b2 g.2.2.2.2 ∧ g.2.2.1 ≤ 4000 ∧ g.1.length ≤ g.2.2.1 ∧ g.2.2.2.1 ≤ g.2.2.1
theorem fcf_miss (E : List Nat) (w c k : Nat) : (fcf E w c k).1 = 0 ∨ ∃ e, e < k ∧ w.testBit e = true ∧ (fcf E w c k).1 = ed E e &&& c := by
  induction k with
  | zero => exact Or.inl rfl
  | succ k ih =>
    rw [fcf]
    split
    · rename_i h
      exact Or.inr ⟨k, by omega, h.1, rfl⟩
    · rcases ih with q | ⟨e, h1, h2⟩
      · exact Or.inl q
      · exact Or.inr ⟨e, by omega, h2⟩
theorem F_S {E : List Nat} {S C v : Nat} (h : (fcf E (missE E S) C E.length).1.testBit v = true) : S.testBit v = false ∧ C.testBit v = true := by
  rcases fcf_miss E (missE E S) C E.length with q | ⟨e, h1, h2, h3⟩
  · rw [q, Nat.zero_testBit] at h; cases h
  · rw [h3, Nat.testBit_and, Bool.and_eq_true] at h
    rw [missE_tb, Bool.and_eq_true, decide_eq_true_eq, decide_eq_true_eq] at h2
    refine ⟨?_, h.2⟩
    cases z : S.testBit v
    · rfl
    · exact (and_0.mp h2.2 v h.1 z).elim
theorem hit_add {n v : Nat} {E : List Nat} (hS : sane n E) (S : Nat) : orf n (atS E S) ||| at_ E v = orf n (atS E (S ||| 2 ^ v)) := by
  refine Nat.eq_of_testBit_eq fun e => ?_
  by_cases he : e < E.length
  · apply bool_iff
    rw [Nat.testBit_or, Bool.or_eq_true, hit_tb hS _ _ he, hit_tb hS _ _ he, and_ne0, and_ne0, at_tb, Bool.and_eq_true, decide_eq_true_eq]
    constructor
    · rintro (⟨i, h1, h2⟩ | ⟨-, h⟩)
      · exact ⟨i, h1, by rw [or_pow_tb, h2]; rfl⟩
      · exact ⟨v, h, by rw [or_pow_tb]; simp⟩
    · rintro ⟨i, h1, h2⟩
      rw [or_pow_tb, Bool.or_eq_true, decide_eq_true_eq] at h2
      rcases h2 with h2 | h2
      · exact Or.inl ⟨i, h1, h2⟩
      · subst h2; exact Or.inr ⟨he, h1⟩
  · rw [Nat.testBit_or, hit_big _ _ he, hit_big _ _ he, at_tb, decide_eq_false he]; rfl
theorem once_add {n v : Nat} {E : List Nat} (hS : sane n E) {S : Nat} (hv : S.testBit v = false) : nd (hit1 E S) (at_ E v) ||| nd (at_ E v) (orf n (atS E S)) = hit1 E (S ||| 2 ^ v) := by
  refine Nat.eq_of_testBit_eq fun e => ?_
  apply bool_iff
  rw [Nat.testBit_or, Bool.or_eq_true, nd_tb, nd_tb, Bool.and_eq_true, Bool.and_eq_true, Bool.not_eq_true', Bool.not_eq_true', hit1_tb, hit1_tb]
  constructor
  · rintro (⟨⟨h1, w, h2⟩, h3⟩ | ⟨h1, h2⟩)
    · rw [at_tb, decide_eq_true h1, Bool.true_and] at h3
      obtain ⟨a1, a2, a3⟩ := and_pow.mp h2
      refine ⟨h1, w, and_pow.mpr ⟨a1, by rw [or_pow_tb, a2]; rfl, fun u p q => ?_⟩⟩
      rw [or_pow_tb, Bool.or_eq_true, decide_eq_true_eq] at q
      rcases q with q | q
      · exact a3 u p q
      · subst q; rw [h3] at p; cases p
    · rw [at_tb, Bool.and_eq_true, decide_eq_true_eq] at h1
      refine ⟨h1.1, v, and_pow.mpr ⟨h1.2, by rw [or_pow_tb]; simp, fun u p q => ?_⟩⟩
      rw [or_pow_tb, Bool.or_eq_true, decide_eq_true_eq] at q
      rcases q with q | q
      · exfalso
        have := (hit_tb hS S e h1.1).mpr (and_ne0.mpr ⟨u, p, q⟩)
        rw [h2] at this; cases this
      · exact q.symm
  · rintro ⟨h1, w, h2⟩
    obtain ⟨a1, a2, a3⟩ := and_pow.mp h2
    have hvv : (S ||| 2 ^ v).testBit v = true := by rw [or_pow_tb]; simp
    cases z : (ed E e).testBit v with
    | false =>
      refine Or.inl ⟨⟨h1, w, and_pow.mpr ⟨a1, ?_, fun u p q => a3 u p (by rw [or_pow_tb, q]; rfl)⟩⟩, by rw [at_tb, z, Bool.and_false]⟩
      rw [or_pow_tb, Bool.or_eq_true, decide_eq_true_eq] at a2
      rcases a2 with q | q
      · exact q
      · subst q; rw [z] at a1; cases a1
    | true =>
      have hw := a3 v z hvv
      subst hw
      refine Or.inr ⟨by rw [at_tb, z, decide_eq_true h1]; rfl, ?_⟩
      apply Bool.eq_false_iff.mpr
      intro q
      obtain ⟨u, p1, p2⟩ := and_ne0.mp ((hit_tb hS S e h1).mp q)
      have := a3 u p1 (by rw [or_pow_tb, p2]; rfl)
      subst this
      rw [hv] at p2; cases p2
theorem rowIs_s (r : Nat → Int32) (l : List Nat) (x : Nat) (h : rowIs r l) : rowIs (upd r l.length (nI x)) (l ++ [x]) := rowIs_app (rowIs_upd h (Nat.le_refl _)) (by rw [upd_f, if_pos rfl])
theorem S_keep {g : sg} {S : Nat} {M : gM} {Q : gM → Prop} (h : SS g M) (hl : g.1.length < g.2.2.1) (hq : ∀ M1, SS (sKeep S g) M1 → same [4, 30, 31] M M1 → M1 4 7 = M 4 7 → Q M1) : w_X6_keep (nI S) M Q := by
  obtain ⟨A, D, vis, last, up⟩ := g
  obtain ⟨h1, h2, h3, h4, h5, h6, h7, h8, h9, h10⟩ := h
  simp only [] at h1 h2 h3 h4 h5 h6 h7 h8 h9 h10 hl
  unfold w_X6_keep
  refine gbr_ltT A.length 4000 h1 rfl (by omega) (by decide) (by omega) ⟨by rw [h1]; exact c_in (by omega) (by decide), ?_⟩
  intro M1 e1
  rw [h1, c_cl (by omega)] at e1
  have a4 : M1 4 = M 4 := by rw [e1, gst_n (by decide)]
  refine ⟨by rw [a4, h1]; exact c_in (by omega) (by decide), ?_⟩
  intro M2 e2
  rw [a4, h1, c_cl (by omega), h5, h6, pk_sub h10] at e2
  intro M3 e3
  intro M4 e4
  have b4 : M2 4 = M 4 := by rw [e2, gst_n (by decide), a4]
  have c3 : M3 4 2 = nI A.length := by rw [e3, gst_k (by decide), b4]; exact h1
  rw [c3, c_add1] at e4
  refine hq M4 ?_ ?_ ?_
  · refine ⟨?_, ?_, ?_, ?_, ?_, ?_, ?_, ?_, ?_, ?_⟩
    · rw [e4, gst_s]; simp only [sKeep, List.length_append, List.length_singleton]
    · rw [e4, gst_n (by decide), e3, gst_n (by decide), e2, gst_n (by decide), e1, gst_f, if_pos rfl]
      exact rowIs_s _ _ _ h2
    · rw [e4, gst_n (by decide), e3, gst_n (by decide), e2, gst_f, if_pos rfl, e1, gst_n (by decide)]
      rw [← h4]
      exact rowIs_s _ _ _ h3
    · simp only [sKeep, List.length_append, List.length_singleton]; omega
    · rw [e4, gst_k (by decide), e3, gst_k (by decide), b4]; exact h5
    · rw [e4, gst_k (by decide), e3, gst_s, b4]; exact h5
    · rw [e4, gst_k (by decide), e3, gst_k (by decide), b4]; exact h7
    · exact h8
    · simp only [sKeep, List.length_append, List.length_singleton]; omega
    · exact Nat.le_refl _
  · rw [e4, e3, e2, e1]
    exact (((same.rfl.st (by decide)).st (by decide)).st (by decide)).st (by decide)
  · rw [e4, gst_k (by decide), e3, gst_k (by decide), b4]
theorem S_explore (n : Nat) (E : List Nat) : ∀ (f S C d : Nat) (g : sg) (M : gM) (Q : gM → Prop), XG n E M → XA E M → SS g M → S < 2 ^ n → d = pc S → pc S + f = 15 → (∀ M1, SS (sx n E f S C g) M1 → same [4, 30, 31] M M1 → M1 4 7 = M 4 7 → Q M1) → w_X6_explore f (nI S) (nI C) (nI (hit1 E S)) (nI (orf n (atS E S))) (nI d) M Q := by
  intro f
  induction f with
  | zero =>
    intro S C d g M Q hG hX hS2 hS hd hf hq
    have := pc_le (n := n) (by have := hG.1.2; omega) hS
    have := hG.1.2
    omega
  | succ f ihf =>
    intro S C d g M Q hG hX hSS hSn hd hf hq
    have hG0 := hG
    obtain ⟨hn, hS, hv, hc, hr⟩ := hG
    have hl := hS.1
    have hpcS : pc S ≤ 14 := Nat.le_trans (pc_le (n := n) (by omega) hSn) hn.2
    have h14 := p2_14 hn.2
    have hml := missE_lt hl S
    show w_X6_explore_b (w_X6_explore f) _ _ _ _ _ M Q
    unfold w_X6_explore_b
    refine gbr_ltF 14 d rfl rfl (by decide) (by omega) (by omega) ?_
    have hSS0 := hSS
    obtain ⟨A, D, vis, last, up⟩ := g
    obtain ⟨h1, h2, h3, h4, h5, h6, h7, h8, h9, h10⟩ := hSS
    simp only [] at h1 h2 h3 h4 h5 h6 h7 h8 h9 h10
    refine gbr_lt vis 4000 h5 rfl (by omega) (by decide) (fun z => ?_) (fun z => ?_)
    · intro M2 e2
      rw [h5, c_add1] at e2
      have s2 : same [4, 30, 31] M M2 := by rw [e2]; exact same.rfl.st (by decide)
      have v2 : M2 4 7 = M 4 7 := by rw [e2, gst_k (by decide)]
      have hG2 : XG n E M2 := ⟨hn, hS, by rw [s2 1 (by decide)]; exact hv, by rw [s2 1 (by decide)]; exact hc, by rw [s2 9 (by decide)]; exact hr⟩
      have hX2 : XA E M2 := fun v hv => by rw [s2 10 (by decide)]; exact hX v hv
      have hg2 : SS (A, D, vis + 1, last, up) M2 := ⟨by rw [e2, gst_k (by decide)]; exact h1, by rw [e2, gst_n (by decide)]; exact h2, by rw [e2, gst_n (by decide)]; exact h3, h4, by rw [e2, gst_s], by rw [e2, gst_k (by decide)]; exact h6, by rw [e2, gst_k (by decide)]; exact h7, (show vis + 1 ≤ 4000 by omega), (show A.length ≤ vis + 1 by omega), (show last ≤ vis + 1 by omega)⟩
      clear e2
      refine S_allEdges hG2 ?_
      rw [c_nd, miss_eq hS]
      refine nm_e ?_
      rw [sx, if_neg (show ¬ 4000 ≤ vis by omega)] at hq
      refine gbr_eq (missE E S) 0 rfl rfl (by omega) (by decide) (fun y => ?_) (fun y => ?_)
      · rw [if_pos y] at hq
        refine S_keep hg2 (show A.length < vis + 1 by omega) (fun M3 k1 k2 k3 => ?_)
        exact hq M3 k1 (s2.tr k2) (k3.trans v2)
      · rw [if_neg y] at hq
        refine S_fewest hG2 (by omega) ?_
        rw [c_nd]
        refine nm_e ?_
        obtain ⟨F, hF⟩ : ∃ F, F = (fcf E (missE E S) C E.length).1 := ⟨_, rfl⟩
        rw [← hF] at hq ⊢
        have hFS : ∀ v, F.testBit v = true → S.testBit v = false := fun v hv => (F_S (by rw [← hF]; exact hv)).1
        have hFl : F < 2147483648 := by
          rcases fcf_miss E (missE E S) C E.length with q | ⟨e, he, -, q⟩
          · rw [hF, q]; decide
          · have := sane_lt hS hn.2 he
            have : ed E e &&& C ≤ ed E e := Nat.and_le_left
            rw [hF, q]; omega
        clear hF
        refine lp (σ := Int32 × gM) (s0 := (nI (nd C F), M2)) (fun k x t => w_X6_explore_L83 (w_X6_explore f) Q _ (nI S) (nI C) (nI (hit1 E S)) (nI (orf n (atS E S))) (nI d) (nI (missE E S)) (nI F) k t.1 x t.2) (fun i t => t.1 = nI (sl n E (sx n E f) S F (nd C F) (A, D, vis + 1, last, up) i).1 ∧ SS (sl n E (sx n E f) S F (nd C F) (A, D, vis + 1, last, up) i).2 t.2 ∧ same [4, 30, 31] M t.2 ∧ t.2 4 7 = M 4 7) n 0 rfl (Nat.zero_le _) ⟨rfl, hg2, s2, v2⟩ ?_ ?_
        · rintro k ⟨tl, t⟩ ⟨k1, k2, k3, k4⟩
          rw [w_X6_explore_L83.eq_2]
          refine gbr_ltF n n rfl (by rw [k3 1 (by decide)]; exact hv) (by omega) (by omega) (Nat.le_refl _) ?_
          exact hq t k2 k3 k4
        · rintro k i ⟨tl, t⟩ hi ⟨k1, k2, k3, k4⟩ ih
          simp only [] at k1 k2 k3 k4
          rw [w_X6_explore_L83.eq_2]
          dsimp only
          have hGt : XG n E t := ⟨hn, hS, by rw [k3 1 (by decide)]; exact hv, by rw [k3 1 (by decide)]; exact hc, by rw [k3 9 (by decide)]; exact hr⟩
          have hXt : XA E t := fun v hv => by rw [k3 10 (by decide)]; exact hX v hv
          refine gbr_ltT i n rfl hGt.2.2.1 (by omega) (by omega) hi ?_
          obtain ⟨P, hP⟩ : ∃ P, P = sl n E (sx n E f) S F (nd C F) (A, D, vis + 1, last, up) i := ⟨_, rfl⟩
          have hsl : sl n E (sx n E f) S F (nd C F) (A, D, vis + 1, last, up) (i + 1) = if P.2.2.2.2.2 = true then P else if F.testBit i = true then (P.1 ||| 2 ^ i, if bd (allP n E (S ||| 2 ^ i)) = true then sx n E f (S ||| 2 ^ i) P.1 P.2 else P.2) else P := by
            rw [sl, ← hP]
          rw [← hP] at k1 k2
          refine gbr_b _ k2.2.2.2.2.2.2.1 (fun y2 => ?_) (fun y2 => ?_)
          · rw [if_neg (by rw [y2]; decide)] at hsl
            refine S_has hFl (by omega) ?_
            refine gbr_b _ rfl (fun y3 => ?_) (fun y3 => ?_)
            · rw [if_neg (by rw [y3]; decide)] at hsl
              refine nm_r (c_add1 i) (ih (tl, t) ?_)
              rw [hsl]
              exact ⟨k1, k2, k3, k4⟩
            · rw [if_pos y3] at hsl
              have hSi := hFS i y3
              rw [c_shl i (by omega), c_or]
              refine nm_e ⟨c_in (by omega) (by omega), ?_⟩
              rw [c_cl (by omega), hXt i (by omega)]
              refine nm_e ?_
              rw [c_nd, c_nd, c_or, once_add hS hSi]
              refine nm_e ?_
              have hS' : S ||| 2 ^ i < 2 ^ n := Nat.or_lt_two_pow hSn (p2_lt hi)
              refine S_allP hGt hXt (by omega) ?_
              refine gbr_b _ rfl (fun y4 => ?_) (fun y4 => ?_)
              · rw [if_neg (by rw [y4]; decide)] at hsl
                rw [k1, c_or]
                refine nm_e (nm_r (c_add1 i) (ih (nI (P.1 ||| 2 ^ i), t) ?_))
                rw [hsl]
                exact ⟨rfl, k2, k3, k4⟩
              · rw [if_pos y4] at hsl
                rw [c_or, hit_add hS, c_add1, k1]
                have hpcA : pc (S ||| 2 ^ i) = pc S + 1 := pc_add (by omega) hSi
                refine ihf (S ||| 2 ^ i) P.1 (d + 1) P.2 t _ hGt hXt k2 hS' (by omega) (by omega) (fun M3 r1 r2 r3 => ?_)
                rw [c_or]
                refine nm_e (nm_r (c_add1 i) (ih (nI (P.1 ||| 2 ^ i), M3) ?_))
                rw [hsl]
                exact ⟨rfl, r1, k3.tr r2, r3.trans k4⟩
          · have hu := sl_up (n := n) (E := E) (rc := sx n E f) (S := S) (F := F) (L0 := nd C F) (g0 := (A, D, vis + 1, last, up)) (i := i) (by rw [← hP]; exact y2) (n - i)
            rw [show i + (n - i) = n by omega, ← hP] at hu
            rw [hu] at hq
            exact hq t k2 k3 k4
    · rw [sx, if_pos z] at hq
      intro M31 e31
      refine hq M31 ⟨?_, ?_, ?_, h4, ?_, ?_, ?_, h8, h9, h10⟩ ?_ ?_
      · rw [e31, gst_k (by decide)]; exact h1
      · rw [e31, gst_n (by decide)]; exact h2
      · rw [e31, gst_n (by decide)]; exact h3
      · rw [e31, gst_k (by decide)]; exact h5
      · rw [e31, gst_k (by decide)]; exact h6
      · rw [e31, gst_s]; rfl
      · rw [e31]; exact same.rfl.st (by decide)
      · rw [e31, gst_k (by decide)]
/-- the whole search -/
noncomputable def srch (n : Nat) (E : List Nat) : sg := sx n E 15 0 (2 ^ n - 1) ([], [], 0, 0, false)
