/-! the class's diagrams -/
theorem lpd {σ : Type} (W : Nat → Int32 → σ → Prop) (I : Nat → σ → Prop) {e : Nat} {x0 : Int32} {s0 : σ} (hx0 : x0 = nI e + (-1)) (h0 : I e s0) (hx : ∀ n s, I 0 s → W (n + 1) (-1) s) (hs : ∀ n r s, r < e → I (r + 1) s → (∀ s', I r s' → W n (nI r + (-1)) s') → W (n + 1) (nI r) s) : ∃ n, W n x0 s0 := by
  subst hx0
  suffices H : ∀ r s, r ≤ e → I r s → W (r + 1) (nI r + (-1)) s from ⟨e + 1, H e s0 (Nat.le_refl _) h0⟩
  intro r
  induction r with
  | zero =>
    intro s _ hI
    rw [show nI 0 + (-1) = (-1 : Int32) by decide]
    exact hx 0 s hI
  | succ r ih =>
    intro s hr hI
    rw [pk_m1]
    exact hs (r + 1) r s (by omega) hI (fun s' h' => ih s' (by omega) h')
def hb (p : Nat × Nat) : Nat := (p.1 * 421 + p.2) % 1024
/-- the name of the last node below k in a bucket, or 0 -/
def prv (NL : nl) (b : Nat) : Nat → Nat
  | 0 => 0
  | k + 1 => if hb (nda NL k) = b then k + 2 else prv NL b k
theorem prv_out (NL : nl) (b k : Nat) : (prv NL b k = 0 ∧ ∀ j, j < k → hb (nda NL j) ≠ b) ∨ ∃ j, j < k ∧ prv NL b k = j + 2 ∧ hb (nda NL j) = b ∧ ∀ i, j < i → i < k → hb (nda NL i) ≠ b := by
  induction k with
  | zero => exact Or.inl ⟨rfl, fun j h => absurd h (Nat.not_lt_zero _)⟩
  | succ k ih =>
    rw [prv]
    by_cases q : hb (nda NL k) = b
    · rw [if_pos q]
      exact Or.inr ⟨k, by omega, rfl, q, fun i a b => by omega⟩
    · rw [if_neg q]
      rcases ih with ⟨a, c⟩ | ⟨j, a, c, d, e⟩
      · refine Or.inl ⟨a, fun i hi => ?_⟩
        rcases Nat.lt_succ_iff_lt_or_eq.mp hi with y | y
        · exact c i y
        · rw [y]; exact q
      · refine Or.inr ⟨j, by omega, c, d, fun i h1 hi => ?_⟩
        rcases Nat.lt_succ_iff_lt_or_eq.mp hi with y | y
        · exact e i h1 y
        · rw [y]; exact q
theorem prv_app {NL : nl} {p : Nat × Nat} {b k : Nat} (h : k ≤ NL.length) : prv (NL ++ [p]) b k = prv NL b k := by
  induction k with
  | zero => rfl
  | succ k ih => rw [prv, prv, nda_app (by omega), ih (by omega)]
def XD (NL : nl) (M : gM) : Prop := M 7 7 = nI (NL.length + 2) ∧ (∀ k, k < NL.length → M 37 (k + 2) = nI (nda NL k).1 ∧ M 38 (k + 2) = nI (nda NL k).2 ∧ M 39 (k + 2) = nI (prv NL (hb (nda NL k)) k) ∧ (nda NL k).1 < 2303 ∧ (nda NL k).2 < 2303) ∧ ∀ b, b < 1024 → M 40 b = nI (prv NL b NL.length)
theorem prv_le (NL : nl) (b k : Nat) : prv NL b k ≤ k + 1 := by
  induction k with
  | zero => exact Nat.zero_le _
  | succ k ih => rw [prv]; split <;> omega
theorem gst_c (M : gM) (i k : Nat) (x : Int32) (l : Nat) : gst M i k x i l = if l = k then x else M i l := by rw [gst_f, if_pos rfl, upd_f]
abbrev dS : List Nat := [7, 37, 38, 39, 40]
theorem S_nodeWith2 {NL : nl} {M : gM} {fr : Nat} {p : Nat × Nat} {Q : Int32 → gM → Prop} (hD : XD NL M) (hl1 : NL.length ≤ 2301) (h1 : p.1 < 2303) (h2 : p.2 < 2303) (hf : fr ≤ 2300) (hnw : NL.length ≤ 2300 ∨ ∃ k, k < NL.length ∧ fr ≤ k ∧ nda NL k = p) (h : ∀ M1, XD (mkNode NL fr p).2 M1 → same dS M M1 → M1 7 8 = M 7 8 → M1 7 9 = M 7 9 → Q (nI (mkNode NL fr p).1) M1) : w_X0_nodeWith (nI p.1) (nI p.2) (nI (fr + 2)) M Q := by
  have hD0 := hD
  obtain ⟨d1, d2, d3⟩ := hD
  unfold w_X0_nodeWith
  have eb : ((nI p.1 * 421 + nI p.2) &&& 1023) = nI (hb p) := by
    rw [show (421 : Int32) = nI 421 from rfl, pk_mul, nI_add, show (1023 : Int32) = nI (2 ^ 10 - 1) from rfl, c_and, Nat.and_two_pow_sub_one_eq_mod]; rfl
  rw [eb]
  have hbl : hb p < 1024 := Nat.mod_lt _ (by decide)
  obtain ⟨b, hbd⟩ : ∃ b, b = hb p := ⟨_, rfl⟩
  rw [← hbd] at hbl ⊢
  refine nm_e ⟨c_in hbl (by decide), ?_⟩
  rw [c_cl (by omega), d3 b hbl]
  refine nm_e ?_
  -- a new node
  have new : (∀ i, fr ≤ i → i < NL.length → nda NL i ≠ p) → gbr ((M 7 7 : Int32) < 2303) (vp_in (M 7 7) 2303 ∧ ∀ M10 : gM, M10 = gst M 37 (Int32.toNatClampNeg (M 7 7)) (nI p.1) → (vp_in (M10 7 7) 2303 ∧ ∀ M11 : gM, M11 = gst M10 38 (Int32.toNatClampNeg (M10 7 7)) (nI p.2) → (vp_in (nI b) 1024 ∧ (vp_in (M11 7 7) 2303 ∧ ∀ M12 : gM, M12 = gst M11 39 (Int32.toNatClampNeg (M11 7 7)) (M11 40 b) → (vp_in (nI b) 1024 ∧ ∀ M13 : gM, M13 = gst M12 40 b (M12 7 7) → (∀ M14 : gM, M14 = gst M13 7 7 ((M13 7 7) + 1) → (Q ((M14 7 7) - 1) M14))))))) (Q 0 M) := by
    intro hno
    have hl : NL.length ≤ 2300 := by
      rcases hnw with q | ⟨k, q1, q2, q3⟩
      · exact q
      · exact absurd q3 (hno k q2 q1)
    refine gbr_ltT (NL.length + 2) 2303 d1 rfl (by omega) (by decide) (by omega) ?_
    rw [d1]
    refine ⟨c_in (by omega) (by decide), ?_⟩
    intro M10 e10
    rw [c_cl (by omega)] at e10
    have v10 : M10 7 7 = nI (NL.length + 2) := by rw [e10, gst_n (by decide)]; exact d1
    rw [v10]
    refine ⟨c_in (by omega) (by decide), ?_⟩
    intro M11 e11
    rw [c_cl (by omega)] at e11
    have v11 : M11 7 7 = nI (NL.length + 2) := by rw [e11, gst_n (by decide)]; exact v10
    rw [v11]
    refine ⟨c_in hbl (by decide), c_in (by omega) (by decide), ?_⟩
    intro M12 e12
    have w11 : M11 40 b = nI (prv NL b NL.length) := by rw [e11, gst_n (by decide), e10, gst_n (by decide)]; exact d3 b hbl
    rw [c_cl (by omega), w11] at e12
    have v12 : M12 7 7 = nI (NL.length + 2) := by rw [e12, gst_n (by decide)]; exact v11
    refine ⟨c_in hbl (by decide), ?_⟩
    intro M13 e13 M14 e14
    rw [v12] at e13
    have v13 : M13 7 7 = nI (NL.length + 2) := by rw [e13, gst_n (by decide)]; exact v12
    rw [v13, c_add1] at e14
    have v14 : M14 7 7 = nI (NL.length + 3) := by rw [e14, gst_s]
    rw [v14, nI_pred]
    rw [mkNode_new hno] at h
    have a37 : ∀ l, M14 37 l = if l = NL.length + 2 then nI p.1 else M 37 l := fun l => by
      rw [e14, gst_n (by decide), e13, gst_n (by decide), e12, gst_n (by decide), e11, gst_n (by decide), e10, gst_c]
    have a38 : ∀ l, M14 38 l = if l = NL.length + 2 then nI p.2 else M 38 l := fun l => by
      rw [e14, gst_n (by decide), e13, gst_n (by decide), e12, gst_n (by decide), e11, gst_c, e10, gst_n (by decide)]
    have a39 : ∀ l, M14 39 l = if l = NL.length + 2 then nI (prv NL b NL.length) else M 39 l := fun l => by
      rw [e14, gst_n (by decide), e13, gst_n (by decide), e12, gst_c, e11, gst_n (by decide), e10, gst_n (by decide)]
    have a40 : ∀ l, M14 40 l = if l = b then nI (NL.length + 2) else M 40 l := fun l => by
      rw [e14, gst_n (by decide), e13, gst_c, e12, gst_n (by decide), e11, gst_n (by decide), e10, gst_n (by decide)]
    refine h M14 ⟨?_, fun k hk => ?_, fun c hc => ?_⟩ ?_ ?_ ?_
    · rw [v14, List.length_append, List.length_singleton]
    · rw [List.length_append, List.length_singleton] at hk
      rw [a37, a38, a39]
      by_cases q : k = NL.length
      · subst q
        rw [if_pos rfl, if_pos rfl, if_pos rfl, nda_last, prv_app (Nat.le_refl _), hbd]
        exact ⟨rfl, rfl, rfl, h1, h2⟩
      · rw [if_neg (by omega), if_neg (by omega), if_neg (by omega), nda_app (by omega), prv_app (by omega)]
        exact d2 k (by omega)
    · rw [a40, List.length_append, List.length_singleton, prv, nda_last, prv_app (Nat.le_refl _), ← hbd]
      by_cases q : c = b
      · rw [if_pos q, if_pos q.symm]
      · rw [if_neg q, if_neg (fun y => q y.symm)]
        exact d3 c hc
    · rw [e14, e13, e12, e11, e10]
      exact ((((same.rfl.st (by decide)).st (by decide)).st (by decide)).st (by decide)).st (by decide)
    · rw [e14, gst_k (by decide), e13, gst_n (by decide), e12, gst_n (by decide), e11, gst_n (by decide), e10, gst_n (by decide)]
    · rw [e14, gst_k (by decide), e13, gst_n (by decide), e12, gst_n (by decide), e11, gst_n (by decide), e10, gst_n (by decide)]
  refine lp (σ := Int32) (fun k x s => w_X0_nodeWith_L25 Q _ _ (nI p.1) (nI p.2) (nI (fr + 2)) (nI b) k s x M) (fun i s => ∃ k, i + k ≤ NL.length ∧ s = nI (prv NL b k) ∧ ∀ j, k ≤ j → j < NL.length → nda NL j ≠ p) 2303 0 rfl (Nat.zero_le _) ⟨NL.length, by omega, rfl, fun j a c => by omega⟩ ?_ ?_
  · rintro k s ⟨m, hm, -⟩
    omega
  · rintro k i s hi ⟨m, hm, rfl, hno⟩ ih
    rw [w_X0_nodeWith_L25.eq_2]
    refine gbr_ltT i 2303 rfl rfl (by omega) (by decide) hi ?_
    have hple := prv_le NL b m
    refine gbr_lt _ _ rfl rfl (by omega) (by omega) (fun z => ?_) (fun z => ?_)
    · refine new (fun j hj hj2 e => ?_)
      by_cases q : m ≤ j
      · exact hno j q hj2 e
      · rcases prv_out NL b m with ⟨-, c⟩ | ⟨j2, a, c, d, f⟩
        · exact c j (by omega) (by rw [e, hbd])
        · rw [c] at z
          exact f j (by omega) (by omega) (by rw [e, hbd])
    · rcases prv_out NL b m with ⟨a, -⟩ | ⟨j, a, c, d, f⟩
      · rw [a] at z; omega
      · rw [c] at z ⊢
        obtain ⟨x1, x2, x3, x4, x5⟩ := d2 j (by omega)
        have hnext : (∀ i, j ≤ i → i < NL.length → nda NL i ≠ p) → w_X0_nodeWith_L25 Q _ _ (nI p.1) (nI p.2) (nI (fr + 2)) (nI b) k (nI (prv NL b j)) (nI (i + 1)) M := fun hn => ih (nI (prv NL b j)) ⟨j, by omega, rfl, hn⟩
        have hno2 : ∀ i, j < i → i < NL.length → nda NL i ≠ p := fun i h3 h4 e => by
          by_cases q : m ≤ i
          · exact hno i q h4 e
          · exact f i h3 (by omega) (by rw [e, hbd])
        have hno3 : nda NL j ≠ p → ∀ i, j ≤ i → i < NL.length → nda NL i ≠ p := fun hne i h3 h4 => by
          by_cases q : i = j
          · rw [q]; exact hne
          · exact hno2 i (by omega) h4
        refine ⟨c_in (by omega) (by decide), ?_⟩
        rw [c_cl (by omega), x1]
        refine gbr_eq _ _ rfl rfl (by omega) (by omega) (fun y => ?_) (fun y => ?_)
        · refine ⟨c_in (by omega) (by decide), ?_⟩
          rw [x2]
          refine gbr_eq _ _ rfl rfl (by omega) (by omega) (fun w => ?_) (fun w => ?_)
          · rw [mkNode_old (fr := fr) (p := p) (j := j) (by omega) (by omega) (Prod.ext y w) hno2] at h
            exact h M hD0 same.rfl rfl rfl
          · refine ⟨c_in (by omega) (by decide), ?_⟩
            rw [x3, d]
            exact nm_e (nm_r (c_add1 i) (hnext (hno3 (fun e => w (by rw [e])))))
        · refine ⟨c_in (by omega) (by decide), ?_⟩
          rw [x3, d]
          exact nm_e (nm_r (c_add1 i) (hnext (hno3 (fun e => y (by rw [e])))))
/-- the diagram kept for a family -/
def CD (ver n : Nat) (E : List Nat) (M : gM) : Prop := old (M 7 9) ver ∧ ∀ what, what < 3 → M 7 9 = nI ver → M 7 8 = nI what → (what = 1 → (srch n E).2.2.2.2 = false) ∧ M 7 7 = nI ((dvs n (famT what E (srch n E).1) n).2.1.length + 2) ∧ ∀ v, v < n → M 36 v = nI ((dvs n (famT what E (srch n E).1) n).2.2 v)
theorem famT_lt (what : Nat) (E A : List Nat) (s : Nat) : famT what E A s < 2 := by
  have hm : ∀ (L : List Nat) k, mkd L k s < 2 := by
    intro L k
    induction k with
    | zero => exact (by decide : 0 < 2)
    | succ k ih => rw [mkd]; split; exact (by decide : 1 < 2); exact ih
  unfold famT
  split
  · exact hm _ _
  · split
    · exact hm _ _
    · unfold fam2; split <;> decide
theorem S_drawNodes {n j : Nat} {T0 : Nat → Nat} {M : gM} {Q : gM → Prop} (hn : 1 ≤ n ∧ n ≤ 14) (h0 : ∀ s, s < 2 ^ n → T0 s < 2) (hj : j < n) (hT : ∀ s, s < 2 ^ (n - j) → M 34 s = nI ((dvs n T0 j).1 s)) (hD : XD (dvs n T0 j).2.1 M) (h : ∀ M1, (∀ s, s < 2 ^ (n - (j + 1)) → M1 34 s = nI ((dvs n T0 (j + 1)).1 s)) → XD (dvs n T0 (j + 1)).2.1 M1 → same (34 :: 36 :: dS) M M1 → M1 7 8 = M 7 8 → M1 7 9 = M 7 9 → (∀ v, M1 36 v = if v = n - 1 - j then nI ((dvs n T0 (j + 1)).2.2 v) else M 36 v) → Q M1) : w_X0_drawNodesAt (nI (n - 1 - j)) M Q := by
  have hfew := fun (i : Nat) (hi : i ≤ 2 ^ (n - 1 - j)) => dl_few hn.2 h0 hj hi
  obtain ⟨T, hTd⟩ : ∃ T, T = (dvs n T0 j).1 := ⟨_, rfl⟩
  obtain ⟨NL, hNL⟩ : ∃ NL, NL = (dvs n T0 j).2.1 := ⟨_, rfl⟩
  obtain ⟨hlen, hval⟩ := dvs_inv h0 j (by omega)
  have hv1 : (dvs n T0 (j + 1)).1 = (dl T NL (2 ^ (n - 1 - j)) (2 ^ (n - 1 - j))).1 := by rw [hTd, hNL]; rfl
  have hv2 : (dvs n T0 (j + 1)).2.1 = (dl T NL (2 ^ (n - 1 - j)) (2 ^ (n - 1 - j))).2 := by rw [hTd, hNL]; rfl
  have hv3 : (dvs n T0 (j + 1)).2.2 (n - 1 - j) = (dl T NL (2 ^ (n - 1 - j)) (2 ^ (n - 1 - j))).2.length - NL.length := by
    show (if n - 1 - j = n - 1 - j then _ else _) = _
    rw [if_pos rfl, hTd, hNL]
  have hub : NL.length ≤ 2301 := by
    have u1 := ub_mono n j n (by omega)
    have u2 := ub_top n (by omega)
    rw [hNL]; omega
  rw [← hTd, ← hNL] at hfew hval
  rw [← hNL] at hlen
  rw [← hTd] at hT
  rw [← hNL] at hD
  rw [hv1, hv2] at h
  clear hv1 hv2
  obtain ⟨half, hh⟩ : ∃ half, half = 2 ^ (n - 1 - j) := ⟨_, rfl⟩
  have hp : 2 ^ (n - j) = half + half := by
    rw [hh, show n - j = (n - 1 - j) + 1 by omega, Nat.pow_succ]; omega
  have h14 : 2 ^ (n - j) ≤ 16384 := p2_14 (by omega)
  have hvl : n - 1 - j < 14 := by omega
  unfold w_X0_drawNodesAt
  rw [c_shl _ (by omega), hD.1]
  refine nm_e (nm_e ?_)
  rw [← hh] at h hfew hv3 ⊢
  rw [hp] at hT hval h14
  have hinv := dl_inv (T := T) (NL := NL) (half := half) (fun s hs => hval s hs)
  refine lp (σ := gM) (fun k x t => w_X0_drawNodesAt_L21 Q _ (nI (n - 1 - j)) (nI (NL.length + 2)) (nI half) k x t) (fun i t => (∀ s, s < half + half → t 34 s = nI ((dl T NL half i).1 s)) ∧ XD (dl T NL half i).2 t ∧ same (34 :: dS) M t ∧ t 7 8 = M 7 8 ∧ t 7 9 = M 7 9) half 0 rfl (Nat.zero_le _) ⟨hT, hD, same.rfl, rfl, rfl⟩ ?_ ?_
  · rintro k t ⟨g1, g2, g3, g4, g5⟩
    rw [w_X0_drawNodesAt_L21.eq_2]
    refine gbr_ltF half half rfl rfl (by omega) (by omega) (Nat.le_refl _) ⟨c_in hvl (by decide), ?_⟩
    intro M12 e12
    have hL := hfew half (by omega)
    obtain ⟨B, b1, -, -, -, -, -⟩ := hinv half (Nat.le_refl _)
    have hge : NL.length ≤ (dl T NL half half).2.length := by rw [b1, List.length_append]; omega
    rw [c_cl (by omega), g2.1, pk_sub (by omega), show (dl T NL half half).2.length + 2 - (NL.length + 2) = (dl T NL half half).2.length - NL.length by omega] at e12
    refine h M12 (fun s hs => ?_) ?_ ?_ ?_ ?_ (fun v => ?_)
    · have e1 : n - (j + 1) = n - 1 - j := by omega
      rw [e1, ← hh] at hs
      rw [e12, gst_n (by decide)]
      exact g1 s (by omega)
    · obtain ⟨x1, x2, x3⟩ := g2
      refine ⟨by rw [e12, gst_n (by decide)]; exact x1, fun k hk => ?_, fun c hc => by rw [e12, gst_n (by decide)]; exact x3 c hc⟩
      rw [e12, gst_n (by decide), gst_n (by decide), gst_n (by decide)]
      exact x2 k hk
    · rw [e12]; exact (g3.sub (by decide)).st (by decide)
    · rw [e12, gst_n (by decide)]; exact g4
    · rw [e12, gst_n (by decide)]; exact g5
    · rw [e12, gst_c]
      by_cases q : v = n - 1 - j
      · rw [if_pos q, if_pos q, q, hv3]
      · rw [if_neg q, if_neg q, g3 36 (by decide)]
  · rintro k i t hi ⟨g1, g2, g3, g4, g5⟩ ih
    rw [w_X0_drawNodesAt_L21.eq_2]
    obtain ⟨B, b1, b2, b3, b4, b5, b6⟩ := hinv i (by omega)
    have hL := hfew i (by omega)
    have hL1 := hfew (i + 1) (by omega)
    have ei : (dl T NL half i).1 i = T i := b5 i (Nat.le_refl _)
    have eh : (dl T NL half i).1 (half + i) = T (half + i) := b5 _ (by omega)
    have l1 := hval i (by omega)
    have l2 := hval (half + i) (by omega)
    have hge : NL.length ≤ (dl T NL half i).2.length := by rw [b1, List.length_append]; omega
    refine gbr_ltT i half rfl rfl (by omega) (by omega) hi ?_
    rw [nI_add]
    refine ⟨c_in (by omega) (by decide), ?_⟩
    rw [c_cl (by omega), g1 _ (by omega), eh]
    refine nm_e ?_
    rw [dl, ei, eh] at hL1
    have hdl : dl T NL half (i + 1) = if T (half + i) = 0 then dl T NL half i else (fun s => if s = i then (mkNode (dl T NL half i).2 NL.length (T i, T (half + i))).1 else (dl T NL half i).1 s, (mkNode (dl T NL half i).2 NL.length (T i, T (half + i))).2) := by rw [dl, ei, eh]
    refine gbr_eq _ 0 rfl rfl (by omega) (by decide) (fun z => ?_) (fun z => ?_)
    · refine nm_r (c_add1 i) (ih t ?_)
      rw [hdl, if_pos z]
      exact ⟨g1, g2, g3, g4, g5⟩
    · rw [if_neg z] at hL1 hdl
      refine ⟨c_in (by omega) (by decide), ?_⟩
      rw [c_cl (by omega), g1 i (by omega), ei]
      have hnew : (dl T NL half i).2.length ≤ 2300 ∨ ∃ k, k < (dl T NL half i).2.length ∧ NL.length ≤ k ∧ nda (dl T NL half i).2 k = (T i, T (half + i)) := by
        rcases mkNode_out (NL := (dl T NL half i).2) (fr := NL.length) (p := (T i, T (half + i))) with ⟨k, a1, a2, a3, -⟩ | ⟨-, a2⟩
        · exact Or.inr ⟨k, a1, a2, a3⟩
        · rw [a2] at hL1
          rw [List.length_append, List.length_singleton] at hL1
          exact Or.inl (by omega)
      have hfr : NL.length ≤ 2300 := by
        rcases hnew with q | ⟨k, q1, q2, -⟩
        · omega
        · omega
      refine S_nodeWith2 (p := (T i, T (half + i))) (fr := NL.length) g2 hL (by show T i < 2303; omega) (by show T (half + i) < 2303; omega) hfr hnew (fun M1 k1 k2 k3 k4 => ?_)
      refine ⟨c_in (by omega) (by decide), ?_⟩
      intro M7 e7
      refine nm_r (c_add1 i) (ih M7 ?_)
      rw [hdl]
      refine ⟨fun s hs => ?_, ?_, ?_, ?_, ?_⟩
      · rw [e7, gst_c]
        show _ = nI (if s = i then _ else _)
        by_cases q : s = i
        · rw [if_pos q, if_pos q]
        · rw [if_neg q, if_neg q, k2 34 (by decide)]; exact g1 s hs
      · obtain ⟨x1, x2, x3⟩ := k1
        refine ⟨by rw [e7, gst_n (by decide)]; exact x1, fun k hk => ?_, fun c hc => by rw [e7, gst_n (by decide)]; exact x3 c hc⟩
        rw [e7, gst_n (by decide), gst_n (by decide), gst_n (by decide)]
        exact x2 k hk
      · rw [e7]; exact (g3.tr (k2.sub (by decide))).st (by decide)
      · rw [e7, gst_n (by decide), k3]; exact g4
      · rw [e7, gst_n (by decide), k4]; exact g5
