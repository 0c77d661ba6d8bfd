/-! the reference's search is the search -/
section
variable {n : Nat} {E : List Nat}
theorem N_iter {d t S L c tr h lo : Nat} {M : gM} {Q : gM → Prop} {K : Int32 → gM → Prop} (hG : RG n E M) (hd : d < 15) (h9 : M 42 9 = 0) (h49 : M 49 d = nI S) (h50 : M 50 d = nI c) (h52 : M 52 d = nI tr) (hL : c ||| tr = L) (h51 : M 51 d = nI h) (hS : S ||| lo < 2147483648) (hlo : nI h &&& -(nI h) = nI lo) (hl : lo < 2147483648)
    (k0 : lo = 0 → ∀ M1, same [50, 51, 52] M M1 → stk d M M1 → w_X9_search_L51 Q K t (nI d + (-1)) M1)
    (k1 : lo ≠ 0 → ∀ M1, same [50, 51, 52] M M1 → stk d M M1 → M1 50 d = nI L → M1 52 d = nI lo → M1 51 d = nI (nd h lo) →
      (bd (allP n E (S ||| lo)) = false → w_X9_search_L51 Q K t (nI d) M1) ∧
      (bd (allP n E (S ||| lo)) = true → M1 42 8 = 4000 → w_X9_search_L51 Q K t (nI d) (gst M1 42 9 1)) ∧
      (bd (allP n E (S ||| lo)) = true → M1 42 8 ≠ 4000 → w_X9_visit (nI (d + 1)) (gst (gst M1 49 (d + 1) (nI (S ||| lo))) 50 (d + 1) (nI L)) (fun r M20 => gbr ((r : Int32) = 0) (w_X9_search_L51 Q K t (nI d) M20) (w_X9_search_L51 Q K t (nI (d + 1)) M20)))) :
    w_X9_search_L51 Q K (t + 1) (nI d) M := by
  have vd : vp_in (nI d) 16 := c_in (by omega) (by decide)
  have vd1 : vp_in (nI (d + 1)) 16 := c_in (by omega) (by decide)
  rw [w_X9_search_L51.eq_2]
  refine gbr_f (nI_lt0 (by omega)) (gbr_t h9 ⟨vd, vd, vd, ?_⟩)
  rw [c_cl (by omega), h50, h52, c_or, hL]
  intro M11 e11
  refine ⟨vd, ?_⟩
  unfold w_X9_lowest
  rw [show M11 51 = M 51 by rw [e11, gst_n (by decide)], h51, hlo]
  refine ⟨vd, ?_⟩
  intro M14 e14
  refine ⟨vd, vd, vd, ?_⟩
  rw [show M14 51 = M 51 by rw [e14, gst_n (by decide), e11, gst_n (by decide)], h51, show M14 52 d = nI lo by rw [e14, gst_s], c_nd]
  intro M15 e15
  have hs : same [50, 51, 52] M M15 := by
    rw [e15, e14, e11]; exact ((same.rfl.st (by decide)).st (by decide)).st (by decide)
  have hk : stk d M M15 := by
    rw [e15, e14, e11]; exact stk_st (stk_st (stk_st stk.rfl (Nat.le_refl _)) (Nat.le_refl _)) (Nat.le_refl _)
  have x52 : M15 52 d = nI lo := by rw [e15, gst_n (by decide), e14, gst_s]
  have x50 : M15 50 d = nI L := by rw [e15, gst_n (by decide), e14, gst_n (by decide), e11, gst_s]
  have x51 : M15 51 d = nI (nd h lo) := by rw [e15, gst_s]
  have x49 : M15 49 d = nI S := by rw [hs 49 (by decide)]; exact h49
  refine ⟨vd, ?_⟩
  rw [x52]
  refine gbr_eq lo 0 rfl rfl hl (by decide) (fun q => ?_) (fun q => ?_)
  · exact nm_e (k0 q M15 hs hk)
  · obtain ⟨j1, j2, j3⟩ := k1 q M15 hs hk x50 x52 x51
    refine ⟨vd, vd, ?_⟩
    rw [x49, c_or]
    have hG15 : RG n E M15 := RG_s hG (hs 43 (by decide)) (by rw [hs 42 (by decide)])
    refine N_allP hG15 hS ?_
    refine gbr_b _ rfl (fun z => j1 z) (fun z => ?_)
    refine gbr_c (fun y => nm_e (j2 z y)) (fun y => ?_)
    refine ⟨vd, vd, ?_⟩
    rw [c_add1, c_cl (by omega), x49, x52, c_or]
    refine ⟨vd1, ?_⟩
    intro M18 e18
    refine ⟨vd, vd1, ?_⟩
    rw [show M18 50 d = nI L by rw [e18, gst_n (by decide)]; exact x50]
    intro M19 e19
    have g := j3 z y
    rw [← e18, ← e19] at g
    have e0 : nI d + 0 = nI d := by rw [show (0 : Int32) = nI 0 from rfl, nI_add]; rfl
    rw [e0]
    have eq : (fun (r21 : Int32) (M20 : gM) => gbr ((r21 : Int32) = 0) (∀ x22 : Int32, x22 = nI d → w_X9_search_L51 Q K t x22 M20) (∀ x23 : Int32, x23 = nI (d + 1) → w_X9_search_L51 Q K t x23 M20)) = (fun r M20 => gbr ((r : Int32) = 0) (w_X9_search_L51 Q K t (nI d) M20) (w_X9_search_L51 Q K t (nI (d + 1)) M20)) := by
      funext r M20
      rw [forall_eq, forall_eq]
    rw [eq]
    exact g
/-- the bits from i on -/
def hiF (n F i : Nat) : Nat := mk n (fun j => decide (i ≤ j) && F.testBit j)
theorem hiF_0 {F : Nat} (h : F < 2 ^ n) : hiF n F 0 = F := (mk_of fun i => by
  by_cases q : i < n
  · simp [q]
  · rw [tb_big h (by omega)]; simp [q]).symm
theorem hiF_n (F : Nat) : hiF n F n = 0 := mk_0.mpr (fun i hi => by rw [decide_eq_false (by omega)]; rfl)
theorem hiF_no {F i : Nat} (h : F.testBit i = false) : hiF n F i = hiF n F (i + 1) := mk_cg (fun j _ => by
  by_cases q : j = i
  · rw [q, h, Bool.and_false, Bool.and_false]
  · rw [show decide (i ≤ j) = decide (i + 1 ≤ j) from decide_eq_decide.mpr (by omega)])
theorem hiF_tb (F i j : Nat) : (hiF n F i).testBit j = (decide (j < n) && (decide (i ≤ j) && F.testBit j)) := mk_tb _ _ _
theorem hiF_nd {F i : Nat} : nd (hiF n F i) (2 ^ i) = hiF n F (i + 1) := by
  refine Nat.eq_of_testBit_eq fun j => ?_
  rw [nd_tb, hiF_tb, hiF_tb, tb_pow]
  by_cases q : i = j
  · subst q
    rw [decide_eq_true rfl, decide_eq_false (show ¬ i + 1 ≤ i by omega)]; simp
  · rw [decide_eq_false q, show decide (i ≤ j) = decide (i + 1 ≤ j) from decide_eq_decide.mpr (by omega)]; simp
theorem sl_lt {rc : Nat → Nat → sg → sg} {S F L0 : Nat} {g0 : sg} (h : L0 < 2 ^ n) : ∀ i, i ≤ n → (sl n E rc S F L0 g0 i).1 < 2 ^ n := by
  intro i
  induction i with
  | zero => intro _; exact h
  | succ i ih =>
    intro hi
    rw [sl]
    split
    · exact ih (by omega)
    · split
      · exact Nat.or_lt_two_pow (ih (by omega)) (p2_lt (by omega))
      · exact ih (by omega)
/-- a child's visit and all that follows, at depth d -/
def Vok (n : Nat) (E : List Nat) (d S C : Nat) (g R : sg) : Prop := ∃ k, ∀ t (M : gM) (Q : gM → Prop) (K : Int32 → gM → Prop), RG n E M → SM n g M → M 49 d = nI S → M 50 d = nI C →
  (R.2.2.2.2 = false → ∀ M1, SM n R M1 → FR M M1 → stk d M M1 → w_X9_search_L51 Q K t (nI d + (-1)) M1) →
  (R.2.2.2.2 = true → ∀ M1 x, SM n R M1 → FR M M1 → K x M1) →
  ∀ Z : Int32 → gM → Prop, (∀ M1, w_X9_search_L51 Q K (t + k) (nI d + (-1)) M1 → Z 0 M1) → (∀ M1, w_X9_search_L51 Q K (t + k) (nI d) M1 → Z 1 M1) → w_X9_visit (nI d) M Z
theorem SM_b {g : sg} {M : gM} (h : SM n g M) (hu : g.2.2.2.2 = false) : M 42 9 = 0 := by
  rw [h.2.2.2.2.2.2.1, hu]; rfl
theorem FR_of {M M1 : gM} (h : same [49, 50, 51, 52] M M1) : FR M M1 := ⟨h.sub (fun i hi => by simp only [List.mem_cons, List.not_mem_nil, or_false] at hi ⊢; omega), fun i _ => by rw [h 42 (by decide)]⟩
theorem sub4 {M M1 : gM} (h : same [50, 51, 52] M M1) : same [49, 50, 51, 52] M M1 := h.sub (fun i hi => by simp only [List.mem_cons, List.not_mem_nil, or_false] at hi ⊢; omega)
theorem B_loop {d S F L0 : Nat} {g0 : sg} {rc : Nat → Nat → sg → sg} (hn : 1 ≤ n ∧ n ≤ 14) (hd : d < 15) (hS : S < 2 ^ n) (hL0 : L0 < 2 ^ n) (hFS : ∀ v, F.testBit v = true → S.testBit v = false) (hpc : pc S = d)
    (hgu : ∀ S1 C1 g1, pc S1 = d + 1 → S1 < 2 ^ n → 4000 ≤ g1.2.2.1 → rc S1 C1 g1 = (g1.1, g1.2.1, g1.2.2.1, g1.2.2.2.1, true))
    (child : ∀ S1 C1 g1, pc S1 = d + 1 → S1 < 2 ^ n → C1 < 2 ^ n → g1.2.2.2.2 = false → g1.2.2.1 < 4000 → Vok n E (d + 1) S1 C1 g1 (rc S1 C1 g1)) :
    ∀ j i, i + j = n → (sl n E rc S F L0 g0 i).2.2.2.2.2 = false → ∃ k, ∀ t (M : gM) (Q : gM → Prop) (K : Int32 → gM → Prop) (c tr : Nat), RG n E M → SM n (sl n E rc S F L0 g0 i).2 M → M 49 d = nI S → M 50 d = nI c → M 52 d = nI tr → c ||| tr = (sl n E rc S F L0 g0 i).1 → M 51 d = nI (hiF n F i) →
      ((sl n E rc S F L0 g0 n).2.2.2.2.2 = false → ∀ M1, SM n (sl n E rc S F L0 g0 n).2 M1 → FR M M1 → stk d M M1 → w_X9_search_L51 Q K t (nI d + (-1)) M1) →
      ((sl n E rc S F L0 g0 n).2.2.2.2.2 = true → ∀ M1 x, SM n (sl n E rc S F L0 g0 n).2 M1 → FR M M1 → K x M1) →
      w_X9_search_L51 Q K (t + k) (nI d) M := by
  have h14 := p2_14 hn.2
  intro j
  induction j with
  | zero =>
    intro i hi hu
    rw [Nat.add_zero] at hi
    subst hi
    refine ⟨1, ?_⟩
    intro t M Q K c tr hG hM h49 h50 h52 hct h51 post _
    rw [hiF_n] at h51
    refine N_iter hG hd (SM_b hM hu) h49 h50 h52 hct h51 (lo := 0) (by rw [Nat.or_zero]; omega) (by decide) (by decide) (fun _ M1 a1 a2 => ?_) (fun q => absurd rfl q)
    exact post hu M1 (SM_s hM (sub4 a1)) (FR_of (sub4 a1)) a2
  | succ j ih =>
    intro i hi hu
    have hin : i < n := by omega
    have hLi := sl_lt (E := E) (rc := rc) (S := S) (F := F) (g0 := g0) hL0 i (by omega)
    have es : sl n E rc S F L0 g0 (i + 1) = if F.testBit i = true then ((sl n E rc S F L0 g0 i).1 ||| 2 ^ i, if bd (allP n E (S ||| 2 ^ i)) = true then rc (S ||| 2 ^ i) (sl n E rc S F L0 g0 i).1 (sl n E rc S F L0 g0 i).2 else (sl n E rc S F L0 g0 i).2) else sl n E rc S F L0 g0 i := by
      rw [sl, if_neg (by rw [hu]; simp)]
    cases hb : F.testBit i with
    | false =>
      rw [if_neg (by rw [hb]; simp)] at es
      have r := ih (i + 1) (by omega) (by rw [es]; exact hu)
      rw [es, ← hiF_no hb] at r
      exact r
    | true =>
      rw [if_pos hb] at es
      obtain ⟨Li, hLi2⟩ : ∃ x, x = (sl n E rc S F L0 g0 i).1 := ⟨_, rfl⟩
      obtain ⟨gi, hgi⟩ : ∃ x, x = (sl n E rc S F L0 g0 i).2 := ⟨_, rfl⟩
      rw [← hLi2, ← hgi] at es
      rw [← hLi2] at hLi
      rw [← hgi] at hu
      rw [← hLi2, ← hgi]
      have hS2 : S ||| 2 ^ i < 2 ^ n := Nat.or_lt_two_pow hS (p2_lt hin)
      have hpc2 : pc (S ||| 2 ^ i) = d + 1 := by rw [pc_add (by omega) (hFS i hb), hpc]
      have hpi := p2_lt hin
      have hh : hiF n F i < 2 ^ n := mk_lt _ _
      have hlow : nI (hiF n F i) &&& -(nI (hiF n F i)) = nI (2 ^ i) := c_low (by omega) (by rw [hiF_tb, decide_eq_true hin, decide_eq_true (Nat.le_refl i), hb]; rfl) (fun j hj => by rw [hiF_tb, decide_eq_false (show ¬ i ≤ j by omega)]; simp)
      have hp0 : 2 ^ i ≠ 0 := by have := Nat.two_pow_pos i; omega
      cases ha : bd (allP n E (S ||| 2 ^ i)) with
      | false =>
        rw [if_neg (by rw [ha]; simp)] at es
        obtain ⟨k, hk⟩ := ih (i + 1) (by omega) (by rw [es]; exact hu)
        rw [es] at hk
        refine ⟨k + 1, ?_⟩
        intro t M Q K c tr hG hM h49 h50 h52 hct h51 post hup
        refine N_iter (t := t + k) hG hd (SM_b hM hu) h49 h50 h52 hct h51 (by omega) hlow (by omega) (fun q => absurd q hp0) (fun _ M1 a1 a2 a3 a4 a5 => ⟨fun _ => ?_, fun q => (by rw [ha] at q; cases q), fun q => (by rw [ha] at q; cases q)⟩)
        have f1 := FR_of (sub4 a1)
        rw [hiF_nd] at a5
        refine hk t M1 Q K Li (2 ^ i) (FR_RG hG f1) (SM_s hM (sub4 a1)) (by rw [a1 49 (by decide)]; exact h49) a3 a4 rfl a5 (fun q M2 b1 b2 b3 => post q M2 b1 (f1.tr b2) (a2.tr b3)) (fun q M2 x b1 b2 => hup q M2 x b1 (f1.tr b2))
      | true =>
        rw [if_pos ha] at es
        by_cases hv : 4000 ≤ gi.2.2.1
        · have er := hgu (S ||| 2 ^ i) Li gi hpc2 hS2 hv
          rw [er] at es
          have eu := sl_up (n := n) (E := E) (rc := rc) (S := S) (F := F) (L0 := L0) (g0 := g0) (i := i + 1) (by rw [es]) j
          rw [show i + 1 + j = n by omega, es] at eu
          refine ⟨2, ?_⟩
          intro t M Q K c tr hG hM h49 h50 h52 hct h51 post hup
          rw [eu] at hup
          have f8 := hM.2.2.2.2.2.2.2.1
          refine N_iter (t := t + 1) hG hd (SM_b hM hu) h49 h50 h52 hct h51 (by omega) hlow (by omega) (fun q => absurd q hp0) (fun _ M1 a1 a2 a3 a4 a5 => ⟨fun q => (by rw [ha] at q; cases q), fun _ _ => ?_, fun _ q => absurd ?_ q⟩)
          · have f1 := FR_of (sub4 a1)
            rw [w_X9_search_L51.eq_2]
            refine gbr_f (nI_lt0 (by omega)) (gbr_f (by rw [gst_s]; decide) ?_)
            refine hup rfl _ _ ?_ (f1.sf (by decide))
            obtain ⟨c1, c2, c3, c4, c5, c6, c7, c8⟩ := SM_s hM (sub4 a1)
            exact ⟨by rw [gst_k (by decide)]; exact c1, by rw [gst_n (by decide)]; exact c2, by rw [gst_n (by decide)]; exact c3, c4, by rw [gst_k (by decide)]; exact c5, by rw [gst_k (by decide)]; exact c6, by rw [gst_s]; rfl, c8⟩
          · rw [a1 42 (by decide), hM.2.2.2.2.1, show gi.2.2.1 = 4000 by omega]; rfl
        · obtain ⟨kc, hkc⟩ := child (S ||| 2 ^ i) Li gi hpc2 hS2 hLi hu (by omega)
          obtain ⟨g2, hg2⟩ : ∃ x, x = rc (S ||| 2 ^ i) Li gi := ⟨_, rfl⟩
          rw [← hg2] at es hkc
          have ne8 : ∀ M1 : gM, SM n gi M1 → M1 42 8 ≠ 4000 := fun M1 h q => by
            rw [h.2.2.2.2.1] at q
            have := nI_inj (b := 4000) (by omega) (by decide) q
            omega
          cases hu2 : g2.2.2.2.2 with
          | true =>
            have eu := sl_up (n := n) (E := E) (rc := rc) (S := S) (F := F) (L0 := L0) (g0 := g0) (i := i + 1) (by rw [es]; exact hu2) j
            rw [show i + 1 + j = n by omega, es] at eu
            refine ⟨kc + 1, ?_⟩
            intro t M Q K c tr hG hM h49 h50 h52 hct h51 post hup
            rw [eu] at hup
            refine N_iter (t := t + kc) hG hd (SM_b hM hu) h49 h50 h52 hct h51 (by omega) hlow (by omega) (fun q => absurd q hp0) (fun _ M1 a1 a2 a3 a4 a5 => ⟨fun q => (by rw [ha] at q; cases q), fun _ q => absurd q (ne8 M1 (SM_s hM (sub4 a1))), fun _ _ => ?_⟩)
            have f1 := FR_of (sub4 a1)
            have sM : same [49, 50, 51, 52] M (gst (gst M1 49 (d + 1) (nI (S ||| 2 ^ i))) 50 (d + 1) (nI Li)) := ((sub4 a1).st (by decide)).st (by decide)
            have r := hkc t (gst (gst M1 49 (d + 1) (nI (S ||| 2 ^ i))) 50 (d + 1) (nI Li)) Q K (FR_RG hG (FR_of sM)) (SM_s hM sM) (by rw [gst_n (by decide), gst_s]) (by rw [gst_s]) (fun q => (by rw [hu2] at q; cases q)) (fun q M2 x b1 b2 => hup hu2 M2 x b1 ((FR_of sM).tr b2))
            exact r _ (fun M3 q => gbr_t rfl (by rw [nI_dec] at q; exact q)) (fun M3 q => gbr_f (by decide) q)
          | false =>
            obtain ⟨k2, hk2⟩ := ih (i + 1) (by omega) (by rw [es]; exact hu2)
            rw [es] at hk2
            refine ⟨k2 + kc + 1, ?_⟩
            intro t M Q K c tr hG hM h49 h50 h52 hct h51 post hup
            refine N_iter (t := t + (k2 + kc)) hG hd (SM_b hM hu) h49 h50 h52 hct h51 (by omega) hlow (by omega) (fun q => absurd q hp0) (fun _ M1 a1 a2 a3 a4 a5 => ⟨fun q => (by rw [ha] at q; cases q), fun _ q => absurd q (ne8 M1 (SM_s hM (sub4 a1))), fun _ _ => ?_⟩)
            rw [← Nat.add_assoc]
            have sM : same [49, 50, 51, 52] M (gst (gst M1 49 (d + 1) (nI (S ||| 2 ^ i))) 50 (d + 1) (nI Li)) := ((sub4 a1).st (by decide)).st (by decide)
            have sK : stk (d + 1) M1 (gst (gst M1 49 (d + 1) (nI (S ||| 2 ^ i))) 50 (d + 1) (nI Li)) := stk_st (stk_st stk.rfl (Nat.le_refl _)) (Nat.le_refl _)
            rw [hiF_nd] at a5
            have r := hkc (t + k2) (gst (gst M1 49 (d + 1) (nI (S ||| 2 ^ i))) 50 (d + 1) (nI Li)) Q K (FR_RG hG (FR_of sM)) (SM_s hM sM) (by rw [gst_n (by decide), gst_s]) (by rw [gst_s]) (fun _ M2 b1 b2 b3 => ?_) (fun q => (by rw [hu2] at q; cases q))
            · exact r _ (fun M3 q => gbr_t rfl (by rw [nI_dec] at q; exact q)) (fun M3 q => gbr_f (by decide) q)
            · rw [nI_dec]
              have b4 := sK.tr b3
              obtain ⟨q1, q2, q3, q4⟩ := b4 d (Nat.lt_succ_self d)
              have f2 := (FR_of sM).tr b2
              refine hk2 t M2 Q K Li (2 ^ i) (FR_RG hG f2) b1 (by rw [q1, a1 49 (by decide)]; exact h49) (by rw [q2]; exact a3) (by rw [q4]; exact a4) rfl (by rw [q3]; exact a5) (fun q M3 d1 d2 d3 => post q M3 d1 (f2.tr d2) ((a2.tr (b4.le (by omega))).tr d3)) (fun q M3 x d1 d2 => hup q M3 x d1 (f2.tr d2))
theorem V_all (hS0 : sane n E) (hn : 1 ≤ n ∧ n ≤ 14) : ∀ f d S C g, d + f = 14 → pc S = d → S < 2 ^ n → C < 2 ^ n → g.2.2.2.2 = false → g.2.2.1 < 4000 → Vok n E d S C g (sx n E (f + 1) S C g) := by
  have node : ∀ f d S C g, d + f = 14 → pc S = d → S < 2 ^ n → C < 2 ^ n → g.2.2.2.2 = false → g.2.2.1 < 4000 →
      (∀ S1 C1 g1, pc S1 = d + 1 → S1 < 2 ^ n → 4000 ≤ g1.2.2.1 → sx n E f S1 C1 g1 = (g1.1, g1.2.1, g1.2.2.1, g1.2.2.2.1, true)) →
      (∀ S1 C1 g1, pc S1 = d + 1 → S1 < 2 ^ n → C1 < 2 ^ n → g1.2.2.2.2 = false → g1.2.2.1 < 4000 → Vok n E (d + 1) S1 C1 g1 (sx n E f S1 C1 g1)) → Vok n E d S C g (sx n E (f + 1) S C g) := by
    intro f d S C g hdf hpc hS hC hu hv hgu child
    have h14 := p2_14 hn.2
    have ex : sx n E (f + 1) S C g = if missE E S = 0 then sKeep S (g.1, g.2.1, g.2.2.1 + 1, g.2.2.2) else (sl n E (sx n E f) S (fcf E (missE E S) C E.length).1 (nd C (fcf E (missE E S) C E.length).1) (g.1, g.2.1, g.2.2.1 + 1, g.2.2.2) n).2 := by
      rw [sx, if_neg (by omega)]
    by_cases hm : missE E S = 0
    · rw [if_pos hm] at ex
      rw [ex]
      refine ⟨0, ?_⟩
      intro t M Q K hG hg h49 h50 post _ Z z0 z1
      refine N_visit hG hg (by omega) h49 h50 hS hv (fun _ M1 a1 a2 a3 => ?_) (fun q => absurd hm q)
      exact z0 _ (post hu M1 a1 a2 (a3.le (by omega)))
    · rw [if_neg hm] at ex
      obtain ⟨F, hF⟩ : ∃ F, F = (fcf E (missE E S) C E.length).1 := ⟨_, rfl⟩
      have hFS : ∀ v, F.testBit v = true → S.testBit v = false := fun v hv => (F_S (by rw [← hF]; exact hv)).1
      have hFC : ∀ v, F.testBit v = true → C.testBit v = true := fun v hv => (F_S (by rw [← hF]; exact hv)).2
      have hFl : F < 2 ^ n := Nat.lt_pow_two_of_testBit _ (fun i hi => by
        cases z : F.testBit i
        · rfl
        · have := hFC i z
          rw [tb_big hC hi] at this; cases this)
      rw [← hF] at ex
      rw [ex]
      obtain ⟨k, hk⟩ := B_loop (F := F) (L0 := nd C F) (g0 := (g.1, g.2.1, g.2.2.1 + 1, g.2.2.2)) hn (by omega) hS (nd_lt hC) hFS hpc hgu child n 0 (Nat.zero_add _) hu
      by_cases h0 : F = 0
      · have e0 : ∀ i, sl n E (sx n E f) S F (nd C F) (g.1, g.2.1, g.2.2.1 + 1, g.2.2.2) i = (nd C F, g.1, g.2.1, g.2.2.1 + 1, g.2.2.2) := by
          intro i
          induction i with
          | zero => rfl
          | succ i ih => rw [sl, ih, if_neg (by rw [show (nd C F, g.1, g.2.1, g.2.2.1 + 1, g.2.2.2).2.2.2.2.2 = g.2.2.2.2 from rfl, hu]; simp), if_neg (by rw [h0, Nat.zero_testBit]; simp)]
        rw [e0]
        refine ⟨0, ?_⟩
        intro t M Q K hG hg h49 h50 post _ Z z0 z1
        refine N_visit hG hg (by omega) h49 h50 hS hv (fun q => absurd q hm) (fun _ M1 F1 hF1 a1 a2 a3 _ _ _ _ => ?_)
        rw [hF1, ← hF, h0]
        exact gbr_t rfl (z0 _ (post hu M1 a1 a2 a3))
      · refine ⟨k, ?_⟩
        intro t M Q K hG hg h49 h50 post hup Z z0 z1
        refine N_visit hG hg (by omega) h49 h50 hS hv (fun q => absurd q hm) (fun _ M1 F1 hF1 a1 a2 a3 a4 a5 a6 a7 => ?_)
        rw [← hF] at hF1
        subst hF1
        refine gbr_eq F1 0 rfl rfl (by omega) (by decide) (fun q => absurd q h0) (fun _ => z1 _ ?_)
        exact hk t M1 Q K (nd C F1) 0 (FR_RG hG a2) a1 a4 a5 a7 (Nat.or_zero _) (by rw [hiF_0 hFl]; exact a6) (fun q M2 b1 b2 b3 => post q M2 b1 (a2.tr b2) (a3.tr b3)) (fun q M2 x b1 b2 => hup q M2 x b1 (a2.tr b2))
  intro f
  induction f with
  | zero =>
    intro d S C g hdf hpc hS hC hu hv
    have no : ∀ S1, pc S1 = d + 1 → S1 < 2 ^ n → False := fun S1 h1 h2 => by
      have := pc_le (n := n) (by omega) h2
      omega
    exact node 0 d S C g hdf hpc hS hC hu hv (fun S1 _ _ h1 h2 _ => (no S1 h1 h2).elim) (fun S1 _ _ h1 h2 _ _ _ => (no S1 h1 h2).elim)
  | succ f ih =>
    intro d S C g hdf hpc hS hC hu hv
    refine node (f + 1) d S C g hdf hpc hS hC hu hv (fun S1 C1 g1 _ _ h3 => ?_) (fun S1 C1 g1 h1 h2 h3 h4 h5 => ?_)
    · rw [sx, if_pos h3]
    · exact ih (d + 1) S1 C1 g1 (by omega) h1 h2 h3 h4 h5
end
theorem N_search {n : Nat} {E : List Nat} {M : gM} {Q : gM → Prop} (hG : RG n E M) (h : ∀ M1, SM n (srch n E) M1 → FR M M1 → Q M1) : w_X9_search M Q := by
  have hn := hG.1
  have h14 := p2_14 hn.2
  have hp := Nat.two_pow_pos n
  unfold w_X9_search
  intro M1 e1 M2 e2 M3 e3 M4 e4
  refine ⟨c_in (k := 0) (by decide) (by decide), ?_⟩
  rw [show Int32.toNatClampNeg 0 = 0 from rfl]
  intro M5 e5
  have f5 : FR M M5 := by
    rw [e5, e4, e3, e2, e1]
    exact ((((FR.rfl.sf (by decide)).sf (by decide)).sf (by decide)).sf (by decide)).st (by decide)
  have hG5 := FR_RG hG f5
  refine N_whole hn.2 hG5.2.2.1 ?_
  refine ⟨c_in (k := 0) (by decide) (by decide), ?_⟩
  intro M8 e8
  have x42 : M8 42 = M4 42 := by rw [e8, gst_n (by decide), e5, gst_n (by decide)]
  have s8 : SM n ([], [], 0, 0, false) M8 := by
    refine ⟨?_, fun i hi => absurd hi (Nat.not_lt_zero _), fun i hi => absurd hi (Nat.not_lt_zero _), rfl, ?_, ?_, ?_, Nat.zero_le _, Nat.zero_le _, Nat.zero_le _, fun i hi => absurd hi (Nat.not_lt_zero _)⟩
    · rw [x42, e4, gst_k (by decide), e3, gst_k (by decide), e2, gst_k (by decide), e1, gst_s]; rfl
    · rw [x42, e4, gst_k (by decide), e3, gst_k (by decide), e2, gst_s]; rfl
    · rw [x42, e4, gst_k (by decide), e3, gst_s]; rfl
    · rw [x42, e4, gst_s]; rfl
  have f8 : FR M M8 := by rw [e8]; exact f5.st (by decide)
  obtain ⟨k, hk⟩ := V_all hG.2.1 hn 14 0 0 (2 ^ n - 1) ([], [], 0, 0, false) rfl pc_zero hp (by omega) rfl (by decide)
  refine hk 1 M8 Q (fun _ M27 => Q M27) (FR_RG hG f8) s8 (by rw [e8, gst_n (by decide), e5, gst_s]; rfl) (by rw [e8, gst_s]) (fun _ M9 a1 a2 _ => ?_) (fun _ M9 x a1 a2 => h M9 a1 (f8.tr a2)) _ (fun M9 q => gbr_t rfl ⟨_, q⟩) (fun M9 q => gbr_f (by decide) ⟨_, q⟩)
  rw [w_X9_search_L51.eq_2]
  exact gbr_t (by decide) (h M9 a1 (f8.tr a2))
