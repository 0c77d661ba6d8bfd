/-! the reference: the lightest answers; answers in order -/
theorem cnt_lt2 {k j : Nat} {p q : Nat → Bool} (h : ∀ i, i < k → p i = true → q i = true) (hj : j < k) (h1 : p j = false) (h2 : q j = true) : cnt k p < cnt k q := by
  induction k with
  | zero => omega
  | succ k ih =>
    rw [cnt, cnt]
    rcases Nat.lt_succ_iff_lt_or_eq.mp hj with y | y
    · have := ih (fun i hi => h i (by omega)) y
      have h3 := h k (by omega)
      cases hp : p k
      · simp; split <;> omega
      · rw [h3 hp]; simp; omega
    · subst y
      have := cnt_mono (k := j) (p := p) (q := q) (fun i hi => h i (by omega))
      rw [h1, h2]; simp; omega
theorem key_inj {w : Nat → Nat} {a b : Nat} (ha : a < 16384) (hb : b < 16384) (h : key w a = key w b) : a = b := by
  unfold key at h; omega
theorem key_lt_iff {w : Nat → Nat} {a b : Nat} (ha : a < 16384) (hb : b < 16384) : key w a < key w b ↔ wsum w a < wsum w b ∨ (wsum w a = wsum w b ∧ a < b) := by
  unfold key; omega
/-- how many are lighter -/
def rk (w : Nat → Nat) (A : List Nat) (r : Nat) : Nat := cnt A.length (fun i => decide (key w (ed A i) < key w r))
theorem rk_lt {w : Nat → Nat} {A : List Nat} {a : Nat} (ha : a < A.length) : rk w A (ed A a) < A.length := by
  apply Classical.byContradiction
  intro q
  have h := cnt_full (Nat.le_of_not_lt q) a ha
  exact absurd (of_decide_eq_true h) (Nat.lt_irrefl _)
theorem rk_mono {w : Nat → Nat} {A : List Nat} {a b : Nat} (ha : a < A.length) (h : key w (ed A a) < key w (ed A b)) : rk w A (ed A a) < rk w A (ed A b) := cnt_lt2 (j := a) (fun i _ hi => decide_eq_true (Nat.lt_trans (of_decide_eq_true hi) h)) ha (decide_eq_false (Nat.lt_irrefl _)) (decide_eq_true h)
theorem rk_all {w : Nat → Nat} {A : List Nat} (hd : nodup A) (hs : ∀ i, i < A.length → ed A i < 16384) {k : Nat} (hk : k < A.length) : ∃ a, a < A.length ∧ rk w A (ed A a) = k := by
  apply Classical.byContradiction
  intro q
  have hnd : ((List.range A.length).map (fun a => rk w A (ed A a))).Nodup := by
    refine List.pairwise_map.mpr (List.Pairwise.imp_of_mem ?_ List.pairwise_lt_range)
    intro a b ma mb hab he
    have ha := List.mem_range.mp ma
    have hb := List.mem_range.mp mb
    rcases Nat.lt_trichotomy (key w (ed A a)) (key w (ed A b)) with y | y | y
    · have := rk_mono ha y; omega
    · have := hd a b ha hb (key_inj (hs a ha) (hs b hb) y); omega
    · have := rk_mono hb y; omega
  have h2 := len_le_of_sub (l1 := k :: (List.range A.length).map (fun a => rk w A (ed A a))) (l2 := List.range A.length) (List.nodup_cons.mpr ⟨fun y => by
    obtain ⟨a, y1, y2⟩ := List.mem_map.mp y
    exact q ⟨a, List.mem_range.mp y1, y2⟩, hnd⟩) (fun x hx => by
    rcases List.mem_cons.mp hx with y | y
    · rw [y]; exact List.mem_range.mpr hk
    · obtain ⟨a, y1, y2⟩ := List.mem_map.mp y
      rw [← y2]
      exact List.mem_range.mpr (rk_lt (List.mem_range.mp y1)))
  rw [List.length_cons, List.length_map, List.length_range] at h2
  omega
section
variable {s : sT} {M : gM} {Q : Int32 → gM → Prop}
theorem N_lightest {p : Int32} (hI : MI s M) (h : ∀ M1 r, lightO s p r → MI s M1 → Q r M1) : w_X9_lightest p M Q := by
  have hn := hI.1.1
  unfold w_X9_lightest
  refine gbr_c (fun z => ?_) (fun z => ?_)
  · exact h M (-3) (by unfold lightO; rw [if_pos z]) hI
  refine N_srch hI (fun M1 a1 a2 => ?_)
  refine gup a2 (fun q => ?_) (fun q => ?_)
  · obtain ⟨h1, h2, h3, h4, h5, h6, h7, h8, h9, h10, h11⟩ := id a2
    have hA := srch_spec a1.1.2.1 hn.2 q
    have hh : ∀ r, (if pn p < (srch s.1 s.2.1).1.length then ∃ t, lightR s.2.2.2.2.1 (srch s.1 s.2.1).1 (pn p) t ∧ r = nI t else r = -7) → Q r M1 := fun r hr => h M1 r (by unfold lightO; rw [if_neg z, if_neg (by rw [q]; simp)]; exact hr) a1
    obtain ⟨A, hAe⟩ : ∃ A, A = (srch s.1 s.2.1).1 := ⟨_, rfl⟩
    rw [← hAe] at h1 h2 h9 h11 hA hh
    have hl : A.length ≤ 4000 := by omega
    have hs : ∀ i, i < A.length → ed A i < 16384 := fun i hi => ed_lt14 h11 hn.2 hi
    obtain ⟨w, hw⟩ : ∃ w, w = s.2.2.2.2.1 := ⟨_, rfl⟩
    have hW : RW w M1 := by rw [hw]; exact a1.2.2.1
    rw [← hw] at hh
    have hwl : ∀ x, wsum w x ≤ 1386 := wsum_le (fun v hv => (hW v hv).2)
    obtain ⟨j, j1, rfl⟩ := nI_of z
    rw [pn_nI j1] at hh
    refine lp (σ := Unit) (s0 := ()) (fun k x _ => w_X9_lightest_L23 Q _ _ (nI j) k x M1) (fun i _ => ∀ a, a < i → rk w A (ed A a) ≠ j) A.length 0 rfl (Nat.zero_le _) (fun a ha => absurd ha (Nat.not_lt_zero _)) ?_ ?_
    · intro k _ hJ
      rw [w_X9_lightest_L23.eq_2]
      refine gbr_ltF _ _ rfl h1 (by omega) (by omega) (Nat.le_refl _) ?_
      refine hh _ ?_
      rw [if_neg (fun y => by obtain ⟨a, b1, b2⟩ := rk_all (w := w) (nodup_ed hA.2) hs y; exact hJ a b1 b2)]
    · intro k i _ hi hJ ih
      rw [w_X9_lightest_L23.eq_2]
      have vi : vp_in (nI i) 4000 := c_in (by omega) (by decide)
      refine gbr_ltT i _ rfl h1 (by omega) (by omega) hi ⟨vi, ?_⟩
      rw [c_cl (by omega), h2 i hi]
      refine N_weighs a1.1.2.2.1 hn.2 hW (h11 i hi) ?_
      have b1 := hwl (ed A i)
      have e0 : ∀ a, nI a + 0 = nI a := fun a => by rw [show (0 : Int32) = nI 0 from rfl, nI_add]; rfl
      refine lp (σ := Int32) (fun k x t => w_X9_lightest_L48 Q _ (nI j) (nI i) (nI (wsum w (ed A i))) k t x M1) (fun b t => t = nI (cnt b (fun b => decide (key w (ed A b) < key w (ed A i))))) A.length 0 rfl (Nat.zero_le _) rfl ?_ ?_
      · intro k2 t hK
        rw [w_X9_lightest_L48.eq_2]
        refine gbr_ltF _ _ rfl h1 (by omega) (by omega) (Nat.le_refl _) ?_
        have c1 := rk_lt (w := w) hi
        refine gbr_eq (rk w A (ed A i)) j hK rfl (by omega) j1 (fun y => ?_) (fun y => ?_)
        · refine ⟨vi, ?_⟩
          rw [h2 i hi]
          refine hh _ ?_
          rw [if_pos (by omega)]
          exact ⟨ed A i, ⟨mem_ed.mpr ⟨i, hi, rfl⟩, y⟩, rfl⟩
        · refine nm_r (c_add1 i) (ih () fun a ha => ?_)
          rcases Nat.lt_succ_iff_lt_or_eq.mp ha with x | x
          · exact hJ a x
          · rw [x]; exact y
      · intro k2 b t hb hK ih2
        rw [w_X9_lightest_L48.eq_2]
        have vb : vp_in (nI b) 4000 := c_in (by omega) (by decide)
        refine gbr_ltT b _ rfl h1 (by omega) (by omega) hb ⟨vb, ?_⟩
        rw [c_cl (by omega), h2 b hb]
        refine N_weighs a1.1.2.2.1 hn.2 hW (h11 b hb) ?_
        have b2 := hwl (ed A b)
        have hb1 := hs b hb
        have hi1 := hs i hi
        have kk := key_lt_iff (w := w) hb1 hi1
        have yes : key w (ed A b) < key w (ed A i) → ∀ x7 : Int32, x7 = t + 1 → ∀ x8 : Int32, x8 = nI b + 1 → w_X9_lightest_L48 Q _ (nI j) (nI i) (nI (wsum w (ed A i))) k2 x7 x8 M1 := fun y => by
          rw [hK]
          refine nm_r (c_add1 _) (nm_r (c_add1 b) (ih2 _ ?_))
          rw [cnt, decide_eq_true y]; rfl
        have no : ¬ key w (ed A b) < key w (ed A i) → ∀ x7 : Int32, x7 = t + 0 → ∀ x8 : Int32, x8 = nI b + 1 → w_X9_lightest_L48 Q _ (nI j) (nI i) (nI (wsum w (ed A i))) k2 x7 x8 M1 := fun y => by
          rw [hK, e0]
          refine nm_e (nm_r (c_add1 b) (ih2 _ ?_))
          rw [cnt, decide_eq_false y]; rfl
        refine gbr_lt _ _ rfl rfl (by omega) (by omega) (fun y => yes (kk.mpr (Or.inl y))) (fun y => ?_)
        refine gbr_eq _ _ rfl rfl (by omega) (by omega) (fun y2 => ⟨vb, vi, ?_⟩) (fun y2 => no (fun x => by rcases kk.mp x with x | x; omega; omega))
        rw [h2 b hb, c_cl (by omega), h2 i hi]
        exact gbr_lt _ _ rfl rfl (by omega) (by omega) (fun y3 => yes (kk.mpr (Or.inr ⟨y2, y3⟩))) (fun y3 => no (fun x => by rcases kk.mp x with x | x; omega; omega))
  · exact h M1 (-6) (by unfold lightO; rw [if_neg z, if_pos q]) a1
theorem rowIs_set {r : Nat → Int32} {P R : List Nat} {x y : Nat} (h : rowIs r (P ++ y :: R)) : rowIs (upd r P.length (nI x)) (P ++ x :: R) := by
  intro i hi
  rw [List.length_append, List.length_cons] at hi
  rw [upd_f]
  by_cases q : i = P.length
  · rw [if_pos q, q, ed_r (Nat.le_refl _), Nat.sub_self]; rfl
  · rw [if_neg q, h i (by rw [List.length_append, List.length_cons]; exact hi)]
    rcases Nat.lt_or_ge i P.length with y | y
    · rw [ed_keepl y]
    · obtain ⟨k, rfl⟩ : ∃ k, i = k + 1 := ⟨i - 1, by omega⟩
      rw [ed_drop (by omega), ed_drop (by omega)]
theorem snoc_of {P : List Nat} (h : P ≠ []) : ∃ P1 y, P = P1 ++ [y] := ⟨P.dropLast, P.getLast h, (List.dropLast_concat_getLast h).symm⟩
/-- the answers get in order -/
theorem N_sort {A : List Nat} {Q : gM → Prop} (hl : A.length ≤ 24) (hd : A.Nodup) (hs : ∀ x, x ∈ A → x < 16384) (h7 : M 42 7 = nI A.length) (h47 : rowIs (M 47) A) (h : ∀ M1 L, L.Perm A → L.Pairwise (· < ·) → rowIs (M1 47) L → same [47] M M1 → Q M1) : w_X9_sortAnswers M Q := by
  unfold w_X9_sortAnswers
  by_cases hz : A.length = 0
  · refine ⟨1, ?_⟩
    rw [w_X9_sortAnswers_L2.eq_2]
    refine gbr_ltF 1 A.length rfl h7 (by decide) (by omega) (by omega) ?_
    refine h M A (List.Perm.refl _) ?_ h47 same.rfl
    rw [List.length_eq_zero_iff.mp hz]; exact List.Pairwise.nil
  refine lp (σ := gM) (fun k x t => w_X9_sortAnswers_L2 Q _ k x t) (fun i t => same [47] M t ∧ ∃ L : List Nat, L.Perm A ∧ (L.take i).Pairwise (· < ·) ∧ rowIs (t 47) L) A.length 1 rfl (by omega) ⟨same.rfl, A, List.Perm.refl _, ?_, h47⟩ ?_ ?_
  · rw [List.pairwise_iff_getElem]
    intro i j hi hj hij
    rw [List.length_take] at hi hj
    omega
  · rintro k t ⟨g1, L, g2, g3, g4⟩
    rw [w_X9_sortAnswers_L2.eq_2]
    refine gbr_ltF _ A.length rfl (by rw [g1 42 (by decide)]; exact h7) (by omega) (by omega) (Nat.le_refl _) ?_
    rw [List.take_of_length_le (by rw [g2.length_eq]; exact Nat.le_refl _)] at g3
    exact h t L g2 g3 g4 g1
  · rintro k i t hi ⟨g1, L, g2, g3, g4⟩ ih
    rw [w_X9_sortAnswers_L2.eq_2]
    have hLl : L.length = A.length := g2.length_eq
    have hLs : ∀ j, j < L.length → ed L j < 16384 := fun j hj => hs _ (g2.mem_iff.mp (mem_ed.mpr ⟨j, hj, rfl⟩))
    have t7 : t 42 7 = nI A.length := by rw [g1 42 (by decide)]; exact h7
    refine gbr_ltT i A.length rfl t7 (by omega) (by omega) hi ⟨c_in (by omega) (by decide), ?_⟩
    rw [c_cl (by omega), g4 i (by omega)]
    refine nm_e ?_
    obtain ⟨x, hx⟩ : ∃ x, x = ed L i := ⟨_, rfl⟩
    obtain ⟨T, hT⟩ : ∃ T, T = L.drop (i + 1) := ⟨_, rfl⟩
    have hx1 : x < 16384 := by rw [hx]; exact hLs i (by omega)
    have eL : L = L.take i ++ x :: T := by
      have e4 := take_ed (E := L) (i := i) (by omega)
      have e5 := List.take_append_drop (i + 1) L
      rw [e4, List.append_assoc, List.singleton_append, ← hx, ← hT] at e5
      exact e5.symm
    rw [← hx]
    -- what the inner loop ends with
    have done : ∀ (P S : List Nat) (y : Nat) (u : gM), same [47] M u → (P ++ x :: (S ++ T)).Perm A → (P ++ S).Pairwise (· < ·) → (∀ b, b ∈ S → x < b) → (∀ a, a ∈ P → a < x) → P.length + S.length = i → rowIs (u 47) (P ++ y :: (S ++ T)) → vp_in (nI P.length) 4000 ∧ ∀ M6 : gM, M6 = gst u 47 (Int32.toNatClampNeg (nI P.length)) (nI x) → ∀ x7 : Int32, x7 = nI i + 1 → w_X9_sortAnswers_L2 Q (fun (x8 : Int32) (M11 : gM) => Q M11) k x7 M6 := by
      intro P S y u u1 u2 u3 u4 u5 u6 u7
      refine ⟨c_in (by omega) (by decide), ?_⟩
      rw [c_cl (by omega)]
      refine nm_e (nm_r (c_add1 i) (ih _ ⟨u1.st (by decide), P ++ x :: (S ++ T), u2, ?_, ?_⟩))
      · have e : (P ++ x :: (S ++ T)).take (i + 1) = P ++ x :: S := by
          rw [show P ++ x :: (S ++ T) = (P ++ x :: S) ++ T by rw [List.append_assoc]; rfl]
          rw [List.take_append_of_le_length (by rw [List.length_append, List.length_cons]; omega)]
          exact List.take_of_length_le (by rw [List.length_append, List.length_cons]; omega)
        rw [e]
        obtain ⟨p1, p2, p3⟩ := List.pairwise_append.mp u3
        refine List.pairwise_append.mpr ⟨p1, List.pairwise_cons.mpr ⟨u4, p2⟩, fun a ha b hb => ?_⟩
        rcases List.mem_cons.mp hb with z | z
        · rw [z]; exact u5 a ha
        · exact p3 a ha b z
      · rw [gst_f, if_pos rfl]
        exact rowIs_set u7
    -- the inner loop
    suffices H : ∀ (m : Nat) (P S : List Nat) (y : Nat) (u : gM), P.length = m → same [47] M u → (P ++ x :: (S ++ T)).Perm A → (P ++ S).Pairwise (· < ·) → (∀ b, b ∈ S → x < b) → P.length + S.length = i → rowIs (u 47) (P ++ y :: (S ++ T)) → w_X9_sortAnswers_L19 Q (fun (x4 : Int32) (M5 : gM) => vp_in x4 4000 ∧ ∀ M6 : gM, M6 = gst M5 47 (Int32.toNatClampNeg x4) (nI x) → (∀ x7 : Int32, x7 = (nI i + 1) → (w_X9_sortAnswers_L2 Q (fun (x8 : Int32) (M11 : gM) => Q M11) k (x7) M6))) (nI i) (nI x) (m + 1) (nI m) u by
      refine ⟨i + 1, H i (L.take i) [] x t (by rw [List.length_take]; omega) g1 ?_ ?_ (fun b hb => by simp at hb) (by rw [List.length_take]; simp; omega) ?_⟩
      · rw [List.nil_append, ← eL]; exact g2
      · rw [List.append_nil]; exact g3
      · rw [List.nil_append, ← eL]; exact g4
    intro m
    induction m with
    | zero =>
      intro P S y u hP u1 u2 u3 u4 u6 u7
      rw [w_X9_sortAnswers_L19.eq_2]
      refine gbr_f (by decide) ?_
      have hP0 := List.length_eq_zero_iff.mp hP
      have r := done P S y u u1 u2 u3 u4 (fun a ha => by rw [hP0] at ha; simp at ha) u6 u7
      rw [hP] at r
      exact r
    | succ m ihm =>
      intro P S y u hP u1 u2 u3 u4 u6 u7
      rw [w_X9_sortAnswers_L19.eq_2]
      obtain ⟨P1, z, rfl⟩ := snoc_of (P := P) (fun q => by rw [q] at hP; simp at hP)
      rw [List.length_append, List.length_singleton] at hP u6
      have hP1 : P1.length = m := by omega
      refine gbr_ltT 0 (m + 1) rfl rfl (by decide) (by omega) (by omega) ?_
      rw [sub1, nI_dec]
      have vm : vp_in (nI m) 4000 := c_in (by omega) (by decide)
      refine ⟨vm, ?_⟩
      have hzm : z ∈ A := u2.mem_iff.mp (by simp)
      have hz1 := hs z hzm
      have cz : u 47 m = nI z := by
        rw [u7 m (by rw [List.length_append, List.length_append, List.length_singleton]; omega), ed_l (by rw [List.length_append, List.length_singleton]; omega), ← hP1, ed_last]
      rw [c_cl (by omega), cz]
      refine gbr_lt x z rfl rfl (by omega) (by omega) (fun q => ⟨vm, c_in (by omega) (by decide), ?_⟩) (fun q => ?_)
      · rw [c_cl (by omega)]
        refine nm_e (nm_e ?_)
        refine ihm P1 (z :: S) z _ hP1 (u1.st (by decide)) ?_ ?_ ?_ (by rw [List.length_cons]; omega) ?_
        · refine List.Perm.trans ?_ u2
          rw [List.append_assoc]
          refine List.Perm.append_left P1 ?_
          rw [List.cons_append, List.singleton_append]
          exact List.Perm.swap _ _ _
        · rw [List.append_assoc, List.singleton_append] at u3; exact u3
        · intro b hb
          rcases List.mem_cons.mp hb with e | e
          · rw [e]; exact q
          · exact u4 b e
        · rw [gst_f, if_pos rfl]
          have e := rowIs_set (P := P1 ++ [z]) (x := z) u7
          rw [List.length_append, List.length_singleton, hP1, List.append_assoc, List.singleton_append] at e
          exact e
      · have hne : x ≠ z := fun e => by
          have hnd : ((P1 ++ [z]) ++ x :: (S ++ T)).Nodup := u2.nodup_iff.mpr hd
          have := (List.nodup_append.mp hnd).2.2 z (by simp) x (by simp)
          exact this e.symm
        have r := done (P1 ++ [z]) S y u u1 u2 u3 u4 (fun a ha => ?_) (by rw [List.length_append, List.length_singleton]; exact u6) u7
        · rw [List.length_append, List.length_singleton, hP1] at r
          exact r
        · obtain ⟨p1, -, -⟩ := List.pairwise_append.mp u3
          obtain ⟨-, -, p3⟩ := List.pairwise_append.mp p1
          rcases List.mem_append.mp ha with e | e
          · have := p3 a e z (by simp); omega
          · have : a = z := List.mem_singleton.mp e
            omega
theorem pw_asc {L : List Nat} (h : L.Pairwise (· < ·)) : asc L := by
  intro i j hij hj
  have := List.pairwise_iff_getElem.mp h i j (by omega) hj hij
  unfold ed
  rw [List.getD_eq_getElem?_getD, List.getElem?_eq_getElem (by omega), List.getD_eq_getElem?_getD, List.getElem?_eq_getElem hj]
  exact this
theorem N_dualize (hI : MI s M) (h : ∀ M1, MI (o_dualize s).2 M1 → Q (o_dualize s).1 M1) : w_X9_dualize M Q := by
  have hG := hI.1
  have hn := hG.1
  have h14 := p2_14 hn.2
  have hl := hG.2.1.1
  unfold o_dualize at h
  unfold w_X9_dualize
  refine N_many hG.2.2.2 ?_
  refine gbr_eq _ 0 rfl rfl (by omega) (by decide) (fun z => ?_) (fun z => ?_)
  · rw [if_pos z] at h; exact h M hI
  rw [if_neg z] at h
  refine N_srch hI (fun M1 a1 a2 => ?_)
  refine gup a2 (fun q => ?_) (fun q => ?_)
  · rw [if_neg (by rw [q]; simp)] at h
    obtain ⟨h1, h2, h3, h4, h5, h6, h7, h8, h9, h10, h11⟩ := id a2
    have hA := srch_spec a1.1.2.1 hn.2 q
    obtain ⟨A, hAe⟩ : ∃ A, A = (srch s.1 s.2.1).1 := ⟨_, rfl⟩
    rw [← hAe] at h1 h2 h9 h11 hA h
    refine gbr_lt 24 A.length rfl h1 (by decide) (by omega) (fun y => ?_) (fun y => ?_)
    · rw [if_pos y] at h; exact h M1 a1
    · rw [if_neg (by omega)] at h
      refine N_sort (A := A) y hA.2 (fun x hx => Nat.lt_of_lt_of_le ((hA.1 x).mp hx).1 h14) h1 h2 (fun M2 L g1 g2 g3 g4 => ?_)
      have eL : L = ascA s.1 s.2.1 := asc_uniq (pw_asc g2) (ascA_asc _ _) (fun x => by rw [g1.mem_iff, hA.1 x, ascA_mem])
      have hLl : L.length = A.length := g1.length_eq
      rw [← eL] at h
      have hMI2 : MI s M2 := MI_s a1 ⟨⟨g4 43 (by decide), g4 44 (by decide), g4 45 (by decide), g4 46 (by decide), g4 57 (by decide)⟩, by rw [g4 42 (by decide)], by rw [g4 42 (by decide)], by rw [g4 42 (by decide)], by rw [g4 42 (by decide)]⟩
      have hLs : ∀ i, i < L.length → 0 < ed L i ∧ ed L i < 2 ^ s.1 := fun i hi => by
        have hm := (hA.1 _).mp (g1.mem_iff.mp (mem_ed.mpr ⟨i, hi, rfl⟩))
        refine ⟨?_, hm.1⟩
        apply Nat.pos_of_ne_zero
        intro e0
        rw [e0] at hm
        have e1 := missE_0.mp hm.2.1 0 (by omega)
        exact e1 (Nat.and_zero _)
      have k7 : M2 42 7 = nI L.length := by rw [g4 42 (by decide), hLl]; exact h1
      have hH := hMI2.2.1
      refine N_keep hMI2.1.2.2.2 hH (fun M3 j1 j2 j3 => ?_)
      have m7 : M3 42 7 = nI L.length := by rw [j3 7 (by decide) (by decide)]; exact k7
      have m47 : rowIs (M3 47) L := by rw [j2 47 (by decide)]; exact g3
      refine lp (σ := gM) (fun k x t => w_X9_dualize_L46 Q _ k x t) (fun i t => same [43] M3 t ∧ ∀ e, e < i → t 43 e = nI (ed L e)) L.length 0 rfl (Nat.zero_le _) ⟨same.rfl, fun e he => absurd he (Nat.not_lt_zero _)⟩ ?_ ?_
      · rintro k t ⟨t1, t2⟩
        rw [w_X9_dualize_L46.eq_2]
        have e42 : t 42 = M3 42 := t1 42 (by decide)
        refine gbr_ltF _ _ rfl (by rw [e42]; exact m7) (by omega) (by omega) (Nat.le_refl _) ⟨v24, ?_⟩
        rw [e42, m7, show Int32.toNatClampNeg 24 = 24 from rfl]
        intro M13 e13
        have r42 : M13 42 = M3 42 := by rw [e13, gst_n (by decide), e42]
        have ro : ∀ i, i ≠ 43 → M13 i = M3 i := fun i hi => by rw [e13, gst_n hi]; exact t1 i (by simpa using hi)
        rw [r42, m7]
        refine h M13 (MI_edit hMI2 ⟨by omega, fun i hi => ?_, by rw [e13, gst_s], fun i hi => ?_⟩ ⟨by omega, hLs⟩ (RH_s j1 (by rw [r42]) (by rw [r42]) (ro 45 (by decide)) (ro 46 (by decide))) ?_ ?_ ?_ ?_)
        · have := hLs i hi; omega
        · rw [e13, gst_k (by omega)]; exact t2 i hi
        · rw [r42]; exact j3 0 (by decide) (by decide)
        · rw [r42]; exact j3 22 (by decide) (by decide)
        · rw [ro 44 (by decide)]; exact j2 44 (by decide)
        · rw [ro 57 (by decide)]; exact j2 57 (by decide)
      · rintro k i t hi ⟨t1, t2⟩ ih
        rw [w_X9_dualize_L46.eq_2]
        refine gbr_ltT i _ rfl (by rw [t1 42 (by decide)]; exact m7) (by omega) (by omega) hi ⟨c_in (by omega) (by decide), c_in (by omega) (by decide), ?_⟩
        rw [c_cl (by omega), t1 47 (by decide), m47 i hi]
        refine nm_e (nm_r (c_add1 i) (ih _ ⟨t1.st (by decide), fun e he => ?_⟩))
        rcases Nat.lt_succ_iff_lt_or_eq.mp he with x | x
        · rw [gst_k (by omega)]; exact t2 e x
        · rw [x, gst_s]
  · rw [if_pos q] at h; exact h M1 a1
end
