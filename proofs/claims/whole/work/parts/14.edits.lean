theorem gsr_f (M : gM) (i : Nat) (f : Nat → Int32) (j : Nat) : gsr M i f j = if j = i then f else M j := rfl
theorem gst_f (M : gM) (i k : Nat) (x : Int32) (j : Nat) : gst M i k x j = if j = i then upd (M i) k x else M j := rfl
theorem upd_f (f : Nat → Int32) (k : Nat) (x : Int32) (l : Nat) : upd f k x l = if l = k then x else f l := rfl
theorem gst_n {M : gM} {i k j : Nat} {x : Int32} (h : j ≠ i) : gst M i k x j = M j := if_neg h
theorem gst_s (M : gM) (i k : Nat) (x : Int32) : gst M i k x i k = x := by rw [gst_f, if_pos rfl, upd_f, if_pos rfl]
theorem gst_k {M : gM} {i k l : Nat} {x : Int32} (h : l ≠ k) : gst M i k x i l = M i l := by rw [gst_f, if_pos rfl, upd_f, if_neg h]
/-- the rows that may differ -/
def same (S : List Nat) (M M1 : gM) : Prop := ∀ i, i ∉ S → M1 i = M i
theorem same.rfl {S : List Nat} {M : gM} : same S M M := fun _ _ => Eq.refl _
theorem same.tr {S : List Nat} {A B C : gM} (h : same S A B) (k : same S B C) : same S A C := fun i hi => (k i hi).trans (h i hi)
theorem same.sub {S T : List Nat} {A B : gM} (h : same S A B) (hs : ∀ i, i ∈ S → i ∈ T) : same T A B := fun i hi => h i (fun q => hi (hs i q))
theorem same.st {S : List Nat} {A B : gM} (h : same S A B) {i k : Nat} {x : Int32} (hi : i ∈ S) : same S A (gst B i k x) := fun j hj => (gst_n (fun q => hj (by rw [q]; exact hi))).trans (h j hj)
theorem same.sr {S : List Nat} {A B : gM} (h : same S A B) {i : Nat} {f : Nat → Int32} (hi : i ∈ S) : same S A (gsr B i f) := fun j hj => (gsr_n B f (fun q => hj (by rw [q]; exact hi))).trans (h j hj)
theorem ed_app {l : List Nat} {x j : Nat} (h : j < l.length) : ed (l ++ [x]) j = ed l j := by
  unfold ed
  rw [List.getD_eq_getElem?_getD, List.getD_eq_getElem?_getD, List.getElem?_append_left h]
theorem ed_last (l : List Nat) (x : Nat) : ed (l ++ [x]) l.length = x := by
  unfold ed
  rw [List.getD_eq_getElem?_getD, List.getElem?_append_right (Nat.le_refl _)]
  simp
theorem rowIs_app {r : Nat → Int32} {l : List Nat} {x : Nat} (h : rowIs r l) (hx : r l.length = nI x) : rowIs r (l ++ [x]) := by
  intro i hi
  rw [List.length_append, List.length_singleton] at hi
  by_cases q : i < l.length
  · rw [ed_app q]; exact h i q
  · have : i = l.length := by omega
    subst this
    rw [ed_last]; exact hx
theorem rowIs_upd {r : Nat → Int32} {l : List Nat} {k : Nat} {x : Int32} (h : rowIs r l) (hk : l.length ≤ k) : rowIs (upd r k x) l := by
  intro i hi
  rw [upd_f, if_neg (by omega)]
  exact h i hi
theorem sane_app {n : Nat} {l : List Nat} {x : Nat} (h : sane n l) (hl : l.length < 24) (hx : 0 < x ∧ x < 2 ^ n) : sane n (l ++ [x]) := by
  refine ⟨by rw [List.length_append, List.length_singleton]; omega, fun i hi => ?_⟩
  rw [List.length_append, List.length_singleton] at hi
  by_cases q : i < l.length
  · rw [ed_app q]; exact h.2 i q
  · have : i = l.length := by omega
    subst this
    rw [ed_last]; exact hx
theorem sane_nil (n : Nat) : sane n [] := ⟨by decide, fun i hi => by simp at hi⟩
section
variable {n : Nat} {E : List Nat} {M : gM}
theorem S_append_raw {c : Nat} {x : Int32} {Q : gM → Prop} (hc : M 1 1 = nI c) (h24 : c < 24) (h : Q (gst (gst M 9 c x) 1 1 (nI (c + 1)))) : w_X5_append x M Q := by
  unfold w_X5_append w_X5_isFull
  refine gbr_ltT c 24 hc rfl (by omega) (by decide) h24 ?_
  refine gbr_t rfl ⟨by rw [hc]; exact c_in h24 (by decide), ?_⟩
  intro M3 e3
  rw [hc, c_cl (by omega)] at e3
  intro M4 e4
  have e5 : M3 1 1 = nI c := by rw [e3, gst_n (by decide)]; exact hc
  rw [e5, c_add1, e3] at e4
  rw [e4]; exact h
theorem XG_app {x : Nat} (hG : XG n E M) (h24 : E.length < 24) (hx : 0 < x ∧ x < 2 ^ n) : XG n (E ++ [x]) (gst (gst M 9 E.length (nI x)) 1 1 (nI (E.length + 1))) := by
  obtain ⟨hn, hS, hv, hc, hr⟩ := hG
  refine ⟨hn, sane_app hS h24 hx, ?_, ?_, ?_⟩
  · rw [gst_k (by decide), gst_n (by decide)]; exact hv
  · rw [gst_s, List.length_append, List.length_singleton]
  · rw [gst_n (by decide), gst_f, if_pos rfl]
    exact rowIs_app (rowIs_upd hr (Nat.le_refl _)) (by rw [upd_f, if_pos rfl])
/-- edgesAt anew -/
theorem S_followChange {Q : gM → Prop} (hG : XG n E M) (h : ∀ M1, XG n E M1 → XA E M1 → M1 1 5 = M 1 5 + 1 → same [1, 10] M M1 → Q M1) : w_X5_followChange M Q := by
  unfold w_X5_followChange
  intro M1 e1
  have hG1 : XG n E M1 := by
    obtain ⟨hn, hS, hv, hc, hr⟩ := hG
    rw [e1]
    exact ⟨hn, hS, by rw [gst_k (by decide)]; exact hv, by rw [gst_k (by decide)]; exact hc, by rw [gst_n (by decide)]; exact hr⟩
  have h5 : M1 1 5 = M 1 5 + 1 := by rw [e1, gst_s]
  have hs1 : same [1, 10] M M1 := by rw [e1]; exact same.rfl.st (by decide)
  clear e1
  refine lp (σ := gM) (fun k x t => w_X5_followChange_L12 Q _ k x t) (fun i t => XG n E t ∧ t 1 5 = M 1 5 + 1 ∧ same [1, 10] M t ∧ ∀ v, v < i → t 10 v = nI (at_ E v)) 14 0 rfl (Nat.zero_le _) ⟨hG1, h5, hs1, fun v hv => absurd hv (Nat.not_lt_zero _)⟩ ?_ ?_
  · intro k t hI
    rw [w_X5_followChange_L12.eq_2]
    refine gbr_ltF 14 14 rfl rfl (by decide) (by decide) (Nat.le_refl _) ?_
    exact h t hI.1 (fun v hv => hI.2.2.2 v hv) hI.2.1 hI.2.2.1
  · rintro k i t hi ⟨hG2, h52, hs2, ha2⟩ ih
    rw [w_X5_followChange_L12.eq_2]
    refine gbr_ltT i 14 rfl rfl (by omega) (by decide) hi ?_
    have hG3 := hG2
    obtain ⟨hn, hS, hv, hc, hr⟩ := hG2
    have hl := hS.1
    refine lp (σ := Int32) (fun k x u => w_X5_followChange_L22 Q _ (nI i) k u x t) (fun j u => u = nI (mk j (fun e => (ed E e).testBit i))) E.length 0 rfl (Nat.zero_le _) rfl ?_ ?_
    · intro k2 u hJ
      rw [w_X5_followChange_L22.eq_2]
      refine gbr_ltF E.length E.length rfl hc (by omega) (by omega) (Nat.le_refl _) ?_
      refine ⟨c_in hi (by decide), ?_⟩
      intro M10 e10
      rw [c_cl (by omega), hJ] at e10
      refine nm_r (c_add1 i) (ih M10 ?_)
      rw [e10]
      refine ⟨⟨hn, hS, by rw [gst_n (by decide)]; exact hv, by rw [gst_n (by decide)]; exact hc, by rw [gst_n (by decide)]; exact hr⟩, by rw [gst_n (by decide)]; exact h52, hs2.st (by decide), fun v hv2 => ?_⟩
      rcases Nat.lt_succ_iff_lt_or_eq.mp hv2 with y | y
      · rw [gst_k (by omega)]; exact ha2 v y
      · rw [y, gst_s]; rfl
    · intro k2 j u hj hJ ih2
      rw [w_X5_followChange_L22.eq_2]
      have h1 := sane_lt hS hn.2 hj
      refine gbr_ltT j E.length rfl hc (by omega) (by omega) hj ⟨c_in (by omega) (by omega), ?_⟩
      rw [c_cl (by omega), hr j hj]
      refine S_has (by omega) (by omega) ?_
      refine gbr_b _ rfl (fun z => ?_) (fun z => ?_)
      · refine nm_r (c_add1 j) (ih2 u ?_)
        rw [hJ, mk, z]; simp
      · refine nm_e (nm_r (c_add1 j) (ih2 _ ?_))
        rw [hJ, mk, z, c_shl j (by omega), c_or]; simp
/-- the edges at the places of w -/
def kp (E : List Nat) (w : Nat) : Nat → List Nat
  | 0 => []
  | k + 1 => if w.testBit k then kp E w k ++ [ed E k] else kp E w k
theorem kp_len (E : List Nat) (w k : Nat) : (kp E w k).length ≤ k := by
  induction k with
  | zero => exact Nat.le_refl _
  | succ k ih =>
    rw [kp]
    split
    · rw [List.length_append, List.length_singleton]; omega
    · omega
theorem kp_sane (hS : sane n E) (w k : Nat) (hk : k ≤ E.length) : sane n (kp E w k) := by
  induction k with
  | zero => exact sane_nil n
  | succ k ih =>
    have h1 := ih (by omega)
    have h2 := kp_len E w k
    have h3 := hS.1
    rw [kp]
    split
    · exact sane_app h1 (by omega) (hS.2 k (by omega))
    · exact h1
theorem S_keepOnly {w : Nat} {Q : gM → Prop} (hG : XG n E M) (hw : w < 2147483648) (h : ∀ M1, XG n (kp E w E.length) M1 → M1 1 5 = M 1 5 → same [1, 9] M M1 → Q M1) : w_X5_keepOnly (nI w) M Q := by
  obtain ⟨hn, hS, hv, hc, hr⟩ := hG
  have hl := hS.1
  unfold w_X5_keepOnly
  intro x1 e1
  intro M2 e2
  rw [hc] at e1
  subst e1
  refine lp (σ := gM) (fun k x t => w_X5_keepOnly_L12 Q _ (nI w) (nI E.length) k x t) (fun i t => XG n (kp E w i) t ∧ t 1 5 = M 1 5 ∧ same [1, 9] M t ∧ ∀ j, i ≤ j → j < E.length → t 9 j = nI (ed E j)) E.length 0 rfl (Nat.zero_le _) ?_ ?_ ?_
  · rw [e2]
    refine ⟨⟨hn, sane_nil n, by rw [gst_k (by decide)]; exact hv, by rw [gst_s]; rfl, fun i hi => by simp [kp] at hi⟩, by rw [gst_k (by decide)], same.rfl.st (by decide), fun j _ hj => ?_⟩
    rw [gst_n (by decide)]; exact hr j hj
  · rintro k t ⟨h1, h2, h3, -⟩
    rw [w_X5_keepOnly_L12.eq_2]
    refine gbr_ltF E.length E.length rfl rfl (by omega) (by omega) (Nat.le_refl _) ?_
    exact h t h1 h2 h3
  · rintro k i t hi ⟨h1, h2, h3, h4⟩ ih
    rw [w_X5_keepOnly_L12.eq_2]
    refine gbr_ltT i E.length rfl rfl (by omega) (by omega) hi ?_
    refine S_has hw (by omega) ?_
    refine gbr_b _ rfl (fun z => ?_) (fun z => ?_)
    · refine nm_r (c_add1 i) (ih t ?_)
      rw [kp, z]
      exact ⟨h1, h2, h3, fun j hj => h4 j (by omega)⟩
    · refine ⟨c_in (by omega) (by omega), ?_⟩
      have h5 := kp_len E w i
      rw [c_cl (by omega), h4 i (Nat.le_refl _) hi]
      refine S_append_raw h1.2.2.2.1 (by omega) ?_
      refine nm_r (c_add1 i) (ih _ ?_)
      have h6 := XG_app h1 (by omega) (hS.2 i hi)
      rw [kp, if_pos z]
      refine ⟨h6, by rw [gst_k (by decide), gst_n (by decide)]; exact h2, (h3.st (by decide)).st (by decide), fun j hj hj2 => ?_⟩
      rw [gst_n (by decide), gst_k (by omega)]
      exact h4 j (by omega) hj2
/-- the edges without a vertex, each once, none empty -/
def tk (E : List Nat) (v : Nat) : Nat → List Nat
  | 0 => []
  | k + 1 => if nd (ed E k) (2 ^ v) ≠ 0 ∧ nd (ed E k) (2 ^ v) ∉ tk E v k then tk E v k ++ [nd (ed E k) (2 ^ v)] else tk E v k
theorem tk_len (E : List Nat) (v k : Nat) : (tk E v k).length ≤ k := by
  induction k with
  | zero => exact Nat.le_refl _
  | succ k ih =>
    rw [tk]
    split
    · rw [List.length_append, List.length_singleton]; omega
    · omega
theorem tk_sane (hS : sane n E) (v k : Nat) (hk : k ≤ E.length) : sane n (tk E v k) := by
  induction k with
  | zero => exact sane_nil n
  | succ k ih =>
    have h1 := ih (by omega)
    have h2 := tk_len E v k
    have h3 := hS.1
    rw [tk]
    split
    · rename_i q
      exact sane_app h1 (by omega) ⟨Nat.pos_of_ne_zero q.1, nd_lt (hS.2 k (by omega)).2⟩
    · exact h1
theorem S_takeOut {v : Nat} {Q : gM → Prop} (hG : XG n E M) (hv2 : v < 31) (h : ∀ M1, XG n (tk E v E.length) M1 → M1 1 5 = M 1 5 → same [1, 9] M M1 → Q M1) : w_X5_takeOut (nI v) M Q := by
  obtain ⟨hn, hS, hv, hc, hr⟩ := hG
  have hl := hS.1
  unfold w_X5_takeOut
  intro x1 e1
  intro M2 e2
  rw [hc] at e1
  subst e1
  refine lp (σ := gM) (fun k x t => w_X5_takeOut_L12 Q _ (nI v) (nI E.length) k x t) (fun i t => XG n (tk E v i) t ∧ t 1 5 = M 1 5 ∧ same [1, 9] M t ∧ ∀ j, i ≤ j → j < E.length → t 9 j = nI (ed E j)) E.length 0 rfl (Nat.zero_le _) ?_ ?_ ?_
  · rw [e2]
    refine ⟨⟨hn, sane_nil n, by rw [gst_k (by decide)]; exact hv, by rw [gst_s]; rfl, fun i hi => by simp [tk] at hi⟩, by rw [gst_k (by decide)], same.rfl.st (by decide), fun j _ hj => ?_⟩
    rw [gst_n (by decide)]; exact hr j hj
  · rintro k t ⟨h1, h2, h3, -⟩
    rw [w_X5_takeOut_L12.eq_2]
    refine gbr_ltF E.length E.length rfl rfl (by omega) (by omega) (Nat.le_refl _) ?_
    exact h t h1 h2 h3
  · rintro k i t hi ⟨h1, h2, h3, h4⟩ ih
    rw [w_X5_takeOut_L12.eq_2]
    have hb := sane_lt hS hn.2 hi
    have hd : nd (ed E i) (2 ^ v) < 2 ^ n := nd_lt (hS.2 i hi).2
    have hd2 := p2_14 hn.2
    refine gbr_ltT i E.length rfl rfl (by omega) (by omega) hi ⟨c_in (by omega) (by omega), ?_⟩
    rw [c_cl (by omega), h4 i (Nat.le_refl _) hi, c_shl v hv2, c_nd]
    refine nm_e ?_
    refine gbr_eq (nd (ed E i) (2 ^ v)) 0 rfl rfl (by omega) (by decide) (fun z => ?_) (fun z => ?_)
    · refine nm_r (c_add1 i) (ih t ?_)
      rw [tk, if_neg (fun q => q.1 z)]
      exact ⟨h1, h2, h3, fun j hj => h4 j (by omega)⟩
    · refine S_contains h1 (by omega) ?_
      refine gbr_b _ rfl (fun y => ?_) (fun y => ?_)
      · have h5 := tk_len E v i
        refine S_append_raw h1.2.2.2.1 (by omega) ?_
        refine nm_r (c_add1 i) (ih _ ?_)
        have h6 := XG_app h1 (by omega) ⟨Nat.pos_of_ne_zero z, hd⟩
        rw [tk, if_pos ⟨z, of_decide_eq_false y⟩]
        refine ⟨h6, by rw [gst_k (by decide), gst_n (by decide)]; exact h2, (h3.st (by decide)).st (by decide), fun j hj hj2 => ?_⟩
        rw [gst_n (by decide), gst_k (by omega)]
        exact h4 j (by omega) hj2
      · refine nm_r (c_add1 i) (ih t ?_)
        rw [tk, if_neg (fun q => q.2 (of_decide_eq_true y))]
        exact ⟨h1, h2, h3, fun j hj => h4 j (by omega)⟩
end
/-! the history -/
def hrow (M : gM) (j : Nat) (E : List Nat) : Prop := M 12 j = nI E.length ∧ rowIs (M (13 + j)) E
def XH (E : List Nat) (past fut : List (List Nat)) (M : gM) : Prop := ∃ now, now < 17 ∧ M 2 4 = nI now ∧ M 2 0 = nI past.length ∧ M 2 1 = nI fut.length ∧ past.length + fut.length ≤ 16 ∧ hrow M now E ∧ (∀ k, k < past.length → hrow M ((now + 16 - k) % 17) (past.getD k [])) ∧ (∀ k, k < fut.length → hrow M ((now + 1 + k) % 17) (fut.getD k []))
theorem hrow_sm {M M1 : gM} {j : Nat} {E : List Nat} (h : hrow M j E) (h1 : M1 12 j = M 12 j) (h2 : M1 (13 + j) = M (13 + j)) : hrow M1 j E := ⟨h1.trans h.1, by rw [h2]; exact h.2⟩
theorem c_rem {a : Nat} (h : a < 2147483648) : nI a - nI a / 17 * 17 = nI (a % 17) := pk_rem (d := 17) h (by decide) (by decide)
theorem rowIs_cpy {f g : Nat → Int32} {l : List Nat} (h : rowIs f l) (hl : l.length ≤ 24) : rowIs (va_cpy f g 0 0 24) l := by
  intro i hi
  unfold va_cpy
  rw [if_pos ⟨Nat.zero_le _, by omega⟩]
  rw [Nat.zero_add, Nat.sub_zero]
  exact h i hi
section
variable {n : Nat} {E E1 : List Nat} {past fut : List (List Nat)} {M : gM}
theorem S_hadd {Q : gM → Prop} (hH : XH E past fut M) (h9 : rowIs (M 9) E1) (hl1 : E1.length ≤ 24) (h : ∀ M1, XH E1 ((E :: past).take 16) [] M1 → same ([2, 12, 13, 14, 15, 16, 17, 18, 19, 20, 21, 22, 23, 24, 25, 26, 27, 28, 29]) M M1 → Q M1) : w_X3_add (nI E1.length) M Q := by
  obtain ⟨now, h1, h2, h3, h4, h5, h6, h7, h8⟩ := hH
  unfold w_X3_add
  intro M1 e1
  rw [h2, c_add1, c_rem (by omega)] at e1
  obtain ⟨nw, hnw⟩ : ∃ nw, nw = (now + 1) % 17 := ⟨_, rfl⟩
  have hnl : nw < 17 := by omega
  rw [← hnw] at e1
  have a1 : M1 2 4 = nI nw := by rw [e1, gst_s]
  have s1 : same [2, 12, 13, 14, 15, 16, 17, 18, 19, 20, 21, 22, 23, 24, 25, 26, 27, 28, 29] M M1 := by rw [e1]; exact same.rfl.st (by decide)
  have b1 : ∀ i, i ≠ 2 → M1 i = M i := fun i hi => by rw [e1, gst_n hi]
  have c1 : M1 2 0 = M 2 0 := by rw [e1, gst_k (by decide)]
  clear e1
  refine ⟨by rw [a1]; exact c_in hnl (by decide), ?_⟩
  intro M2 e2
  rw [a1, c_cl (by omega)] at e2
  have a2 : M2 2 4 = nI nw := by rw [e2, gsr_n _ _ (by omega)]; exact a1
  have hm : 13 + nw ∈ [2, 12, 13, 14, 15, 16, 17, 18, 19, 20, 21, 22, 23, 24, 25, 26, 27, 28, 29] := by
    simp only [List.mem_cons, List.not_mem_nil, or_false]; omega
  have s2 : same [2, 12, 13, 14, 15, 16, 17, 18, 19, 20, 21, 22, 23, 24, 25, 26, 27, 28, 29] M M2 := by rw [e2]; exact s1.sr hm
  have b2 : ∀ i, i ≠ 2 → i ≠ 13 + nw → M2 i = M i := fun i hi hi2 => by rw [e2, gsr_n _ _ hi2]; exact b1 i hi
  have r2 : rowIs (M2 (13 + nw)) E1 := by
    rw [e2, gsr_s, b1 9 (by decide)]
    exact rowIs_cpy h9 hl1
  have c2 : M2 2 0 = M 2 0 := by rw [e2, gsr_n _ _ (by omega)]; exact c1
  clear e2
  refine ⟨by rw [a2]; exact c_in hnl (by decide), ?_⟩
  intro M3 e3
  rw [a2, c_cl (by omega)] at e3
  intro M4 e4
  intro M5 e5
  have c3 : M3 2 0 = nI past.length := by rw [e3, gst_n (by decide), c2, h3]
  have hmin : (if 16 < nI past.length + 1 then 16 else nI past.length + 1) = nI (min (past.length + 1) 16) := by
    rw [c_add1]
    by_cases q : 16 < past.length + 1
    · rw [if_pos (show (16 : Int32) < nI (past.length + 1) from (nI_ltI (a := 16) (by decide) (by omega)).mpr q), Nat.min_eq_right (by omega)]; rfl
    · rw [if_neg (fun z : (16 : Int32) < nI (past.length + 1) => q ((nI_ltI (a := 16) (by decide) (by omega)).mp z)), Nat.min_eq_left (by omega)]
  rw [c3, hmin] at e4
  have s5 : same [2, 12, 13, 14, 15, 16, 17, 18, 19, 20, 21, 22, 23, 24, 25, 26, 27, 28, 29] M M5 := by
    rw [e5, e4, e3]
    exact ((s2.st (by decide)).st (by decide)).st (by decide)
  have v4 : M5 2 4 = nI nw := by rw [e5, gst_k (by decide), e4, gst_k (by decide), e3, gst_n (by decide)]; exact a2
  have v0 : M5 2 0 = nI (min (past.length + 1) 16) := by rw [e5, gst_k (by decide), e4, gst_s]
  have v1 : M5 2 1 = 0 := by rw [e5, gst_s]
  have v12 : ∀ j, M5 12 j = if j = nw then nI E1.length else M 12 j := fun j => by
    rw [e5, gst_n (by decide), e4, gst_n (by decide), e3, gst_f, if_pos rfl, upd_f, b2 12 (by decide) (by omega)]
  have vr : ∀ j, j ≠ 2 → j ≠ 12 → M5 j = M2 j := fun j q1 q2 => by
    rw [e5, gst_n q1, e4, gst_n q1, e3, gst_n q2]
  have old : ∀ j L, j ≠ nw → j < 17 → hrow M j L → hrow M5 j L := fun j L q1 q2 hj => hrow_sm hj (by rw [v12, if_neg q1]) (by rw [vr _ (by omega) (by omega), b2 _ (by omega) (by omega)])
  refine h M5 ⟨nw, hnl, v4, ?_, v1, ?_, ?_, ?_, ?_⟩ s5
  · rw [v0, List.length_take, List.length_cons, Nat.min_comm]
  · rw [List.length_take, List.length_cons]; simp only [List.length_nil]; omega
  · exact ⟨by rw [v12, if_pos rfl], by rw [vr _ (by omega) (by omega)]; exact r2⟩
  · intro k hk
    rw [List.length_take, List.length_cons] at hk
    have hk2 : k < 16 ∧ k < past.length + 1 := by omega
    have eg : ((E :: past).take 16).getD k [] = (E :: past).getD k [] := by
      rw [List.getD_eq_getElem?_getD, List.getD_eq_getElem?_getD, List.getElem?_take_of_lt hk2.1]
    rw [eg]
    cases k with
    | zero =>
      have e : (nw + 16 - 0) % 17 = now := by omega
      rw [e]
      exact old now E (by omega) h1 h6
    | succ k =>
      have e : (nw + 16 - (k + 1)) % 17 = (now + 16 - k) % 17 := by omega
      rw [e]
      exact old _ _ (by omega) (by omega) (h7 k (by omega))
  · intro k hk
    simp at hk
end
