theorem len_le_of_sub : ∀ {l1 l2 : List Nat}, l1.Nodup → (∀ x, x ∈ l1 → x ∈ l2) → l1.length ≤ l2.length
  | [], l2, _, _ => Nat.zero_le _
  | a :: t, l2, hd, h => by
    obtain ⟨h1, h2⟩ := List.nodup_cons.mp hd
    have ha : a ∈ l2 := h a List.mem_cons_self
    have := len_le_of_sub (l1 := t) (l2 := l2.erase a) h2 (fun x hx => by
      have hne : x ≠ a := fun q => h1 (by rw [← q]; exact hx)
      exact (List.mem_erase_of_ne hne).mpr (h x (List.mem_cons_of_mem _ hx)))
    rw [List.length_erase_of_mem ha] at this
    have hp : 0 < l2.length := List.length_pos_of_mem ha
    rw [List.length_cons]; omega
theorem la_out {A : List Nat} {t : Nat} : ∀ k, k ≤ A.length → (la A t k = none ∧ ∀ i, i < k → ed A i < t) ∨ ∃ m, la A t k = some m ∧ (∃ i, i < k ∧ ed A i = m) ∧ t ≤ m ∧ ∀ i, i < k → t ≤ ed A i → m ≤ ed A i := by
  intro k
  induction k with
  | zero => exact fun _ => Or.inl ⟨rfl, fun i h => absurd h (Nat.not_lt_zero _)⟩
  | succ k ih =>
    intro hk
    rw [la]
    by_cases q : t ≤ ed A k
    · rw [if_pos q]
      rcases ih (by omega) with ⟨a, b⟩ | ⟨m, a, ⟨i, b, c⟩, d, e⟩
      · rw [a]
        refine Or.inr ⟨ed A k, rfl, ⟨k, by omega, rfl⟩, q, fun i hi h => ?_⟩
        rcases Nat.lt_succ_iff_lt_or_eq.mp hi with y | y
        · have := b i y; omega
        · rw [y]; exact Nat.le_refl _
      · rw [a]
        dsimp only
        by_cases z : ed A k < m
        · rw [if_pos z]
          refine Or.inr ⟨ed A k, rfl, ⟨k, by omega, rfl⟩, q, fun i hi h => ?_⟩
          rcases Nat.lt_succ_iff_lt_or_eq.mp hi with y | y
          · have := e i y h; omega
          · rw [y]; exact Nat.le_refl _
        · rw [if_neg z]
          refine Or.inr ⟨m, rfl, ⟨i, by omega, c⟩, d, fun j hj h => ?_⟩
          rcases Nat.lt_succ_iff_lt_or_eq.mp hj with y | y
          · exact e j y h
          · rw [y]; omega
    · rw [if_neg q]
      rcases ih (by omega) with ⟨a, b⟩ | ⟨m, a, ⟨i, b, c⟩, d, e⟩
      · refine Or.inl ⟨a, fun i hi => ?_⟩
        rcases Nat.lt_succ_iff_lt_or_eq.mp hi with y | y
        · exact b i y
        · rw [y]; omega
      · refine Or.inr ⟨m, a, ⟨i, by omega, c⟩, d, fun j hj h => ?_⟩
        rcases Nat.lt_succ_iff_lt_or_eq.mp hj with y | y
        · exact e j y h
        · rw [y] at h; omega
/-- the first i of a list -/
def pf (L : List Nat) : Nat → List Nat
  | 0 => []
  | i + 1 => pf L i ++ [ed L i]
theorem pf_len (L : List Nat) (i : Nat) : (pf L i).length = i := by
  induction i with
  | zero => rfl
  | succ i ih => rw [pf, List.length_append, List.length_singleton, ih]
theorem pf_ed (L : List Nat) {i j : Nat} (h : j < i) : ed (pf L i) j = ed L j := by
  induction i with
  | zero => omega
  | succ i ih =>
    rw [pf]
    by_cases q : j < i
    · rw [ed_app (by rw [pf_len]; exact q)]; exact ih q
    · have : j = i := by omega
      subst this
      have := ed_last (pf L j) (ed L j)
      rw [pf_len] at this
      exact this
theorem list_ext {A B : List Nat} (h : A.length = B.length) (he : ∀ i, i < A.length → ed A i = ed B i) : A = B := by
  apply List.ext_getElem h
  intro i h1 h2
  have := he i h1
  unfold ed at this
  rw [List.getD_eq_getElem?_getD, List.getElem?_eq_getElem h1, List.getD_eq_getElem?_getD, List.getElem?_eq_getElem h2] at this
  exact this
theorem pf_all (L : List Nat) : pf L L.length = L := list_ext (pf_len _ _) (fun i hi => pf_ed L (by rw [pf_len] at hi; exact hi))
/-- strictly ascending -/
def asc (L : List Nat) : Prop := ∀ i j, i < j → j < L.length → ed L i < ed L j
theorem asc_uniq {A B : List Nat} (ha : asc A) (hb : asc B) (h : ∀ x, x ∈ A ↔ x ∈ B) : A = B := by
  have nd : ∀ {L : List Nat}, asc L → L.Nodup := by
    intro L hL
    refine List.pairwise_iff_getElem.mpr (fun i j hi hj hij e => ?_)
    have := hL i j hij hj
    unfold ed at this
    rw [List.getD_eq_getElem?_getD, List.getElem?_eq_getElem hi, List.getD_eq_getElem?_getD, List.getElem?_eq_getElem hj] at this
    simp only [Option.getD_some] at this
    omega
  have hl : A.length = B.length := Nat.le_antisymm (len_le_of_sub (nd ha) (fun x hx => (h x).mp hx)) (len_le_of_sub (nd hb) (fun x hx => (h x).mpr hx))
  refine list_ext hl ?_
  intro i
  induction i using Nat.strongRecOn with
  | _ i ih =>
    intro hi
    have key : ∀ {A B : List Nat}, asc A → asc B → (∀ x, x ∈ A → x ∈ B) → i < A.length → i < B.length → (∀ j, j < i → ed A j = ed B j) → ed B i ≤ ed A i := by
      intro A B ha hb h h1 h2 hj
      obtain ⟨k, hk, e⟩ := mem_ed.mp (h _ (mem_ed.mpr ⟨i, h1, rfl⟩))
      rcases Nat.lt_trichotomy k i with q | q | q
      · have := hj k q
        have := ha k i q h1
        omega
      · subst q; omega
      · have := hb i k q hk; omega
    have h1 := key ha hb (fun x hx => (h x).mp hx) hi (by omega) (fun j hj => ih j hj (by omega))
    have h2 := key hb ha (fun x hx => (h x).mpr hx) (by omega) hi (fun j hj => (ih j hj (by omega)).symm)
    omega
theorem ascA_mem (n : Nat) (E : List Nat) (t : Nat) : t ∈ ascA n E ↔ (t < 2 ^ n ∧ isAns n E t) := by
  unfold ascA
  rw [List.mem_filter, List.mem_range]
  exact ⟨fun h => ⟨h.1, of_bd_t h.2⟩, fun h => ⟨h.1, bd_t h.2⟩⟩
theorem ascA_asc (n : Nat) (E : List Nat) : asc (ascA n E) := by
  have h : (ascA n E).Pairwise (· < ·) := List.Pairwise.filter _ List.pairwise_lt_range
  intro i j hij hj
  have := List.pairwise_iff_getElem.mp h i j (by omega) hj hij
  unfold ed
  rw [List.getD_eq_getElem?_getD, List.getElem?_eq_getElem (by omega), List.getD_eq_getElem?_getD, List.getElem?_eq_getElem hj]
  exact this
theorem asc_nodup {L : List Nat} (hL : asc L) : L.Nodup := by
  refine List.pairwise_iff_getElem.mpr (fun i j hi hj hij e => ?_)
  have := hL i j hij hj
  unfold ed at this
  rw [List.getD_eq_getElem?_getD, List.getElem?_eq_getElem hi, List.getD_eq_getElem?_getD, List.getElem?_eq_getElem hj] at this
  simp only [Option.getD_some] at this
  omega
theorem kp_0 (E : List Nat) (k : Nat) : kp E 0 k = [] := by
  induction k with
  | zero => rfl
  | succ k ih => rw [kp, Nat.zero_testBit]; exact ih
section
variable {ver : Nat} {s : sT} {M : gM} {Q : Int32 → gM → Prop}
theorem X_answerCount (hI : XI ver s M) (h : ∀ M1 v1, XI v1 (o_answerCount s).2 M1 → v1 ≤ ver + 1 → Q (o_answerCount s).1 M1) : w_X8_answerCount M Q := by
  unfold w_X8_answerCount
  unfold o_answerCount at h
  refine S_succ hI (fun z M1 k => ?_) (fun z M1 k k2 k3 k4 => ?_)
  · rw [if_pos z] at h
    exact gbr_t rfl (h M1 ver k (by omega))
  · rw [if_neg (by rw [z]; decide)] at h
    refine gbr_f (by decide) ?_
    rw [k2.1]; exact h M1 ver k (by omega)
theorem X_visits (hI : XI ver s M) (h : ∀ M1 v1, XI v1 (o_visits s).2 M1 → v1 ≤ ver + 1 → Q (o_visits s).1 M1) : w_X8_visits M Q := by
  unfold w_X8_visits
  unfold o_visits at h
  refine S_succ hI (fun z M1 k => ?_) (fun z M1 k k2 k3 k4 => ?_)
  · rw [if_pos z] at h
    exact gbr_t rfl (h M1 ver k (by omega))
  · rw [if_neg (by rw [z]; decide)] at h
    refine gbr_f (by decide) ?_
    rw [k2.2.2.2.2.1]; exact h M1 ver k (by omega)
/-- a place among the answers -/
theorem S_place {p : Int32} {Q : Int32 → gM → Prop} (hI : XI ver s M) (h1 : p < 0 → Q (-3) M) (h2 : ¬ p < 0 → (srch s.1 s.2.1).2.2.2.2 = true → ∀ M1, XI ver s M1 → Q (-6) M1) (h3 : ¬ p < 0 → (srch s.1 s.2.1).2.2.2.2 = false → ∀ M1, XI ver s M1 → (srch s.1 s.2.1).1.length ≤ pn p → Q (-7) M1) (h4 : ∀ j, p = nI j → pn p = j → (srch s.1 s.2.1).2.2.2.2 = false → ∀ M1, XI ver s M1 → SS (srch s.1 s.2.1) M1 → SR (srch s.1 s.2.1).1 M1 → setsB s.1 (srch s.1 s.2.1).1 → j < (srch s.1 s.2.1).1.length → Q 0 M1) : w_X8_problemWithPlace p M Q := by
  unfold w_X8_problemWithPlace
  rcases arg_cases p with ⟨a1, a2⟩ | ⟨j, a1, a2, a3⟩
  · exact gbr_t a1 (h1 a1)
  · subst a2
    refine gbr_f (nI_lt0 a1) ?_
    refine S_succ hI (fun z M1 k => gbr_t rfl (h2 (nI_lt0 a1) z M1 k)) (fun z M1 k k2 k3 k4 => gbr_f (by decide) ?_)
    have hl := k3.1
    refine gbr_lt j _ rfl k2.1 a1 (by omega) (fun q => ?_) (fun q => ?_)
    · exact h4 j rfl a3 z M1 k k2 k3 k4 q
    · exact h3 (nI_lt0 a1) z M1 k (by omega)
theorem X_answer {p : Int32} (hI : XI ver s M) (h : ∀ M1 v1, XI v1 (o_answer s p).2 M1 → v1 ≤ ver + 1 → Q (o_answer s p).1 M1) : w_X8_answer p M Q := by
  unfold w_X8_answer
  unfold o_answer at h
  refine S_place hI (fun a => ?_) (fun a z M1 k => ?_) (fun a z M1 k l => ?_) (fun j a1 a2 z M1 k k2 k3 k4 l => ?_)
  · rw [if_pos a] at h
    exact gbr_f (by decide) (h M ver hI (by omega))
  · rw [if_neg a, if_pos z] at h
    exact gbr_f (by decide) (h M1 ver k (by omega))
  · rw [if_neg a, if_neg (by rw [z]; decide), if_neg (by omega)] at h
    exact gbr_f (by decide) (h M1 ver k (by omega))
  · have hl := k3.1
    rw [if_neg (by rw [a1]; exact nI_lt0 (by omega)), if_neg (by rw [z]; decide), if_pos (by omega), a2] at h
    rw [a1]
    refine gbr_t rfl ⟨c_in (by omega) (by decide), ?_⟩
    rw [c_cl (by omega), k2.2.1 j l]
    exact h M1 ver k (by omega)
theorem X_delay {p : Int32} (hI : XI ver s M) (h : ∀ M1 v1, XI v1 (o_delay s p).2 M1 → v1 ≤ ver + 1 → Q (o_delay s p).1 M1) : w_X8_delay p M Q := by
  unfold w_X8_delay
  unfold o_delay at h
  refine S_place hI (fun a => ?_) (fun a z M1 k => ?_) (fun a z M1 k l => ?_) (fun j a1 a2 z M1 k k2 k3 k4 l => ?_)
  · rw [if_pos a] at h
    exact gbr_f (by decide) (h M ver hI (by omega))
  · rw [if_neg a, if_pos z] at h
    exact gbr_f (by decide) (h M1 ver k (by omega))
  · rw [if_neg a, if_neg (by rw [z]; decide), if_neg (by omega)] at h
    exact gbr_f (by decide) (h M1 ver k (by omega))
  · have hl := k3.1
    rw [if_neg (by rw [a1]; exact nI_lt0 (by omega)), if_neg (by rw [z]; decide), if_pos (by omega), a2] at h
    rw [a1]
    refine gbr_t rfl ⟨c_in (by omega) (by decide), ?_⟩
    have hd := k2.2.2.2.1
    rw [c_cl (by omega), k2.2.2.1 j (by omega)]
    exact h M1 ver k (by omega)
theorem X_lightest {p : Int32} (hI : XI ver s M) (h : ∀ M1 v1 r, lightO s p r → XI v1 s M1 → v1 ≤ ver + 1 → Q r M1) : w_X8_lightest p M Q := by
  unfold w_X8_lightest
  refine S_place hI (fun a => ?_) (fun a z M1 k => ?_) (fun a z M1 k l => ?_) (fun j a1 a2 z M1 k k2 k3 k4 l => ?_)
  · exact gbr_f (by decide) (h M ver _ (by unfold lightO; rw [if_pos a]) hI (by omega))
  · exact gbr_f (by decide) (h M1 ver _ (by unfold lightO; rw [if_neg a, if_pos z]) k (by omega))
  · exact gbr_f (by decide) (h M1 ver _ (by unfold lightO; rw [if_neg a, if_neg (by rw [z]; decide), if_neg (by omega)]) k (by omega))
  · have hl := k3.1
    have hlo : ∀ r, lightR s.2.2.2.2.1 (srch s.1 s.2.1).1 j r → lightO s p (nI r) := fun r hr => by
      unfold lightO
      rw [if_neg (by rw [a1]; exact nI_lt0 (by omega)), if_neg (by rw [z]; decide), if_pos (by omega), a2]
      exact ⟨r, hr, rfl⟩
    rw [a1]
    refine gbr_t rfl ?_
    have hk := k
    obtain ⟨b1, b2, b3, b4, b5, b6, b7, b8, b9, b10, b11, b12⟩ := k
    obtain ⟨c1, c2⟩ := srch_spec b1.2.1 b1.1.2 z
    refine S_lightestOf b4 k3 k4 b1.1.2 (nodup_ed c2) l (fun r M2 j1 j2 => ?_)
    refine h M2 ver _ (hlo r j1) (XI_scr hk (j2.sub (by decide)) (CSr_s b7 (j2 4 (by decide)) (j2 30 (by decide)) (j2 31 (by decide))) (CHc_s b8 (j2 6 (by decide)) (j2 35 (by decide))) (CD_s b9 (j2 7 (by decide)) (j2 36 (by decide)))) (by omega)
theorem X_next {p : Int32} (hI : XI ver s M) (h : ∀ M1 v1, XI v1 (o_next s p).2 M1 → v1 ≤ ver + 1 → Q (o_next s p).1 M1) : w_X8_next p M Q := by
  have hn := hI.1.1
  have h14 := p2_14 hn.2
  unfold w_X8_next
  unfold o_next at h
  refine gbr_c (fun q => ?_) (fun q => ?_)
  · rw [if_pos q] at h
    refine S_succ hI (fun z M1 k => ?_) (fun z M1 k k2 k3 k4 => ?_)
    · rw [if_pos z] at h
      exact gbr_t rfl (h M1 ver k (by omega))
    · rw [if_neg (by rw [z]; decide)] at h
      refine gbr_f (by decide) ?_
      rw [q]
      exact S_leastAbove k3 k4 hn.2 below_m1 (h M1 ver k (by omega))
  · rw [if_neg q] at h
    refine S_isSet hI.1 ?_
    refine gbr_b _ rfl (fun y => ?_) (fun y => ?_)
    · rw [if_neg (of_decide_eq_false y)] at h
      exact h M ver hI (by omega)
    · replace y := of_decide_eq_true y
      rw [if_pos y] at h
      refine S_succ hI (fun z M1 k => ?_) (fun z M1 k k2 k3 k4 => ?_)
      · rw [if_pos z] at h
        exact gbr_t rfl (h M1 ver k (by omega))
      · rw [if_neg (by rw [z]; decide)] at h
        refine gbr_f (by decide) ?_
        rw [pn_eq (p := p) (by omega)]
        exact S_leastAbove k3 k4 hn.2 (below_nI (by omega)) (h M1 ver k (by omega))
theorem X_answersOfSize {p : Int32} (hI : XI ver s M) (h : ∀ M1 v1, XI v1 (o_answersOfSize s p).2 M1 → v1 ≤ ver + 1 → Q (o_answersOfSize s p).1 M1) : w_X8_answersOfSize p M Q := by
  have hn := hI.1.1
  unfold w_X8_answersOfSize
  unfold o_answersOfSize at h
  have bad : ¬ pn p ≤ s.1 → Q (-3) M := fun q => by
    rw [if_neg q] at h
    exact h M ver hI (by omega)
  rcases arg_cases p with ⟨a1, a2⟩ | ⟨j, a1, a2, a3⟩
  · exact gbr_t a1 (bad (by omega))
  · subst a2
    refine gbr_f (nI_lt0 a1) ?_
    refine gbr_lt s.1 j hI.1.2.2.1 rfl (by omega) a1 (fun q => bad (by omega)) (fun q => ?_)
    rw [if_pos (by omega), a3] at h
    refine S_succ hI (fun z M1 k => ?_) (fun z M1 k k2 k3 k4 => ?_)
    · rw [if_pos z] at h
      exact gbr_t rfl (h M1 ver k (by omega))
    · rw [if_neg (by rw [z]; decide)] at h
      refine gbr_f (by decide) ?_
      exact S_countOfSize k3 k4 hn.2 a1 (h M1 ver k (by omega))
theorem X_answersWith {p : Int32} (hI : XI ver s M) (h : ∀ M1 v1, XI v1 (o_answersWith s p).2 M1 → v1 ≤ ver + 1 → Q (o_answersWith s p).1 M1) : w_X8_answersWith p M Q := by
  have hn := hI.1.1
  unfold w_X8_answersWith
  unfold o_answersWith at h
  refine S_isVertex hI.1 ?_
  refine gbr_b _ rfl (fun y => ?_) (fun y => ?_)
  · rw [if_neg (of_decide_eq_false y)] at h
    exact h M ver hI (by omega)
  · replace y := of_decide_eq_true y
    rw [if_pos y] at h
    refine S_succ hI (fun z M1 k => ?_) (fun z M1 k k2 k3 k4 => ?_)
    · rw [if_pos z] at h
      exact gbr_t rfl (h M1 ver k (by omega))
    · rw [if_neg (by rw [z]; decide)] at h
      refine gbr_f (by decide) ?_
      rw [pn_eq (p := p) (by omega)]
      exact S_countWith k3 k4 hn.2 (by omega) (h M1 ver k (by omega))
theorem X_weightOf {p : Int32} (hI : XI ver s M) (h : ∀ M1 v1, XI v1 (o_weightOf s p).2 M1 → v1 ≤ ver + 1 → Q (o_weightOf s p).1 M1) : w_X8_weightOf p M Q := by
  have h14 := p2_14 hI.1.1.2
  replace h := h M ver hI (by omega)
  unfold w_X8_weightOf
  unfold o_weightOf at h
  refine S_isSet hI.1 ?_
  refine gbr_b _ rfl (fun y => ?_) (fun y => ?_)
  · rw [if_neg (of_decide_eq_false y)] at h; exact h
  · replace y := of_decide_eq_true y
    rw [if_pos y] at h
    rw [pn_eq (p := p) (by omega)]
    exact S_sumOf hI.2.2.2.1 (by omega) h
/-- the counts, from the class's memory -/
theorem S_cnts {Q : gM → Prop} (hI : XI ver s M) (h : ∀ M1, XI ver s M1 → M1 6 3 = nI (htot s.1 s.2.1) → (∀ j, j < 15 → M1 35 j = nI (hsz s.1 s.2.1 j)) → Q M1) : w_X4_bringUpToDate M Q := by
  have hI0 := hI
  obtain ⟨a1, a2, a3, a4, a5, a6, a7, a8, a9, a10, a11, a12⟩ := hI
  refine S_bring a1 a2 a6 a8 (fun M1 k1 k2 k3 k4 => h M1 ?_ k2 k3)
  exact XI_scr hI0 (k4.sub (by decide)) (CSr_s a7 (k4 4 (by decide)) (k4 30 (by decide)) (k4 31 (by decide))) ⟨by rw [k1]; exact old_self ver, fun _ => ⟨k2, k3⟩⟩ (CD_s a9 (k4 7 (by decide)) (k4 36 (by decide)))
theorem X_hittingSets {p : Int32} (hI : XI ver s M) (h : ∀ M1 v1, XI v1 (o_hittingSets s p).2 M1 → v1 ≤ ver + 1 → Q (o_hittingSets s p).1 M1) : w_X8_hittingSets p M Q := by
  have hn := hI.1.1
  unfold w_X8_hittingSets
  unfold o_hittingSets at h
  by_cases hm : p = -1
  · rw [if_pos hm] at h
    subst hm
    refine gbr_f (by decide) ?_
    refine gbr_f ?_ (gbr_t rfl ?_)
    · rw [hI.1.2.2.1, Int32.lt_iff_toInt_lt, nI_toInt (by omega), show (-1 : Int32).toInt = -1 by decide]
      omega
    · unfold w_X4_countOfAll
      refine S_cnts hI (fun M1 k1 k2 k3 => ?_)
      rw [k2]; exact h M1 ver k1 (by omega)
  · rw [if_neg hm] at h
    have bad : ¬ pn p ≤ s.1 → Q (-3) M := fun q => by
      rw [if_neg q] at h
      exact h M ver hI (by omega)
    rcases arg_cases p with ⟨a1, a2⟩ | ⟨j, a1, a2, a3⟩
    · refine gbr_t ?_ (bad (by omega))
      rw [Int32.lt_iff_toInt_lt, show (-1 : Int32).toInt = -1 by decide]
      rw [Int32.lt_iff_toInt_lt, Int32.toInt_zero] at a1
      have : p.toInt ≠ -1 := fun q => hm (Int32.toInt_inj.mp (q.trans (by decide)))
      omega
    · subst a2
      refine gbr_f ?_ ?_
      · rw [Int32.lt_iff_toInt_lt, nI_toInt a1, show (-1 : Int32).toInt = -1 by decide]
        omega
      refine gbr_lt s.1 j hI.1.2.2.1 rfl (by omega) a1 (fun q => bad (by omega)) (fun q => ?_)
      rw [if_pos (by omega), a3] at h
      refine gbr_f (nI_m1 a1) ?_
      unfold w_X4_countOfSize
      refine S_cnts hI (fun M1 k1 k2 k3 => ⟨c_in (by omega) (by decide), ?_⟩)
      rw [c_cl a1, k3 j (by omega)]
      exact h M1 ver k1 (by omega)
theorem S_isFamily {p : Int32} {Q : Int32 → gM → Prop} (h1 : pn p < 3 → Q 1 M) (h2 : ¬ pn p < 3 → Q 0 M) : w_X8_isFamily p M Q := by
  unfold w_X8_isFamily
  refine gbr_pe 0 rfl (by decide) (fun q => h1 (by omega)) (fun q0 => ?_)
  refine gbr_pe 1 rfl (by decide) (fun q => h1 (by omega)) (fun q1 => ?_)
  exact gbr_pe 2 rfl (by decide) (fun q => h1 (by omega)) (fun q2 => h2 (by omega))
/-- a diagram, from the class's memory -/
theorem S_dg {p : Int32} {Q : gM → Prop} {K : gM → Prop} (hI : XI ver s M) (hp : pn p < 3) (h1 : pn p = 1 ∧ (srch s.1 s.2.1).2.2.2.2 = true → ∀ M1, XI ver s M1 → K M1) (h2 : ¬ (pn p = 1 ∧ (srch s.1 s.2.1).2.2.2.2 = true) → ∀ M1, XI ver s M1 → M1 7 7 = nI ((dgA s.1 s.2.1 (pn p)).2.1.length + 2) → (∀ v, v < s.1 → M1 36 v = nI ((dgA s.1 s.2.1 (pn p)).2.2 v)) → Q M1) : w_X8_canBeDrawn p M (fun (r4 : Int32) (M3 : gM) => gbr ((r4 : Int32) = 0) (K M3) (w_X0_draw p M3 Q)) := by
  have drw : ∀ M3, XI ver s M3 → (pn p = 1 → SS (srch s.1 s.2.1) M3 ∧ (srch s.1 s.2.1).2.2.2.2 = false) → ¬ (pn p = 1 ∧ (srch s.1 s.2.1).2.2.2.2 = true) → w_X0_draw p M3 Q := by
    intro M3 hI3 hA hne
    have hI0 := hI3
    obtain ⟨a1, a2, a3, a4, a5, a6, a7, a8, a9, a10, a11, a12⟩ := hI3
    have ep := pn_eq (p := p) (by omega)
    obtain ⟨j, hj⟩ : ∃ j, j = pn p := ⟨_, rfl⟩
    rw [← hj] at ep hA hp hne h2
    rw [ep]
    refine S_draw a1 a2 a6 a9 hp hA (fun M1 k1 k2 k3 k4 k5 => h2 hne M1 ?_ k3 k4)
    refine XI_scr hI0 (k5.sub (by decide)) (CSr_s a7 (k5 4 (by decide)) (k5 30 (by decide)) (k5 31 (by decide))) (CHc_s a8 (k5 6 (by decide)) (k5 35 (by decide))) ⟨by rw [k1]; exact old_self ver, fun what hw _ hd => ?_⟩
    have e : j = what := nI_inj (by omega) (by omega) (k2.symm.trans hd)
    subst e
    exact ⟨fun q => (hA q).2, k3, k4⟩
  unfold w_X8_canBeDrawn
  refine gbr_pe 1 rfl (by decide) (fun q => ?_) (fun q => ?_)
  · refine S_succ hI (fun z M1 k => ?_) (fun z M1 k k2 k3 k4 => ?_)
    · exact gbr_t rfl (gbr_t rfl (h1 ⟨q, z⟩ M1 k))
    · refine gbr_f (by decide) (gbr_f (by decide) ?_)
      exact drw M1 k (fun _ => ⟨k2, z⟩) (fun y => by rw [z] at y; exact absurd y.2 (by decide))
  · exact gbr_f (by decide) (drw M hI (fun y => absurd y q) (fun y => q y.1))
theorem X_diagramSize {p : Int32} (hI : XI ver s M) (h : ∀ M1 v1, XI v1 (o_diagramSize s p).2 M1 → v1 ≤ ver + 1 → Q (o_diagramSize s p).1 M1) : w_X8_diagramSize p M Q := by
  unfold w_X8_diagramSize
  unfold o_diagramSize at h
  refine S_isFamily (fun q => gbr_f (by decide) ?_) (fun q => gbr_t rfl ?_)
  · rw [if_pos q] at h
    refine S_dg hI q (fun z M1 k => ?_) (fun z M1 k k2 k3 => ?_)
    · rw [if_pos z] at h
      exact h M1 ver k (by omega)
    · rw [if_neg z] at h
      rw [k2]
      show Q (nI _ - nI 2) M1
      rw [pk_sub (by omega), Nat.add_sub_cancel]
      exact h M1 ver k (by omega)
  · rw [if_neg q] at h
    exact h M ver hI (by omega)
theorem X_nodesAt {p q : Int32} (hI : XI ver s M) (h : ∀ M1 v1, XI v1 (o_nodesAt s p q).2 M1 → v1 ≤ ver + 1 → Q (o_nodesAt s p q).1 M1) : w_X8_nodesAt p q M Q := by
  have hn := hI.1.1
  unfold w_X8_nodesAt
  unfold o_nodesAt at h
  refine S_isFamily (fun y => gbr_f (by decide) ?_) (fun y => gbr_t rfl ?_)
  · rw [if_pos y] at h
    refine S_isVertex hI.1 ?_
    refine gbr_b _ rfl (fun x => ?_) (fun x => ?_)
    · rw [if_neg (of_decide_eq_false x)] at h
      exact h M ver hI (by omega)
    · replace x := of_decide_eq_true x
      rw [if_pos x] at h
      refine S_dg hI y (fun z M1 k => ?_) (fun z M1 k k2 k3 => ?_)
      · rw [if_pos z] at h
        exact h M1 ver k (by omega)
      · rw [if_neg z] at h
        rw [pn_eq (p := q) (by omega)]
        refine ⟨c_in (by omega) (by decide), ?_⟩
        rw [c_cl (by omega), k3 _ x]
        exact h M1 ver k (by omega)
  · rw [if_neg y] at h
    exact h M ver hI (by omega)
theorem X_difference (hI : XI ver s M) (h : ∀ M1 v1 r, diffO s r → XI v1 s M1 → v1 ≤ ver + 1 → Q r M1) : w_X8_difference M Q := by
  unfold w_X8_difference
  refine S_succ hI (fun z M1 k => ?_) (fun z M1 k k2 k3 k4 => ?_)
  · exact gbr_t rfl (h M1 ver _ (by unfold diffO; rw [if_pos z]) k (by omega))
  · refine gbr_f (by decide) ?_
    obtain ⟨c1, c2⟩ := srch_spec k.1.2.1 k.1.1.2 z
    exact S_leastDifference k.1 k.2.1 k3 c1 (fun r hr => h M1 ver r (by unfold diffO; rw [if_neg (by rw [z]; decide)]; exact hr) k (by omega))
theorem X_isSelfDual (hI : XI ver s M) (h : ∀ M1 v1 r, selfO s r → XI v1 s M1 → v1 ≤ ver + 1 → Q r M1) : w_X8_isSelfDual M Q := by
  unfold w_X8_isSelfDual
  refine S_succ hI (fun z M1 k => ?_) (fun z M1 k k2 k3 k4 => ?_)
  · exact gbr_t rfl (h M1 ver _ (by unfold selfO; rw [if_pos z]) k (by omega))
  · refine gbr_f (by decide) ?_
    obtain ⟨c1, c2⟩ := srch_spec k.1.2.1 k.1.1.2 z
    have so : ∀ r q, lstP (diffP s.1 s.2.1) q → (r = if q = -7 then 1 else 0) → selfO s r := fun r q hq hr => by
      unfold selfO
      rw [if_neg (by rw [z]; decide)]
      exact ⟨q, hq, hr⟩
    refine S_leastDifference k.1 k.2.1 k3 c1 (fun r hr => gbr_c (fun q => ?_) (fun q => ?_))
    · exact h M1 ver _ (so _ r hr (by rw [if_pos q])) k (by omega)
    · exact h M1 ver _ (so _ r hr (by rw [if_neg q])) k (by omega)
theorem X_isIntersecting (hI : XI ver s M) (h : ∀ M1 v1, XI v1 (o_isIntersecting s).2 M1 → v1 ≤ ver + 1 → Q (o_isIntersecting s).1 M1) : w_X8_isIntersecting M Q := by
  replace h := h M ver hI (by omega)
  unfold w_X8_isIntersecting
  unfold o_isIntersecting at h
  refine S_eachTwoMeet hI.1 ?_
  refine gbr_b _ rfl (fun z => ?_) (fun z => ?_) <;> (rw [z] at h; exact h)
theorem X_type {q : Nat} (hI : XI ver s M) (hq : q < 65536) (h : ∀ M1 v1, XI v1 (o_type s q).2 M1 → v1 ≤ ver + 1 → Q (o_type s q).1 M1) : w_X8_type (nI q) M Q := by
  have hI0 := hI
  obtain ⟨a1, a2, a3, a4, a5, a6, a7, a8, a9, a10, a11, a12⟩ := hI
  obtain ⟨t1, t2, t3⟩ := a5
  unfold o_type at h
  unfold w_X8_type w_X1_append
  refine gbr_lt _ 100 t1 rfl (by omega) (by decide) (fun z => ?_) (fun z => ?_)
  · rw [if_pos z] at h
    rw [t1]
    refine ⟨c_in (by omega) (by decide), ?_⟩
    intro M1 e1 M2 e2
    have ec : vp_nar .char (nI q) = nI q := by
      have := (pk_charN hq).1
      unfold vp_nar
      rw [this]
    rw [c_cl (by omega), ec] at e1
    have f1 : M1 8 0 = nI s.2.2.2.2.2.1 := by rw [e1, gst_n (by decide)]; exact t1
    rw [f1, c_add1] at e2
    have hs : same [8, 41] M M2 := by rw [e2, e1]; exact (same.rfl.st (by decide)).st (by decide)
    refine gbr_f (by decide) ?_
    have f2 : M2 8 0 = nI (s.2.2.2.2.2.1 + 1) := by rw [e2, gst_s]
    rw [f2]
    refine h M2 ver ⟨XG_s a1 (by rw [hs 1 (by decide)]) (by rw [hs 1 (by decide)]) (hs 9 (by decide)), fun v hv => by rw [hs 10 (by decide)]; exact a2 v hv, XH_same a3 (fun i hi => hs i ?_), fun v hv => by rw [hs 32 (by decide)]; exact a4 v hv, ⟨f2, (show s.2.2.2.2.2.1 + 1 ≤ 100 by omega), fun i hi => ?_⟩, by rw [hs 1 (by decide)]; exact a6, CSr_s a7 (hs 4 (by decide)) (hs 30 (by decide)) (hs 31 (by decide)), CHc_s a8 (hs 6 (by decide)) (hs 35 (by decide)), CD_s a9 (hs 7 (by decide)) (hs 36 (by decide)), a10, a11, a12⟩ (by omega)
    · simp only [List.mem_cons, List.not_mem_nil, or_false] at hi ⊢; omega
    · show M2 41 i = nI (setW s.2.2.2.2.2.2 s.2.2.2.2.2.1 q i) ∧ setW s.2.2.2.2.2.2 s.2.2.2.2.2.1 q i < 65536
      have hi : i < s.2.2.2.2.2.1 + 1 := hi
      rw [e2, gst_n (by decide), e1, gst_c, setW]
      by_cases u : i = s.2.2.2.2.2.1
      · rw [if_pos u, if_pos u]; exact ⟨rfl, hq⟩
      · rw [if_neg u, if_neg u]; exact t3 i (by omega)
  · rw [if_neg (by omega)] at h
    exact gbr_t rfl (h M ver hI0 (by omega))
theorem X_clearText (hI : XI ver s M) (h : ∀ M1 v1, XI v1 (o_clearText s).2 M1 → v1 ≤ ver + 1 → Q (o_clearText s).1 M1) : w_X8_clearText M Q := by
  obtain ⟨a1, a2, a3, a4, a5, a6, a7, a8, a9, a10, a11, a12⟩ := hI
  unfold w_X8_clearText
  rw [a5.1]
  refine nm_e ?_
  intro M2 e2
  have hs : same [8] M M2 := by rw [e2]; exact same.rfl.st (by decide)
  refine h M2 ver ⟨XG_s a1 (by rw [hs 1 (by decide)]) (by rw [hs 1 (by decide)]) (hs 9 (by decide)), fun v hv => by rw [hs 10 (by decide)]; exact a2 v hv, XH_same a3 (fun i hi => hs i ?_), fun v hv => by rw [hs 32 (by decide)]; exact a4 v hv, ⟨by rw [e2, gst_s]; rfl, Nat.zero_le _, fun i hi => absurd hi (Nat.not_lt_zero _)⟩, by rw [hs 1 (by decide)]; exact a6, CSr_s a7 (hs 4 (by decide)) (hs 30 (by decide)) (hs 31 (by decide)), CHc_s a8 (hs 6 (by decide)) (hs 35 (by decide)), CD_s a9 (hs 7 (by decide)) (hs 36 (by decide)), a10, a11, a12⟩ (by omega)
  simp only [List.mem_cons, List.not_mem_nil, or_false] at hi ⊢; omega
theorem rdT_len {n : Nat} {c : Nat → Nat} {len : Nat} : ∀ {f k : Nat} {E L : List Nat}, rdT n c len f E k = .inr L → E.length ≤ L.length := by
  intro f
  induction f with
  | zero => intro k E L h; cases h
  | succ f ih =>
    intro k E L h
    rw [rdT] at h
    split at h
    · cases h
    · split at h
      · have := ih h
        rw [List.length_append, List.length_singleton] at this
        omega
      · split at h
        · cases h
        · cases h
          rw [List.length_append, List.length_singleton]; omega
theorem X_readEdges (hI : XI ver s M) (hv : ver < 999999) (h : ∀ M1 v1, XI v1 (o_readEdges s).2 M1 → v1 ≤ ver + 1 → Q (o_readEdges s).1 M1) : w_X8_readEdges M Q := by
  have hI0 := hI
  obtain ⟨a1, a2, a3, a4, a5, a6, a7, a8, a9, a10, a11, a12⟩ := hI
  have hl := a5.2.1
  unfold o_readEdges at h
  unfold w_X8_readEdges
  rw [a1.2.2.2.1]
  refine nm_e ?_
  refine S_readInto a1 a5 (fun e he M2 B k1 k2 k3 k4 => ?_) (fun L hL M2 k1 k2 k3 k4 => ?_)
  · rw [he] at h
    have hel := rdT_inl (Nat.zero_le _) he
    refine gbr_f (digI_ne (v := e) (by omega)) ?_
    intro M6 e6
    have hs : same [1, 8, 9] M M6 := by rw [e6]; exact k4.st (by decide)
    obtain ⟨hn, hS, hvv, hc, hr⟩ := k1
    have hrow : rowIs (M6 9) s.2.1 := fun i hi => by
      rw [e6, gst_n (by decide), hr i (by rw [List.length_append]; omega)]
      unfold ed
      rw [List.getD_eq_getElem?_getD, List.getD_eq_getElem?_getD, List.getElem?_append_left hi]
    refine h M6 ver ⟨⟨hn, a1.2.1, by rw [e6, gst_k (by decide)]; exact hvv, by rw [e6, gst_s], hrow⟩, fun v hv => by rw [hs 10 (by decide)]; exact a2 v hv, XH_same a3 (fun i hi => hs i ?_), fun v hv => by rw [hs 32 (by decide)]; exact a4 v hv, XTx_s a5 (by rw [e6, gst_n (by decide)]; exact k3) (hs 41 (by decide)), by rw [e6, gst_k (by decide), k2]; exact a6, CSr_s a7 (hs 4 (by decide)) (hs 30 (by decide)) (hs 31 (by decide)), CHc_s a8 (hs 6 (by decide)) (hs 35 (by decide)), CD_s a9 (hs 7 (by decide)) (hs 36 (by decide)), a10, a11, a12⟩ (by omega)
    simp only [List.mem_cons, List.not_mem_nil, or_false] at hi ⊢; omega
  · rw [hL] at h
    refine gbr_t rfl ?_
    refine S_edit hI0 hv k1 k2 (fun i hi => k4 i (by simp only [List.mem_cons, List.not_mem_nil, or_false, not_or] at hi ⊢; omega)) (Or.inl (k4 4 (by decide))) k3 (fun M4 j1 j2 => ?_)
    rw [j2, pk_sub (rdT_len hL)]
    exact h M4 (ver + 1) j1 (Nat.le_refl _)
theorem X_dualize (hI : XI ver s M) (hv : ver < 999999) (h : ∀ M1 v1, XI v1 (o_dualize s).2 M1 → v1 ≤ ver + 1 → Q (o_dualize s).1 M1) : w_X8_dualize M Q := by
  have hn := hI.1.1
  have h14 := p2_14 hn.2
  have hlE := hI.1.2.1.1
  unfold o_dualize at h
  unfold w_X8_dualize
  refine gbr_eq _ 0 hI.1.2.2.2.1 rfl (by omega) (by decide) (fun q => ?_) (fun q => ?_)
  · rw [if_pos q] at h
    exact h M ver hI (by omega)
  rw [if_neg q] at h
  refine S_succ hI (fun z M1 k => ?_) (fun z M1 k k2 k3 k4 => ?_)
  · rw [if_pos z] at h
    exact gbr_t rfl (h M1 ver k (by omega))
  rw [if_neg (by rw [z]; decide)] at h
  refine gbr_f (by decide) ?_
  obtain ⟨c1, c2⟩ := srch_spec k.1.2.1 k.1.1.2 z
  have hA := k3.1
  refine gbr_lt 24 _ rfl k2.1 (by decide) (by omega) (fun y => ?_) (fun y => ?_)
  · rw [if_pos y] at h
    exact h M1 ver k (by omega)
  rw [if_neg (by omega)] at h
  obtain ⟨A, hAd⟩ : ∃ A, A = (srch s.1 s.2.1).1 := ⟨_, rfl⟩
  rw [← hAd] at c1 c2 k3 k4 hA y
  obtain ⟨L, hL⟩ : ∃ L, L = ascA s.1 s.2.1 := ⟨_, rfl⟩
  have hasc : asc L := by rw [hL]; exact ascA_asc _ _
  have hmem : ∀ x, x ∈ L ↔ x ∈ A := fun x => by rw [hL, ascA_mem]; exact (c1 x).symm
  rw [← hL] at h
  have hlen : L.length = A.length := Nat.le_antisymm (len_le_of_sub (asc_nodup hasc) (fun x hx => (hmem x).mp hx)) (len_le_of_sub c2 (fun x hx => (hmem x).mpr hx))
  have hLs : ∀ i, i < L.length → 0 < ed L i ∧ ed L i < 2 ^ s.1 := fun i hi => by
    have h1 := (c1 _).mp ((hmem _).mp (mem_ed.mpr ⟨i, hi, rfl⟩))
    refine ⟨Nat.pos_of_ne_zero (fun e => ?_), h1.1⟩
    have h2 := missE_0.mp h1.2.1 0 (by omega)
    rw [e, Nat.and_zero] at h2
    exact h2 rfl
  have hk0 := k
  obtain ⟨a1, a2, a3, a4, a5, a6, a7, a8, a9, a10, a11, a12⟩ := k
  refine S_keepOnly (w := 0) a1 (by decide) (fun M3 j1 j2 j3 => ?_)
  rw [kp_0] at j1
  refine lp (σ := Int32 × gM) (s0 := (-1, M3)) (fun f x t => w_X8_dualize_L53 Q _ f t.1 x t.2) (fun i t => (∃ u, below t.1 u ∧ (i = 0 → u = 0) ∧ (∀ j, i = j + 1 → u = ed L j + 1)) ∧ XG s.1 (pf L i) t.2 ∧ t.2 1 5 = M1 1 5 ∧ same [1, 9] M1 t.2) A.length 0 rfl (Nat.zero_le _) ⟨⟨0, below_m1, fun _ => rfl, fun j e => by omega⟩, j1, j2, j3⟩ ?_ ?_
  · rintro f ⟨tl, t⟩ ⟨-, g2, g3, g4⟩
    rw [w_X8_dualize_L53.eq_2]
    dsimp only at g2 g3 g4 ⊢
    refine gbr_ltF A.length A.length rfl (by rw [g4 4 (by decide)]; exact k3.2.1) (by omega) (by omega) (Nat.le_refl _) ?_
    rw [← hlen, pf_all] at g2
    refine S_edit hk0 hv g2 g3 (same_sub6 g4) (Or.inl (g4 4 (by decide))) (by rw [g4 8 (by decide)]) (fun M4 l1 l2 => ?_)
    rw [l2]
    exact h M4 (ver + 1) l1 (Nat.le_refl _)
  · rintro f i ⟨tl, t⟩ hi ⟨⟨u, u1, u2, u3⟩, g2, g3, g4⟩ ih
    rw [w_X8_dualize_L53.eq_2]
    dsimp only at u1 g2 g3 g4 ⊢
    have hR : SR A t := ⟨k3.1, by rw [g4 4 (by decide)]; exact k3.2.1, by rw [g4 30 (by decide)]; exact k3.2.2⟩
    refine gbr_ltT i A.length rfl hR.2.1 (by omega) (by omega) hi ?_
    refine S_leastAbove hR k4 hn.2 u1 ?_
    have hla : la A u A.length = some (ed L i) := by
      have hge : u ≤ ed L i := by
        cases i with
        | zero => rw [u2 rfl]; exact Nat.zero_le _
        | succ j => rw [u3 j rfl]; exact hasc j (j + 1) (by omega) (by omega)
      have hleast : ∀ x, x ∈ A → u ≤ x → ed L i ≤ x := by
        intro x hx hux
        obtain ⟨m, hm, rfl⟩ := mem_ed.mp ((hmem x).mpr hx)
        rcases Nat.lt_trichotomy m i with w | w | w
        · exfalso
          cases i with
          | zero => omega
          | succ j =>
            rw [u3 j rfl] at hux
            by_cases v : m = j
            · subst v; omega
            · have := hasc m j (by omega) (by omega); omega
        · rw [w]; exact Nat.le_refl _
        · exact Nat.le_of_lt (hasc i m w hm)
      rcases la_out (A := A) (t := u) A.length (Nat.le_refl _) with ⟨e1, e2⟩ | ⟨m, e1, ⟨x, x1, x2⟩, e3, e4⟩
      · obtain ⟨x, x1, x2⟩ := mem_ed.mp ((hmem _).mp (mem_ed.mpr ⟨i, (by omega : i < L.length), rfl⟩))
        have := e2 x x1
        omega
      · rw [e1]
        have h1 := hleast m (mem_ed.mpr ⟨x, x1, x2⟩) e3
        obtain ⟨x', x1', x2'⟩ := mem_ed.mp ((hmem _).mp (mem_ed.mpr ⟨i, (by omega : i < L.length), rfl⟩))
        have h2 := e4 x' x1' (by omega)
        rw [show m = ed L i by omega]
    rw [hla]
    show w_X5_append (nI (ed L i)) t _
    have hl24 : (pf L i).length < 24 := by rw [pf_len]; omega
    refine S_append_raw g2.2.2.2.1 hl24 ?_
    have hg := XG_app g2 hl24 (hLs i (by omega))
    have hlt := (hLs i (by omega)).2
    refine nm_r (c_add1 i) (ih (nI (ed L i), gst (gst t 9 (pf L i).length (nI (ed L i))) 1 1 (nI ((pf L i).length + 1))) ⟨⟨ed L i + 1, below_nI (by omega), fun e => by omega, fun j e => by rw [show i = j by omega]⟩, hg, ?_, (g4.st (by decide)).st (by decide)⟩)
    show gst (gst t 9 (pf L i).length (nI (ed L i))) 1 1 (nI ((pf L i).length + 1)) 1 5 = M1 1 5
    rw [gst_k (by decide), gst_n (by decide)]; exact g3
end
