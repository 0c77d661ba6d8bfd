abbrev hS : List Nat := [2, 12, 13, 14, 15, 16, 17, 18, 19, 20, 21, 22, 23, 24, 25, 26, 27, 28, 29]
def lens (l : List (List Nat)) : Prop := ∀ k, k < l.length → (l.getD k []).length ≤ 24
theorem getD_cons0 (a : List Nat) (l : List (List Nat)) : (a :: l).getD 0 [] = a := rfl
theorem getD_consS (a : List Nat) (l : List (List Nat)) (k : Nat) : (a :: l).getD (k + 1) [] = l.getD k [] := rfl
section
variable {n : Nat} {E E1 P : List Nat} {past fut : List (List Nat)} {M : gM}
theorem XH_same {M1 : gM} (h : XH E past fut M) (hs : ∀ i, i ∈ hS → M1 i = M i) : XH E past fut M1 := by
  obtain ⟨now, h1, h2, h3, h4, h5, h6, h7, h8⟩ := h
  have e2 := hs 2 (by decide)
  have e12 := hs 12 (by decide)
  have er : ∀ j, j < 17 → M1 (13 + j) = M (13 + j) := fun j hj => hs _ (by simp only [List.mem_cons, List.not_mem_nil, or_false]; omega)
  exact ⟨now, h1, by rw [e2]; exact h2, by rw [e2]; exact h3, by rw [e2]; exact h4, h5, hrow_sm h6 (by rw [e12]) (er _ h1), fun k hk => hrow_sm (h7 k hk) (by rw [e12]) (er _ (Nat.mod_lt _ (by decide))), fun k hk => hrow_sm (h8 k hk) (by rw [e12]) (er _ (Nat.mod_lt _ (by decide)))⟩
theorem S_moveBack0 {Q : Int32 → gM → Prop} (hH : XH E [] fut M) (h : Q 0 M) : w_X3_moveBack M Q := by
  obtain ⟨now, h1, h2, h3, -⟩ := hH
  unfold w_X3_moveBack
  exact gbr_t h3 h
theorem S_moveForward0 {Q : Int32 → gM → Prop} (hH : XH E past [] M) (h : Q 0 M) : w_X3_moveForward M Q := by
  obtain ⟨now, h1, h2, h3, h4, -⟩ := hH
  unfold w_X3_moveForward
  exact gbr_t h4 h
/-- as XH, but the row of now holds P, the edges themselves are not told -/
theorem S_moveBack {Q : Int32 → gM → Prop} (hH : XH E (P :: past) fut M) (h : ∀ M1, XH P past (E :: fut) M1 → same [2] M M1 → Q 1 M1) : w_X3_moveBack M Q := by
  obtain ⟨now, h1, h2, h3, h4, h5, h6, h7, h8⟩ := hH
  simp only [List.length_cons] at h3 h5 h7
  unfold w_X3_moveBack
  refine gbr_f (by rw [h3]; exact nI_ne0 (by omega) (by omega)) ?_
  intro M1 e1
  rw [h3, nI_pred] at e1
  have b1 : M1 2 1 = nI fut.length := by rw [e1, gst_k (by decide)]; exact h4
  have b4 : M1 2 4 = nI now := by rw [e1, gst_k (by decide)]; exact h2
  have b0 : M1 2 0 = nI past.length := by rw [e1, gst_s]
  have s1 : same [2] M M1 := by rw [e1]; exact same.rfl.st (by decide)
  clear e1
  intro M2 e2
  rw [b1, c_add1] at e2
  have c1 : M2 2 1 = nI (fut.length + 1) := by rw [e2, gst_s]
  have c4 : M2 2 4 = nI now := by rw [e2, gst_k (by decide)]; exact b4
  have c0 : M2 2 0 = nI past.length := by rw [e2, gst_k (by decide)]; exact b0
  have s2 : same [2] M M2 := by rw [e2]; exact s1.st (by decide)
  clear e2
  intro M3 e3
  have er : (M2 2 4 + 17) - 1 - ((M2 2 4 + 17) - 1) / 17 * 17 = nI ((now + 16) % 17) := by
    rw [c4, show (17 : Int32) = nI 17 from rfl, nI_add, show now + 17 = (now + 16) + 1 from rfl, nI_pred]
    exact c_rem (by omega)
  rw [er] at e3
  have s3 : same [2] M M3 := by rw [e3]; exact s2.st (by decide)
  have d1 : M3 2 1 = nI (fut.length + 1) := by rw [e3, gst_k (by decide)]; exact c1
  have d0 : M3 2 0 = nI past.length := by rw [e3, gst_k (by decide)]; exact c0
  have d4 : M3 2 4 = nI ((now + 16) % 17) := by rw [e3, gst_s]
  have hr : ∀ j L, j < 17 → hrow M j L → hrow M3 j L := fun j L hj hh => hrow_sm hh (by rw [s3 12 (by decide)]) (by rw [s3 _ (by simp only [List.mem_cons, List.not_mem_nil, or_false]; omega)])
  refine h M3 ⟨(now + 16) % 17, by omega, d4, d0, d1, by simp only [List.length_cons]; omega, ?_, ?_, ?_⟩ s3
  · have := h7 0 (by omega)
    exact hr _ _ (by omega) this
  · intro k hk
    have := h7 (k + 1) (by omega)
    rw [getD_consS] at this
    rw [show ((now + 16) % 17 + 16 - k) % 17 = (now + 16 - (k + 1)) % 17 by omega]
    exact hr _ _ (by omega) this
  · intro k hk
    simp only [List.length_cons] at hk
    cases k with
    | zero =>
      rw [show ((now + 16) % 17 + 1 + 0) % 17 = now by omega]
      exact hr _ _ h1 h6
    | succ k =>
      rw [show ((now + 16) % 17 + 1 + (k + 1)) % 17 = (now + 1 + k) % 17 by omega]
      exact hr _ _ (by omega) (h8 k (by omega))
theorem S_moveForward {Q : Int32 → gM → Prop} (hH : XH E past (P :: fut) M) (h : ∀ M1, XH P (E :: past) fut M1 → same [2] M M1 → Q 1 M1) : w_X3_moveForward M Q := by
  obtain ⟨now, h1, h2, h3, h4, h5, h6, h7, h8⟩ := hH
  simp only [List.length_cons] at h4 h5 h8
  unfold w_X3_moveForward
  refine gbr_f (by rw [h4]; exact nI_ne0 (by omega) (by omega)) ?_
  intro M1 e1
  rw [h4, nI_pred] at e1
  have b1 : M1 2 1 = nI fut.length := by rw [e1, gst_s]
  have b4 : M1 2 4 = nI now := by rw [e1, gst_k (by decide)]; exact h2
  have b0 : M1 2 0 = nI past.length := by rw [e1, gst_k (by decide)]; exact h3
  have s1 : same [2] M M1 := by rw [e1]; exact same.rfl.st (by decide)
  clear e1
  intro M2 e2
  rw [b0, c_add1] at e2
  have c1 : M2 2 1 = nI fut.length := by rw [e2, gst_k (by decide)]; exact b1
  have c4 : M2 2 4 = nI now := by rw [e2, gst_k (by decide)]; exact b4
  have c0 : M2 2 0 = nI (past.length + 1) := by rw [e2, gst_s]
  have s2 : same [2] M M2 := by rw [e2]; exact s1.st (by decide)
  clear e2
  intro M3 e3
  rw [c4, c_add1, c_rem (by omega)] at e3
  have s3 : same [2] M M3 := by rw [e3]; exact s2.st (by decide)
  have d1 : M3 2 1 = nI fut.length := by rw [e3, gst_k (by decide)]; exact c1
  have d0 : M3 2 0 = nI (past.length + 1) := by rw [e3, gst_k (by decide)]; exact c0
  have d4 : M3 2 4 = nI ((now + 1) % 17) := by rw [e3, gst_s]
  have hr : ∀ j L, j < 17 → hrow M j L → hrow M3 j L := fun j L hj hh => hrow_sm hh (by rw [s3 12 (by decide)]) (by rw [s3 _ (by simp only [List.mem_cons, List.not_mem_nil, or_false]; omega)])
  refine h M3 ⟨(now + 1) % 17, by omega, d4, d0, d1, by simp only [List.length_cons]; omega, ?_, ?_, ?_⟩ s3
  · have := h8 0 (by omega)
    exact hr _ _ (by omega) this
  · intro k hk
    simp only [List.length_cons] at hk
    cases k with
    | zero =>
      rw [show ((now + 1) % 17 + 16 - 0) % 17 = now by omega]
      exact hr _ _ h1 h6
    | succ k =>
      rw [show ((now + 1) % 17 + 16 - (k + 1)) % 17 = (now + 16 - k) % 17 by omega]
      exact hr _ _ (by omega) (h7 k (by omega))
  · intro k hk
    have := h8 (k + 1) (by omega)
    rw [getD_consS] at this
    rw [show ((now + 1) % 17 + 1 + k) % 17 = (now + 1 + (k + 1)) % 17 by omega]
    exact hr _ _ (by omega) this
theorem S_forget {Q : gM → Prop} (hH : XH E past fut M) (h : ∀ M1, XH [] [] [] M1 → same hS M M1 → Q M1) : w_X3_forget M Q := by
  obtain ⟨now, h1, h2, h3, h4, h5, h6, h7, h8⟩ := hH
  unfold w_X3_forget
  intro M1 e1
  intro M2 e2
  have c4 : M2 2 4 = nI now := by rw [e2, gst_k (by decide), e1, gst_k (by decide)]; exact h2
  have c0 : M2 2 0 = 0 := by rw [e2, gst_k (by decide), e1, gst_s]
  have c1 : M2 2 1 = 0 := by rw [e2, gst_s]
  have s2 : same hS M M2 := by rw [e2, e1]; exact (same.rfl.st (by decide)).st (by decide)
  clear e1 e2
  refine ⟨by rw [c4]; exact c_in h1 (by decide), ?_⟩
  intro M3 e3
  rw [c4, c_cl (by omega)] at e3
  refine h M3 ⟨now, h1, ?_, ?_, ?_, by decide, ⟨?_, ?_⟩, fun k hk => by simp at hk, fun k hk => by simp at hk⟩ ?_
  · rw [e3, gst_n (by decide)]; exact c4
  · rw [e3, gst_n (by decide)]; exact c0
  · rw [e3, gst_n (by decide)]; exact c1
  · rw [e3, gst_s]; rfl
  · intro i hi; simp at hi
  · rw [e3]; exact s2.st (by decide)
/-- an edit ends: E was before, E1 is now -/
theorem S_endEdit {Q : gM → Prop} (hG : XG n E1 M) (hH : XH E past fut M) (h : ∀ M1, XG n E1 M1 → XA E1 M1 → XH E1 ((E :: past).take 16) [] M1 → M1 1 5 = M 1 5 + 1 → same (1 :: 10 :: hS) M M1 → Q M1) : w_X5_endEdit M Q := by
  unfold w_X5_endEdit
  rw [hG.2.2.2.1]
  refine S_hadd hH hG.2.2.2.2 hG.2.1.1 (fun M1 h1 s1 => ?_)
  have hG1 : XG n E1 M1 := by
    obtain ⟨hn, hS, hv, hc, hr⟩ := hG
    exact ⟨hn, hS, by rw [s1 1 (by decide)]; exact hv, by rw [s1 1 (by decide)]; exact hc, by rw [s1 9 (by decide)]; exact hr⟩
  refine S_followChange hG1 (fun M2 g2 a2 v2 s2 => ?_)
  refine h M2 g2 a2 (XH_same h1 (fun i hi => s2 i ?_)) (by rw [v2, s1 1 (by decide)]) ?_
  · simp only [List.mem_cons, List.not_mem_nil, or_false] at hi ⊢; omega
  · exact (s1.sub (by decide)).tr (s2.sub (by decide))
theorem S_copyTo {Q : Int32 → gM → Prop} (hH : XH E past fut M) (hl : E.length ≤ 24) (h : ∀ M1, rowIs (M1 9) E → same [9] M M1 → Q (nI E.length) M1) : w_X3_copyTo M Q := by
  obtain ⟨now, h1, h2, h3, h4, h5, h6, h7, h8⟩ := hH
  unfold w_X3_copyTo
  refine ⟨by rw [h2]; exact c_in h1 (by decide), ?_⟩
  intro M1 e1
  rw [h2, c_cl (by omega)] at e1
  have s1 : same [9] M M1 := by rw [e1]; exact same.rfl.sr (by decide)
  have c4 : M1 2 4 = nI now := by rw [s1 2 (by decide)]; exact h2
  refine ⟨by rw [c4]; exact c_in h1 (by decide), ?_⟩
  rw [c4, c_cl (by omega), s1 12 (by decide), h6.1]
  refine h M1 ?_ s1
  rw [e1, gsr_s]
  exact rowIs_cpy h6.2 hl
theorem S_takePast {Q : gM → Prop} (hn : 1 ≤ n ∧ n ≤ 14) (hv : M 1 0 = nI n) (hS0 : sane n E) (hH : XH E past fut M) (h : ∀ M1, XG n E M1 → XA E M1 → XH E past fut M1 → M1 1 5 = M 1 5 + 1 → same [1, 9, 10] M M1 → Q M1) : w_X5_takePast M Q := by
  unfold w_X5_takePast
  refine S_copyTo hH hS0.1 (fun M1 h1 s1 => ?_)
  intro M3 e3
  have s3 : same [1, 9] M M3 := by rw [e3]; exact (s1.sub (by decide)).st (by decide)
  have hG : XG n E M3 := ⟨hn, hS0, by rw [e3, gst_k (by decide), s1 1 (by decide)]; exact hv, by rw [e3, gst_s], by rw [e3, gst_n (by decide)]; exact h1⟩
  refine S_followChange hG (fun M2 g2 a2 v2 s2 => ?_)
  refine h M2 g2 a2 (XH_same hH (fun i hi => ?_)) (by rw [v2, e3, gst_k (by decide), s1 1 (by decide)]) ((s3.sub (by decide)).tr (s2.sub (by decide)))
  rw [s2 i (by simp only [List.mem_cons, List.not_mem_nil, or_false] at hi ⊢; omega), s3 i (by simp only [List.mem_cons, List.not_mem_nil, or_false] at hi ⊢; omega)]
theorem S_stepBack0 {Q : Int32 → gM → Prop} (hH : XH E [] fut M) (h : Q 0 M) : w_X5_stepBack M Q := by
  unfold w_X5_stepBack
  exact S_moveBack0 hH (gbr_t rfl h)
theorem S_stepForward0 {Q : Int32 → gM → Prop} (hH : XH E past [] M) (h : Q 0 M) : w_X5_stepForward M Q := by
  unfold w_X5_stepForward
  exact S_moveForward0 hH (gbr_t rfl h)
theorem S_stepBack {Q : Int32 → gM → Prop} (hn : 1 ≤ n ∧ n ≤ 14) (hv : M 1 0 = nI n) (hS0 : sane n P) (hH : XH E (P :: past) fut M) (h : ∀ M1, XG n P M1 → XA P M1 → XH P past (E :: fut) M1 → M1 1 5 = M 1 5 + 1 → same [1, 2, 9, 10] M M1 → Q 1 M1) : w_X5_stepBack M Q := by
  unfold w_X5_stepBack
  refine S_moveBack hH (fun M1 h1 s1 => gbr_f (by decide) ?_)
  refine S_takePast hn (by rw [s1 1 (by decide)]; exact hv) hS0 h1 (fun M2 g2 a2 b2 v2 s2 => ?_)
  exact h M2 g2 a2 b2 (by rw [v2, s1 1 (by decide)]) ((s1.sub (by decide)).tr (s2.sub (by decide)))
theorem S_stepForward {Q : Int32 → gM → Prop} (hn : 1 ≤ n ∧ n ≤ 14) (hv : M 1 0 = nI n) (hS0 : sane n P) (hH : XH E past (P :: fut) M) (h : ∀ M1, XG n P M1 → XA P M1 → XH P (E :: past) fut M1 → M1 1 5 = M 1 5 + 1 → same [1, 2, 9, 10] M M1 → Q 1 M1) : w_X5_stepForward M Q := by
  unfold w_X5_stepForward
  refine S_moveForward hH (fun M1 h1 s1 => gbr_f (by decide) ?_)
  refine S_takePast hn (by rw [s1 1 (by decide)]; exact hv) hS0 h1 (fun M2 g2 a2 b2 v2 s2 => ?_)
  exact h M2 g2 a2 b2 (by rw [v2, s1 1 (by decide)]) ((s1.sub (by decide)).tr (s2.sub (by decide)))
theorem S_startAnew {m : Nat} {Q : gM → Prop} (hm : 1 ≤ m ∧ m ≤ 14) (hH : XH E past fut M) (h : ∀ M1, XG m [] M1 → XA [] M1 → XH [] [] [] M1 → M1 1 5 = M 1 5 + 1 → same (1 :: 10 :: hS) M M1 → Q M1) : w_X5_startAnew (nI m) M Q := by
  unfold w_X5_startAnew
  intro M1 e1 M2 e2
  have s2 : same [1] M M2 := by rw [e2, e1]; exact (same.rfl.st (by decide)).st (by decide)
  refine S_forget (XH_same hH (fun i hi => s2 i (by simp only [List.mem_cons, List.not_mem_nil, or_false] at hi ⊢; omega))) (fun M3 h3 s3 => ?_)
  have hG : XG m [] M3 := ⟨hm, sane_nil m, by rw [s3 1 (by decide), e2, gst_k (by decide), e1, gst_s], by rw [s3 1 (by decide), e2, gst_s]; rfl, fun i hi => by simp at hi⟩
  refine S_followChange hG (fun M4 g4 a4 v4 s4 => ?_)
  refine h M4 g4 a4 (XH_same h3 (fun i hi => s4 i (by simp only [List.mem_cons, List.not_mem_nil, or_false] at hi ⊢; omega))) (by rw [v4, s3 1 (by decide), e2, gst_k (by decide), e1, gst_k (by decide)]) ?_
  exact ((s2.sub (by decide)).tr (s3.sub (by decide))).tr (s4.sub (by decide))
end
