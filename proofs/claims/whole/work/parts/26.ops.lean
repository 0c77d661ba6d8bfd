/-! the operations as functions of the abstract state: vertices, edges, past, future, weights, text -/
def pn (p : Int32) : Nat := if p < 0 then 2147483648 else p.toNatClampNeg
theorem pn_nI {j : Nat} (h : j < 2147483648) : pn (nI j) = j := by
  unfold pn
  rw [if_neg (nI_lt0 h), c_cl h]
theorem pn_neg {p : Int32} (h : p < 0) : pn p = 2147483648 := if_pos h
theorem arg_cases (p : Int32) : (p < 0 ∧ pn p = 2147483648) ∨ ∃ j, j < 2147483648 ∧ p = nI j ∧ pn p = j := by
  by_cases h : p < 0
  · exact Or.inl ⟨h, pn_neg h⟩
  · obtain ⟨j, h1, rfl⟩ := nI_of h
    exact Or.inr ⟨j, h1, rfl, pn_nI h1⟩
theorem pn_eq {p : Int32} (h : pn p < 2147483648) : p = nI (pn p) := by
  rcases arg_cases p with ⟨-, h2⟩ | ⟨j, -, h1, h2⟩
  · omega
  · rw [h2]; exact h1
/-- a comparison with a number from above -/
theorem gbr_pn {p y : Int32} {A B : Prop} (b : Nat) (hy : y = nI b) (hb : b < 2147483648) (f : pn p < b → A) (g : b ≤ pn p → B) : gbr (p < 0) B (gbr (p < y) A B) := by
  rcases arg_cases p with ⟨h1, h2⟩ | ⟨j, h1, h2, h3⟩
  · exact gbr_t h1 (g (by omega))
  · refine gbr_f (by rw [h2]; exact nI_lt0 h1) ?_
    exact gbr_lt j b h2 hy h1 hb (fun q => f (by omega)) (fun q => g (by omega))
abbrev sT : Type := Nat × List Nat × List (List Nat) × List (List Nat) × (Nat → Nat) × Nat × (Nat → Nat)
def edit (s : sT) (E1 : List Nat) : sT := (s.1, E1, (s.2.1 :: s.2.2.1).take 16, [], s.2.2.2.2)
def o_reset (s : sT) (p : Int32) : Int32 × sT := if 1 ≤ pn p ∧ pn p ≤ 14 then (nI s.1, (pn p, [], [], [], fun _ => 1, s.2.2.2.2.2)) else (-3, s)
def o_addEdge (s : sT) (p : Int32) : Int32 × sT := if pn p = 0 ∨ 2 ^ s.1 ≤ pn p then (-3, s) else if pn p ∈ s.2.1 then (-4, s) else if 24 ≤ s.2.1.length then (-5, s) else (nI s.2.1.length, edit s (s.2.1 ++ [pn p]))
def o_removeEdge (s : sT) (p : Int32) : Int32 × sT := if pn p < s.2.1.length then (nI (ed s.2.1 (pn p)), edit s (kp s.2.1 (nd (2 ^ s.2.1.length - 1) (2 ^ pn p)) s.2.1.length)) else (-2, s)
def o_minimize (s : sT) : Int32 × sT := (nI (s.2.1.length - (kp s.2.1 (minE s.2.1) s.2.1.length).length), edit s (kp s.2.1 (minE s.2.1) s.2.1.length))
def o_contract (s : sT) (p : Int32) : Int32 × sT := if pn p < s.1 then (nI (pc (at_ s.2.1 (pn p))), edit s (tk s.2.1 (pn p) s.2.1.length)) else (-1, s)
def o_delete (s : sT) (p : Int32) : Int32 × sT := if pn p < s.1 then (nI (s.2.1.length - (kp s.2.1 (nd (2 ^ s.2.1.length - 1) (at_ s.2.1 (pn p))) s.2.1.length).length), edit s (kp s.2.1 (nd (2 ^ s.2.1.length - 1) (at_ s.2.1 (pn p))) s.2.1.length)) else (-1, s)
/-- the answers in ascending order -/
noncomputable def ascA (n : Nat) (E : List Nat) : List Nat := (List.range (2 ^ n)).filter (fun t => bd (isAns n E t))
noncomputable def o_dualize (s : sT) : Int32 × sT := if s.2.1.length = 0 then (-3, s) else if (srch s.1 s.2.1).2.2.2.2 = true then (-6, s) else if 24 < (srch s.1 s.2.1).1.length then (-5, s) else (nI (ascA s.1 s.2.1).length, edit s (ascA s.1 s.2.1))
def o_undo (s : sT) : Int32 × sT := match s.2.2.1 with
  | [] => (-7, s)
  | P :: ps => (nI ps.length, (s.1, P, ps, s.2.1 :: s.2.2.2.1, s.2.2.2.2))
def o_redo (s : sT) : Int32 × sT := match s.2.2.2.1 with
  | [] => (-7, s)
  | P :: fs => (nI fs.length, (s.1, P, s.2.1 :: s.2.2.1, fs, s.2.2.2.2))
def o_edge (s : sT) (p : Int32) : Int32 × sT := (if pn p < s.2.1.length then nI (ed s.2.1 (pn p)) else -2, s)
def o_value (s : sT) (p : Int32) : Int32 × sT := (if pn p = 0 then nI s.1 else if pn p = 1 then nI s.2.1.length else if pn p = 2 then nI (pc (minE s.2.1)) else if pn p = 3 then nI s.2.2.1.length else if pn p = 4 then nI (if s.2.1.length = 0 then 0 else mnf s.2.1.length (fun e => pc (ed s.2.1 e)) 14) else if pn p = 5 then nI (uniE s.2.1 (minE s.2.1)) else -3, s)
def o_edgesOf (s : sT) (p : Int32) : Int32 × sT := (if pn p < s.1 then nI (at_ s.2.1 (pn p)) else -1, s)
def setW (w : Nat → Nat) (v x : Nat) : Nat → Nat := fun u => if u = v then x else w u
def o_setWeight (s : sT) (p q : Int32) : Int32 × sT := if pn p < s.1 then (if pn q ≤ 99 then (nI (s.2.2.2.2.1 (pn p)), (s.1, s.2.1, s.2.2.1, s.2.2.2.1, setW s.2.2.2.2.1 (pn p) (pn q), s.2.2.2.2.2)) else (-3, s)) else (-1, s)
def o_missed (s : sT) (p : Int32) : Int32 × sT := (if pn p < 2 ^ s.1 then nI (missE s.2.1 (pn p)) else -3, s)
def privE (E : List Nat) (t v : Nat) : Nat := mk E.length (fun e => decide (ed E e &&& t = 2 ^ v))
def o_private (s : sT) (p q : Int32) : Int32 × sT := (if pn p < 2 ^ s.1 then (if pn q < s.1 then (if (pn p).testBit (pn q) then nI (privE s.2.1 (pn p) (pn q)) else -7) else -1) else -3, s)
noncomputable def o_kindOf (s : sT) (p : Int32) : Int32 × sT := (if pn p < 2 ^ s.1 then (if missE s.2.1 (pn p) = 0 then (if bd (isAns s.1 s.2.1 (pn p)) = true then 1 else 2) else 0) else -3, s)
def shr (E : List Nat) (t : Nat) : Nat → Nat
  | 0 => t
  | v + 1 => if missE E (nd (shr E t v) (2 ^ v)) = 0 then nd (shr E t v) (2 ^ v) else shr E t v
def o_shrink (s : sT) (p : Int32) : Int32 × sT := (if pn p < 2 ^ s.1 then (if missE s.2.1 (pn p) = 0 then nI (shr s.2.1 (pn p) s.1) else -7) else -3, s)
def grw (n : Nat) (E : List Nat) (t : Nat) : Nat → Nat
  | 0 => t
  | k + 1 => if missE E (grw n E t k) = 0 then grw n E t k else grw n E t k ||| 2 ^ busy n E (missE E (grw n E t k))
def o_grow (s : sT) (p : Int32) : Int32 × sT := (if pn p < 2 ^ s.1 then nI (grw s.1 s.2.1 (pn p) s.1) else -3, s)
noncomputable def o_answerCount (s : sT) : Int32 × sT := (if (srch s.1 s.2.1).2.2.2.2 = true then -6 else nI (srch s.1 s.2.1).1.length, s)
noncomputable def o_answer (s : sT) (p : Int32) : Int32 × sT := (if p < 0 then -3 else if (srch s.1 s.2.1).2.2.2.2 = true then -6 else if pn p < (srch s.1 s.2.1).1.length then nI (ed (srch s.1 s.2.1).1 (pn p)) else -7, s)
noncomputable def o_delay (s : sT) (p : Int32) : Int32 × sT := (if p < 0 then -3 else if (srch s.1 s.2.1).2.2.2.2 = true then -6 else if pn p < (srch s.1 s.2.1).1.length then nI (ed (srch s.1 s.2.1).2.1 (pn p)) else -7, s)
noncomputable def o_visits (s : sT) : Int32 × sT := (if (srch s.1 s.2.1).2.2.2.2 = true then -6 else nI (srch s.1 s.2.1).2.2.1, s)
noncomputable def o_next (s : sT) (p : Int32) : Int32 × sT := (if p = -1 then (if (srch s.1 s.2.1).2.2.2.2 = true then -6 else laI (la (srch s.1 s.2.1).1 0 (srch s.1 s.2.1).1.length)) else if pn p < 2 ^ s.1 then (if (srch s.1 s.2.1).2.2.2.2 = true then -6 else laI (la (srch s.1 s.2.1).1 (pn p + 1) (srch s.1 s.2.1).1.length)) else -3, s)
noncomputable def o_answersOfSize (s : sT) (p : Int32) : Int32 × sT := (if pn p ≤ s.1 then (if (srch s.1 s.2.1).2.2.2.2 = true then -6 else nI (cnt (srch s.1 s.2.1).1.length (fun i => decide (pc (ed (srch s.1 s.2.1).1 i) = pn p)))) else -3, s)
noncomputable def o_answersWith (s : sT) (p : Int32) : Int32 × sT := (if pn p < s.1 then (if (srch s.1 s.2.1).2.2.2.2 = true then -6 else nI (cnt (srch s.1 s.2.1).1.length (fun i => (ed (srch s.1 s.2.1).1 i).testBit (pn p)))) else -1, s)
/-- the answer is a relation here -/
def lightO (s : sT) (p r : Int32) : Prop := if p < 0 then r = -3 else if (srch s.1 s.2.1).2.2.2.2 = true then r = -6 else if pn p < (srch s.1 s.2.1).1.length then ∃ t, lightR s.2.2.2.2.1 (srch s.1 s.2.1).1 (pn p) t ∧ r = nI t else r = -7
def o_weightOf (s : sT) (p : Int32) : Int32 × sT := (if pn p < 2 ^ s.1 then nI (wsum s.2.2.2.2.1 (pn p)) else -3, s)
def o_hittingSets (s : sT) (p : Int32) : Int32 × sT := (if p = -1 then nI (htot s.1 s.2.1) else if pn p ≤ s.1 then nI (hsz s.1 s.2.1 (pn p)) else -3, s)
noncomputable def o_diagramSize (s : sT) (p : Int32) : Int32 × sT := (if pn p < 3 then (if pn p = 1 ∧ (srch s.1 s.2.1).2.2.2.2 = true then -6 else nI (dgA s.1 s.2.1 (pn p)).2.1.length) else -3, s)
noncomputable def o_nodesAt (s : sT) (p q : Int32) : Int32 × sT := (if pn p < 3 then (if pn q < s.1 then (if pn p = 1 ∧ (srch s.1 s.2.1).2.2.2.2 = true then -6 else nI ((dgA s.1 s.2.1 (pn p)).2.2 (pn q))) else -1) else -3, s)
def diffO (s : sT) (r : Int32) : Prop := if (srch s.1 s.2.1).2.2.2.2 = true then r = -6 else lstP (diffP s.1 s.2.1) r
def selfO (s : sT) (r : Int32) : Prop := if (srch s.1 s.2.1).2.2.2.2 = true then r = -6 else ∃ q, lstP (diffP s.1 s.2.1) q ∧ r = if q = -7 then 1 else 0
def o_isIntersecting (s : sT) : Int32 × sT := (b2 (meet s.2.1), s)
def o_type (s : sT) (q : Nat) : Int32 × sT := if s.2.2.2.2.2.1 < 100 then (nI (s.2.2.2.2.2.1 + 1), (s.1, s.2.1, s.2.2.1, s.2.2.2.1, s.2.2.2.2.1, s.2.2.2.2.2.1 + 1, setW s.2.2.2.2.2.2 s.2.2.2.2.2.1 q)) else (-5, s)
def o_clearText (s : sT) : Int32 × sT := (nI s.2.2.2.2.2.1, (s.1, s.2.1, s.2.2.1, s.2.2.2.1, s.2.2.2.2.1, 0, s.2.2.2.2.2.2))
def o_readEdges (s : sT) : Int32 × sT := match rdT s.1 s.2.2.2.2.2.2 s.2.2.2.2.2.1 101 s.2.1 0 with
  | .inl e => (-100 - nI e, s)
  | .inr L => (nI (L.length - s.2.1.length), edit s L)
/-! the class's memory for a state -/
def saneL (n : Nat) (l : List (List Nat)) : Prop := ∀ k, k < l.length → sane n (l.getD k [])
def XI (ver : Nat) (s : sT) (M : gM) : Prop := XG s.1 s.2.1 M ∧ XA s.2.1 M ∧ XH s.2.1 s.2.2.1 s.2.2.2.1 M ∧ XW s.2.2.2.2.1 M ∧ XTx s.2.2.2.2.2.1 s.2.2.2.2.2.2 M ∧ M 1 5 = nI ver ∧ CSr ver s.1 s.2.1 M ∧ CHc ver s.1 s.2.1 M ∧ CD ver s.1 s.2.1 M ∧ ver < 1000000 ∧ saneL s.1 s.2.2.1 ∧ saneL s.1 s.2.2.2.1
theorem saneL_take {n : Nat} {l : List (List Nat)} (h : saneL n l) (m : Nat) : saneL n (l.take m) := by
  intro k hk
  rw [List.length_take] at hk
  have := h k (by omega)
  rw [List.getD_eq_getElem?_getD, List.getElem?_take_of_lt (by omega), ← List.getD_eq_getElem?_getD]
  exact this
theorem saneL_cons {n : Nat} {a : List Nat} {l : List (List Nat)} (ha : sane n a) (h : saneL n l) : saneL n (a :: l) := by
  intro k hk
  cases k with
  | zero => exact ha
  | succ k =>
    rw [getD_consS]
    exact h k (by rw [List.length_cons] at hk; omega)
theorem saneL_nil (n : Nat) : saneL n [] := fun k hk => by simp at hk
theorem saneL_tail {n : Nat} {a : List Nat} {l : List (List Nat)} (h : saneL n (a :: l)) : sane n a ∧ saneL n l := ⟨h 0 (by rw [List.length_cons]; omega), fun k hk => by
  have := h (k + 1) (by rw [List.length_cons]; omega)
  rwa [getD_consS] at this⟩
section
variable {ver : Nat} {s : sT} {M : gM}
/-- the caches of elder edges are void -/
theorem caches_void {n : Nat} {E : List Nat} {M1 : gM} (h4 : old (M 4 7) ver) (h6 : old (M 6 4) ver) (h7 : old (M 7 9) ver) (hv : ver < 999999) (e4 : M1 4 7 = M 4 7) (e6 : M1 6 4 = M 6 4) (e7 : M1 7 9 = M 7 9) : CSr (ver + 1) n E M1 ∧ CHc (ver + 1) n E M1 ∧ CD (ver + 1) n E M1 := by
  refine ⟨⟨by rw [e4]; exact old_up h4, fun q => ?_⟩, ⟨by rw [e6]; exact old_up h6, fun q => ?_⟩, ⟨by rw [e7]; exact old_up h7, fun _ _ q => ?_⟩⟩
  · rw [e4] at q; exact absurd q (old_ne h4 (by omega))
  · rw [e6] at q; exact absurd q (old_ne h6 (by omega))
  · rw [e7] at q; exact absurd q (old_ne h7 (by omega))
theorem XI_edit {E1 : List Nat} {M1 : gM} (h : XI ver s M) (hv : ver < 999999) (g1 : XG s.1 E1 M1) (g2 : XA E1 M1) (g3 : XH E1 ((s.2.1 :: s.2.2.1).take 16) [] M1) (g4 : M1 1 5 = nI (ver + 1)) (hs : ∀ i, i ∈ [4, 6, 7, 8, 32, 41] → M1 i = M i ∨ (i = 4 ∧ M1 4 7 = nI ver) ∨ (i = 8 ∧ M1 8 0 = M 8 0)) : XI (ver + 1) (edit s E1) M1 := by
  obtain ⟨a1, a2, a3, a4, a5, a6, a7, a8, a9, a10, a11, a12⟩ := h
  have e32 : M1 32 = M 32 := by
    rcases hs 32 (by decide) with q | q | q
    · exact q
    · exact absurd q.1 (by decide)
    · exact absurd q.1 (by decide)
  have e41 : M1 41 = M 41 := by
    rcases hs 41 (by decide) with q | q | q
    · exact q
    · exact absurd q.1 (by decide)
    · exact absurd q.1 (by decide)
  have e8 : M1 8 0 = M 8 0 := by
    rcases hs 8 (by decide) with q | q | q
    · rw [q]
    · exact absurd q.1 (by decide)
    · exact q.2
  have e6 : M1 6 = M 6 := by
    rcases hs 6 (by decide) with q | q | q
    · exact q
    · exact absurd q.1 (by decide)
    · exact absurd q.1 (by decide)
  have e7 : M1 7 = M 7 := by
    rcases hs 7 (by decide) with q | q | q
    · exact q
    · exact absurd q.1 (by decide)
    · exact absurd q.1 (by decide)
  have o4 : old (M1 4 7) ver := by
    rcases hs 4 (by decide) with q | q | q
    · rw [q]; exact a7.1
    · rw [q.2]; exact old_self ver
    · exact absurd q.1 (by decide)
  obtain ⟨c1, c2, c3⟩ := caches_void (M := M1) (M1 := M1) (n := s.1) (E := E1) o4 (by rw [e6]; exact a8.1) (by rw [e7]; exact a9.1) hv rfl rfl rfl
  exact ⟨g1, g2, g3, fun v hv => by rw [e32]; exact a4 v hv, XTx_s a5 e8 e41, g4, c1, c2, c3, show ver + 1 < 1000000 by omega, saneL_take (saneL_cons a1.2.1 a11) 16, saneL_nil _⟩
theorem S_isVertex {p : Int32} {n : Nat} {E : List Nat} {Q : Int32 → gM → Prop} (hG : XG n E M) (h : Q (b2 (decide (pn p < n))) M) : w_X5_isVertex p M Q := by
  have hn := hG.1
  unfold w_X5_isVertex
  refine gbr_pn n hG.2.2.1 (by omega) (fun q => ?_) (fun q => ?_)
  · rw [decide_eq_true q] at h; exact h
  · rw [decide_eq_false (by omega)] at h; exact h
theorem S_isEdge {p : Int32} {n : Nat} {E : List Nat} {Q : Int32 → gM → Prop} (hG : XG n E M) (h : Q (b2 (decide (pn p < E.length))) M) : w_X5_isEdge p M Q := by
  have := hG.2.1.1
  unfold w_X5_isEdge
  refine gbr_pn E.length hG.2.2.2.1 (by omega) (fun q => ?_) (fun q => ?_)
  · rw [decide_eq_true q] at h; exact h
  · rw [decide_eq_false (by omega)] at h; exact h
theorem S_isSet {p : Int32} {n : Nat} {E : List Nat} {Q : Int32 → gM → Prop} (hG : XG n E M) (h : Q (b2 (decide (pn p < 2 ^ n))) M) : w_X5_isSet p M Q := by
  have hn := hG.1
  have h14 := p2_14 hn.2
  unfold w_X5_isSet
  rw [hG.2.2.1, c_shl n (by omega)]
  refine gbr_pn (2 ^ n) rfl (by omega) (fun q => ?_) (fun q => ?_)
  · rw [decide_eq_true q] at h; exact h
  · rw [decide_eq_false (by omega)] at h; exact h
end
