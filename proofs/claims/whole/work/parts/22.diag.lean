/-! diagrams as lists of nodes: node k is a pair of parts, named k + 2 -/
abbrev nl : Type := List (Nat × Nat)
def nda (NL : nl) (k : Nat) : Nat × Nat := NL.getD k (0, 0)
theorem nda_app {NL : nl} {p : Nat × Nat} {k : Nat} (h : k < NL.length) : nda (NL ++ [p]) k = nda NL k := by
  unfold nda
  rw [List.getD_eq_getElem?_getD, List.getD_eq_getElem?_getD, List.getElem?_append_left h]
theorem nda_appL {NL B : nl} {k : Nat} (h : k < NL.length) : nda (NL ++ B) k = nda NL k := by
  unfold nda
  rw [List.getD_eq_getElem?_getD, List.getD_eq_getElem?_getD, List.getElem?_append_left h]
theorem nda_last (NL : nl) (p : Nat × Nat) : nda (NL ++ [p]) NL.length = p := by
  unfold nda
  rw [List.getD_eq_getElem?_getD, List.getElem?_append_right (Nat.le_refl _)]
  simp
theorem nda_mem {NL : nl} {p : Nat × Nat} : p ∈ NL ↔ ∃ k, k < NL.length ∧ nda NL k = p := by
  constructor
  · intro h
    obtain ⟨i, hi, he⟩ := List.getElem_of_mem h
    exact ⟨i, hi, by unfold nda; rw [List.getD_eq_getElem?_getD, List.getElem?_eq_getElem hi]; exact he⟩
  · rintro ⟨i, hi, rfl⟩
    unfold nda
    rw [List.getD_eq_getElem?_getD, List.getElem?_eq_getElem hi]
    exact List.getElem_mem hi
/-- the last place below k with that node -/
def fdr (NL : nl) (p : Nat × Nat) : Nat → Option Nat
  | 0 => none
  | k + 1 => if nda NL k = p then some k else fdr NL p k
def mkNode (NL : nl) (fr : Nat) (p : Nat × Nat) : Nat × nl := match fdr NL p NL.length with
  | some k => if fr ≤ k then (k + 2, NL) else (NL.length + 2, NL ++ [p])
  | none => (NL.length + 2, NL ++ [p])
theorem fdr_some {NL : nl} {p : Nat × Nat} {k j : Nat} (hj : j < k) (h : nda NL j = p) (hl : ∀ i, j < i → i < k → nda NL i ≠ p) : fdr NL p k = some j := by
  induction k with
  | zero => omega
  | succ k ih =>
    rw [fdr]
    by_cases q : j = k
    · subst q; rw [if_pos h]
    · rw [if_neg (hl k (by omega) (by omega))]
      exact ih (by omega) (fun i a b => hl i a (by omega))
theorem fdr_out {NL : nl} {p : Nat × Nat} {k : Nat} : (fdr NL p k = none ∧ ∀ i, i < k → nda NL i ≠ p) ∨ ∃ j, j < k ∧ fdr NL p k = some j ∧ nda NL j = p ∧ ∀ i, j < i → i < k → nda NL i ≠ p := by
  induction k with
  | zero => exact Or.inl ⟨rfl, fun i h => absurd h (Nat.not_lt_zero _)⟩
  | succ k ih =>
    rw [fdr]
    by_cases q : nda NL k = p
    · rw [if_pos q]
      exact Or.inr ⟨k, by omega, rfl, q, fun i a b => by omega⟩
    · rw [if_neg q]
      rcases ih with ⟨a, b⟩ | ⟨j, a, b, c, d⟩
      · refine Or.inl ⟨a, fun i hi => ?_⟩
        rcases Nat.lt_succ_iff_lt_or_eq.mp hi with y | y
        · exact b i y
        · rw [y]; exact q
      · refine Or.inr ⟨j, by omega, b, c, fun i h1 hi => ?_⟩
        rcases Nat.lt_succ_iff_lt_or_eq.mp hi with y | y
        · exact d i h1 y
        · rw [y]; exact q
theorem mkNode_old {NL : nl} {fr j : Nat} {p : Nat × Nat} (hj : j < NL.length) (hf : fr ≤ j) (h : nda NL j = p) (hl : ∀ i, j < i → i < NL.length → nda NL i ≠ p) : mkNode NL fr p = (j + 2, NL) := by
  unfold mkNode
  rw [fdr_some hj h hl]
  exact if_pos hf
theorem mkNode_new {NL : nl} {fr : Nat} {p : Nat × Nat} (h : ∀ i, fr ≤ i → i < NL.length → nda NL i ≠ p) : mkNode NL fr p = (NL.length + 2, NL ++ [p]) := by
  unfold mkNode
  rcases fdr_out (NL := NL) (p := p) (k := NL.length) with ⟨a, -⟩ | ⟨j, a, b, c, -⟩
  · rw [a]
  · rw [b]
    exact if_neg (fun q => h j q a c)
theorem mkNode_out {NL : nl} {fr : Nat} {p : Nat × Nat} : (∃ j, j < NL.length ∧ fr ≤ j ∧ nda NL j = p ∧ mkNode NL fr p = (j + 2, NL)) ∨ ((∀ i, fr ≤ i → i < NL.length → nda NL i ≠ p) ∧ mkNode NL fr p = (NL.length + 2, NL ++ [p])) := by
  rcases fdr_out (NL := NL) (p := p) (k := NL.length) with ⟨a, b⟩ | ⟨j, a, b, c, d⟩
  · exact Or.inr ⟨fun i _ hi => b i hi, mkNode_new (fun i _ hi => b i hi)⟩
  · by_cases q : fr ≤ j
    · exact Or.inl ⟨j, a, q, c, mkNode_old a q c d⟩
    · have : ∀ i, fr ≤ i → i < NL.length → nda NL i ≠ p := fun i h1 h2 => d i (by omega) h2
      exact Or.inr ⟨this, mkNode_new this⟩
/-- a level, set by set -/
def dl (T : Nat → Nat) (NL : nl) (half : Nat) : Nat → (Nat → Nat) × nl
  | 0 => (T, NL)
  | i + 1 => if (dl T NL half i).1 (half + i) = 0 then dl T NL half i else
      (fun s => if s = i then (mkNode (dl T NL half i).2 NL.length ((dl T NL half i).1 i, (dl T NL half i).1 (half + i))).1 else (dl T NL half i).1 s, (mkNode (dl T NL half i).2 NL.length ((dl T NL half i).1 i, (dl T NL half i).1 (half + i))).2)
/-- the levels from the highest on: table, nodes, how many of each vertex -/
def dvs (n : Nat) (T0 : Nat → Nat) : Nat → (Nat → Nat) × nl × (Nat → Nat)
  | 0 => (T0, [], fun _ => 0)
  | j + 1 => ((dl (dvs n T0 j).1 (dvs n T0 j).2.1 (2 ^ (n - 1 - j)) (2 ^ (n - 1 - j))).1, (dl (dvs n T0 j).1 (dvs n T0 j).2.1 (2 ^ (n - 1 - j)) (2 ^ (n - 1 - j))).2, fun u => if u = n - 1 - j then (dl (dvs n T0 j).1 (dvs n T0 j).2.1 (2 ^ (n - 1 - j)) (2 ^ (n - 1 - j))).2.length - (dvs n T0 j).2.1.length else (dvs n T0 j).2.2 u)
theorem php : ∀ (N : Nat) (l : List Nat), l.Nodup → (∀ x, x ∈ l → x < N) → l.length ≤ N
  | 0, l, _, h => by
    cases l with
    | nil => exact Nat.le_refl _
    | cons a l => exact absurd (h a List.mem_cons_self) (Nat.not_lt_zero _)
  | N + 1, l, hd, h => by
    by_cases q : N ∈ l
    · have h1 := php N (l.erase N) (hd.erase N) (fun x hx => by
        have := (List.Nodup.mem_erase_iff hd).mp hx
        have := h x this.2
        omega)
      rw [List.length_erase_of_mem q] at h1
      omega
    · have := php N l hd (fun x hx => by
        have := h x hx
        have : x ≠ N := fun y => q (by rw [← y]; exact hx)
        omega)
      omega
theorem pairs_le {a b : Nat} : ∀ {l : nl}, l.Nodup → (∀ p, p ∈ l → p.1 < a ∧ 0 < p.2 ∧ p.2 < b + 1) → l.length ≤ a * b := by
  intro l hd h
  have h1 : (l.map (fun p => p.1 * b + (p.2 - 1))).Nodup := by
    refine List.pairwise_map.mpr ?_
    refine List.Pairwise.imp_of_mem ?_ hd
    intro p q hp hq hne e
    obtain ⟨p1, p2, p3⟩ := h p hp
    obtain ⟨q1, q2, q3⟩ := h q hq
    have hb : 0 < b := by omega
    have e1 : p.1 = q.1 := by
      have a1 : (p.1 * b + (p.2 - 1)) / b = p.1 := by
        rw [Nat.mul_comm, Nat.mul_add_div hb, Nat.div_eq_of_lt (by omega), Nat.add_zero]
      have a2 : (q.1 * b + (q.2 - 1)) / b = q.1 := by
        rw [Nat.mul_comm, Nat.mul_add_div hb, Nat.div_eq_of_lt (by omega), Nat.add_zero]
      rw [← a1, ← a2, e]
    rw [e1] at e
    exact hne (Prod.ext e1 (by omega))
  have h2 := php (a * b) _ h1 (fun x hx => by
    obtain ⟨p, hp, rfl⟩ := List.mem_map.mp hx
    obtain ⟨p1, p2, p3⟩ := h p hp
    have : p.1 * b + b ≤ a * b := by
      rw [← Nat.succ_mul]; exact Nat.mul_le_mul_right b p1
    omega)
  rwa [List.length_map] at h2
/-- after some sets of a level -/
theorem dl_inv {T : Nat → Nat} {NL : nl} {half : Nat} (hT : ∀ s, s < half + half → T s < NL.length + 2) : ∀ i, i ≤ half → ∃ B : nl, (dl T NL half i).2 = NL ++ B ∧ B.Nodup ∧ (∀ p, p ∈ B → p.1 < NL.length + 2 ∧ 0 < p.2 ∧ p.2 < NL.length + 2) ∧ B.length ≤ i ∧ (∀ s, i ≤ s → (dl T NL half i).1 s = T s) ∧ ∀ s, s < i → (dl T NL half i).1 s < (dl T NL half i).2.length + 2 := by
  intro i
  induction i with
  | zero => exact fun _ => ⟨[], by rw [List.append_nil]; rfl, List.nodup_nil, fun p h => (by cases h), Nat.le_refl _, fun s _ => rfl, fun s h => absurd h (Nat.not_lt_zero _)⟩
  | succ i ih =>
    intro hi
    obtain ⟨B, h1, h2, h3, h4, h5, h6⟩ := ih (by omega)
    have eh : (dl T NL half i).1 (half + i) = T (half + i) := h5 _ (by omega)
    have el : (dl T NL half i).1 i = T i := h5 _ (Nat.le_refl _)
    have hlen : (dl T NL half i).2.length = NL.length + B.length := by rw [h1, List.length_append]
    rw [dl]
    by_cases z : (dl T NL half i).1 (half + i) = 0
    · rw [if_pos z]
      refine ⟨B, h1, h2, h3, by omega, fun s hs => h5 s (by omega), fun s hs => ?_⟩
      rcases Nat.lt_succ_iff_lt_or_eq.mp hs with y | y
      · exact h6 s y
      · rw [y, el]
        have := hT i (by omega)
        omega
    · rw [if_neg z, el, eh]
      rw [eh] at z
      dsimp only
      have b1 := hT i (by omega)
      have b2 := hT (half + i) (by omega)
      rcases mkNode_out (NL := (dl T NL half i).2) (fr := NL.length) (p := (T i, T (half + i))) with ⟨j, a1, a2, a3, a4⟩ | ⟨a1, a2⟩
      · rw [a4]
        refine ⟨B, h1, h2, h3, by omega, fun s hs => ?_, fun s hs => ?_⟩
        · show (if s = i then _ else _) = _
          rw [if_neg (by omega)]; exact h5 s (by omega)
        · show (if s = i then _ else _) < _
          by_cases q : s = i
          · rw [if_pos q]; show j + 2 < (dl T NL half i).2.length + 2; omega
          · rw [if_neg q]; exact h6 s (by omega)
      · rw [a2]
        refine ⟨B ++ [(T i, T (half + i))], by rw [h1, List.append_assoc], List.nodup_append.mpr ⟨h2, List.nodup_cons.mpr ⟨List.not_mem_nil, List.nodup_nil⟩, fun a ha b hb e => ?_⟩, fun p hp => ?_, by rw [List.length_append, List.length_singleton]; omega, fun s hs => ?_, fun s hs => ?_⟩
        · rw [List.mem_singleton] at hb
          rw [hb] at e
          obtain ⟨k, hk, hk2⟩ := nda_mem.mp ha
          refine a1 (NL.length + k) (by omega) (by omega) ?_
          rw [h1]
          unfold nda at hk2 ⊢
          rw [List.getD_eq_getElem?_getD, List.getElem?_append_right (by omega), Nat.add_sub_cancel_left, ← List.getD_eq_getElem?_getD, hk2]
          exact e
        · rcases List.mem_append.mp hp with q | q
          · exact h3 p q
          · rw [List.mem_singleton] at q
            rw [q]
            exact ⟨b1, Nat.pos_of_ne_zero z, b2⟩
        · show (if s = i then _ else _) = _
          rw [if_neg (by omega)]; exact h5 s (by omega)
        · show (if s = i then _ else _) < ((dl T NL half i).2 ++ [(T i, T (half + i))]).length + 2
          rw [List.length_append, List.length_singleton]
          by_cases q : s = i
          · rw [if_pos q]; show (dl T NL half i).2.length + 2 < (dl T NL half i).2.length + 1 + 2; omega
          · rw [if_neg q]; have := h6 s (by omega); omega
/-- at most so many nodes after some levels -/
def ub (n : Nat) : Nat → Nat
  | 0 => 0
  | j + 1 => ub n j + min (2 ^ (n - 1 - j)) ((ub n j + 2) * (ub n j + 1))
theorem ub_mono (n j k : Nat) (h : j ≤ k) : ub n j ≤ ub n k := by
  induction k with
  | zero => rw [show j = 0 by omega]; exact Nat.le_refl _
  | succ k ih =>
    by_cases q : j = k + 1
    · rw [q]; exact Nat.le_refl _
    · exact Nat.le_trans (ih (by omega)) (Nat.le_add_right _ _)
theorem ub_top : ∀ n, n < 15 → ub n n ≤ 2301 := by decide +kernel
theorem dvs_inv {n : Nat} {T0 : Nat → Nat} (h0 : ∀ s, s < 2 ^ n → T0 s < 2) : ∀ j, j ≤ n → (dvs n T0 j).2.1.length ≤ ub n j ∧ ∀ s, s < 2 ^ (n - j) → (dvs n T0 j).1 s < (dvs n T0 j).2.1.length + 2 := by
  intro j
  induction j with
  | zero => exact fun _ => ⟨Nat.le_refl _, fun s hs => h0 s hs⟩
  | succ j ih =>
    intro hj
    obtain ⟨a, b⟩ := ih (by omega)
    have hp : 2 ^ (n - j) = 2 ^ (n - 1 - j) + 2 ^ (n - 1 - j) := by
      rw [show n - j = (n - 1 - j) + 1 by omega, Nat.pow_succ]; omega
    obtain ⟨B, h1, h2, h3, h4, h5, h6⟩ := dl_inv (T := (dvs n T0 j).1) (NL := (dvs n T0 j).2.1) (half := 2 ^ (n - 1 - j)) (fun s hs => b s (by omega)) (2 ^ (n - 1 - j)) (Nat.le_refl _)
    have hB := pairs_le (a := (dvs n T0 j).2.1.length + 2) (b := (dvs n T0 j).2.1.length + 1) h2 (fun p hp => h3 p hp)
    have hm : ((dvs n T0 j).2.1.length + 2) * ((dvs n T0 j).2.1.length + 1) ≤ (ub n j + 2) * (ub n j + 1) := Nat.mul_le_mul (by omega) (by omega)
    constructor
    · show (dl (dvs n T0 j).1 (dvs n T0 j).2.1 (2 ^ (n - 1 - j)) (2 ^ (n - 1 - j))).2.length ≤ _
      rw [h1, List.length_append, ub]
      omega
    · intro s hs
      exact h6 s (by rw [show n - 1 - j = n - (j + 1) by omega]; exact hs)
/-- within a level: the nodes so far are few -/
theorem dl_few {n : Nat} {T0 : Nat → Nat} (hn : n ≤ 14) (h0 : ∀ s, s < 2 ^ n → T0 s < 2) {j i : Nat} (hj : j < n) (hi : i ≤ 2 ^ (n - 1 - j)) : (dl (dvs n T0 j).1 (dvs n T0 j).2.1 (2 ^ (n - 1 - j)) i).2.length ≤ 2301 := by
  obtain ⟨a, b⟩ := dvs_inv h0 j (by omega)
  have hp : 2 ^ (n - j) = 2 ^ (n - 1 - j) + 2 ^ (n - 1 - j) := by
    rw [show n - j = (n - 1 - j) + 1 by omega, Nat.pow_succ]; omega
  obtain ⟨B, h1, h2, h3, h4, h5, h6⟩ := dl_inv (T := (dvs n T0 j).1) (NL := (dvs n T0 j).2.1) (half := 2 ^ (n - 1 - j)) (fun s hs => b s (by omega)) i hi
  have hB := pairs_le (a := (dvs n T0 j).2.1.length + 2) (b := (dvs n T0 j).2.1.length + 1) h2 (fun p hp => h3 p hp)
  have hm : ((dvs n T0 j).2.1.length + 2) * ((dvs n T0 j).2.1.length + 1) ≤ (ub n j + 2) * (ub n j + 1) := Nat.mul_le_mul (by omega) (by omega)
  have u1 := ub_mono n (j + 1) n (by omega)
  have u2 := ub_top n (by omega)
  rw [ub] at u1
  rw [h1, List.length_append]
  omega
