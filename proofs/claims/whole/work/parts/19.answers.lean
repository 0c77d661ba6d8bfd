/-! the search finds just the answers, each once, unless it is given up -/
section
variable {n : Nat} {E : List Nat}
def sub (S T : Nat) : Prop := ∀ i, S.testBit i = true → T.testBit i = true
theorem allP_sub {S T : Nat} (h : allP n E T) (hs : sub S T) : allP n E S := by
  intro v hv hSv
  obtain ⟨e, he, h1⟩ := h v hv (hs v hSv)
  obtain ⟨a1, a2, a3⟩ := and_pow.mp h1
  exact ⟨e, he, and_pow.mpr ⟨a1, hSv, fun w p q => a3 w p (hs w q)⟩⟩
theorem ans_min {S T : Nat} (hT : T < 2 ^ n) (hA : isAns n E T) (hs : sub S T) (hm : missE E S = 0) : T = S := by
  refine Nat.eq_of_testBit_eq fun i => ?_
  apply bool_iff
  constructor
  · intro h
    obtain ⟨e, he, h1⟩ := hA.2 i (tb_lt hT h) h
    obtain ⟨a1, a2, a3⟩ := and_pow.mp h1
    obtain ⟨j, p, q⟩ := and_ne0.mp (missE_0.mp hm e he)
    have := a3 j p (hs j q)
    subst this
    exact q
  · exact hs i
theorem fcf_hit {w c k : Nat} (hS : sane n E) (hn : n ≤ 14) (hk : k ≤ E.length) (h : ∃ e, e < k ∧ w.testBit e = true) : ∃ e, e < k ∧ w.testBit e = true ∧ (fcf E w c k).1 = ed E e &&& c ∧ (fcf E w c k).2 ≤ 14 := by
  induction k with
  | zero => obtain ⟨e, he, -⟩ := h; omega
  | succ k ih =>
    rw [fcf]
    by_cases q : w.testBit k = true ∧ pc (ed E k &&& c) < (fcf E w c k).2
    · rw [if_pos q]
      have h4 := fcf_le E w c k
      exact ⟨k, by omega, q.1, rfl, (show pc (ed E k &&& c) ≤ 14 by omega)⟩
    · rw [if_neg q]
      by_cases z : ∃ e, e < k ∧ w.testBit e = true
      · obtain ⟨e, h1, h2⟩ := ih (by omega) z
        exact ⟨e, by omega, h2⟩
      · exfalso
        have e0 : (fcf E w c k).2 = 15 := by
          have : ∀ j, j ≤ k → (fcf E w c j).2 = 15 := by
            intro j
            induction j with
            | zero => intro _; rfl
            | succ j ihj =>
              intro hj
              rw [fcf, if_neg (fun y => z ⟨j, by omega, y.1⟩)]
              exact ihj (by omega)
          exact this k (Nat.le_refl _)
        obtain ⟨e, h1, h2⟩ := h
        have hek : e = k := by
          rcases Nat.lt_succ_iff_lt_or_eq.mp h1 with y | y
          · exact absurd ⟨e, y, h2⟩ z
          · exact y
        subst hek
        apply q
        refine ⟨h2, ?_⟩
        rw [e0]
        have h5 : ed E e &&& c < 2 ^ n := Nat.lt_of_le_of_lt Nat.and_le_left (hS.2 e (by omega)).2
        have := pc_le (n := n) (by omega) h5
        omega
/-- what a visit of S with the candidates C finds -/
def inSC (n : Nat) (E : List Nat) (S C T : Nat) : Prop := T < 2 ^ n ∧ isAns n E T ∧ sub S T ∧ ∀ i, T.testBit i = true → S.testBit i = true ∨ C.testBit i = true
theorem nodup_app {A B : List Nat} (ha : A.Nodup) (hb : B.Nodup) (h : ∀ x, x ∈ A → x ∈ B → False) : (A ++ B).Nodup := List.nodup_append.mpr ⟨ha, hb, fun a h1 b h2 => fun q => h a h1 (by rw [q]; exact h2)⟩
theorem sx_spec (hS : sane n E) (hn : n ≤ 14) : ∀ (f S C : Nat) (g : sg), S < 2 ^ n → C < 2 ^ n → allP n E S → pc S + f = 15 → (sx n E f S C g).2.2.2.2 = false → g.2.2.2.2 = false ∧ ∃ B : List Nat, (sx n E f S C g).1 = g.1 ++ B ∧ B.Nodup ∧ ∀ T, T ∈ B ↔ inSC n E S C T := by
  intro f
  induction f with
  | zero =>
    intro S C g h1 h2 h3 h4
    have := pc_le (n := n) (by omega) h1
    omega
  | succ f ihf =>
    intro S C g hSn hCn hP hf hu
    rw [sx] at hu ⊢
    by_cases z : 4000 ≤ g.2.2.1
    · rw [if_pos z] at hu; cases hu
    rw [if_neg z] at hu ⊢
    by_cases y : missE E S = 0
    · rw [if_pos y] at hu ⊢
      refine ⟨hu, [S], rfl, List.nodup_cons.mpr ⟨List.not_mem_nil, List.nodup_nil⟩, fun T => ?_⟩
      rw [List.mem_singleton]
      constructor
      · rintro rfl
        exact ⟨hSn, ⟨y, hP⟩, fun _ h => h, fun _ h => Or.inl h⟩
      · rintro ⟨h1, h2, h3, -⟩
        exact ans_min h1 h2 h3 y
    rw [if_neg y] at hu ⊢
    obtain ⟨F, hF⟩ : ∃ F, F = (fcf E (missE E S) C E.length).1 := ⟨_, rfl⟩
    rw [← hF] at hu ⊢
    have hFS : ∀ v, F.testBit v = true → S.testBit v = false ∧ C.testBit v = true := fun v hv => F_S (by rw [← hF]; exact hv)
    obtain ⟨e0, he0, hm0, hF0, -⟩ : ∃ e, e < E.length ∧ (missE E S).testBit e = true ∧ F = ed E e &&& C ∧ True := by
      have : ∃ e, e < E.length ∧ (missE E S).testBit e = true := by
        apply Classical.byContradiction
        intro q
        apply y
        refine tb_0.mpr fun i => ?_
        apply Bool.eq_false_iff.mpr
        intro p
        have := missE_tb E S i
        rw [p] at this
        have h9 := (Bool.and_eq_true _ _ ▸ this.symm : decide (i < E.length) = true ∧ decide (ed E i &&& S = 0) = true)
        exact q ⟨i, of_decide_eq_true h9.1, p⟩
      obtain ⟨e, h1, h2, h3, -⟩ := fcf_hit (c := C) hS hn (Nat.le_refl _) this
      exact ⟨e, h1, h2, by rw [hF]; exact h3, trivial⟩
    have hmS : ed E e0 &&& S = 0 := by
      rw [missE_tb, Bool.and_eq_true, decide_eq_true_eq, decide_eq_true_eq] at hm0
      exact hm0.2
    obtain ⟨g0, hg0⟩ : ∃ g0 : sg, g0 = (g.1, g.2.1, g.2.2.1 + 1, g.2.2.2) := ⟨_, rfl⟩
    rw [← hg0] at hu ⊢
    have key : ∀ i, i ≤ n → (sl n E (sx n E f) S F (nd C F) g0 i).2.2.2.2.2 = false → g0.2.2.2.2 = false ∧ (∀ v, (sl n E (sx n E f) S F (nd C F) g0 i).1.testBit v = true ↔ C.testBit v = true ∧ (F.testBit v = true → v < i)) ∧ ∃ B : List Nat, (sl n E (sx n E f) S F (nd C F) g0 i).2.1 = g0.1 ++ B ∧ B.Nodup ∧ ∀ T, T ∈ B ↔ (inSC n E S C T ∧ (∃ v, F.testBit v = true ∧ T.testBit v = true) ∧ ∀ v, F.testBit v = true → T.testBit v = true → v < i) := by
      intro i
      induction i with
      | zero =>
        intro _ h
        refine ⟨h, fun v => ?_, [], by rw [List.append_nil]; rfl, List.nodup_nil, fun T => ?_⟩
        · show (nd C F).testBit v = true ↔ _
          rw [nd_tb, Bool.and_eq_true, Bool.not_eq_true']
          constructor
          · rintro ⟨a, b⟩
            exact ⟨a, fun q => by rw [b] at q; cases q⟩
          · rintro ⟨a, b⟩
            refine ⟨a, ?_⟩
            cases q : F.testBit v
            · rfl
            · exact absurd (b q) (Nat.not_lt_zero _)
        · constructor
          · intro q; cases q
          · rintro ⟨-, ⟨v, a, b⟩, c⟩
            exact absurd (c v a b) (Nat.not_lt_zero _)
      | succ i ih =>
        intro hi h
        obtain ⟨P, hPd⟩ : ∃ P, P = sl n E (sx n E f) S F (nd C F) g0 i := ⟨_, rfl⟩
        rw [sl, ← hPd] at h ⊢
        rw [← hPd] at ih
        by_cases u : P.2.2.2.2.2 = true
        · rw [if_pos u] at h
          rw [u] at h; cases h
        rw [if_neg u] at h ⊢
        have u2 : P.2.2.2.2.2 = false := by simpa using u
        obtain ⟨i1, i2, B, i3, i4, i5⟩ := ih (by omega) u2
        by_cases x : F.testBit i = true
        · rw [if_pos x] at h ⊢
          dsimp only at h ⊢
          have hLi : ∀ v, (P.1 ||| 2 ^ i).testBit v = true ↔ C.testBit v = true ∧ (F.testBit v = true → v < i + 1) := by
            intro v
            rw [or_pow_tb, Bool.or_eq_true, decide_eq_true_eq, i2]
            constructor
            · rintro (⟨a, b⟩ | a)
              · exact ⟨a, fun q => Nat.lt_succ_of_lt (b q)⟩
              · subst a; exact ⟨(hFS i x).2, fun _ => by omega⟩
            · rintro ⟨a, b⟩
              by_cases q : i = v
              · exact Or.inr q
              · exact Or.inl ⟨a, fun p => by have := b p; omega⟩
          by_cases w : bd (allP n E (S ||| 2 ^ i)) = true
          · rw [if_pos w] at h ⊢
            have hS' : S ||| 2 ^ i < 2 ^ n := Nat.or_lt_two_pow hSn (p2_lt (by omega))
            have hL : P.1 < 2 ^ n := Nat.lt_pow_two_of_testBit _ fun v hv => by
              apply Bool.eq_false_iff.mpr
              intro q
              have := tb_lt hCn ((i2 v).mp q).1
              omega
            have hpc : pc (S ||| 2 ^ i) = pc S + 1 := pc_add (by omega) (hFS i x).1
            obtain ⟨j1, B', j3, j4, j5⟩ := ihf (S ||| 2 ^ i) P.1 P.2 hS' hL (of_bd_t w) (by omega) h
            have hB' : ∀ T, T ∈ B' ↔ (inSC n E S C T ∧ T.testBit i = true ∧ ∀ v, F.testBit v = true → T.testBit v = true → v < i + 1) := by
              intro T
              rw [j5]
              constructor
              · rintro ⟨t1, t2, t3, t4⟩
                have ti : T.testBit i = true := t3 i (by rw [or_pow_tb]; simp)
                refine ⟨⟨t1, t2, fun v hv => t3 v (by rw [or_pow_tb, hv]; rfl), fun v hv => ?_⟩, ti, fun v p q => ?_⟩
                · rcases t4 v hv with r | r
                  · rw [or_pow_tb, Bool.or_eq_true, decide_eq_true_eq] at r
                    rcases r with r | r
                    · exact Or.inl r
                    · subst r; exact Or.inr (hFS i x).2
                  · exact Or.inr ((i2 v).mp r).1
                · rcases t4 v q with r | r
                  · rw [or_pow_tb, Bool.or_eq_true, decide_eq_true_eq] at r
                    rcases r with r | r
                    · rw [(hFS v p).1] at r; cases r
                    · omega
                  · have := ((i2 v).mp r).2 p; omega
              · rintro ⟨⟨t1, t2, t3, t4⟩, ti, t5⟩
                refine ⟨t1, t2, fun v hv => ?_, fun v hv => ?_⟩
                · rw [or_pow_tb, Bool.or_eq_true, decide_eq_true_eq] at hv
                  rcases hv with r | r
                  · exact t3 v r
                  · subst r; exact ti
                · rw [or_pow_tb, Bool.or_eq_true, decide_eq_true_eq, i2]
                  rcases t4 v hv with r | r
                  · exact Or.inl (Or.inl r)
                  · by_cases q : i = v
                    · exact Or.inl (Or.inr q)
                    · exact Or.inr ⟨r, fun p => by have := t5 v p hv; omega⟩
            refine ⟨i1, hLi, B ++ B', by rw [j3, i3, List.append_assoc], nodup_app i4 j4 (fun T p q => ?_), fun T => ?_⟩
            · have a := ((i5 T).mp p).2.2 i x ((hB' T).mp q).2.1
              omega
            · rw [List.mem_append, i5, hB']
              constructor
              · rintro (⟨a, b, c⟩ | ⟨a, b, c⟩)
                · exact ⟨a, b, fun v p q => Nat.lt_succ_of_lt (c v p q)⟩
                · exact ⟨a, ⟨i, x, b⟩, c⟩
              · rintro ⟨a, b, c⟩
                by_cases q : T.testBit i = true
                · exact Or.inr ⟨a, q, c⟩
                · refine Or.inl ⟨a, b, fun v p r => ?_⟩
                  have := c v p r
                  have hne : v ≠ i := fun s => q (by rw [← s]; exact r)
                  omega
          · rw [if_neg w] at h ⊢
            have w2 : ¬ allP n E (S ||| 2 ^ i) := fun q => w (bd_t q)
            refine ⟨i1, hLi, B, i3, i4, fun T => ?_⟩
            rw [i5]
            constructor
            · rintro ⟨a, b, c⟩
              exact ⟨a, b, fun v p q => Nat.lt_succ_of_lt (c v p q)⟩
            · rintro ⟨a, b, c⟩
              refine ⟨a, b, fun v p r => ?_⟩
              have := c v p r
              have hne : v ≠ i := by
                intro s
                subst s
                refine w2 (allP_sub a.2.1.2 (fun u hu => ?_))
                rw [or_pow_tb, Bool.or_eq_true, decide_eq_true_eq] at hu
                rcases hu with s | s
                · exact a.2.2.1 u s
                · subst s; exact r
              omega
        · rw [if_neg x] at h ⊢
          refine ⟨i1, fun v => ?_, B, i3, i4, fun T => ?_⟩
          · rw [i2]
            constructor
            · rintro ⟨a, b⟩
              exact ⟨a, fun q => Nat.lt_succ_of_lt (b q)⟩
            · rintro ⟨a, b⟩
              refine ⟨a, fun q => ?_⟩
              have := b q
              have hne : v ≠ i := fun s => x (by rw [← s]; exact q)
              omega
          · rw [i5]
            constructor
            · rintro ⟨a, b, c⟩
              exact ⟨a, b, fun v p q => Nat.lt_succ_of_lt (c v p q)⟩
            · rintro ⟨a, b, c⟩
              refine ⟨a, b, fun v p r => ?_⟩
              have := c v p r
              have hne : v ≠ i := fun s => x (by rw [← s]; exact p)
              omega
    obtain ⟨k1, -, B, k3, k4, k5⟩ := key n (Nat.le_refl _) hu
    refine ⟨by rw [hg0] at k1; exact k1, B, by rw [k3, hg0], k4, fun T => ?_⟩
    rw [k5]
    constructor
    · rintro ⟨a, -, -⟩; exact a
    · intro a
      refine ⟨a, ?_, fun v _ q => tb_lt a.1 q⟩
      obtain ⟨v, p, q⟩ := and_ne0.mp (missE_0.mp a.2.1.1 e0 he0)
      refine ⟨v, ?_, q⟩
      rw [hF0, Nat.testBit_and, p]
      rcases a.2.2.2 v q with r | r
      · exact (and_0.mp hmS v p r).elim
      · rw [r]; rfl
theorem srch_spec (hS : sane n E) (hn : n ≤ 14) (hu : (srch n E).2.2.2.2 = false) : allA n E (srch n E).1 ∧ (srch n E).1.Nodup := by
  have h0 : allP n E 0 := fun v _ h => by rw [Nat.zero_testBit] at h; cases h
  obtain ⟨-, B, h1, h2, h3⟩ := sx_spec hS hn 15 0 (2 ^ n - 1) ([], [], 0, 0, false) (Nat.two_pow_pos n) (by have := Nat.two_pow_pos n; omega) h0 rfl hu
  have e : (srch n E).1 = B := h1
  rw [e]
  refine ⟨fun T => ?_, h2⟩
  rw [h3]
  constructor
  · rintro ⟨a, b, -, -⟩; exact ⟨a, b⟩
  · rintro ⟨a, b⟩
    refine ⟨a, b, fun i h => (by rw [Nat.zero_testBit] at h; cases h), fun i hi => Or.inr ?_⟩
    rw [tb_all]
    exact decide_eq_true (tb_lt a hi)
theorem nodup_ed {A : List Nat} (h : A.Nodup) : nodup A := by
  intro i j hi hj e
  unfold ed at e
  rw [List.getD_eq_getElem?_getD, List.getElem?_eq_getElem hi, List.getD_eq_getElem?_getD, List.getElem?_eq_getElem hj] at e
  have h2 := List.pairwise_iff_getElem.mp h
  rcases Nat.lt_trichotomy i j with q | q | q
  · exact absurd e (h2 i j hi hj q)
  · exact q
  · exact absurd e.symm (h2 j i hj hi q)
end
