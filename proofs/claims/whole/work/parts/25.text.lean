/-! edges from a text: the reading as a function; c: the signs, len: how many -/
def dig (c : Nat → Nat) (len k : Nat) : Option Nat := if k < len ∧ 48 ≤ c k ∧ c k ≤ 57 then some (c k - 48) else none
def digI (o : Option Nat) : Int32 := match o with
  | none => -1
  | some d => nI d
def rv (n : Nat) (c : Nat → Nat) (len st k : Nat) : Nat ⊕ (Nat × Nat) := match dig c len k with
  | none => .inl k
  | some v => if n ≤ v then .inl k else match (if v = 0 then none else dig c len (k + 1)) with
    | none => if st.testBit v then .inl k else .inr (v, k + 1)
    | some d => if n ≤ 10 * v + d then .inl (k + 1) else if st.testBit (10 * v + d) then .inl k else .inr (10 * v + d, k + 2)
def rdE (n : Nat) (c : Nat → Nat) (len : Nat) : Nat → Nat → Nat → Nat ⊕ (Nat × Nat)
  | 0, _, k => .inl k
  | f + 1, st, k => match rv n c len st k with
    | .inl e => .inl e
    | .inr (v, a) => if a < len ∧ c a = 44 then rdE n c len f (st ||| 2 ^ v) (a + 1) else .inr (st ||| 2 ^ v, a)
def rE (n : Nat) (c : Nat → Nat) (len : Nat) (E : List Nat) (k : Nat) : Nat ⊕ (Nat × Nat) := if 24 ≤ E.length then .inl k else match rdE n c len 101 0 k with
  | .inl e => .inl e
  | .inr (s, a) => if s ∈ E then .inl a else .inr (s, a)
def rdT (n : Nat) (c : Nat → Nat) (len : Nat) : Nat → List Nat → Nat → Nat ⊕ List Nat
  | 0, _, k => .inl k
  | f + 1, E, k => match rE n c len E k with
    | .inl e => .inl e
    | .inr (s, a) => if a < len ∧ c a = 59 then rdT n c len f (E ++ [s]) (a + 1) else if a < len then .inl a else .inr (E ++ [s])
theorem dig_lt {c : Nat → Nat} {len k d : Nat} (h : dig c len k = some d) : k < len ∧ d ≤ 9 ∧ c k = d + 48 := by
  unfold dig at h
  split at h
  · rename_i q; cases h; omega
  · cases h
theorem rv_inr {n : Nat} {c : Nat → Nat} {len st k v a : Nat} (h : rv n c len st k = .inr (v, a)) : v < n ∧ k < a ∧ a ≤ len ∧ st.testBit v = false := by
  unfold rv at h
  split at h
  · cases h
  · rename_i v1 e1
    have d1 := dig_lt e1
    split at h
    · cases h
    · split at h
      · split at h
        · cases h
        · rename_i q
          cases h
          exact ⟨by omega, by omega, by omega, by simpa using q⟩
      · rename_i d e2
        have e3 : dig c len (k + 1) = some d := by
          split at e2
          · cases e2
          · exact e2
        have d2 := dig_lt e3
        split at h
        · cases h
        · split at h
          · cases h
          · rename_i q
            cases h
            exact ⟨by omega, by omega, by omega, by simpa using q⟩
theorem rv_inl {n : Nat} {c : Nat → Nat} {len st k e : Nat} (hk : k ≤ len) (h : rv n c len st k = .inl e) : e ≤ len := by
  unfold rv at h
  split at h
  · cases h; exact hk
  · rename_i v1 e1
    have d1 := dig_lt e1
    split at h
    · cases h; exact hk
    · split at h
      · split at h
        · cases h; exact hk
        · cases h
      · rename_i d e2
        have e3 : dig c len (k + 1) = some d := by
          split at e2
          · cases e2
          · exact e2
        have d2 := dig_lt e3
        split at h
        · cases h; omega
        · split at h
          · cases h; exact hk
          · cases h
theorem rdE_inl {n : Nat} {c : Nat → Nat} {len : Nat} : ∀ {f st k e : Nat}, k ≤ len → rdE n c len f st k = .inl e → e ≤ len := by
  intro f
  induction f with
  | zero => intro st k e hk h; cases h; exact hk
  | succ f ih =>
    intro st k e hk h
    rw [rdE] at h
    split at h
    · rename_i e1 h1; cases h; exact rv_inl hk h1
    · rename_i v a h1
      split at h
      · rename_i q; exact ih (by omega) h
      · cases h
theorem rdE_inr {n : Nat} {c : Nat → Nat} {len : Nat} : ∀ {f st k s a : Nat}, st < 2 ^ n → rdE n c len f st k = .inr (s, a) → 0 < s ∧ s < 2 ^ n ∧ k < a ∧ a ≤ len := by
  intro f
  induction f with
  | zero => intro st k s a _ h; cases h
  | succ f ih =>
    intro st k s a hst h
    rw [rdE] at h
    split at h
    · cases h
    · rename_i v b h1
      have h2 := rv_inr h1
      have h3 : st ||| 2 ^ v < 2 ^ n := Nat.or_lt_two_pow hst (p2_lt h2.1)
      split at h
      · rename_i q
        obtain ⟨a1, a2, a3, a4⟩ := ih h3 h
        exact ⟨a1, a2, by omega, a4⟩
      · cases h
        refine ⟨Nat.pos_of_ne_zero (fun q => ?_), h3, h2.2.1, h2.2.2.1⟩
        have := congrArg (fun x => x.testBit v) q
        simp only [or_pow_tb, Nat.zero_testBit] at this
        simp at this
theorem rE_inl {n : Nat} {c : Nat → Nat} {len k e : Nat} {E : List Nat} (hk : k ≤ len) (h : rE n c len E k = .inl e) : e ≤ len := by
  unfold rE at h
  split at h
  · cases h; exact hk
  · split at h
    · rename_i e1 h1; cases h; exact rdE_inl hk h1
    · rename_i s a h1
      split at h
      · cases h; exact (rdE_inr (Nat.two_pow_pos n) h1).2.2.2
      · cases h
theorem rE_inr {n : Nat} {c : Nat → Nat} {len k s a : Nat} {E : List Nat} (h : rE n c len E k = .inr (s, a)) : 0 < s ∧ s < 2 ^ n ∧ k < a ∧ a ≤ len ∧ s ∉ E ∧ E.length < 24 := by
  unfold rE at h
  split at h
  · cases h
  · rename_i hl
    split at h
    · cases h
    · rename_i s1 a1 h1
      split at h
      · cases h
      · rename_i q
        cases h
        obtain ⟨b1, b2, b3, b4⟩ := rdE_inr (Nat.two_pow_pos n) h1
        exact ⟨b1, b2, b3, b4, q, by omega⟩
theorem rdT_inl {n : Nat} {c : Nat → Nat} {len : Nat} : ∀ {f k e : Nat} {E : List Nat}, k ≤ len → rdT n c len f E k = .inl e → e ≤ len := by
  intro f
  induction f with
  | zero => intro k e E hk h; cases h; exact hk
  | succ f ih =>
    intro k e E hk h
    rw [rdT] at h
    split at h
    · rename_i e1 h1; cases h; exact rE_inl hk h1
    · rename_i s a h1
      have h2 := rE_inr h1
      split at h
      · rename_i q; exact ih (by omega) h
      · split at h
        · cases h; omega
        · cases h
def XTx (len : Nat) (c : Nat → Nat) (M : gM) : Prop := M 8 0 = nI len ∧ len ≤ 100 ∧ ∀ i, i < len → M 41 i = nI (c i) ∧ c i < 65536
section
variable {n len : Nat} {c : Nat → Nat} {E : List Nat} {M : gM}
theorem XTx_s {M1 : gM} (h : XTx len c M) (h1 : M1 8 0 = M 8 0) (h2 : M1 41 = M 41) : XTx len c M1 := ⟨h1.trans h.1, h.2.1, fun i hi => by rw [h2]; exact h.2.2 i hi⟩
theorem S_digit {k : Nat} {Q : Int32 → gM → Prop} (hT : XTx len c M) (hk : M 8 2 = nI k) (hkl : k ≤ len) (h : Q (digI (dig c len k)) M) : w_X1_digit M Q := by
  obtain ⟨t1, t2, t3⟩ := hT
  unfold w_X1_digit
  rw [hk, t1]
  refine gbr_lt k len rfl rfl (by omega) (by omega) (fun q => ?_) (fun q => ?_)
  · obtain ⟨a1, a2⟩ := t3 k q
    refine ⟨c_in (by omega) (by decide), ?_⟩
    rw [c_cl (by omega), a1]
    unfold dig at h
    refine gbr_lt (c k) 48 rfl rfl (by omega) (by decide) (fun y => ?_) (fun y => ⟨c_in (by omega) (by decide), gbr_lt 57 (c k) rfl rfl (by decide) (by omega) (fun z => ?_) (fun z => ⟨c_in (by omega) (by decide), ?_⟩)⟩)
    · rw [if_neg (by omega)] at h; exact h
    · rw [if_neg (by omega)] at h; exact h
    · rw [if_pos ⟨q, y, z⟩] at h
      rw [show (48 : Int32) = nI 48 from rfl, pk_sub y]
      exact h
  · unfold dig at h
    rw [if_neg (by omega)] at h; exact h
theorem S_skips {k w : Nat} {Q : Int32 → gM → Prop} (hT : XTx len c M) (hk : M 8 2 = nI k) (hkl : k ≤ len) (hw : w < 65536) (h1 : k < len ∧ c k = w → ∀ M1, M1 8 2 = nI (k + 1) → M1 8 3 = M 8 3 → M1 8 0 = M 8 0 → same [8] M M1 → Q 1 M1) (h2 : ¬ (k < len ∧ c k = w) → Q 0 M) : w_X1_skips (nI w) M Q := by
  obtain ⟨t1, t2, t3⟩ := hT
  unfold w_X1_skips
  rw [hk, t1]
  refine gbr_lt k len rfl rfl (by omega) (by omega) (fun q => ?_) (fun q => h2 (by omega))
  obtain ⟨a1, a2⟩ := t3 k q
  refine ⟨c_in (by omega) (by decide), ?_⟩
  rw [c_cl (by omega), a1]
  refine gbr_eq _ _ rfl rfl (by omega) (by omega) (fun y => ?_) (fun y => h2 (fun z => y z.2))
  intro M1 e1
  rw [c_add1] at e1
  exact h1 ⟨q, y⟩ M1 (by rw [e1, gst_s]) (by rw [e1, gst_k (by decide)]) (by rw [e1, gst_k (by decide)]) (by rw [e1]; exact same.rfl.st (by decide))
theorem digI_ne {v : Nat} (h : v < 65536) : ¬ nI v = (-1) := nI_m1 (by omega)
theorem S_readVertex {k st : Nat} {Q : Int32 → gM → Prop} (hn : n ≤ 14) (hT : XTx len c M) (hk : M 8 2 = nI k) (hkl : k ≤ len) (hst : st < 2 ^ n)
    (h1 : ∀ e, rv n c len st k = .inl e → ∀ M1, M1 8 3 = nI e → M1 8 0 = M 8 0 → same [8] M M1 → Q (-1) M1) (h2 : ∀ v a, rv n c len st k = .inr (v, a) → ∀ M1, M1 8 2 = nI a → M1 8 3 = M 8 3 → M1 8 0 = M 8 0 → same [8] M M1 → Q (nI v) M1) : w_X1_readVertex (nI n) (nI st) M Q := by
  have h14 := p2_14 hn
  have hl := hT.2.1
  have fault : ∀ (M2 : gM) (x : Int32) (e : Nat), x = nI e → rv n c len st k = .inl e → M2 8 0 = M 8 0 → same [8] M M2 → ∀ M4 : gM, M4 = gst M2 8 3 x → Q (-1) M4 := by
    intro M2 x e hx he h0 hs M4 e4
    exact h1 e he M4 (by rw [e4, gst_s, hx]) (by rw [e4, gst_k (by decide)]; exact h0) (by rw [e4]; exact hs.st (by decide))
  unfold w_X1_readVertex
  intro x1 e1
  rw [hk] at e1
  refine S_digit hT hk hkl ?_
  cases d1 : dig c len k with
  | none =>
    refine gbr_t rfl ?_
    exact fault M _ k hk (by unfold rv; rw [d1]) rfl same.rfl
  | some v =>
    obtain ⟨v1, v2, -⟩ := dig_lt d1
    refine gbr_f (digI_ne (v := v) (by omega)) ?_
    refine gbr_lt v n rfl rfl (by omega) (by omega) (fun q => ?_) (fun q => ?_)
    · intro M5 e5
      rw [hk, c_add1] at e5
      have a2 : M5 8 2 = nI (k + 1) := by rw [e5, gst_s]
      have a3 : M5 8 3 = M 8 3 := by rw [e5, gst_k (by decide)]
      have a0 : M5 8 0 = M 8 0 := by rw [e5, gst_k (by decide)]
      have as : same [8] M M5 := by rw [e5]; exact same.rfl.st (by decide)
      have hT5 := XTx_s hT a0 (as 41 (by decide))
      clear e5
      refine S_digit hT5 a2 (by omega) ?_
      have one : ∀ (w : Nat), w < n → w < 31 → (∀ (b : Bool), st.testBit w = b → True) → rv n c len st k = (if st.testBit w then Sum.inl k else Sum.inr (w, k + 1)) → w_X8_has (nI st) (nI w) M5 (fun (r12 : Int32) (M11 : gM) => gbr ((r12 : Int32) = 0) (Q (nI w) M11) (∀ M13 : gM, M13 = gst M11 8 3 x1 → (Q (-1) M13))) := by
        intro w _ hw _ hrv
        refine S_has (by omega) hw ?_
        refine gbr_b _ rfl (fun z => ?_) (fun z => ?_)
        · rw [z] at hrv
          exact h2 w (k + 1) hrv M5 a2 a3 a0 as
        · rw [z] at hrv
          exact fault M5 x1 k e1 hrv a0 as
      refine gbr_eq v 0 rfl rfl (by omega) (by decide) (fun z => ?_) (fun z => ?_)
      · refine one v q (by omega) (fun _ _ => trivial) ?_
        unfold rv
        rw [d1]
        simp only []
        rw [if_neg (by omega), if_pos z]
      · cases d2 : dig c len (k + 1) with
        | none =>
          refine gbr_t rfl ?_
          refine one v q (by omega) (fun _ _ => trivial) ?_
          unfold rv
          rw [d1]
          simp only []
          rw [if_neg (by omega), if_neg z, d2]
        | some d =>
          obtain ⟨w1, w2, -⟩ := dig_lt d2
          have hrv : rv n c len st k = if n ≤ 10 * v + d then Sum.inl (k + 1) else if st.testBit (10 * v + d) then Sum.inl k else Sum.inr (10 * v + d, k + 2) := by
            unfold rv
            rw [d1]
            simp only []
            rw [if_neg (by omega), if_neg z, d2]
          refine gbr_f (digI_ne (v := d) (by omega)) ?_
          intro x14 e14
          have e15 : x14 = nI (10 * v + d) := by
            rw [e14]
            show nI 10 * nI v + nI d = _
            rw [pk_mul]
            exact nI_add _ _
          refine gbr_lt _ n e15 rfl (by omega) (by omega) (fun y => ?_) (fun y => ?_)
          · rw [if_neg (by omega)] at hrv
            intro M15 e15b
            rw [a2, c_add1] at e15b
            have b2' : M15 8 2 = nI (k + 2) := by rw [e15b, gst_s]
            have b3 : M15 8 3 = M 8 3 := by rw [e15b, gst_k (by decide)]; exact a3
            have b0 : M15 8 0 = M 8 0 := by rw [e15b, gst_k (by decide)]; exact a0
            have bs : same [8] M M15 := by rw [e15b]; exact as.st (by decide)
            clear e15b
            rw [e15]
            refine S_has (by omega) (by omega) ?_
            refine gbr_b _ rfl (fun w => ?_) (fun w => ?_)
            · rw [w] at hrv
              exact h2 _ _ hrv M15 b2' b3 b0 bs
            · rw [w] at hrv
              exact fault M15 x1 k e1 hrv b0 bs
          · rw [if_pos y] at hrv
            exact fault M5 _ (k + 1) a2 hrv a0 as
    · exact fault M _ k hk (by unfold rv; rw [d1]; simp only []; rw [if_pos q]) rfl same.rfl
theorem S_readE_loop {Q : gM → Prop} {K72 K51 : Int32 → Int32 → Int32 → gM → Prop} (hn : n ≤ 14) (hl100 : len ≤ 100) : ∀ (f st k i : Nat) (M : gM), 101 ≤ f + k → k ≤ len → i ≤ k → st < 2 ^ n → M 1 0 = nI n → XTx len c M → M 8 2 = nI k →
    (∀ e, rdE n c len f st k = .inl e → ∀ x y z M1, M1 8 3 = nI e → M1 8 0 = M 8 0 → same [8] M M1 → K51 x y z M1) → (∀ s a, rdE n c len f st k = .inr (s, a) → ∀ y z M1, M1 8 2 = nI a → M1 8 3 = M 8 3 → M1 8 0 = M 8 0 → same [8] M M1 → K72 (nI s) y z M1) → w_X1_readEdge_L23 Q K72 K51 (f + 2) (nI st) 1 (nI i) M := by
  intro f
  induction f with
  | zero => intro st k i M h1 h2; omega
  | succ f ih =>
    intro st k i M hf hk hi hst hv hT h2 g1 g2
    rw [show f + 1 + 2 = (f + 2) + 1 from rfl, w_X1_readEdge_L23.eq_2]
    refine gbr_ltF 100 i rfl rfl (by decide) (by omega) (by omega) ?_
    refine gbr_f (by decide) ?_
    rw [hv]
    refine S_readVertex hn hT h2 hk hst (fun e he M1 k1 k2 k3 => ?_) (fun v a hva M1 k1 k2 k3 k4 => ?_)
    · refine gbr_t rfl ?_
      exact g1 e (by rw [rdE, he]) _ _ _ M1 k1 k2 k3
    · obtain ⟨r1, r2, r3, r4⟩ := rv_inr hva
      refine gbr_f (digI_ne (v := v) (by omega)) ?_
      rw [c_shl v (by omega), c_or]
      refine nm_e ?_
      have hT1 := XTx_s hT k3 (k4 41 (by decide))
      refine S_skips (w := 44) hT1 k1 r3 (by decide) (fun q M2 j1 j2 j3 j4 => ?_) (fun q => ?_)
      · refine nm_r (c_add1 i) ?_
        have hrd : rdE n c len (f + 1) st k = rdE n c len f (st ||| 2 ^ v) (a + 1) := by
          rw [rdE, hva]; simp only []; rw [if_pos q]
        rw [hrd] at g1 g2
        refine ih (st ||| 2 ^ v) (a + 1) (i + 1) M2 (by omega) (by omega) (by omega) (Nat.or_lt_two_pow hst (p2_lt r1)) (by rw [j4 1 (by decide), k4 1 (by decide)]; exact hv) (XTx_s hT1 j3 (j4 41 (by decide))) j1 (fun e he x y z M3 l1 l2 l3 => ?_) (fun s b hsb y z M3 l1 l2 l3 l4 => ?_)
        · exact g1 e he x y z M3 l1 (by rw [l2, j3, k3]) (k4.tr (j4.tr l3))
        · exact g2 s b hsb y z M3 l1 (by rw [l2, j2, k2]) (by rw [l3, j3, k3]) (k4.tr (j4.tr l4))
      · have hrd : rdE n c len (f + 1) st k = .inr (st ||| 2 ^ v, a) := by
          rw [rdE, hva]; simp only []; rw [if_neg q]
        refine nm_r (c_add1 i) ?_
        have key := g2 _ _ hrd 0 (nI (i + 1)) M1 k1 k2 k3 k4
        rw [show f + 2 = (f + 1) + 1 from rfl, w_X1_readEdge_L23.eq_2]
        exact gbr_c (fun _ => key) (fun _ => gbr_t rfl key)
theorem S_readEdge {k : Nat} {Q : gM → Prop} (hG : XG n E M) (hT : XTx len c M) (hk : M 8 2 = nI k) (hkl : k ≤ len) (h3 : M 8 3 = -1)
    (h1 : ∀ e, rE n c len E k = .inl e → ∀ M1, M1 8 3 = nI e → M1 8 0 = M 8 0 → same [8] M M1 → Q M1) (h2 : ∀ s a, rE n c len E k = .inr (s, a) → ∀ M1, XG n (E ++ [s]) M1 → M1 1 5 = M 1 5 → M1 8 2 = nI a → M1 8 3 = -1 → M1 8 0 = M 8 0 → same [1, 8, 9] M M1 → Q M1) : w_X1_readEdge M Q := by
  have hn := hG.1
  have h14 := p2_14 hn.2
  have hl := hT.2.1
  unfold w_X1_readEdge
  refine S_isFull hG ?_
  refine gbr_b _ rfl (fun q => ?_) (fun q => ?_)
  · have q := of_decide_eq_false q
    refine ⟨103, ?_⟩
    refine S_readE_loop (n := n) (len := len) (c := c) hn.2 hl 101 0 k 0 M (by omega) hkl (Nat.zero_le _) (Nat.two_pow_pos n) hG.2.2.1 hT hk (fun e he x y z M1 k1 k2 k3 => ?_) (fun s a hsa y z M1 k1 k2 k3 k4 => ?_)
    · exact h1 e (by unfold rE; rw [if_neg q, he]) M1 k1 k2 k3
    · obtain ⟨r1, r2, r3, r4⟩ := rdE_inr (Nat.two_pow_pos n) hsa
      have hG1 : XG n E M1 := by
        obtain ⟨hn, hS, hvv, hc, hr⟩ := hG
        exact ⟨hn, hS, by rw [k4 1 (by decide)]; exact hvv, by rw [k4 1 (by decide)]; exact hc, by rw [k4 9 (by decide)]; exact hr⟩
      refine S_contains hG1 (by omega) ?_
      refine gbr_b _ rfl (fun w => ?_) (fun w => ?_)
      · have w := of_decide_eq_false w
        refine S_append_raw hG1.2.2.2.1 (by omega) ?_
        have hg := XG_app hG1 (by omega) ⟨r1, r2⟩
        refine h2 s a (by unfold rE; rw [if_neg q, hsa]; simp only []; rw [if_neg w]) _ hg ?_ ?_ ?_ ?_ ?_
        · rw [gst_k (by decide), gst_n (by decide), k4 1 (by decide)]
        · rw [gst_n (by decide), gst_n (by decide)]; exact k1
        · rw [gst_n (by decide), gst_n (by decide), k2]; exact h3
        · rw [gst_n (by decide), gst_n (by decide)]; exact k3
        · exact ((k4.sub (by decide)).st (by decide)).st (by decide)
      · have w := of_decide_eq_true w
        intro M18 e18
        refine h1 a (by unfold rE; rw [if_neg q, hsa]; simp only []; rw [if_pos w]) M18 (by rw [e18, gst_s]; exact k1) (by rw [e18, gst_k (by decide)]; exact k3) (by rw [e18]; exact k4.st (by decide))
  · have q := of_decide_eq_true q
    intro M24 e24
    exact h1 k (by unfold rE; rw [if_pos q]) M24 (by rw [e24, gst_s]; exact hk) (by rw [e24, gst_k (by decide)]) (by rw [e24]; exact same.rfl.st (by decide))
theorem S_readT_loop {Q : Int32 → gM → Prop} {K58 : Int32 → Int32 → gM → Prop} (hl100 : len ≤ 100) : ∀ (f : Nat) (E : List Nat) (k i : Nat) (M : gM), 101 ≤ f + k → k ≤ len → i ≤ k → XG n E M → XTx len c M → M 8 2 = nI k → M 8 3 = -1 →
    (∀ e, rdT n c len f E k = .inl e → ∀ y z M1 B a, XG n (E ++ B) M1 → M1 1 5 = M 1 5 → M1 8 0 = M 8 0 → same [1, 8, 9] M M1 → a ≤ len → (M1 8 3 = nI e ∨ (M1 8 3 = -1 ∧ M1 8 2 = nI e ∧ e < len)) → K58 y z M1) → (∀ L, rdT n c len f E k = .inr L → ∀ y z M1, XG n L M1 → M1 1 5 = M 1 5 → M1 8 0 = M 8 0 → M1 8 3 = -1 → (∃ a, M1 8 2 = nI a ∧ len ≤ a ∧ a < 65536) → same [1, 8, 9] M M1 → K58 y z M1) → w_X1_readInto_L14 Q K58 (f + 2) 1 (nI i) M := by
  intro f
  induction f with
  | zero => intro E k i M h1 h2; omega
  | succ f ih =>
    intro E k i M hf hk hi hG hT h2 h3 g1 g2
    rw [show f + 1 + 2 = (f + 2) + 1 from rfl, w_X1_readInto_L14.eq_2]
    refine gbr_ltF 100 i rfl rfl (by decide) (by omega) (by omega) ?_
    refine gbr_f (by decide) ?_
    have stop : ∀ j M1, K58 0 (nI j) M1 → w_X1_readInto_L14 Q K58 (f + 2) 0 (nI j) M1 := by
      intro j M1 hK
      rw [show f + 2 = (f + 1) + 1 from rfl, w_X1_readInto_L14.eq_2]
      exact gbr_c (fun _ => hK) (fun _ => gbr_t rfl hK)
    refine S_readEdge hG hT h2 hk h3 (fun e he M1 k1 k2 k3 => ?_) (fun s a hsa M1 k0 k5 k1 k2 k3 k4 => ?_)
    · have he2 := rE_inl hk he
      refine gbr_f (by rw [k1]; exact digI_ne (by omega)) ?_
      refine nm_r (c_add1 i) (stop _ _ ?_)
      refine g1 e (by rw [rdT, he]) _ _ M1 [] k ?_ (by rw [k3 1 (by decide)]) k2 (k3.sub (by decide)) hk (Or.inl k1)
      rw [List.append_nil]
      obtain ⟨hn, hS, hvv, hc, hr⟩ := hG
      exact ⟨hn, hS, by rw [k3 1 (by decide)]; exact hvv, by rw [k3 1 (by decide)]; exact hc, by rw [k3 9 (by decide)]; exact hr⟩
    · obtain ⟨r1, r2, r3, r4, r5, r6⟩ := rE_inr hsa
      have hT1 := XTx_s hT k3 (k4 41 (by decide))
      refine gbr_t k2 ?_
      refine S_skips (w := 59) hT1 k1 r4 (by decide) (fun q M2 j1 j2 j3 j4 => ?_) (fun q => ?_)
      · refine gbr_f (by decide) ?_
        refine nm_r (c_add1 i) ?_
        have hrd : rdT n c len (f + 1) E k = rdT n c len f (E ++ [s]) (a + 1) := by
          rw [rdT, hsa]; simp only []; rw [if_pos q]
        rw [hrd] at g1 g2
        have hG2 : XG n (E ++ [s]) M2 := by
          obtain ⟨hn, hS, hvv, hc, hr⟩ := k0
          exact ⟨hn, hS, by rw [j4 1 (by decide)]; exact hvv, by rw [j4 1 (by decide)]; exact hc, by rw [j4 9 (by decide)]; exact hr⟩
        have s2 : same [1, 8, 9] M M2 := k4.tr (j4.sub (by decide))
        refine ih (E ++ [s]) (a + 1) (i + 1) M2 (by omega) (by omega) (by omega) hG2 (XTx_s hT1 j3 (j4 41 (by decide))) j1 (by rw [j2]; exact k2) (fun e he y z M3 B b l1 l2 l3 l4 l5 l6 => ?_) (fun L hL y z M3 l1 l2 l3 l4 l5 l6 => ?_)
        · refine g1 e he y z M3 ([s] ++ B) b (by rw [← List.append_assoc]; exact l1) (by rw [l2, j4 1 (by decide), k5]) (by rw [l3, j3, k3]) (s2.tr l4) l5 l6
        · exact g2 L hL y z M3 l1 (by rw [l2, j4 1 (by decide), k5]) (by rw [l3, j3, k3]) l4 l5 (s2.tr l6)
      · refine gbr_t rfl ?_
        refine nm_r (c_add1 i) (stop _ _ ?_)
        by_cases w : a < len
        · refine g1 a (by rw [rdT, hsa]; simp only []; rw [if_neg q, if_pos w]) _ _ M1 [s] a k0 k5 k3 k4 r4 (Or.inr ⟨k2, k1, w⟩)
        · exact g2 (E ++ [s]) (by rw [rdT, hsa]; simp only []; rw [if_neg q, if_neg w]) _ _ M1 k0 k5 k3 k2 ⟨a, k1, by omega, by omega⟩ k4
theorem S_readInto {Q : Int32 → gM → Prop} (hG : XG n E M) (hT : XTx len c M)
    (h1 : ∀ e, rdT n c len 101 E 0 = .inl e → ∀ M1 B, XG n (E ++ B) M1 → M1 1 5 = M 1 5 → M1 8 0 = M 8 0 → same [1, 8, 9] M M1 → Q (nI e) M1) (h2 : ∀ L, rdT n c len 101 E 0 = .inr L → ∀ M1, XG n L M1 → M1 1 5 = M 1 5 → M1 8 0 = M 8 0 → same [1, 8, 9] M M1 → Q (-1) M1) : w_X1_readInto M Q := by
  have hl := hT.2.1
  unfold w_X1_readInto
  intro M1 e1 M2 e2
  have s2 : same [8] M M2 := by rw [e2, e1]; exact (same.rfl.st (by decide)).st (by decide)
  have v2 : M2 8 2 = nI 0 := by rw [e2, gst_k (by decide), e1, gst_s]; rfl
  have v3 : M2 8 3 = -1 := by rw [e2, gst_s]
  have v0 : M2 8 0 = M 8 0 := by rw [e2, gst_k (by decide), e1, gst_k (by decide)]
  clear e1 e2
  have hG2 : XG n E M2 := by
    obtain ⟨hn, hS, hvv, hc, hr⟩ := hG
    exact ⟨hn, hS, by rw [s2 1 (by decide)]; exact hvv, by rw [s2 1 (by decide)]; exact hc, by rw [s2 9 (by decide)]; exact hr⟩
  have hT2 := XTx_s hT v0 (s2 41 (by decide))
  refine ⟨103, ?_⟩
  refine S_readT_loop (n := n) (len := len) (c := c) hl 101 E 0 0 M2 (by omega) (Nat.zero_le _) (Nat.le_refl _) hG2 hT2 v2 v3 (fun e he y z M3 B b l1 l2 l3 l4 l5 l6 => ?_) (fun L hL y z M3 l1 l2 l3 l4 l5 l6 => ?_)
  · have he2 := rdT_inl (Nat.zero_le _) he
    have fin := h1 e he M3 B l1 (by rw [l2, s2 1 (by decide)]) (by rw [l3, v0]) ((s2.sub (by decide)).tr l4)
    rcases l6 with l6 | ⟨l6, l7, l8⟩
    · rw [l6]
      refine gbr_f (digI_ne (v := e) (by omega)) fin
    · refine gbr_t l6 ?_
      refine gbr_ltT e len l7 (by rw [l3]; exact hT2.1) (by omega) (by omega) l8 ?_
      intro M13 e13
      have : M13 8 3 = nI e := by rw [e13, gst_s]; exact l7
      rw [this]
      refine h1 e he M13 B ?_ (by rw [e13, gst_n (by decide), l2, s2 1 (by decide)]) (by rw [e13, gst_k (by decide), l3, v0]) (by rw [e13]; exact ((s2.sub (by decide)).tr l4).st (by decide))
      obtain ⟨hn, hS, hvv, hc, hr⟩ := l1
      exact ⟨hn, hS, by rw [e13, gst_n (by decide)]; exact hvv, by rw [e13, gst_n (by decide)]; exact hc, by rw [e13, gst_n (by decide)]; exact hr⟩
  · obtain ⟨a, a1, a2, a3⟩ := l5
    refine gbr_t l4 ?_
    refine gbr_ltF a len a1 (by rw [l3]; exact hT2.1) (by omega) (by omega) a2 ?_
    rw [l4]
    exact h2 L hL M3 l1 (by rw [l2, s2 1 (by decide)]) (by rw [l3, v0]) ((s2.sub (by decide)).tr l6)
end
