/-! the reference: edges from a text -/
def FT (M M1 : gM) : Prop := same [42, 58] M M1 ∧ ∀ i, i ∉ [24, 25, 26] → M1 42 i = M 42 i
theorem FT.rfl {M : gM} : FT M M := ⟨same.rfl, fun _ _ => Eq.refl _⟩
theorem FT.tr {A B C : gM} (h : FT A B) (k : FT B C) : FT A C := ⟨h.1.tr k.1, fun i hi => (k.2 i hi).trans (h.2 i hi)⟩
theorem FT.sf {A B : gM} (h : FT A B) {k : Nat} {x : Int32} (hk : k ∈ [24, 25, 26]) : FT A (gst B 42 k x) := ⟨h.1.st (by decide), fun j hj => by
  rw [gst_k (fun q => hj (by rw [q]; exact hk))]; exact h.2 j hj⟩
theorem FT.s58 {A B : gM} (h : FT A B) {k : Nat} {x : Int32} : FT A (gst B 58 k x) := ⟨h.1.st (by decide), fun j hj => by rw [gst_n (by decide)]; exact h.2 j hj⟩
theorem FT_MF {M M1 : gM} (h : FT M M1) : MF M M1 := ⟨⟨h.1 43 (by decide), h.1 44 (by decide), h.1 45 (by decide), h.1 46 (by decide), h.1 57 (by decide)⟩, h.2 0 (by decide), h.2 5 (by decide), h.2 6 (by decide), h.2 22 (by decide)⟩
/-- reading: edges E, read so far R, place k -/
def TS (n len : Nat) (c : Nat → Nat) (E R : List Nat) (k : Nat) (M : gM) : Prop := RG n E M ∧ RT len c M ∧ M 42 24 = nI k ∧ k ≤ len ∧ M 42 26 = nI R.length ∧ rowIs (M 58) R ∧ sane n (E ++ R)
theorem TS_s {n len k k1 : Nat} {c : Nat → Nat} {E R : List Nat} {M M1 : gM} (h : TS n len c E R k M) (f : FT M M1) (e24 : M1 42 24 = nI k1) (hk : k1 ≤ len) (e26 : M1 42 26 = M 42 26) (e58 : M1 58 = M 58) : TS n len c E R k1 M1 := ⟨RG_s h.1 (f.1 43 (by decide)) (f.2 0 (by decide)), RT_s h.2.1 (f.2 22 (by decide)) (f.1 57 (by decide)), e24, hk, e26.trans h.2.2.2.2.1, by rw [e58]; exact h.2.2.2.2.2.1, h.2.2.2.2.2.2⟩
section
variable {n len : Nat} {c : Nat → Nat} {E R : List Nat} {M : gM}
theorem N_digit {k : Nat} {p : Int32} {Q : Int32 → gM → Prop} (hp : p = nI k) (hk : k < 2147483648) (hT : RT len c M) (h : Q (digI (dig c len k)) M) : w_X9_digitAt p M Q := by
  subst hp
  obtain ⟨t1, t2, t3⟩ := hT
  unfold w_X9_digitAt
  unfold dig at h
  refine gbr_lt k len rfl t1 hk (by omega) (fun q => ⟨c_in (by omega) (by decide), ?_⟩) (fun q => ?_)
  · obtain ⟨d1, d2⟩ := t3 k q
    rw [c_cl hk, d1]
    refine gbr_lt _ 48 rfl rfl (by omega) (by decide) (fun y => ?_) (fun y => ⟨c_in (by omega) (by decide), ?_⟩)
    · rw [if_neg (by omega)] at h; exact h
    · refine gbr_lt 57 _ rfl rfl (by decide) (by omega) (fun z => ?_) (fun z => ⟨c_in (by omega) (by decide), ?_⟩)
      · rw [if_neg (by omega)] at h; exact h
      · rw [if_pos ⟨q, y, z⟩] at h
        rw [show (48 : Int32) = nI 48 from rfl, pk_sub y]; exact h
  · rw [if_neg (by omega)] at h; exact h
theorem N_isAt {k ch : Nat} {p : Int32} {Q : Int32 → gM → Prop} (hp : p = nI ch) (hch : ch < 65536) (h24 : M 42 24 = nI k) (hk : k < 2147483648) (hT : RT len c M) (h : Q (b2 (decide (k < len ∧ c k = ch))) M) : w_X9_isAt p M Q := by
  subst hp
  obtain ⟨t1, t2, t3⟩ := hT
  unfold w_X9_isAt
  rw [h24]
  refine gbr_lt k len rfl t1 hk (by omega) (fun q => ⟨c_in (by omega) (by decide), ?_⟩) (fun q => ?_)
  · obtain ⟨d1, d2⟩ := t3 k q
    rw [c_cl hk]
    refine gbr_eq (c k) ch d1 rfl (by omega) (by omega) (fun y => ?_) (fun y => ?_)
    · rw [decide_eq_true ⟨q, y⟩] at h; exact h
    · rw [decide_eq_false (fun z => y z.2)] at h; exact h
  · rw [decide_eq_false (fun z => absurd z.1 (by omega))] at h; exact h
theorem N_rv {st k : Nat} {Q : Int32 → gM → Prop} (hS : TS n len c E R k M) (hst : st < 2147483648)
    (h0 : ∀ e x M1, rv n c len st k = .inl e → M1 42 25 = nI e → FT M M1 → Q x M1)
    (h1 : ∀ v a M1, rv n c len st k = .inr (v, a) → M1 42 25 = M 42 25 → TS n len c E R a M1 → FT M M1 → Q (nI (2 ^ v)) M1) : w_X9_readVertex (nI st) M Q := by
  have hS0 := hS
  obtain ⟨hG, hT, h24, hk, h26, h58, -⟩ := hS
  have hn := hG.1
  have hl := hT.2.1
  unfold w_X9_readVertex
  rw [h24]
  refine nm_e (N_digit rfl (by omega) hT ?_)
  unfold rv at h0 h1
  have bit : ∀ (v : Nat), v < 31 → ∀ A B : Prop, (st.testBit v = true → A) → (st.testBit v = false → B) → gbr (((nI st >>> (nI v &&& 31)) &&& 1 : Int32) = 1) A B := by
    intro v hv A B f g
    rw [c_bit hst hv]
    cases z : st.testBit v
    · exact gbr_f (by decide) (g z)
    · exact gbr_t rfl (f z)
  have flt : ∀ (j : Nat) (N : gM), FT M N → ∀ M4 : gM, M4 = gst N 42 25 (nI j) → M4 42 25 = nI j ∧ FT M M4 := fun j N f M4 e => by
    rw [e]; exact ⟨gst_s _ _ _ _, f.sf (by decide)⟩
  cases e1 : dig c len k with
  | none =>
    rw [e1] at h0
    refine gbr_t (by decide) ?_
    intro M4 e4
    rw [h24] at e4
    obtain ⟨f1, f2⟩ := flt k M FT.rfl M4 e4
    exact h0 k _ M4 rfl f1 f2
  | some v =>
    have d1 := dig_lt e1
    rw [e1] at h0 h1
    dsimp only at h0 h1
    refine gbr_f (nI_lt0 (by omega)) ?_
    refine gbr_lt v n rfl hG.2.2.1 (by omega) (by omega) (fun q => ?_) (fun q => ?_)
    · rw [if_neg (by omega)] at h0 h1
      rw [h24, c_add1]
      intro M5 e5
      have f5 : FT M M5 := by rw [e5]; exact FT.rfl.sf (by decide)
      have p5 : M5 42 24 = nI (k + 1) := by rw [e5, gst_s]
      have q5 : M5 42 25 = M 42 25 := by rw [e5, gst_k (by decide)]
      have S5 : TS n len c E R (k + 1) M5 := TS_s hS0 f5 p5 (by omega) (by rw [e5, gst_k (by decide)]) (by rw [e5, gst_n (by decide)])
      -- one digit
      have one : (if v = 0 then none else dig c len (k + 1)) = none → gbr (((nI st >>> (nI v &&& 31)) &&& 1 : Int32) = 1) (∀ M8 : gM, M8 = gst M5 42 25 (nI k) → Q (1 <<< (nI v &&& 31)) M8) (Q (1 <<< (nI v &&& 31)) M5) := fun y => by
        rw [y] at h0 h1
        dsimp only at h0 h1
        refine bit v (by omega) _ _ (fun z => ?_) (fun z => ?_)
        · intro M8 e8
          obtain ⟨g1, g2⟩ := flt k M5 f5 M8 e8
          rw [if_pos z] at h0
          exact h0 k _ M8 rfl g1 g2
        · rw [if_neg (by rw [z]; simp)] at h1
          rw [c_shl v (by omega)]
          exact h1 v (k + 1) M5 rfl q5 S5 f5
      refine gbr_eq v 0 rfl rfl (by omega) (by decide) (fun y => one (if_pos y)) (fun y => ?_)
      refine N_digit p5 (by omega) S5.2.1 ?_
      cases e2 : dig c len (k + 1) with
      | none => exact gbr_t (by decide) (one (by rw [if_neg y, e2]))
      | some d =>
        have d2 := dig_lt e2
        rw [if_neg y, e2] at h0 h1
        dsimp only at h0 h1
        refine gbr_f (nI_lt0 (by omega)) ?_
        rw [show (10 : Int32) = nI 10 from rfl]
        show ∀ x9 : Int32, x9 = nI 10 * nI v + nI d → _
        rw [pk_mul, nI_add]
        refine nm_e ?_
        refine gbr_lt (10 * v + d) n rfl S5.1.2.2.1 (by omega) (by omega) (fun z => ?_) (fun z => ?_)
        · rw [if_neg (by omega)] at h0 h1
          rw [p5, c_add1]
          intro M10 e10
          have f10 : FT M M10 := by rw [e10]; exact f5.sf (by decide)
          refine bit (10 * v + d) (by omega) _ _ (fun x => ?_) (fun x => ?_)
          · intro M11 e11
            obtain ⟨g1, g2⟩ := flt k M10 f10 M11 e11
            rw [if_pos x] at h0
            exact h0 k _ M11 rfl g1 g2
          · rw [if_neg (by rw [x]; simp)] at h1
            rw [c_shl _ (by omega)]
            refine h1 _ _ M10 rfl (by rw [e10, gst_k (by decide)]; exact q5) (TS_s hS0 f10 (by rw [e10, gst_s]) (by omega) ?_ ?_) f10
            · rw [e10, gst_k (by decide), e5, gst_k (by decide)]
            · rw [e10, gst_n (by decide), e5, gst_n (by decide)]
        · rw [if_pos z] at h0
          rw [p5]
          intro M12 e12
          obtain ⟨g1, g2⟩ := flt (k + 1) M5 f5 M12 e12
          exact h0 _ _ M12 rfl g1 g2
    · rw [if_pos q] at h0
      rw [h24]
      intro M14 e14
      obtain ⟨f1, f2⟩ := flt k M FT.rfl M14 e14
      exact h0 k _ M14 rfl f1 f2
def tailE (n : Nat) (c : Nat → Nat) (len f st a : Nat) : Nat ⊕ (Nat × Nat) := if a < len ∧ c a = 44 then rdE n c len f st (a + 1) else .inr (st, a)
theorem N_edgeL {Q : gM → Prop} {K : Int32 → gM → Prop} (hn : n ≤ 14) : ∀ (f st a : Nat) (M : gM), len ≤ a + f → TS n len c E R a M → M 42 25 = -1 → st < 2 ^ n →
    (∀ e x M1, tailE n c len f st a = .inl e → M1 42 25 = nI e → e ≤ len → FT M M1 → K x M1) →
    (∀ b d M1, tailE n c len f st a = .inr (b, d) → M1 42 25 = -1 → TS n len c E R d M1 → FT M M1 → K (nI b) M1) → w_X9_readEdge_L29 Q K (f + 2) (nI st) M := by
  have h14 := p2_14 hn
  intro f
  induction f with
  | zero =>
    intro st a M hla hS h25 hst h0 h1
    rw [w_X9_readEdge_L29.eq_2]
    have hl := hS.2.1.2.1
    have ha := hS.2.2.2.1
    refine gbr_t (by rw [h25]; decide) ?_
    refine N_isAt (ch := 44) rfl (by decide) hS.2.2.1 (by omega) hS.2.1 ?_
    refine gbr_b _ rfl (fun z => ?_) (fun z => ?_)
    · have z := of_decide_eq_false z
      exact h1 st a M (by unfold tailE; rw [if_neg z]) h25 hS FT.rfl
    · have z := of_decide_eq_true z
      omega
  | succ f ih =>
    intro st a M hla hS h25 hst h0 h1
    rw [w_X9_readEdge_L29.eq_2]
    have hl := hS.2.1.2.1
    have ha := hS.2.2.2.1
    refine gbr_t (by rw [h25]; decide) ?_
    refine N_isAt (ch := 44) rfl (by decide) hS.2.2.1 (by omega) hS.2.1 ?_
    refine gbr_b _ rfl (fun z => ?_) (fun z => ?_)
    · have z := of_decide_eq_false z
      exact h1 st a M (by unfold tailE; rw [if_neg z]) h25 hS FT.rfl
    · have z := of_decide_eq_true z
      rw [hS.2.2.1, c_add1]
      intro M7 e7
      have f7 : FT M M7 := by rw [e7]; exact FT.rfl.sf (by decide)
      have S7 : TS n len c E R (a + 1) M7 := TS_s hS f7 (by rw [e7, gst_s]) (by omega) (by rw [e7, gst_k (by decide)]) (by rw [e7, gst_n (by decide)])
      have x7 : M7 42 25 = -1 := by rw [e7, gst_k (by decide)]; exact h25
      refine N_rv S7 (by omega) (fun e x M8 g1 g2 g3 => ?_) (fun v b M8 g1 g2 g3 g4 => ?_)
      · refine nm_e ?_
        have he := rv_inl (n := n) (c := c) (st := st) (k := a + 1) (by omega) g1
        rw [w_X9_readEdge_L29.eq_2]
        refine gbr_f (by rw [g2]; exact nI_lt0 (by omega)) ?_
        refine h0 e _ M8 ?_ g2 he (f7.tr g3)
        unfold tailE
        rw [if_pos z, rdE, g1]
      · rw [c_or]
        have g5 := rv_inr g1
        refine nm_e (ih (st ||| 2 ^ v) b M8 (by omega) g3 (by rw [g2]; exact x7) (Nat.or_lt_two_pow hst (p2_lt g5.1)) (fun e x M1 k1 k2 k3 k4 => ?_) (fun b2 d M1 k1 k2 k3 k4 => ?_))
        · refine h0 e x M1 ?_ k2 k3 ((f7.tr g4).tr k4)
          unfold tailE
          rw [if_pos z, rdE, g1]; exact k1
        · refine h1 b2 d M1 ?_ k2 k3 ((f7.tr g4).tr k4)
          unfold tailE
          rw [if_pos z, rdE, g1]; exact k1
theorem N_isOld {t k : Nat} {Q : Int32 → gM → Prop} (hS : TS n len c E R k M) (ht : t < 2147483648) (h : Q (b2 (decide (t ∈ E ++ R))) M) : w_X9_isOld (nI t) M Q := by
  have hl := hS.2.2.2.2.2.2.1
  rw [List.length_append] at hl
  have h26 := hS.2.2.2.2.1
  have hR := hS.2.2.2.2.2.1
  have hb : ∀ i, i < R.length → ed R i < 16384 := fun i hi => by
    have := sane_lt hS.2.2.2.2.2.2 hS.1.1.2 (i := E.length + i) (by rw [List.length_append]; omega)
    rw [ed_r (by omega), Nat.add_sub_cancel_left] at this
    exact this
  have loop : ∀ b : Bool, (b = true ↔ t ∈ E) → ∃ nf, w_X9_isOld_L16 Q (fun (x6 : Int32) (x7 : Int32) (M8 : gM) => (x6 = 0 ∨ x6 = 1) ∧ Q x6 M8) (nI t) nf (b2 b) 0 M := by
    intro b hbb
    refine lp (σ := Int32) (fun k x u => w_X9_isOld_L16 Q _ (nI t) k u x M) (fun i u => u = b2 (bd (t ∈ E ∨ ∃ j, j < i ∧ ed R j = t))) R.length 0 rfl (Nat.zero_le _) ?_ ?_ ?_
    · congr 1
      refine bool_iff ?_
      constructor
      · intro q; exact bd_t (Or.inl (hbb.mp q))
      · intro q
        rcases of_bd_t q with q | ⟨j, q, -⟩
        · exact hbb.mpr q
        · omega
    · intro k u hJ
      rw [w_X9_isOld_L16.eq_2]
      refine gbr_ltF _ _ rfl h26 (by omega) (by omega) (Nat.le_refl _) ?_
      rw [hJ]
      refine ⟨b2_01 _, ?_⟩
      rw [← bd_dec, bd_cg (q := t ∈ E ∨ ∃ j, j < R.length ∧ ed R j = t) (by rw [List.mem_append, mem_ed (E := R)])] at h
      exact h
    · intro k i u hi hJ ih
      rw [w_X9_isOld_L16.eq_2]
      refine gbr_ltT i _ rfl h26 (by omega) (by omega) hi ?_
      refine gbr_b _ hJ (fun z => ⟨c_in (by omega) (by decide), ?_⟩) (fun z => ?_)
      · have z := of_bd_f z
        rw [c_cl (by omega), hR i hi]
        have := hb i hi
        refine gbr_eq _ t rfl rfl (by omega) ht (fun y => ?_) (fun y => ?_)
        · refine nm_r (c_add1 i) (ih _ ?_)
          rw [bd_t (Or.inr ⟨i, Nat.lt_succ_self i, y⟩)]; rfl
        · refine nm_r (c_add1 i) (ih _ ?_)
          rw [bd_f]
          · rfl
          · rintro (x | ⟨j, x1, x2⟩)
            · exact z (Or.inl x)
            · rcases Nat.lt_succ_iff_lt_or_eq.mp x1 with w | w
              · exact z (Or.inr ⟨j, w, x2⟩)
              · rw [w] at x2; exact y x2
      · refine nm_r (c_add1 i) (ih _ ?_)
        rw [bd_t]
        · rfl
        · rcases of_bd_t z with x | ⟨j, x1, x2⟩
          · exact Or.inl x
          · exact Or.inr ⟨j, by omega, x2⟩
  unfold w_X9_isOld
  refine N_placeOf hS.1.2.2.2 ht (fun q => ?_) (fun i q1 q2 _ => ?_)
  · refine gbr_t (by decide) (loop false ⟨fun x => (by cases x), fun x => ?_⟩)
    obtain ⟨i, x1, x2⟩ := mem_ed.mp x
    exact absurd x2 (q i x1)
  · exact gbr_f (nI_lt0 (by have := hS.1.2.2.2.1; omega)) (loop true ⟨fun _ => mem_ed.mpr ⟨i, q1, q2⟩, fun _ => rfl⟩)
theorem N_readEdge {k : Nat} {Q : gM → Prop} (hS : TS n len c E R k M) (h25 : M 42 25 = -1)
    (h0 : ∀ e M1, rE n c len (E ++ R) k = .inl e → M1 42 25 = nI e → e ≤ len → FT M M1 → Q M1)
    (h1 : ∀ b a M1, rE n c len (E ++ R) k = .inr (b, a) → M1 42 25 = -1 → TS n len c E (R ++ [b]) a M1 → FT M M1 → Q M1) : w_X9_readEdge M Q := by
  have hn := hS.1.1
  have h14 := p2_14 hn.2
  have hl := hS.2.2.2.2.2.2.1
  have hlen := hS.2.1.2.1
  have hk := hS.2.2.2.1
  have hAL : (E ++ R).length = E.length + R.length := List.length_append
  unfold w_X9_readEdge
  refine N_many hS.1.2.2.2 ?_
  rw [hS.2.2.2.2.1, nI_add, hS.2.2.1]
  refine gbr_eq _ 24 rfl rfl (by omega) (by decide) (fun z => ?_) (fun z => ?_)
  · intro M22 e22
    refine h0 k M22 (by unfold rE; rw [if_pos (by omega)]) (by rw [e22, gst_s]) hk (by rw [e22]; exact FT.rfl.sf (by decide))
  unfold rE at h0 h1
  rw [if_neg (by omega)] at h0 h1
  have er : rdE n c len 101 0 k = match rv n c len 0 k with
    | .inl e => .inl e
    | .inr (v, a) => tailE n c len 100 (0 ||| 2 ^ v) a := rfl
  -- what follows the loop
  have fail : ∀ (e : Nat) (x : Int32) (M1 : gM), rdE n c len 101 0 k = .inl e → M1 42 25 = nI e → e ≤ len → FT M M1 → Q M1 := fun e x M1 g1 g2 g3 g4 => by
    rw [g1] at h0
    exact h0 e M1 rfl g2 g3 g4
  refine N_rv hS (st := 0) (by decide) (fun e x M3 g1 g2 g3 => ⟨1, ?_⟩) (fun v a M3 g1 g2 g3 g4 => ⟨102, ?_⟩)
  · have he := rv_inl (n := n) (c := c) (st := 0) (k := k) hk g1
    have ng : ¬ M3 42 25 < 0 := by rw [g2]; exact nI_lt0 (by omega)
    rw [w_X9_readEdge_L29.eq_2]
    refine gbr_f ng (gbr_f ng (gbr_f ng ?_))
    exact fail e x M3 (by rw [er, g1]) g2 he g3
  · have g5 := rv_inr g1
    refine N_edgeL hn.2 100 (2 ^ v) a M3 (by omega) g3 (by rw [g2]; exact h25) (p2_lt g5.1) (fun e x M1 k1 k2 k3 k4 => ?_) (fun b d M1 k1 k2 k3 k4 => ?_)
    · have ng : ¬ M1 42 25 < 0 := by rw [k2]; exact nI_lt0 (by omega)
      refine gbr_f ng (gbr_f ng ?_)
      refine fail e x M1 ?_ k2 k3 (g4.tr k4)
      rw [er, g1]
      dsimp only
      rw [Nat.zero_or]; exact k1
    · have e2 : rdE n c len 101 0 k = .inr (b, d) := by
        rw [er, g1]
        dsimp only
        rw [Nat.zero_or]; exact k1
      have e3 := rdE_inr (Nat.two_pow_pos n) e2
      rw [e2] at h0 h1
      dsimp only at h0 h1
      have ps : M1 42 25 < 0 := by rw [k2]; decide
      refine gbr_t ps ?_
      refine N_isOld k3 (by omega) ?_
      have hf := g4.tr k4
      refine gbr_b _ rfl (fun y => gbr_t ps ?_) (fun y => ?_)
      · have y := of_decide_eq_false y
        rw [if_neg y] at h1
        rw [k3.2.2.2.2.1]
        refine ⟨c_in (by omega) (by decide), ?_⟩
        rw [c_cl (by omega)]
        intro M17 e17
        rw [show M17 42 26 = nI R.length by rw [e17, gst_n (by decide)]; exact k3.2.2.2.2.1, c_add1]
        intro M18 e18
        have f18 : FT M1 M18 := by rw [e18, e17]; exact FT.rfl.s58.sf (by decide)
        obtain ⟨t1, t2, t3, t4, t5, t6, t7⟩ := k3
        refine h1 b d M18 rfl ?_ ⟨RG_s t1 (f18.1 43 (by decide)) (f18.2 0 (by decide)), RT_s t2 (f18.2 22 (by decide)) (f18.1 57 (by decide)), ?_, t4, ?_, ?_, ?_⟩ (hf.tr f18)
        · rw [e18, gst_k (by decide), e17, gst_n (by decide)]; exact k2
        · rw [e18, gst_k (by decide), e17, gst_n (by decide)]; exact t3
        · rw [e18, gst_s, List.length_append, List.length_singleton]
        · rw [e18, gst_n (by decide), e17, gst_f, if_pos rfl]
          exact rowIs_app (rowIs_upd t6 (Nat.le_refl _)) (by rw [upd_f, if_pos rfl])
        · rw [← List.append_assoc]
          exact sane_app t7 (by omega) ⟨e3.1, e3.2.1⟩
      · have y := of_decide_eq_true y
        rw [if_pos y] at h0
        rw [k3.2.2.1]
        intro M19 e19
        have ng : ¬ M19 42 25 < 0 := by rw [e19, gst_s]; exact nI_lt0 (by have := k3.2.2.2.1; omega)
        refine gbr_f ng (h0 d M19 rfl (by rw [e19, gst_s]) k3.2.2.2.1 (hf.tr (by rw [e19]; exact FT.rfl.sf (by decide))))
def tailT (n : Nat) (c : Nat → Nat) (len f : Nat) (L : List Nat) (a : Nat) : Nat ⊕ List Nat := if a < len ∧ c a = 59 then rdT n c len f L (a + 1) else if a < len then .inl a else .inr L
theorem N_edgesL {Q : Int32 → gM → Prop} {K : gM → Prop} : ∀ (f a : Nat) (R : List Nat) (M : gM), len ≤ a + f → TS n len c E R a M → M 42 25 = -1 →
    (∀ e M1, tailT n c len f (E ++ R) a = .inl e → M1 42 25 = nI e → e ≤ len → FT M M1 → K M1) →
    (∀ R1 d M1, tailT n c len f (E ++ R) a = .inr (E ++ R1) → M1 42 25 = -1 → TS n len c E R1 d M1 → FT M M1 → K M1) → w_X9_readEdges_L19 Q K (f + 2) M := by
  intro f
  induction f with
  | zero =>
    intro a R M hla hS h25 h0 h1
    rw [w_X9_readEdges_L19.eq_2]
    have hl := hS.2.1.2.1
    have ha := hS.2.2.2.1
    refine gbr_t (by rw [h25]; decide) ?_
    refine gbr_ltF a len hS.2.2.1 hS.2.1.1 (by omega) (by omega) (by omega) ?_
    refine h1 R a M ?_ h25 hS FT.rfl
    unfold tailT
    rw [if_neg (fun x => absurd x.1 (by omega)), if_neg (by omega)]
  | succ f ih =>
    intro a R M hla hS h25 h0 h1
    rw [w_X9_readEdges_L19.eq_2]
    have hl := hS.2.1.2.1
    have ha := hS.2.2.2.1
    refine gbr_t (by rw [h25]; decide) ?_
    refine gbr_lt a len hS.2.2.1 hS.2.1.1 (by omega) (by omega) (fun q => ?_) (fun q => ?_)
    · refine N_isAt (ch := 59) rfl (by decide) hS.2.2.1 (by omega) hS.2.1 ?_
      refine gbr_b _ rfl (fun z => ?_) (fun z => ?_)
      · have z := of_decide_eq_false z
        rw [hS.2.2.1]
        intro M8 e8
        rw [w_X9_readEdges_L19.eq_2]
        refine gbr_f (by rw [e8, gst_s]; exact nI_lt0 (by omega)) ?_
        refine h0 a M8 ?_ (by rw [e8, gst_s]) ha (by rw [e8]; exact FT.rfl.sf (by decide))
        unfold tailT
        rw [if_neg z, if_pos q]
      · have z := of_decide_eq_true z
        rw [hS.2.2.1, c_add1]
        intro M9 e9
        have f9 : FT M M9 := by rw [e9]; exact FT.rfl.sf (by decide)
        have S9 : TS n len c E R (a + 1) M9 := TS_s hS f9 (by rw [e9, gst_s]) (by omega) (by rw [e9, gst_k (by decide)]) (by rw [e9, gst_n (by decide)])
        have x9 : M9 42 25 = -1 := by rw [e9, gst_k (by decide)]; exact h25
        have et : ∀ r, rdT n c len (f + 1) (E ++ R) (a + 1) = r → tailT n c len (f + 1) (E ++ R) a = r := fun r hr => by
          unfold tailT
          rw [if_pos z]; exact hr
        refine N_readEdge S9 x9 (fun e M1 g1 g2 g3 g4 => ?_) (fun b d M1 g1 g2 g3 g4 => ?_)
        · rw [w_X9_readEdges_L19.eq_2]
          refine gbr_f (by rw [g2]; exact nI_lt0 (by omega)) ?_
          exact h0 e M1 (et _ (by rw [rdT, g1])) g2 g3 (f9.tr g4)
        · have g5 := rE_inr g1
          have e6 : rdT n c len (f + 1) (E ++ R) (a + 1) = tailT n c len f (E ++ (R ++ [b])) d := by
            rw [rdT, g1, ← List.append_assoc]; rfl
          refine ih d (R ++ [b]) M1 (by omega) g3 g2 (fun e M2 k1 k2 k3 k4 => h0 e M2 (et _ (e6.trans k1)) k2 k3 ((f9.tr g4).tr k4)) (fun R1 d1 M2 k1 k2 k3 k4 => h1 R1 d1 M2 (et _ (e6.trans k1)) k2 k3 ((f9.tr g4).tr k4))
    · refine h1 R a M ?_ h25 hS FT.rfl
      unfold tailT
      rw [if_neg (fun x => absurd x.1 (by omega)), if_neg (by omega)]
end
theorem N_readEdges {s : sT} {M : gM} {Q : Int32 → gM → Prop} (hI : MI s M) (h : ∀ M1, MI (o_readEdges s).2 M1 → Q (o_readEdges s).1 M1) : w_X9_readEdges M Q := by
  have hG := hI.1
  have hn := hG.1
  have hl := hG.2.1.1
  have h14 := p2_14 hn.2
  unfold o_readEdges at h
  unfold w_X9_readEdges
  intro M1 e1 M2 e2 M3 e3
  have f3 : FT M M3 := by rw [e3, e2, e1]; exact ((FT.rfl.sf (by decide)).sf (by decide)).sf (by decide)
  have hI3 := MI_s hI (FT_MF f3)
  have S3 : TS s.1 s.2.2.2.2.2.1 s.2.2.2.2.2.2 s.2.1 [] 0 M3 := ⟨hI3.1, hI3.2.2.2.1, by rw [e3, gst_k (by decide), e2, gst_k (by decide), e1, gst_s]; rfl, Nat.zero_le _, by rw [e3, gst_s]; rfl, fun i hi => absurd hi (Nat.not_lt_zero _), by rw [List.append_nil]; exact hG.2.1⟩
  have x3 : M3 42 25 = -1 := by rw [e3, gst_k (by decide), e2, gst_s]
  have hlen := S3.2.1.2.1
  have bad : ∀ e M1, rdT s.1 s.2.2.2.2.2.2 s.2.2.2.2.2.1 101 s.2.1 0 = .inl e → M1 42 25 = nI e → FT M M1 → Q (-100 - M1 42 25) M1 := fun e M1 g1 g2 g3 => by
    rw [g1] at h
    rw [g2]; exact h M1 (MI_s hI (FT_MF g3))
  refine N_readEdge S3 x3 (fun e M4 g1 g2 g3 g4 => ⟨1, ?_⟩) (fun b a M4 g1 g2 g3 g4 => ⟨102, ?_⟩)
  · rw [List.append_nil] at g1
    have ng : ¬ M4 42 25 < 0 := by rw [g2]; exact nI_lt0 (by omega)
    rw [w_X9_readEdges_L19.eq_2]
    refine gbr_f ng (gbr_f ng ?_)
    exact bad e M4 (by rw [rdT, g1]) g2 (f3.tr g4)
  · have e6 : rdT s.1 s.2.2.2.2.2.2 s.2.2.2.2.2.1 101 s.2.1 0 = tailT s.1 s.2.2.2.2.2.2 s.2.2.2.2.2.1 100 (s.2.1 ++ ([] ++ [b])) a := by
      rw [List.append_nil] at g1
      rw [rdT, g1, List.nil_append]; rfl
    refine N_edgesL 100 a ([] ++ [b]) M4 (by omega) g3 g2 (fun e M5 k1 k2 k3 k4 => ?_) (fun R d M5 k1 k2 k3 k4 => ?_)
    · have ng : ¬ M5 42 25 < 0 := by rw [k2]; exact nI_lt0 (by omega)
      refine gbr_f ng ?_
      exact bad e M5 (e6.trans k1) k2 ((f3.tr g4).tr k4)
    · have e7 := e6.trans k1
      rw [e7] at h
      dsimp only at h
      refine gbr_t (by rw [k2]; decide) ?_
      have hI5 := MI_s hI (FT_MF ((f3.tr g4).tr k4))
      obtain ⟨t1, t2, t3, t4, t5, t6, t7⟩ := k3
      have hAL : (s.2.1 ++ R).length = s.2.1.length + R.length := List.length_append
      have hl2 := t7.1
      have hR1 : R.length ≤ 24 := by omega
      rw [show (s.2.1 ++ R).length - s.2.1.length = R.length by omega] at h
      refine N_keep hI5.1.2.2.2 hI5.2.1 (fun M14 j1 j2 j3 => ?_)
      have m26 : M14 42 26 = nI R.length := by rw [j3 26 (by decide) (by decide)]; exact t5
      have m58 : rowIs (M14 58) R := by rw [j2 58 (by decide)]; exact t6
      have hRR : RR s.2.1 M14 := RR_s hI5.1.2.2.2 (j2 43 (by decide))
      refine lp (σ := gM) (fun k x t => w_X9_readEdges_L95 Q _ k x t) (fun i t => same [43] M14 t ∧ RR (s.2.1 ++ R.take i) t) R.length 0 rfl (Nat.zero_le _) ⟨same.rfl, by rw [List.take_zero, List.append_nil]; exact hRR⟩ ?_ ?_
      · rintro k t ⟨u1, u2⟩
        rw [w_X9_readEdges_L95.eq_2]
        have e42 : t 42 = M14 42 := u1 42 (by decide)
        refine gbr_ltF _ _ rfl (by rw [e42]; exact m26) (by omega) (by omega) (Nat.le_refl _) ?_
        rw [List.take_length] at u2
        rw [e42, m26]
        refine h t (MI_edit hI5 u2 t7 (RH_s j1 (by rw [e42]) (by rw [e42]) (u1 45 (by decide)) (u1 46 (by decide))) (by rw [e42]; exact j3 0 (by decide) (by decide)) (by rw [e42]; exact j3 22 (by decide) (by decide)) ((u1 44 (by decide)).trans (j2 44 (by decide))) ((u1 57 (by decide)).trans (j2 57 (by decide))))
      · rintro k i t hi ⟨u1, u2⟩ ih
        rw [w_X9_readEdges_L95.eq_2]
        have e42 : t 42 = M14 42 := u1 42 (by decide)
        refine gbr_ltT i _ rfl (by rw [e42]; exact m26) (by omega) (by omega) hi ⟨c_in (by omega) (by decide), ?_⟩
        rw [c_cl (by omega), u1 58 (by decide), m58 i hi]
        have hb : ed R i < 16384 := by
          have := sane_lt t7 hn.2 (i := s.2.1.length + i) (by omega)
          rw [ed_r (by omega), Nat.add_sub_cancel_left] at this
          exact this
        refine N_append u2 (by rw [List.length_append, List.length_take]; omega) hb (fun M16 v1 v2 => ?_)
        refine nm_r (c_add1 i) (ih M16 ⟨u1.tr v2, ?_⟩)
        rw [take_ed hi, ← List.append_assoc]; exact v1
