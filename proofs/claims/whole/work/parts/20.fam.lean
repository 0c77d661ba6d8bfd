/-! families of sets as tables -/
def mkd (L : List Nat) : Nat → Nat → Nat
  | 0, _ => 0
  | i + 1, s => if ed L i = s then 1 else mkd L i s
def XT (n : Nat) (T : Nat → Nat) (M : gM) : Prop := ∀ s, s < 2 ^ n → M 34 s = nI (T s)
def fam2 (E : List Nat) (s : Nat) : Nat := if missE E s = 0 then 1 else 0
def famT (what : Nat) (E A : List Nat) : Nat → Nat := if what = 0 then mkd E E.length else if what = 1 then mkd A A.length else fam2 E
section
variable {n : Nat} {E A : List Nat} {M : gM}

theorem S_mark_9 {L : List Nat} {Q : gM → Prop} (hn : 1 ≤ n ∧ n ≤ 14) (hv : M 1 0 = nI n) (hl : L.length ≤ 24) (hr : rowIs (M 9) L) (hb : setsB n L) (h : ∀ M1, XT n (mkd L L.length) M1 → same [34] M M1 → Q M1) : w_X2_mark_9 (nI L.length) M Q := by
  have h14 := p2_14 hn.2
  unfold w_X2_mark_9
  rw [hv, c_shl n (by omega)]
  refine nm_e ?_
  refine lp (σ := gM) (fun k x t => w_X2_mark_9_L13 Q _ (nI L.length) (nI (2 ^ n)) k x t) (fun i t => (∀ s, s < i → t 34 s = nI 0) ∧ same [34] M t) (2 ^ n) 0 rfl (Nat.zero_le _) ⟨fun s hs => absurd hs (Nat.not_lt_zero _), same.rfl⟩ ?_ ?_
  · rintro k t ⟨h1, h2⟩
    rw [w_X2_mark_9_L13.eq_2]
    refine gbr_ltF _ _ rfl rfl (by omega) (by omega) (Nat.le_refl _) ?_
    refine lp (σ := gM) (fun k x t => w_X2_mark_9_L36 Q _ (nI L.length) (nI (2 ^ n)) k x t) (fun i t => XT n (mkd L i) t ∧ same [34] M t) L.length 0 rfl (Nat.zero_le _) ⟨fun s hs => h1 s hs, h2⟩ ?_ ?_
    · rintro k t ⟨g1, g2⟩
      rw [w_X2_mark_9_L36.eq_2]
      refine gbr_ltF _ _ rfl rfl (by omega) (by omega) (Nat.le_refl _) ?_
      exact h t g1 g2
    · rintro k i t hi ⟨g1, g2⟩ ih
      rw [w_X2_mark_9_L36.eq_2]
      have hx := hb i hi
      have er : t 9 i = nI (ed L i) := by rw [g2 9 (by decide)]; exact hr i hi
      refine gbr_ltT i L.length rfl rfl (by omega) (by omega) hi ⟨c_in (by omega) (by omega), ?_⟩
      rw [c_cl (by omega), er]
      refine gbr_f (nI_lt0 (by omega)) ⟨c_in (by omega) (by omega), ?_⟩
      refine gbr_ltT (ed L i) (2 ^ n) rfl rfl (by omega) (by omega) hx ⟨c_in (by omega) (by omega), c_in (by omega) (by omega), ?_⟩
      intro M8 e8
      rw [c_cl (by omega)] at e8
      refine nm_r (c_add1 i) (ih M8 ⟨fun s hs => ?_, by rw [e8]; exact g2.st (by decide)⟩)
      rw [e8, mkd]
      by_cases q : ed L i = s
      · rw [if_pos q, ← q, gst_s]; rfl
      · rw [if_neg q, gst_k (fun z => q z.symm)]; exact g1 s hs
  · rintro k i t hi ⟨h1, h2⟩ ih
    rw [w_X2_mark_9_L13.eq_2]
    refine gbr_ltT i (2 ^ n) rfl rfl (by omega) (by omega) hi ⟨c_in (by omega) (by omega), ?_⟩
    intro M2 e2
    rw [c_cl (by omega)] at e2
    refine nm_r (c_add1 i) (ih M2 ⟨fun s hs => ?_, by rw [e2]; exact h2.st (by decide)⟩)
    rw [e2]
    rcases Nat.lt_succ_iff_lt_or_eq.mp hs with y | y
    · rw [gst_k (by omega)]; exact h1 s y
    · rw [y, gst_s]; rfl

theorem S_mark_30 {L : List Nat} {Q : gM → Prop} (hn : 1 ≤ n ∧ n ≤ 14) (hv : M 1 0 = nI n) (hl : L.length ≤ 4000) (hr : rowIs (M 30) L) (hb : setsB n L) (h : ∀ M1, XT n (mkd L L.length) M1 → same [34] M M1 → Q M1) : w_X2_mark_30 (nI L.length) M Q := by
  have h14 := p2_14 hn.2
  unfold w_X2_mark_30
  rw [hv, c_shl n (by omega)]
  refine nm_e ?_
  refine lp (σ := gM) (fun k x t => w_X2_mark_30_L13 Q _ (nI L.length) (nI (2 ^ n)) k x t) (fun i t => (∀ s, s < i → t 34 s = nI 0) ∧ same [34] M t) (2 ^ n) 0 rfl (Nat.zero_le _) ⟨fun s hs => absurd hs (Nat.not_lt_zero _), same.rfl⟩ ?_ ?_
  · rintro k t ⟨h1, h2⟩
    rw [w_X2_mark_30_L13.eq_2]
    refine gbr_ltF _ _ rfl rfl (by omega) (by omega) (Nat.le_refl _) ?_
    refine lp (σ := gM) (fun k x t => w_X2_mark_30_L36 Q _ (nI L.length) (nI (2 ^ n)) k x t) (fun i t => XT n (mkd L i) t ∧ same [34] M t) L.length 0 rfl (Nat.zero_le _) ⟨fun s hs => h1 s hs, h2⟩ ?_ ?_
    · rintro k t ⟨g1, g2⟩
      rw [w_X2_mark_30_L36.eq_2]
      refine gbr_ltF _ _ rfl rfl (by omega) (by omega) (Nat.le_refl _) ?_
      exact h t g1 g2
    · rintro k i t hi ⟨g1, g2⟩ ih
      rw [w_X2_mark_30_L36.eq_2]
      have hx := hb i hi
      have er : t 30 i = nI (ed L i) := by rw [g2 30 (by decide)]; exact hr i hi
      refine gbr_ltT i L.length rfl rfl (by omega) (by omega) hi ⟨c_in (by omega) (by omega), ?_⟩
      rw [c_cl (by omega), er]
      refine gbr_f (nI_lt0 (by omega)) ⟨c_in (by omega) (by omega), ?_⟩
      refine gbr_ltT (ed L i) (2 ^ n) rfl rfl (by omega) (by omega) hx ⟨c_in (by omega) (by omega), c_in (by omega) (by omega), ?_⟩
      intro M8 e8
      rw [c_cl (by omega)] at e8
      refine nm_r (c_add1 i) (ih M8 ⟨fun s hs => ?_, by rw [e8]; exact g2.st (by decide)⟩)
      rw [e8, mkd]
      by_cases q : ed L i = s
      · rw [if_pos q, ← q, gst_s]; rfl
      · rw [if_neg q, gst_k (fun z => q z.symm)]; exact g1 s hs
  · rintro k i t hi ⟨h1, h2⟩ ih
    rw [w_X2_mark_30_L13.eq_2]
    refine gbr_ltT i (2 ^ n) rfl rfl (by omega) (by omega) hi ⟨c_in (by omega) (by omega), ?_⟩
    intro M2 e2
    rw [c_cl (by omega)] at e2
    refine nm_r (c_add1 i) (ih M2 ⟨fun s hs => ?_, by rw [e2]; exact h2.st (by decide)⟩)
    rw [e2]
    rcases Nat.lt_succ_iff_lt_or_eq.mp hs with y | y
    · rw [gst_k (by omega)]; exact h1 s y
    · rw [y, gst_s]; rfl

/-- the edges that a set hits -/
def hitE (E : List Nat) (s : Nat) : Nat := mk E.length (fun e => decide (ed E e &&& s ≠ 0))
theorem hitE_lt (h : E.length ≤ 24) (s : Nat) : hitE E s < 16777216 := Nat.lt_of_lt_of_le (mk_lt _ _) (p2_24 h)
theorem add_or {s v : Nat} (h : s < 2 ^ v) : 2 ^ v + s = s ||| 2 ^ v := by
  rw [Nat.add_comm, Nat.or_comm]
  exact (Nat.two_pow_add_eq_or_of_lt h 1 |> fun q => by simpa [Nat.add_comm] using q)
theorem hitE_add {s v : Nat} (h : s < 2 ^ v) : hitE E s ||| at_ E v = hitE E (2 ^ v + s) := by
  rw [add_or h]
  refine mk_of fun e => ?_
  rw [Nat.testBit_or, hitE, mk_tb, at_tb]
  by_cases he : e < E.length
  · rw [decide_eq_true he, Bool.true_and, Bool.true_and, Bool.true_and]
    apply bool_iff
    rw [Bool.or_eq_true, decide_eq_true_eq, decide_eq_true_eq, and_ne0, and_ne0]
    constructor
    · rintro (⟨i, p, q⟩ | p)
      · exact ⟨i, p, by rw [or_pow_tb, q]; rfl⟩
      · exact ⟨v, p, by rw [or_pow_tb]; simp⟩
    · rintro ⟨i, p, q⟩
      rw [or_pow_tb, Bool.or_eq_true, decide_eq_true_eq] at q
      rcases q with q | q
      · exact Or.inl ⟨i, p, q⟩
      · subst q; exact Or.inr p
  · rw [decide_eq_false he]; rfl
theorem hitE_all (s : Nat) : hitE E s = 2 ^ E.length - 1 ↔ missE E s = 0 := by
  rw [missE_0]
  constructor
  · intro h e he
    have := congrArg (fun x => x.testBit e) h
    simp only [hitE, mk_tb, tb_all, he, decide_true, Bool.true_and, decide_eq_true_eq] at this
    exact this
  · intro h
    refine Nat.eq_of_testBit_eq fun e => ?_
    rw [hitE, mk_tb, tb_all]
    by_cases he : e < E.length
    · rw [decide_eq_true he, decide_eq_true (h e he)]; rfl
    · rw [decide_eq_false he]; rfl
theorem hitE_0 : hitE E 0 = 0 := by
  unfold hitE
  rw [mk_0]
  intro i _
  rw [Nat.and_zero]; rfl
set_option maxHeartbeats 2000000 in
theorem S_markH {Q : gM → Prop} (hG : XG n E M) (hX : XA E M) (h : ∀ M1, XT n (fam2 E) M1 → same [34] M M1 → Q M1) : w_X2_markHittingSets M Q := by
  have hG0 := hG
  obtain ⟨hn, hS, hv, hc, hr⟩ := hG
  have hl := hS.1
  have h14 := p2_14 hn.2
  unfold w_X2_markHittingSets
  refine ⟨c_in (k := 0) (by decide) (by decide), ?_⟩
  intro M1 e1
  have e10 : M1 34 0 = nI 0 := by
    rw [e1]; exact gst_s M 34 0 0
  have s1 : same [34] M M1 := by rw [e1]; exact same.rfl.st (by decide)
  clear e1
  refine lp (σ := gM) (fun k x t => w_X2_markHittingSets_L9 Q _ k x t) (fun i t => (∀ s, s < 2 ^ i → t 34 s = nI (hitE E s)) ∧ same [34] M t) n 0 rfl (Nat.zero_le _) ⟨fun s hs => ?_, s1⟩ ?_ ?_
  · have : s = 0 := by simp at hs; exact hs
    rw [this, hitE_0]; exact e10
  · rintro k t ⟨h1, h2⟩
    rw [w_X2_markHittingSets_L9.eq_2]
    have hGt : XG n E t := ⟨hn, hS, by rw [h2 1 (by decide)]; exact hv, by rw [h2 1 (by decide)]; exact hc, by rw [h2 9 (by decide)]; exact hr⟩
    refine gbr_ltF n n rfl hGt.2.2.1 (by omega) (by omega) (Nat.le_refl _) ?_
    refine S_allEdges hGt ?_
    rw [hGt.2.2.1, c_shl n (by omega)]
    refine nm_e ?_
    have hall : 2 ^ E.length - 1 < 16777216 := by have := p2_24 hl; have := Nat.two_pow_pos E.length; omega
    refine lp (σ := gM) (fun k x t => w_X2_markHittingSets_L87 Q _ (nI (2 ^ E.length - 1)) (nI (2 ^ n)) k x t) (fun i t => (∀ s, s < i → t 34 s = nI (fam2 E s)) ∧ (∀ s, i ≤ s → s < 2 ^ n → t 34 s = nI (hitE E s)) ∧ same [34] M t) (2 ^ n) 0 rfl (Nat.zero_le _) ⟨fun s hs => absurd hs (Nat.not_lt_zero _), fun s _ hs => h1 s hs, h2⟩ ?_ ?_
    · rintro k t ⟨g1, -, g3⟩
      rw [w_X2_markHittingSets_L87.eq_2]
      refine gbr_ltF _ _ rfl rfl (by omega) (by omega) (Nat.le_refl _) ?_
      exact h t g1 g3
    · rintro k i t hi ⟨g1, g2, g3⟩ ih
      rw [w_X2_markHittingSets_L87.eq_2]
      have hh := hitE_lt hl i
      refine gbr_ltT i (2 ^ n) rfl rfl (by omega) (by omega) hi ⟨c_in (by omega) (by omega), ?_⟩
      rw [c_cl (by omega), g2 i (Nat.le_refl _) hi]
      have fin : ∀ x : Nat, x = fam2 E i → ∀ M17 : gM, M17 = gst t 34 i (nI x) → (∀ s, s < i + 1 → M17 34 s = nI (fam2 E s)) ∧ (∀ s, i + 1 ≤ s → s < 2 ^ n → M17 34 s = nI (hitE E s)) ∧ same [34] M M17 := by
        intro x hx M17 e17
        refine ⟨fun s hs => ?_, fun s hs hs2 => ?_, by rw [e17]; exact g3.st (by decide)⟩
        · rw [e17]
          rcases Nat.lt_succ_iff_lt_or_eq.mp hs with y | y
          · rw [gst_k (by omega)]; exact g1 s y
          · rw [y, gst_s, hx]
        · rw [e17, gst_k (by omega)]; exact g2 s (by omega) hs2
      refine gbr_eq _ _ rfl rfl (by omega) (by omega) (fun z => ?_) (fun z => ?_)
      · refine ⟨c_in (by omega) (by omega), fun M17 e17 => nm_r (c_add1 i) (ih M17 (fin 1 ?_ M17 e17))⟩
        rw [fam2, if_pos ((hitE_all i).mp z)]
      · refine ⟨c_in (by omega) (by omega), fun M17 e17 => nm_r (c_add1 i) (ih M17 (fin 0 ?_ M17 e17))⟩
        rw [fam2, if_neg (fun q => z ((hitE_all i).mpr q))]
  · rintro k i t hi ⟨h1, h2⟩ ih
    rw [w_X2_markHittingSets_L9.eq_2]
    have hp := p2_lt hi
    have hp2 : 2 ^ (i + 1) = 2 ^ i + 2 ^ i := by rw [Nat.pow_succ]; omega
    refine gbr_ltT i n rfl (by rw [h2 1 (by decide)]; exact hv) (by omega) (by omega) hi ?_
    rw [c_shl i (by omega)]
    refine nm_e ?_
    refine lp (σ := gM) (fun k x t => w_X2_markHittingSets_L26 Q _ (nI i) (nI (2 ^ i)) k x t) (fun j t => (∀ s, s < 2 ^ i + j → t 34 s = nI (hitE E s)) ∧ same [34] M t) (2 ^ i) 0 rfl (Nat.zero_le _) ⟨h1, h2⟩ ?_ ?_
    · rintro k t ⟨g1, g2⟩
      rw [w_X2_markHittingSets_L26.eq_2]
      refine gbr_ltF _ _ rfl rfl (by omega) (by omega) (Nat.le_refl _) ?_
      exact nm_r (c_add1 i) (ih t ⟨fun s hs => g1 s (by omega), g2⟩)
    · rintro k j t hj ⟨g1, g2⟩ ih2
      rw [w_X2_markHittingSets_L26.eq_2]
      have hle : 2 ^ i + j < 2 ^ n := by
        have := p2_le (show i + 1 ≤ n by omega)
        omega
      refine gbr_ltT j (2 ^ i) rfl rfl (by omega) (by omega) hj ⟨c_in (by omega) (by omega), c_in (by omega) (by omega), ?_⟩
      rw [nI_add]
      refine ⟨c_in (by omega) (by omega), ?_⟩
      intro M3 e3
      rw [c_cl (by omega), c_cl (by omega), c_cl (by omega), g1 j (by omega), g2 10 (by decide), hX i (by omega), c_or, hitE_add hj] at e3
      refine nm_r (c_add1 j) (ih2 M3 ⟨fun s hs => ?_, by rw [e3]; exact g2.st (by decide)⟩)
      rw [e3]
      by_cases y : s = 2 ^ i + j
      · rw [y, gst_s]
      · rw [gst_k y]; exact g1 s (by omega)
theorem S_fill {what : Nat} {Q : gM → Prop} (hG : XG n E M) (hX : XA E M) (hw : what < 2147483648) (hA : what = 1 → SR A M ∧ setsB n A) (h : ∀ M1, XT n (famT what E A) M1 → same [34] M M1 → Q M1) : w_X2_fill (nI what) M Q := by
  have hG0 := hG
  obtain ⟨hn, hS, hv, hc, hr⟩ := hG
  unfold w_X2_fill
  refine gbr_eq what 0 rfl rfl hw (by decide) (fun z => ?_) (fun z => ?_)
  · rw [hc]
    refine S_mark_9 hn hv hS.1 hr (fun i hi => (hS.2 i hi).2) (fun M1 h1 h2 => h M1 ?_ h2)
    rw [famT, if_pos z]; exact h1
  refine gbr_eq what 1 rfl rfl hw (by decide) (fun y => ?_) (fun y => ?_)
  · obtain ⟨⟨a1, a2, a3⟩, a4⟩ := hA y
    rw [a2]
    refine S_mark_30 hn hv a1 a3 a4 (fun M1 h1 h2 => h M1 ?_ h2)
    rw [famT, if_neg z, if_pos y]; exact h1
  · refine S_markH hG0 hX (fun M1 h1 h2 => h M1 ?_ h2)
    rw [famT, if_neg z, if_neg y]; exact h1
end
