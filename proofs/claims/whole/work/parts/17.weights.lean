theorem sumf_cg {k : Nat} {f g : Nat → Nat} (h : ∀ i, i < k → f i = g i) : sumf k f = sumf k g := by
  induction k with
  | zero => rfl
  | succ k ih => rw [sumf, sumf, ih (fun i hi => h i (by omega)), h k (by omega)]
/-- r is the answer that k answers are lighter than -/
def lightR (w : Nat → Nat) (A : List Nat) (k r : Nat) : Prop := r ∈ A ∧ cnt A.length (fun i => decide (key w (ed A i) < key w r)) = k
section
variable {n : Nat} {A : List Nat} {M : gM} {w : Nat → Nat}
theorem S_startW {Q : gM → Prop} (h : ∀ M1, XW (fun _ => 1) M1 → same [32] M M1 → Q M1) : w_X7_startAnew M Q := by
  unfold w_X7_startAnew
  refine lp (σ := gM) (fun k x t => w_X7_startAnew_L2 Q _ k x t) (fun i t => (∀ v, v < i → t 32 v = 1) ∧ same [32] M t) 14 0 rfl (Nat.zero_le _) ⟨fun v hv => absurd hv (Nat.not_lt_zero _), same.rfl⟩ ?_ ?_
  · rintro k t ⟨h1, h2⟩
    rw [w_X7_startAnew_L2.eq_2]
    exact gbr_ltF 14 14 rfl rfl (by decide) (by decide) (Nat.le_refl _) (h t (fun v hv => ⟨h1 v hv, show 1 ≤ 99 by decide⟩) h2)
  · rintro k i t hi ⟨h1, h2⟩ ih
    rw [w_X7_startAnew_L2.eq_2]
    refine gbr_ltT i 14 rfl rfl (by omega) (by decide) hi ⟨c_in hi (by decide), ?_⟩
    intro M1 e1
    rw [c_cl (by omega)] at e1
    refine nm_r (c_add1 i) (ih M1 ⟨fun v hv => ?_, by rw [e1]; exact h2.st (by decide)⟩)
    rw [e1]
    rcases Nat.lt_succ_iff_lt_or_eq.mp hv with y | y
    · rw [gst_k (by omega)]; exact h1 v y
    · rw [y, gst_s]
theorem S_sumOf {s : Nat} {Q : Int32 → gM → Prop} (hW : XW w M) (hs : s < 2147483648) (h : Q (nI (wsum w s)) M) : w_X7_sumOf (nI s) M Q := by
  unfold w_X7_sumOf
  refine lp (σ := Int32) (fun k x t => w_X7_sumOf_L4 Q _ (nI s) k t x M) (fun i t => t = nI (sumf i (fun v => if s.testBit v then w v else 0))) 14 0 rfl (Nat.zero_le _) rfl ?_ ?_
  · intro k t hI
    rw [w_X7_sumOf_L4.eq_2]
    refine gbr_ltF 14 14 rfl rfl (by decide) (by decide) (Nat.le_refl _) ?_
    rw [hI]; exact h
  · intro k i t hi hI ih
    rw [w_X7_sumOf_L4.eq_2]
    refine gbr_ltT i 14 rfl rfl (by omega) (by decide) hi ?_
    refine S_has hs (by omega) ?_
    refine gbr_b _ rfl (fun z => ?_) (fun z => ?_)
    · refine nm_r (c_add1 i) (ih _ ?_)
      rw [hI, sumf, z]; simp
    · refine ⟨c_in hi (by decide), nm_e (nm_r (c_add1 i) (ih _ ?_))⟩
      rw [c_cl (by omega), (hW i hi).1, hI, nI_add, sumf, z]; simp
def ctk (w : Nat → Nat) (A : List Nat) (k b : Nat) : Nat := cnt k (fun i => decide (key w (ed A i) ≤ b))
def XKey (w : Nat → Nat) (A : List Nat) (M : gM) : Prop := ∀ i, i < A.length → M 33 i = nI (key w (ed A i))
theorem key_lt (hw : ∀ v, v < 14 → w v ≤ 99) {s : Nat} (hs : s < 16384) : key w s < 22724608 := by
  have := wsum_le hw s
  unfold key; omega
theorem S_keysUpTo {b : Nat} {Q : Int32 → gM → Prop} (hw : ∀ v, v < 14 → w v ≤ 99) (hR : SR A M) (hA : setsB n A) (hn : n ≤ 14) (hK : XKey w A M) (hb : b < 2147483648) (h : Q (nI (ctk w A A.length b)) M) : w_X7_keysUpTo (nI b) (M 4 2) M Q := by
  obtain ⟨hl, hf, hr⟩ := hR
  unfold w_X7_keysUpTo
  rw [hf]
  refine lp (σ := Int32) (fun k x t => w_X7_keysUpTo_L5 Q _ (nI b) (nI A.length) k t x M) (fun i t => t = nI (ctk w A i b)) A.length 0 rfl (Nat.zero_le _) rfl ?_ ?_
  · intro k t hI
    rw [w_X7_keysUpTo_L5.eq_2]
    refine gbr_ltF A.length A.length rfl rfl (by omega) (by omega) (Nat.le_refl _) ?_
    rw [hI]; exact h
  · intro k i t hi hI ih
    rw [w_X7_keysUpTo_L5.eq_2]
    have h1 := key_lt hw (ed_lt14 hA hn hi)
    refine gbr_ltT i A.length rfl rfl (by omega) (by omega) hi ⟨c_in (by omega) (by omega), ?_⟩
    rw [c_cl (by omega), hK i hi]
    refine gbr_lt _ _ rfl rfl hb (by omega) (fun z => ?_) (fun z => ?_)
    · refine nm_r (c_add1 i) (ih _ ?_)
      rw [hI, ctk, ctk, cnt, decide_eq_false (by omega)]; rfl
    · refine nm_e (nm_r (c_add1 i) (ih _ ?_))
      rw [hI, c_add1, ctk, ctk, cnt, decide_eq_true z]; rfl
theorem ctk_mono {k a b : Nat} (h : a ≤ b) : ctk w A k a ≤ ctk w A k b := cnt_mono fun i _ q => by
  have := of_decide_eq_true q
  exact decide_eq_true (by omega)
theorem ctk_lt {k b : Nat} : cnt k (fun i => decide (key w (ed A i) < b + 1)) = ctk w A k b := cnt_cg fun i _ => by
  by_cases q : key w (ed A i) ≤ b
  · rw [decide_eq_true q, decide_eq_true (by omega)]
  · rw [decide_eq_false q, decide_eq_false (by omega)]
/-- between two counts that differ there is a key -/
theorem cnt_gap {k : Nat} {p q : Nat → Bool} (h : cnt k p < cnt k q) : ∃ i, i < k ∧ q i = true ∧ p i = false := by
  induction k with
  | zero => simp [cnt] at h
  | succ k ih =>
    rw [cnt, cnt] at h
    by_cases z : q k = true ∧ p k = false
    · exact ⟨k, by omega, z⟩
    · have h2 : cnt k p < cnt k q := by
        cases h3 : q k <;> cases h4 : p k <;> simp [h3, h4] at h z <;> omega
      obtain ⟨i, h5, h6⟩ := ih h2
      exact ⟨i, by omega, h6⟩
/-- a place more -/
theorem cnt_one {k j : Nat} {p q : Nat → Bool} (hj : j < k) (h1 : q j = true) (h2 : p j = false) (h : ∀ i, i < k → i ≠ j → q i = p i) : cnt k q = cnt k p + 1 := by
  induction k with
  | zero => omega
  | succ k ih =>
    rw [cnt, cnt]
    by_cases z : j = k
    · subst z
      rw [h1, h2, cnt_cg (q := p) (fun i hi => h i (by omega) (by omega))]
      simp
    · rw [ih (by omega) (fun i hi => h i (by omega)), h k (by omega) (fun y => z y.symm)]
      omega
def nodup (A : List Nat) : Prop := ∀ i j, i < A.length → j < A.length → ed A i = ed A j → i = j
theorem light_of {k L : Nat} (hA : setsB n A) (hn : n ≤ 14) (hd : nodup A) (h1 : k < ctk w A A.length L) (h2 : ∀ x, x < L → ctk w A A.length x ≤ k) : ∃ r, r < 16384 ∧ lightR w A k r ∧ L % 16384 = r := by
  have hkey : ∀ s, s < 16384 → key w s % 16384 = s := fun s hs => by unfold key; omega
  -- counts strictly below L
  obtain ⟨lo, hlo⟩ : ∃ lo, lo = cnt A.length (fun i => decide (key w (ed A i) < L)) := ⟨_, rfl⟩
  have hlok : lo ≤ k := by
    cases L with
    | zero =>
      rw [hlo, cnt_none (fun i _ => decide_eq_false (Nat.not_lt_zero _))]
      exact Nat.zero_le _
    | succ L =>
      rw [hlo, ctk_lt]
      exact h2 L (by omega)
  obtain ⟨i, hi, q1, q2⟩ := cnt_gap (show cnt A.length (fun i => decide (key w (ed A i) < L)) < cnt A.length (fun i => decide (key w (ed A i) ≤ L)) by rw [← hlo]; exact Nat.lt_of_le_of_lt hlok h1)
  have q1 := of_decide_eq_true q1
  have q2 := of_decide_eq_false q2
  have eL : key w (ed A i) = L := by omega
  have hb := ed_lt14 hA hn hi
  have e1 : ctk w A A.length L = lo + 1 := by
    rw [hlo]
    refine cnt_one (j := i) hi (decide_eq_true (by omega)) (decide_eq_false (by omega)) (fun j hj hne => ?_)
    have hne2 : key w (ed A j) ≠ L := by
      intro q
      apply hne
      apply hd j i hj hi
      have a1 := hkey _ (ed_lt14 hA hn hj)
      have a2 := hkey _ hb
      rw [q] at a1; rw [eL] at a2
      omega
    by_cases z : key w (ed A j) < L
    · rw [decide_eq_true z, decide_eq_true (by omega)]
    · rw [decide_eq_false z, decide_eq_false (by omega)]
  have e2 : lo = k := by omega
  refine ⟨ed A i, hb, ⟨mem_ed.mpr ⟨i, hi, rfl⟩, ?_⟩, ?_⟩
  · rw [eL, ← hlo, e2]
  · rw [← eL]; exact hkey _ hb
theorem lightR_uniq {k r q : Nat} (hd : nodup A) (hA : setsB n A) (hn : n ≤ 14) (h : lightR w A k r) (h2 : lightR w A k q) : r = q := by
  have hkey : ∀ s, s < 16384 → key w s % 16384 = s := fun s hs => by unfold key; omega
  have main : ∀ r q, lightR w A k r → lightR w A k q → ¬ key w r < key w q := by
    intro r q h h2 hlt
    obtain ⟨i, hi, rfl⟩ := mem_ed.mp h.1
    have : cnt A.length (fun j => decide (key w (ed A j) < key w (ed A i))) < cnt A.length (fun j => decide (key w (ed A j) < key w q)) := by
      have e : cnt A.length (fun j => decide (key w (ed A j) ≤ key w (ed A i))) = cnt A.length (fun j => decide (key w (ed A j) < key w (ed A i))) + 1 := by
        refine cnt_one (j := i) hi (decide_eq_true (Nat.le_refl _)) (decide_eq_false (Nat.lt_irrefl _)) (fun j hj hne => ?_)
        have hne2 : key w (ed A j) ≠ key w (ed A i) := by
          intro z
          apply hne
          apply hd j i hj hi
          have a1 := hkey _ (ed_lt14 hA hn hj)
          have a2 := hkey _ (ed_lt14 hA hn hi)
          rw [z] at a1; omega
        by_cases z : key w (ed A j) < key w (ed A i)
        · rw [decide_eq_true z, decide_eq_true (by omega)]
        · rw [decide_eq_false z, decide_eq_false (by omega)]
      have := cnt_mono (k := A.length) (p := fun j => decide (key w (ed A j) ≤ key w (ed A i))) (q := fun j => decide (key w (ed A j) < key w q)) (fun j _ z => by
        have := of_decide_eq_true z
        exact decide_eq_true (by omega))
      omega
    rw [h.2, h2.2] at this
    omega
  have hk : key w r = key w q := by
    have := main r q h h2
    have := main q r h2 h
    omega
  obtain ⟨i, hi, rfl⟩ := mem_ed.mp h.1
  obtain ⟨j, hj, rfl⟩ := mem_ed.mp h2.1
  have a1 := hkey _ (ed_lt14 hA hn hj)
  have a2 := hkey _ (ed_lt14 hA hn hi)
  rw [hk] at a2; omega
theorem half_lt {a i : Nat} (h : a < 2 ^ (i + 1)) : a / 2 < 2 ^ i := by
  rw [Nat.pow_succ] at h; omega
theorem S_lightestOf {k : Nat} {Q : Int32 → gM → Prop} (hW : XW w M) (hR : SR A M) (hA : setsB n A) (hn : n ≤ 14) (hd : nodup A) (hk : k < A.length) (h : ∀ r M1, lightR w A k r → same [33] M M1 → Q (nI r) M1) : w_X7_lightestOf (nI k) M Q := by
  have hR0 := hR
  obtain ⟨hl, hf, hr⟩ := hR
  have hw : ∀ v, v < 14 → w v ≤ 99 := fun v hv => (hW v hv).2
  unfold w_X7_lightestOf
  refine lp (σ := gM) (fun f x t => w_X7_lightestOf_L2 Q _ (nI k) f x t) (fun i t => same [33] M t ∧ ∀ j, j < i → t 33 j = nI (key w (ed A j))) A.length 0 rfl (Nat.zero_le _) ⟨same.rfl, fun j hj => absurd hj (Nat.not_lt_zero _)⟩ ?_ ?_
  · rintro f t ⟨h1, h2⟩
    rw [w_X7_lightestOf_L2.eq_2]
    have hR1 : SR A t := ⟨hl, by rw [h1 4 (by decide)]; exact hf, by rw [h1 30 (by decide)]; exact hr⟩
    refine gbr_ltF A.length A.length rfl hR1.2.1 (by omega) (by omega) (Nat.le_refl _) ?_
    have hK : XKey w A t := h2
    have htop : ctk w A A.length 22724608 = A.length := cnt_all fun i hi => decide_eq_true (Nat.le_of_lt (key_lt hw (ed_lt14 hA hn hi)))
    refine lp (σ := Int32 × Int32) (s0 := (0, 22724608)) (fun f x s => w_X7_lightestOf_L52 Q _ (nI k) f s.1 s.2 x t) (fun i s => ∃ a b, s.1 = nI a ∧ s.2 = nI b ∧ a ≤ b ∧ b ≤ 22724608 ∧ b - a < 2 ^ (32 - i) ∧ k < ctk w A A.length b ∧ ∀ x, x < a → ctk w A A.length x ≤ k) 32 0 rfl (Nat.zero_le _) ⟨0, 22724608, rfl, rfl, by decide, Nat.le_refl _, by decide, by rw [htop]; exact hk, fun x hx => absurd hx (Nat.not_lt_zero _)⟩ ?_ ?_
    · rintro f ⟨sa, sb⟩ ⟨a, b, rfl, rfl, g1, g2, g3, g4, g5⟩
      rw [w_X7_lightestOf_L52.eq_2]
      refine gbr_ltF 32 32 rfl rfl (by decide) (by decide) (Nat.le_refl _) ?_
      have eab : a = b := by simp at g3; omega
      subst eab
      obtain ⟨r, r1, r2, r3⟩ := light_of hA hn hd g4 g5
      rw [show (16383 : Int32) = nI (2 ^ 14 - 1) from rfl, c_and, Nat.and_two_pow_sub_one_eq_mod, r3]
      exact h r t r2 h1
    · rintro f i ⟨sa, sb⟩ hi ⟨a, b, rfl, rfl, g1, g2, g3, g4, g5⟩ ih
      rw [w_X7_lightestOf_L52.eq_2]
      refine gbr_ltT i 32 rfl rfl (by omega) (by decide) hi ?_
      refine gbr_lt a b rfl rfl (by omega) (by omega) (fun z => ?_) (fun z => ?_)
      · have em : (nI a + (nI b - nI a) / 2) = nI (a + (b - a) / 2) := by
          rw [pk_sub g1, show (2 : Int32) = nI 2 from rfl, pk_div (by omega) (by decide) (by decide), nI_add]
        refine nm_r em ?_
        refine S_keysUpTo hw hR1 hA hn hK (by omega) ?_
        have hc := cnt_le A.length (fun i => decide (key w (ed A i) ≤ a + (b - a) / 2))
        have hpow : 2 ^ (32 - i) = 2 ^ ((31 - i) + 1) := by congr 1; omega
        rw [hpow] at g3
        have hh := half_lt g3
        have e31 : 32 - (i + 1) = 31 - i := by omega
        refine gbr_lt _ _ rfl rfl (by omega) (by unfold ctk; omega) (fun y => ?_) (fun y => ?_)
        · refine nm_r (c_add1 i) (ih (nI a, nI (a + (b - a) / 2)) ⟨a, a + (b - a) / 2, rfl, rfl, by omega, by omega, by rw [e31]; omega, y, g5⟩)
        · refine nm_r (c_add1 (a + (b - a) / 2)) (nm_r (c_add1 i) (ih (nI (a + (b - a) / 2 + 1), nI b) ⟨a + (b - a) / 2 + 1, b, rfl, rfl, by omega, g2, by rw [e31]; omega, g4, fun x hx => ?_⟩))
          exact Nat.le_trans (ctk_mono (by omega)) y
      · have eab : a = b := by omega
        subst eab
        obtain ⟨r, r1, r2, r3⟩ := light_of hA hn hd g4 g5
        rw [show (16383 : Int32) = nI (2 ^ 14 - 1) from rfl, c_and, Nat.and_two_pow_sub_one_eq_mod, r3]
        exact h r t r2 h1
  · rintro f i t hi ⟨h1, h2⟩ ih
    rw [w_X7_lightestOf_L2.eq_2]
    have hb := ed_lt14 hA hn hi
    refine gbr_ltT i A.length rfl (by rw [h1 4 (by decide)]; exact hf) (by omega) (by omega) hi ⟨c_in (by omega) (by omega), ?_⟩
    rw [c_cl (by omega), h1 30 (by decide), hr i hi]
    refine S_sumOf (w := w) (fun v hv => by rw [h1 32 (by decide)]; exact hW v hv) (by omega) ?_
    refine ⟨c_in (by omega) (by omega), c_in (by omega) (by omega), ?_⟩
    intro M3 e3
    rw [h1 30 (by decide), hr i hi, show (16384 : Int32) = nI 16384 from rfl, pk_mul, nI_add] at e3
    refine nm_r (c_add1 i) (ih M3 ⟨by rw [e3]; exact h1.st (by decide), fun j hj => ?_⟩)
    rw [e3]
    rcases Nat.lt_succ_iff_lt_or_eq.mp hj with y | y
    · rw [gst_k (by omega)]; exact h2 j y
    · rw [y, gst_s]; rfl
end
