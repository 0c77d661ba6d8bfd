/-! what is kept for the same edges -/
def old (x : Int32) (ver : Nat) : Prop := x = -1 ∨ ∃ k, k ≤ ver ∧ x = nI k
def CSr (ver n : Nat) (E : List Nat) (M : gM) : Prop := old (M 4 7) ver ∧ (M 4 7 = nI ver → SS (srch n E) M)
def hsz (n : Nat) (E : List Nat) (j : Nat) : Nat := cnt (2 ^ n) (fun s => decide (missE E s = 0) && decide (pc s = j))
def htot (n : Nat) (E : List Nat) : Nat := cnt (2 ^ n) (fun s => decide (missE E s = 0))
def CHc (ver n : Nat) (E : List Nat) (M : gM) : Prop := old (M 6 4) ver ∧ (M 6 4 = nI ver → M 6 3 = nI (htot n E) ∧ ∀ j, j < 15 → M 35 j = nI (hsz n E j))
section
variable {n ver : Nat} {E A : List Nat} {M : gM}
theorem hit1_0 : hit1 E 0 = 0 := tb_0.mpr fun e => by
  apply Bool.eq_false_iff.mpr
  intro h
  obtain ⟨-, v, h2⟩ := (hit1_tb E 0 e).mp h
  rw [Nat.and_zero] at h2
  have := Nat.two_pow_pos v
  omega
theorem orf_0 : orf n (atS E 0) = 0 := tb_0.mpr fun e => by
  apply Bool.eq_false_iff.mpr
  intro h
  obtain ⟨v, -, h2⟩ := (orf_tb _ _ _).mp h
  have := ((atS_tb E 0 v e).mp h2).2.1
  rw [Nat.zero_testBit] at this
  cases this
theorem S_succeeds {Q : Int32 → gM → Prop} (hG : XG n E M) (hX : XA E M) (hv : M 1 5 = nI ver) (hver : ver < 1000000) (hC : CSr ver n E M) (h : ∀ M1, SS (srch n E) M1 → M1 4 7 = nI ver → same [4, 30, 31] M M1 → Q (b2 (!(srch n E).2.2.2.2)) M1) : w_X6_succeeds M Q := by
  have fin : ∀ M1, SS (srch n E) M1 → M1 4 7 = nI ver → same [4, 30, 31] M M1 → gbr (M1 4 6 = 0) (Q 1 M1) (Q 0 M1) := by
    intro M1 h1 h2 h3
    have h4 := h M1 h1 h2 h3
    refine gbr_b _ h1.2.2.2.2.2.2.1 (fun z => ?_) (fun z => ?_) <;> (rw [z] at h4; exact h4)
  unfold w_X6_succeeds
  rw [hv]
  refine gbr_c (fun z => ?_) (fun z => ?_)
  · exact fin M (hC.2 z) z same.rfl
  · intro M1 e1 M2 e2 M3 e3 M4 e4 M5 e5
    have s5 : same [4, 30, 31] M M5 := by
      rw [e5, e4, e3, e2, e1]
      exact ((((same.rfl.st (by decide)).st (by decide)).st (by decide)).st (by decide)).st (by decide)
    have v7 : M5 4 7 = nI ver := by rw [e5, gst_k (by decide), e4, gst_k (by decide), e3, gst_k (by decide), e2, gst_k (by decide), e1, gst_s]
    have v6 : M5 4 6 = 0 := by rw [e5, gst_s]
    have v5 : M5 4 5 = 0 := by rw [e5, gst_k (by decide), e4, gst_s]
    have v3 : M5 4 3 = 0 := by rw [e5, gst_k (by decide), e4, gst_k (by decide), e3, gst_s]
    have v2 : M5 4 2 = 0 := by rw [e5, gst_k (by decide), e4, gst_k (by decide), e3, gst_k (by decide), e2, gst_s]
    clear e1 e2 e3 e4 e5
    obtain ⟨hn, hS, hvv, hc, hr⟩ := hG
    have hG5 : XG n E M5 := ⟨hn, hS, by rw [s5 1 (by decide)]; exact hvv, by rw [s5 1 (by decide)]; exact hc, by rw [s5 9 (by decide)]; exact hr⟩
    have hX5 : XA E M5 := fun v hv => by rw [s5 10 (by decide)]; exact hX v hv
    have hSS : SS ([], [], 0, 0, false) M5 := ⟨v2, fun i hi => by simp at hi, fun i hi => by simp at hi, rfl, v3, v5, v6, by decide, by decide, by decide⟩
    refine ⟨15, by decide, ?_⟩
    rw [hG5.2.2.1, c_all (by omega)]
    have key := S_explore n E 15 0 (2 ^ n - 1) 0 ([], [], 0, 0, false) M5 (fun (M6 : gM) => gbr (((M6 4 6) : Int32) = 0) (Q 1 M6) (Q 0 M6)) hG5 hX5 hSS (Nat.two_pow_pos n) rfl rfl (fun M6 k1 k2 k3 => fin M6 k1 (k3.trans v7) (s5.tr k2))
    rw [hit1_0, orf_0] at key
    exact key
theorem S_bring {Q : gM → Prop} (hG : XG n E M) (hX : XA E M) (hv : M 1 5 = nI ver) (hC : CHc ver n E M) (h : ∀ M1, M1 6 4 = nI ver → M1 6 3 = nI (htot n E) → (∀ j, j < 15 → M1 35 j = nI (hsz n E j)) → same [6, 34, 35] M M1 → Q M1) : w_X4_bringUpToDate M Q := by
  have hn := hG.1
  have h14 := p2_14 hn.2
  unfold w_X4_bringUpToDate
  rw [hv]
  refine gbr_c (fun z => h M z (hC.2 z).1 (hC.2 z).2 same.rfl) (fun z => ?_)
  intro M1 e1 M2 e2
  have s2 : same [6, 34, 35] M M2 := by rw [e2, e1]; exact (same.rfl.st (by decide)).st (by decide)
  have v4 : M2 6 4 = nI ver := by rw [e2, gst_k (by decide), e1, gst_s]
  have v3 : M2 6 3 = 0 := by rw [e2, gst_s]
  clear e1 e2
  refine lp (σ := gM) (fun k x t => w_X4_bringUpToDate_L33 Q _ k x t) (fun i t => (∀ j, j < i → t 35 j = 0) ∧ same [6, 34, 35] M t ∧ t 6 = M2 6) 15 0 rfl (Nat.zero_le _) ⟨fun j hj => absurd hj (Nat.not_lt_zero _), s2, rfl⟩ ?_ ?_
  · rintro k t ⟨h1, h2, h3⟩
    rw [w_X4_bringUpToDate_L33.eq_2]
    refine gbr_ltT 14 15 rfl rfl (by decide) (by decide) (by decide) ?_
    have hGt : XG n E t := by
      obtain ⟨hn, hS, hvv, hc, hr⟩ := hG
      exact ⟨hn, hS, by rw [h2 1 (by decide)]; exact hvv, by rw [h2 1 (by decide)]; exact hc, by rw [h2 9 (by decide)]; exact hr⟩
    have hXt : XA E t := fun v hv => by rw [h2 10 (by decide)]; exact hX v hv
    refine S_fill (what := 2) (A := []) hGt hXt (by decide) (fun q => by cases q) (fun M8 k1 k2 => ?_)
    have s8 : same [6, 34, 35] M M8 := h2.tr (k2.sub (by decide))
    have z8 : ∀ j, j < 15 → M8 35 j = nI 0 := fun j hj => by rw [k2 35 (by decide)]; exact h1 j hj
    have w4 : M8 6 4 = nI ver := by rw [k2 6 (by decide), h3]; exact v4
    have w3 : M8 6 3 = nI 0 := by rw [k2 6 (by decide), h3]; exact v3
    have hT : XT n (fam2 E) M8 := k1
    rw [s8 1 (by decide), hG.2.2.1, c_shl n (by omega)]
    refine nm_e ?_
    refine lp (σ := gM) (fun k x t => w_X4_bringUpToDate_L72 Q _ (nI (2 ^ n)) k x t) (fun i t => t 6 4 = nI ver ∧ t 6 3 = nI (cnt i (fun s => decide (missE E s = 0))) ∧ (∀ j, j < 15 → t 35 j = nI (cnt i (fun s => decide (missE E s = 0) && decide (pc s = j)))) ∧ same [6, 34, 35] M t ∧ t 34 = M8 34) (2 ^ n) 0 rfl (Nat.zero_le _) ⟨w4, w3, z8, s8, rfl⟩ ?_ ?_
    · rintro k t ⟨g1, g2, g3, g4, -⟩
      rw [w_X4_bringUpToDate_L72.eq_2]
      refine gbr_ltF _ _ rfl rfl (by omega) (by omega) (Nat.le_refl _) ?_
      exact h t g1 g2 g3 g4
    · rintro k i t hi ⟨g1, g2, g3, g4, g5⟩ ih
      rw [w_X4_bringUpToDate_L72.eq_2]
      refine gbr_ltT i (2 ^ n) rfl rfl (by omega) (by omega) hi ⟨c_in (by omega) (by omega), ?_⟩
      rw [c_cl (by omega), g5, hT i hi]
      have hpc : pc i ≤ 14 := Nat.le_trans (pc_le (n := n) (by omega) hi) hn.2
      by_cases z : missE E i = 0
      · refine gbr_f (by rw [fam2, if_pos z]; decide) ?_
        refine S_bitCount (by omega) ⟨c_in (by omega) (by decide), c_in (by omega) (by decide), ?_⟩
        intro M14 e14 M15 e15
        rw [c_cl (by omega), g3 _ (by omega), c_add1] at e14
        have a3 : M14 6 3 = nI (cnt i (fun s => decide (missE E s = 0))) := by rw [e14, gst_n (by decide)]; exact g2
        rw [a3, c_add1] at e15
        refine nm_r (c_add1 i) (ih M15 ⟨?_, ?_, fun j hj => ?_, ?_, ?_⟩)
        · rw [e15, gst_k (by decide), e14, gst_n (by decide)]; exact g1
        · rw [e15, gst_s, cnt, decide_eq_true z]; rfl
        · rw [e15, gst_n (by decide), e14, gst_f, if_pos rfl, upd_f, cnt, decide_eq_true z, Bool.true_and]
          by_cases q : j = pc i
          · rw [if_pos q, q, decide_eq_true rfl]; rfl
          · rw [if_neg q, decide_eq_false (fun y => q y.symm), g3 j hj]; rfl
        · rw [e15, e14]; exact (g4.st (by decide)).st (by decide)
        · rw [e15, gst_n (by decide), e14, gst_n (by decide)]; exact g5
      · refine gbr_t (by rw [fam2, if_neg z]; rfl) ?_
        refine nm_r (c_add1 i) (ih t ⟨g1, ?_, fun j hj => ?_, g4, g5⟩)
        · rw [g2, cnt, decide_eq_false z]; rfl
        · rw [g3 j hj, cnt, decide_eq_false z]; rfl
  · rintro k i t hi ⟨h1, h2, h3⟩ ih
    rw [w_X4_bringUpToDate_L33.eq_2]
    refine gbr_ltF 14 i rfl rfl (by decide) (by omega) (by omega) ⟨c_in hi (by decide), ?_⟩
    intro M3 e3
    rw [c_cl (by omega)] at e3
    refine nm_r (c_add1 i) (ih M3 ⟨fun j hj => ?_, by rw [e3]; exact h2.st (by decide), by rw [e3, gst_n (by decide)]; exact h3⟩)
    rw [e3]
    rcases Nat.lt_succ_iff_lt_or_eq.mp hj with y | y
    · rw [gst_k (by omega)]; exact h1 j y
    · rw [y, gst_s]
end
