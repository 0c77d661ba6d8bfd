section
variable {n ver : Nat} {E : List Nat} {M : gM}
theorem old_ne {x : Int32} {ver : Nat} (h : old x ver) (hv : ver < 1000000) : x ≠ nI (ver + 1) := by
  rcases h with h | ⟨k, h1, h2⟩
  · rw [h]; exact fun q => nI_m1 (a := ver + 1) (by omega) q.symm
  · rw [h2]
    intro q
    have := nI_inj (by omega) (by omega) q
    omega
theorem old_up {x : Int32} {ver : Nat} (h : old x ver) : old x (ver + 1) := by
  rcases h with h | ⟨k, h1, h2⟩
  · exact Or.inl h
  · exact Or.inr ⟨k, by omega, h2⟩
theorem old_self (ver : Nat) : old (nI ver) ver := Or.inr ⟨ver, Nat.le_refl _, rfl⟩
def dgm (n : Nat) (E : List Nat) (what : Nat) : (Nat → Nat) × nl × (Nat → Nat) := dvs n (famT what E []) n
noncomputable def dgA (n : Nat) (E : List Nat) (what : Nat) : (Nat → Nat) × nl × (Nat → Nat) := dvs n (famT what E (srch n E).1) n
theorem S_draw {what : Nat} {Q : gM → Prop} (hG : XG n E M) (hX : XA E M) (hv : M 1 5 = nI ver) (hC : CD ver n E M) (hw : what < 3) (hA : what = 1 → SS (srch n E) M ∧ (srch n E).2.2.2.2 = false) (h : ∀ M1, M1 7 9 = nI ver → M1 7 8 = nI what → M1 7 7 = nI ((dgA n E what).2.1.length + 2) → (∀ v, v < n → M1 36 v = nI ((dgA n E what).2.2 v)) → same (34 :: 36 :: dS) M M1 → Q M1) : w_X0_draw (nI what) M Q := by
  have hn := hG.1
  have h14 := p2_14 hn.2
  have hwb : what < 2147483648 := by omega
  -- drawn anew
  have key : ∀ M3, same [7] M M3 → M3 7 7 = nI 2 → M3 7 8 = nI what → M3 7 9 = nI ver → (∃ nf, w_X0_draw_L46 Q (fun (x19 : Int32) (M20 : gM) => w_X2_fill (nI what) M20 (fun (M21 : gM) => ∀ x23 : Int32, x23 = ((M21 1 0) - 1) → (∃ nf, w_X0_draw_L84 Q (fun (x24 : Int32) (M25 : gM) => Q M25) (nI what) nf x23 M21))) (nI what) nf 0 M3) := by
    intro M3 s3 v7 v8 v9
    refine lp (σ := gM) (fun k x t => w_X0_draw_L46 Q _ (nI what) k x t) (fun i t => (∀ b, b < i → t 40 b = nI 0) ∧ same [7, 40] M t ∧ t 7 = M3 7) 1024 0 rfl (Nat.zero_le _) ⟨fun b hb => absurd hb (Nat.not_lt_zero _), s3.sub (by decide), rfl⟩ ?_ ?_
    · rintro k t ⟨h1, h2, h3⟩
      rw [w_X0_draw_L46.eq_2]
      refine gbr_ltF 1024 1024 rfl rfl (by decide) (by decide) (Nat.le_refl _) ?_
      have hGt : XG n E t := by
        obtain ⟨hn, hS, hvv, hc, hr⟩ := hG
        exact ⟨hn, hS, by rw [h2 1 (by decide)]; exact hvv, by rw [h2 1 (by decide)]; exact hc, by rw [h2 9 (by decide)]; exact hr⟩
      have hXt : XA E t := fun v hv => by rw [h2 10 (by decide)]; exact hX v hv
      have hAt : what = 1 → SR (srch n E).1 t ∧ setsB n (srch n E).1 := by
        intro q
        obtain ⟨a1, a2⟩ := hA q
        obtain ⟨b1, -⟩ := srch_spec hGt.2.1 hn.2 a2
        refine ⟨⟨?_, ?_, ?_⟩, fun i hi => ((b1 _).mp (mem_ed.mpr ⟨i, hi, rfl⟩)).1⟩
        · have := a1.2.2.2.2.2.2.2.1
          have := a1.2.2.2.2.2.2.2.2.1
          omega
        · rw [h2 4 (by decide)]; exact a1.1
        · rw [h2 30 (by decide)]; exact a1.2.1
      refine S_fill (A := (srch n E).1) hGt hXt hwb hAt (fun M21 k1 k2 => ?_)
      have s21 : same [7, 34, 40] M M21 := (h2.sub (by decide)).tr (k2.sub (by decide))
      rw [s21 1 (by decide), hG.2.2.1]
      have hx0 : nI n - 1 = nI n + (-1) := by
        obtain ⟨m, rfl⟩ : ∃ m, n = m + 1 := ⟨n - 1, by omega⟩
        rw [nI_pred, pk_m1]
      intro x23 e23
      rw [hx0] at e23
      have hT0 := famT_lt what E (srch n E).1
      refine lpd (σ := gM) (e := n) (fun k x t => w_X0_draw_L84 Q _ (nI what) k x t) (fun r t => (∀ s, s < 2 ^ r → t 34 s = nI ((dvs n (famT what E (srch n E).1) (n - r)).1 s)) ∧ XD (dvs n (famT what E (srch n E).1) (n - r)).2.1 t ∧ same (34 :: 36 :: dS) M t ∧ t 7 8 = nI what ∧ t 7 9 = nI ver ∧ ∀ v, r ≤ v → v < n → t 36 v = nI ((dvs n (famT what E (srch n E).1) (n - r)).2.2 v)) e23 ?_ ?_ ?_
      · rw [Nat.sub_self]
        refine ⟨fun s hs => k1 s hs, ⟨?_, fun k hk => by simp [dvs] at hk, fun b hb => ?_⟩, s21.sub (by decide), ?_, ?_, fun v h1 h2 => by omega⟩
        · rw [k2 7 (by decide), h3]; exact v7
        · rw [k2 40 (by decide)]; exact h1 b hb
        · rw [k2 7 (by decide), h3]; exact v8
        · rw [k2 7 (by decide), h3]; exact v9
      · rintro k t ⟨g1, g2, g3, g4, g5, g6⟩
        rw [w_X0_draw_L84.eq_2]
        refine gbr_t (by decide) ?_
        rw [Nat.sub_zero] at g2 g6
        exact h t g5 g4 g2.1 (fun v hv => g6 v (Nat.zero_le _) hv) g3
      · rintro k r t hr ⟨g1, g2, g3, g4, g5, g6⟩ ih
        rw [w_X0_draw_L84.eq_2]
        refine gbr_f (nI_lt0 (by omega)) ?_
        have ej : n - r = (n - (r + 1)) + 1 := by omega
        have er : n - 1 - (n - (r + 1)) = r := by omega
        have key2 := S_drawNodes (n := n) (j := n - (r + 1)) (T0 := famT what E (srch n E).1) (M := t) (Q := fun (M11 : gM) => ∀ x13 : Int32, x13 = (nI r + (-1)) → (w_X0_draw_L84 Q (fun (x24 : Int32) (M25 : gM) => Q M25) (nI what) k x13 M11)) hn (fun s _ => hT0 s) (by omega) (fun s hs => g1 s (by rw [show n - (n - (r + 1)) = r + 1 by omega] at hs; exact hs)) g2 (fun M11 k1 k2 k3 k4 k5 k6 => ?_)
        · rw [er] at key2; exact key2
        · refine nm_e (ih M11 ?_)
          rw [ej]
          refine ⟨fun s hs => k1 s (by rw [show n - (n - (r + 1) + 1) = r by omega]; exact hs), k2, g3.tr k3, by rw [k4]; exact g4, by rw [k5]; exact g5, fun v h1 h2 => ?_⟩
          rw [k6, er]
          by_cases q : v = r
          · rw [if_pos q, q]
          · rw [if_neg q, g6 v (by omega) h2]
            show _ = nI (if v = n - 1 - (n - (r + 1)) then _ else _)
            rw [if_neg (by omega)]
    · rintro k i t hi ⟨h1, h2, h3⟩ ih
      rw [w_X0_draw_L46.eq_2]
      refine gbr_ltT i 1024 rfl rfl (by omega) (by decide) hi ⟨c_in hi (by decide), ?_⟩
      intro M4 e4
      rw [c_cl (by omega)] at e4
      refine nm_r (c_add1 i) (ih M4 ⟨fun b hb => ?_, by rw [e4]; exact h2.st (by decide), by rw [e4, gst_n (by decide)]; exact h3⟩)
      rw [e4, gst_c]
      by_cases q : b = i
      · rw [if_pos q]; rfl
      · rw [if_neg q]; exact h1 b (by omega)
  unfold w_X0_draw
  rw [hv]
  refine gbr_c (fun z => ?_) (fun z => ?_)
  · obtain ⟨c1, c2⟩ := hC
    refine gbr_c (fun y => ?_) (fun y => ?_)
    · obtain ⟨a1, a2, a3⟩ := c2 what hw z y
      exact h M z y a2 a3 same.rfl
    · intro M16 e16 M17 e17 M18 e18
      refine key M18 ?_ ?_ ?_ ?_
      · rw [e18, e17, e16]; exact ((same.rfl.st (by decide)).st (by decide)).st (by decide)
      · rw [e18, gst_s]; rfl
      · rw [e18, gst_k (by decide), e17, gst_s]
      · rw [e18, gst_k (by decide), e17, gst_k (by decide), e16, gst_s]
  · intro M16 e16 M17 e17 M18 e18
    refine key M18 ?_ ?_ ?_ ?_
    · rw [e18, e17, e16]; exact ((same.rfl.st (by decide)).st (by decide)).st (by decide)
    · rw [e18, gst_s]; rfl
    · rw [e18, gst_k (by decide), e17, gst_s]
    · rw [e18, gst_k (by decide), e17, gst_k (by decide), e16, gst_s]
end
