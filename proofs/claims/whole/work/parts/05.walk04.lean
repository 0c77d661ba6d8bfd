theorem dX7_sumOf_0 : decode cX7_sumOf 0 = .ok (.iconst 0, 1) := by decide +kernel
theorem dX7_sumOf_1 : decode cX7_sumOf 1 = .ok (.istore_n 2, 1) := by decide +kernel
theorem dX7_sumOf_2 : decode cX7_sumOf 2 = .ok (.iconst 0, 1) := by decide +kernel
theorem dX7_sumOf_3 : decode cX7_sumOf 3 = .ok (.istore_n 3, 1) := by decide +kernel
theorem dX7_sumOf_4 : decode cX7_sumOf 4 = .ok (.iload_n 3, 1) := by decide +kernel
theorem dX7_sumOf_5 : decode cX7_sumOf 5 = .ok (.bipush 14, 2) := by decide +kernel
theorem dX7_sumOf_7 : decode cX7_sumOf 7 = .ok (.if_icmp .ge 26, 3) := by decide +kernel
theorem dX7_sumOf_10 : decode cX7_sumOf 10 = .ok (.iload_n 1, 1) := by decide +kernel
theorem dX7_sumOf_11 : decode cX7_sumOf 11 = .ok (.iload_n 3, 1) := by decide +kernel
theorem dX7_sumOf_12 : decode cX7_sumOf 12 = .ok (.invokestatic 18, 3) := by decide +kernel
theorem dX7_sumOf_15 : decode cX7_sumOf 15 = .ok (.ifCond .eq 12, 3) := by decide +kernel
theorem dX7_sumOf_18 : decode cX7_sumOf 18 = .ok (.iload_n 2, 1) := by decide +kernel
theorem dX7_sumOf_19 : decode cX7_sumOf 19 = .ok (.aload_n 0, 1) := by decide +kernel
theorem dX7_sumOf_20 : decode cX7_sumOf 20 = .ok (.getfield 9, 3) := by decide +kernel
theorem dX7_sumOf_23 : decode cX7_sumOf 23 = .ok (.iload_n 3, 1) := by decide +kernel
theorem dX7_sumOf_24 : decode cX7_sumOf 24 = .ok (.iaload, 1) := by decide +kernel
theorem dX7_sumOf_25 : decode cX7_sumOf 25 = .ok (.iadd, 1) := by decide +kernel
theorem dX7_sumOf_26 : decode cX7_sumOf 26 = .ok (.istore_n 2, 1) := by decide +kernel
theorem dX7_sumOf_27 : decode cX7_sumOf 27 = .ok (.iinc 3 1, 3) := by decide +kernel
theorem dX7_sumOf_30 : decode cX7_sumOf 30 = .ok (.goto (-26), 3) := by decide +kernel
theorem dX7_sumOf_33 : decode cX7_sumOf 33 = .ok (.iload_n 2, 1) := by decide +kernel
theorem dX7_sumOf_34 : decode cX7_sumOf 34 = .ok (.ireturn, 1) := by decide +kernel
theorem s_X7_sumOf : gSt yX7_sumOf cX7_sumOf 4 (some .int) 1 := ⟨q3_76, q1_4, ⟨by decide, by decide, by decide +kernel⟩, by decide⟩
theorem sel_X7_sumOf : Cond.selects yX7_sumOf.cls yX7_sumOf yX7_sumOf ∈ gT := q3_75
theorem ins_X7_sumOf : Cond.instanceMethod yX7_sumOf ∈ gT := q3_74
def w_X7_sumOf_L4 (Q : Int32 → gM → Prop) (K33 : Int32 → Int32 → gM → Prop) (v1 : Int32) : Nat → Int32 → Int32 → gM → Prop
  | 0, _, _, _ => False
  | n + 1, v2, v3, M => gbr ((v3 : Int32) < 14) (w_X8_has v1 v3 M (fun (r2 : Int32) (M1 : gM) => gbr ((r2 : Int32) = 0) (∀ x3 : Int32, x3 = (v3 + 1) → (w_X7_sumOf_L4 Q K33 v1 n (v2) (x3) M1)) (vp_in v3 14 ∧ (∀ x4 : Int32, x4 = (v2 + (M1 32 (Int32.toNatClampNeg v3))) → (∀ x5 : Int32, x5 = (v3 + 1) → (w_X7_sumOf_L4 Q K33 v1 n (x4) (x5) M1)))))) (K33 (v2) (v3) M)
def w_X7_sumOf (p1 : Int32) (M : gM) (Q : Int32 → gM → Prop) : Prop := ∃ nf, w_X7_sumOf_L4 Q (fun (x6 : Int32) (x7 : Int32) (M8 : gM) => Q x6 M8) p1 nf 0 0 M
set_option maxRecDepth 100000 in
set_option maxHeartbeats 4000000 in
theorem w_X7_sumOf_L4_w {X : gX} (ok : gOk X cX7_sumOf yX7_sumOf.cls 1 4 (some .int) gL) {Q : Int32 → gM → Prop} (hZ : gZi X Q) {K33 : Int32 → Int32 → gM → Prop} (v1 : Int32) (hK33 : ∀ (v2 : Int32) (v3 : Int32)  (M : gM), K33 v2 v3 M → gW X 33 [some (.inr 3), some (.inl v1), some (.inl v2), some (.inl v3)] [] M) : ∀ (n : Nat) (v2 : Int32) (v3 : Int32)  (M : gM), w_X7_sumOf_L4 Q K33 v1 n v2 v3 M → gW X 4 [some (.inr 3), some (.inl v1), some (.inl v2), some (.inl v3)] [] M
  | 0, _, _, _, h => h.elim
  | n + 1, v2, v3, M, h => by
    have ih := fun (v2 : Int32) (v3 : Int32)  (M : gM) h => w_X7_sumOf_L4_w ok hZ v1 hK33 n v2 v3  M h
    rw [w_X7_sumOf_L4.eq_2] at h
    refine g_iload_n ok dX7_sumOf_4 rfl rfl ?_
    refine g_bipush (v := 14) ok dX7_sumOf_5 (by decide) ?_
    refine g_icmp_ge (tgt := 33) ok dX7_sumOf_7 (by decide) (fun z => ?_) (fun z => ?_)
    · have h := h.2 z
      exact hK33 (v2) (v3) M h
    · have h := h.1 z
      refine g_iload_n ok dX7_sumOf_10 rfl rfl ?_
      refine g_iload_n ok dX7_sumOf_11 rfl rfl ?_
      refine g_callNi (st := []) (as := [.inl v1, .inl v3]) ok rfl (k_X8_has h) s_X8_has rfl (by decide) stt_X8_has (gle rfl) rfl (List.mem_of_getElem? (i := 4) rfl) dX7_sumOf_12 ?_
      intro r2 M1 h
      refine g_if_eq (tgt := 27) ok dX7_sumOf_15 (by decide) (fun z => ?_) (fun z => ?_)
      · have h := h.1 z
        obtain ⟨x3, ex3⟩ : ∃ y : Int32, y = (v3 + 1) := ⟨_, rfl⟩
        have h := h x3 ex3
        refine g_iinc (v := x3) (lv1 := [some (.inr 3), some (.inl v1), some (.inl v2), some (.inl x3)]) ok dX7_sumOf_27 rfl (by rw [ex3]; rfl) rfl ?_
        refine g_goto (tgt := 4) ok dX7_sumOf_30 (by decide) ?_
        exact ih (v2) (x3) M1 h
      · have h := h.2 z
        refine g_iload_n ok dX7_sumOf_18 rfl rfl ?_
        refine g_aload_n ok dX7_sumOf_19 rfl rfl ?_
        refine g_get (w := .inr 32) ok f3_0 (gLm (by decide)) q1_99 dX7_sumOf_20 rfl ?_
        refine g_iload_n ok dX7_sumOf_23 rfl rfl ?_
        have hb := h.1
        have h := h.2
        refine g_iald (w := (M1 32 (Int32.toNatClampNeg v3))) ok a32 (gLm (by decide)) dX7_sumOf_24 hb rfl ?_
        refine g_iadd ok dX7_sumOf_25 ?_
        refine g_nm (fun x4 ex4 => ?_)
        have h := h x4 ex4
        refine g_istore_n (lv1 := [some (.inr 3), some (.inl v1), some (.inl x4), some (.inl v3)]) ok dX7_sumOf_26 rfl (glt rfl) rfl ?_
        obtain ⟨x5, ex5⟩ : ∃ y : Int32, y = (v3 + 1) := ⟨_, rfl⟩
        have h := h x5 ex5
        refine g_iinc (v := x5) (lv1 := [some (.inr 3), some (.inl v1), some (.inl x4), some (.inl x5)]) ok dX7_sumOf_27 rfl (by rw [ex5]; rfl) rfl ?_
        refine g_goto (tgt := 4) ok dX7_sumOf_30 (by decide) ?_
        exact ih (x4) (x5) M1 h
set_option maxRecDepth 100000 in
set_option maxHeartbeats 4000000 in
theorem k_X7_sumOf {p1 : Int32} {M : gM} {Q : Int32 → gM → Prop} (h : w_X7_sumOf p1 M Q) : gCi gL 1 yX7_sumOf cX7_sumOf 4 .int [.inr 3, .inl p1] M Q := by
  refine gCi_of (by decide) gLn (gle rfl) (fun X ok hZ => ?_)
  show gW X 0 [some (.inr 3), some (.inl p1), none, none] [] M
  unfold w_X7_sumOf at h
  refine g_iconst (v := 0) ok dX7_sumOf_0 (by decide) ?_
  refine g_istore_n (lv1 := [some (.inr 3), some (.inl p1), some (.inl 0), none]) ok dX7_sumOf_1 rfl (glt rfl) rfl ?_
  refine g_iconst (v := 0) ok dX7_sumOf_2 (by decide) ?_
  refine g_istore_n (lv1 := [some (.inr 3), some (.inl p1), some (.inl 0), some (.inl 0)]) ok dX7_sumOf_3 rfl (glt rfl) rfl ?_
  obtain ⟨nf, h⟩ := h
  refine w_X7_sumOf_L4_w ok hZ p1 ?_ nf 0 0  M h
  · intro x6 x7  M8 h
    refine g_iload_n ok dX7_sumOf_33 rfl rfl ?_
    exact g_iret ok hZ dX7_sumOf_34 h
theorem dX7_keysUpTo_0 : decode cX7_keysUpTo 0 = .ok (.iconst 0, 1) := by decide +kernel
theorem dX7_keysUpTo_1 : decode cX7_keysUpTo 1 = .ok (.istore_n 3, 1) := by decide +kernel
theorem dX7_keysUpTo_2 : decode cX7_keysUpTo 2 = .ok (.iconst 0, 1) := by decide +kernel
theorem dX7_keysUpTo_3 : decode cX7_keysUpTo 3 = .ok (.istore 4, 2) := by decide +kernel
theorem dX7_keysUpTo_5 : decode cX7_keysUpTo 5 = .ok (.iload 4, 2) := by decide +kernel
theorem dX7_keysUpTo_7 : decode cX7_keysUpTo 7 = .ok (.iload_n 2, 1) := by decide +kernel
theorem dX7_keysUpTo_8 : decode cX7_keysUpTo 8 = .ok (.if_icmp .ge 23, 3) := by decide +kernel
theorem dX7_keysUpTo_11 : decode cX7_keysUpTo 11 = .ok (.aload_n 0, 1) := by decide +kernel
theorem dX7_keysUpTo_12 : decode cX7_keysUpTo 12 = .ok (.getfield 15, 3) := by decide +kernel
theorem dX7_keysUpTo_15 : decode cX7_keysUpTo 15 = .ok (.iload 4, 2) := by decide +kernel
theorem dX7_keysUpTo_17 : decode cX7_keysUpTo 17 = .ok (.iaload, 1) := by decide +kernel
theorem dX7_keysUpTo_18 : decode cX7_keysUpTo 18 = .ok (.iload_n 1, 1) := by decide +kernel
theorem dX7_keysUpTo_19 : decode cX7_keysUpTo 19 = .ok (.if_icmp .gt 6, 3) := by decide +kernel
theorem dX7_keysUpTo_22 : decode cX7_keysUpTo 22 = .ok (.iinc 3 1, 3) := by decide +kernel
theorem dX7_keysUpTo_25 : decode cX7_keysUpTo 25 = .ok (.iinc 4 1, 3) := by decide +kernel
theorem dX7_keysUpTo_28 : decode cX7_keysUpTo 28 = .ok (.goto (-23), 3) := by decide +kernel
theorem dX7_keysUpTo_31 : decode cX7_keysUpTo 31 = .ok (.iload_n 3, 1) := by decide +kernel
theorem dX7_keysUpTo_32 : decode cX7_keysUpTo 32 = .ok (.ireturn, 1) := by decide +kernel
theorem s_X7_keysUpTo : gSt yX7_keysUpTo cX7_keysUpTo 5 (some .int) 2 := ⟨q3_82, q1_4, ⟨by decide, by decide, by decide +kernel⟩, by decide⟩
theorem sel_X7_keysUpTo : Cond.selects yX7_keysUpTo.cls yX7_keysUpTo yX7_keysUpTo ∈ gT := qs_5
theorem ins_X7_keysUpTo : Cond.instanceMethod yX7_keysUpTo ∈ gT := q3_81
def w_X7_keysUpTo_L5 (Q : Int32 → gM → Prop) (K31 : Int32 → Int32 → gM → Prop) (v1 : Int32) (v2 : Int32) : Nat → Int32 → Int32 → gM → Prop
  | 0, _, _, _ => False
  | n + 1, v3, v4, M => gbr ((v4 : Int32) < v2) (vp_in v4 4000 ∧ (gbr ((v1 : Int32) < (M 33 (Int32.toNatClampNeg v4))) (∀ x1 : Int32, x1 = (v4 + 1) → (w_X7_keysUpTo_L5 Q K31 v1 v2 n (v3) (x1) M)) (∀ x2 : Int32, x2 = (v3 + 1) → (∀ x3 : Int32, x3 = (v4 + 1) → (w_X7_keysUpTo_L5 Q K31 v1 v2 n (x2) (x3) M))))) (K31 (v3) (v4) M)
def w_X7_keysUpTo (p1 : Int32) (p2 : Int32) (M : gM) (Q : Int32 → gM → Prop) : Prop := ∃ nf, w_X7_keysUpTo_L5 Q (fun (x4 : Int32) (x5 : Int32) (M6 : gM) => Q x4 M6) p1 p2 nf 0 0 M
set_option maxRecDepth 100000 in
set_option maxHeartbeats 4000000 in
theorem w_X7_keysUpTo_L5_w {X : gX} (ok : gOk X cX7_keysUpTo yX7_keysUpTo.cls 0 5 (some .int) gL) {Q : Int32 → gM → Prop} (hZ : gZi X Q) {K31 : Int32 → Int32 → gM → Prop} (v1 : Int32) (v2 : Int32) (hK31 : ∀ (v3 : Int32) (v4 : Int32)  (M : gM), K31 v3 v4 M → gW X 31 [some (.inr 3), some (.inl v1), some (.inl v2), some (.inl v3), some (.inl v4)] [] M) : ∀ (n : Nat) (v3 : Int32) (v4 : Int32)  (M : gM), w_X7_keysUpTo_L5 Q K31 v1 v2 n v3 v4 M → gW X 5 [some (.inr 3), some (.inl v1), some (.inl v2), some (.inl v3), some (.inl v4)] [] M
  | 0, _, _, _, h => h.elim
  | n + 1, v3, v4, M, h => by
    have ih := fun (v3 : Int32) (v4 : Int32)  (M : gM) h => w_X7_keysUpTo_L5_w ok hZ v1 v2 hK31 n v3 v4  M h
    rw [w_X7_keysUpTo_L5.eq_2] at h
    refine g_iload ok dX7_keysUpTo_5 rfl ?_
    refine g_iload_n ok dX7_keysUpTo_7 rfl rfl ?_
    refine g_icmp_ge (tgt := 31) ok dX7_keysUpTo_8 (by decide) (fun z => ?_) (fun z => ?_)
    · have h := h.2 z
      exact hK31 (v3) (v4) M h
    · have h := h.1 z
      refine g_aload_n ok dX7_keysUpTo_11 rfl rfl ?_
      refine g_get (w := .inr 33) ok f3_1 (gLm (by decide)) q1_101 dX7_keysUpTo_12 rfl ?_
      refine g_iload ok dX7_keysUpTo_15 rfl ?_
      have hb := h.1
      have h := h.2
      refine g_iald (w := (M 33 (Int32.toNatClampNeg v4))) ok a33 (gLm (by decide)) dX7_keysUpTo_17 hb rfl ?_
      refine g_iload_n ok dX7_keysUpTo_18 rfl rfl ?_
      refine g_icmp_gt (tgt := 25) ok dX7_keysUpTo_19 (by decide) (fun z => ?_) (fun z => ?_)
      · have h := h.1 z
        obtain ⟨x1, ex1⟩ : ∃ y : Int32, y = (v4 + 1) := ⟨_, rfl⟩
        have h := h x1 ex1
        refine g_iinc (v := x1) (lv1 := [some (.inr 3), some (.inl v1), some (.inl v2), some (.inl v3), some (.inl x1)]) ok dX7_keysUpTo_25 rfl (by rw [ex1]; rfl) rfl ?_
        refine g_goto (tgt := 5) ok dX7_keysUpTo_28 (by decide) ?_
        exact ih (v3) (x1) M h
      · have h := h.2 z
        obtain ⟨x2, ex2⟩ : ∃ y : Int32, y = (v3 + 1) := ⟨_, rfl⟩
        have h := h x2 ex2
        refine g_iinc (v := x2) (lv1 := [some (.inr 3), some (.inl v1), some (.inl v2), some (.inl x2), some (.inl v4)]) ok dX7_keysUpTo_22 rfl (by rw [ex2]; rfl) rfl ?_
        obtain ⟨x3, ex3⟩ : ∃ y : Int32, y = (v4 + 1) := ⟨_, rfl⟩
        have h := h x3 ex3
        refine g_iinc (v := x3) (lv1 := [some (.inr 3), some (.inl v1), some (.inl v2), some (.inl x2), some (.inl x3)]) ok dX7_keysUpTo_25 rfl (by rw [ex3]; rfl) rfl ?_
        refine g_goto (tgt := 5) ok dX7_keysUpTo_28 (by decide) ?_
        exact ih (x2) (x3) M h
set_option maxRecDepth 100000 in
set_option maxHeartbeats 4000000 in
theorem k_X7_keysUpTo {p1 : Int32} {p2 : Int32} {M : gM} {Q : Int32 → gM → Prop} (h : w_X7_keysUpTo p1 p2 M Q) : gCi gL 0 yX7_keysUpTo cX7_keysUpTo 5 .int [.inr 3, .inl p1, .inl p2] M Q := by
  refine gCi_of (by decide) gLn (gle rfl) (fun X ok hZ => ?_)
  show gW X 0 [some (.inr 3), some (.inl p1), some (.inl p2), none, none] [] M
  unfold w_X7_keysUpTo at h
  refine g_iconst (v := 0) ok dX7_keysUpTo_0 (by decide) ?_
  refine g_istore_n (lv1 := [some (.inr 3), some (.inl p1), some (.inl p2), some (.inl 0), none]) ok dX7_keysUpTo_1 rfl (glt rfl) rfl ?_
  refine g_iconst (v := 0) ok dX7_keysUpTo_2 (by decide) ?_
  refine g_istore (lv1 := [some (.inr 3), some (.inl p1), some (.inl p2), some (.inl 0), some (.inl 0)]) ok dX7_keysUpTo_3 (glt rfl) rfl ?_
  obtain ⟨nf, h⟩ := h
  refine w_X7_keysUpTo_L5_w ok hZ p1 p2 ?_ nf 0 0  M h
  · intro x4 x5  M6 h
    refine g_iload_n ok dX7_keysUpTo_31 rfl rfl ?_
    exact g_iret ok hZ dX7_keysUpTo_32 h
theorem dX7_lightestOf_0 : decode cX7_lightestOf 0 = .ok (.iconst 0, 1) := by decide +kernel
theorem dX7_lightestOf_1 : decode cX7_lightestOf 1 = .ok (.istore_n 3, 1) := by decide +kernel
theorem dX7_lightestOf_2 : decode cX7_lightestOf 2 = .ok (.iload_n 3, 1) := by decide +kernel
theorem dX7_lightestOf_3 : decode cX7_lightestOf 3 = .ok (.aload_n 1, 1) := by decide +kernel
theorem dX7_lightestOf_4 : decode cX7_lightestOf 4 = .ok (.getfield 22, 3) := by decide +kernel
theorem dX7_lightestOf_7 : decode cX7_lightestOf 7 = .ok (.if_icmp .ge 36, 3) := by decide +kernel
theorem dX7_lightestOf_10 : decode cX7_lightestOf 10 = .ok (.aload_n 0, 1) := by decide +kernel
theorem dX7_lightestOf_11 : decode cX7_lightestOf 11 = .ok (.getfield 15, 3) := by decide +kernel
theorem dX7_lightestOf_14 : decode cX7_lightestOf 14 = .ok (.iload_n 3, 1) := by decide +kernel
theorem dX7_lightestOf_15 : decode cX7_lightestOf 15 = .ok (.aload_n 0, 1) := by decide +kernel
theorem dX7_lightestOf_16 : decode cX7_lightestOf 16 = .ok (.aload_n 1, 1) := by decide +kernel
theorem dX7_lightestOf_17 : decode cX7_lightestOf 17 = .ok (.getfield 28, 3) := by decide +kernel
theorem dX7_lightestOf_20 : decode cX7_lightestOf 20 = .ok (.iload_n 3, 1) := by decide +kernel
theorem dX7_lightestOf_21 : decode cX7_lightestOf 21 = .ok (.iaload, 1) := by decide +kernel
theorem dX7_lightestOf_22 : decode cX7_lightestOf 22 = .ok (.invokevirtual 31, 3) := by decide +kernel
theorem dX7_lightestOf_25 : decode cX7_lightestOf 25 = .ok (.sipush 16384, 3) := by decide +kernel
theorem dX7_lightestOf_28 : decode cX7_lightestOf 28 = .ok (.imul, 1) := by decide +kernel
theorem dX7_lightestOf_29 : decode cX7_lightestOf 29 = .ok (.aload_n 1, 1) := by decide +kernel
theorem dX7_lightestOf_30 : decode cX7_lightestOf 30 = .ok (.getfield 28, 3) := by decide +kernel
theorem dX7_lightestOf_33 : decode cX7_lightestOf 33 = .ok (.iload_n 3, 1) := by decide +kernel
theorem dX7_lightestOf_34 : decode cX7_lightestOf 34 = .ok (.iaload, 1) := by decide +kernel
theorem dX7_lightestOf_35 : decode cX7_lightestOf 35 = .ok (.iadd, 1) := by decide +kernel
theorem dX7_lightestOf_36 : decode cX7_lightestOf 36 = .ok (.iastore, 1) := by decide +kernel
theorem dX7_lightestOf_37 : decode cX7_lightestOf 37 = .ok (.iinc 3 1, 3) := by decide +kernel
theorem dX7_lightestOf_40 : decode cX7_lightestOf 40 = .ok (.goto (-38), 3) := by decide +kernel
theorem dX7_lightestOf_43 : decode cX7_lightestOf 43 = .ok (.iconst 0, 1) := by decide +kernel
theorem dX7_lightestOf_44 : decode cX7_lightestOf 44 = .ok (.istore_n 3, 1) := by decide +kernel
theorem dX7_lightestOf_45 : decode cX7_lightestOf 45 = .ok (.ldc 35, 2) := by decide +kernel
theorem dX7_lightestOf_47 : decode cX7_lightestOf 47 = .ok (.istore 4, 2) := by decide +kernel
theorem dX7_lightestOf_49 : decode cX7_lightestOf 49 = .ok (.iconst 0, 1) := by decide +kernel
theorem dX7_lightestOf_50 : decode cX7_lightestOf 50 = .ok (.istore 5, 2) := by decide +kernel
theorem dX7_lightestOf_52 : decode cX7_lightestOf 52 = .ok (.iload 5, 2) := by decide +kernel
theorem dX7_lightestOf_54 : decode cX7_lightestOf 54 = .ok (.bipush 32, 2) := by decide +kernel
theorem dX7_lightestOf_56 : decode cX7_lightestOf 56 = .ok (.if_icmp .ge 51, 3) := by decide +kernel
theorem dX7_lightestOf_59 : decode cX7_lightestOf 59 = .ok (.iload_n 3, 1) := by decide +kernel
theorem dX7_lightestOf_60 : decode cX7_lightestOf 60 = .ok (.iload 4, 2) := by decide +kernel
theorem dX7_lightestOf_62 : decode cX7_lightestOf 62 = .ok (.if_icmp .ge 45, 3) := by decide +kernel
theorem dX7_lightestOf_65 : decode cX7_lightestOf 65 = .ok (.iload_n 3, 1) := by decide +kernel
theorem dX7_lightestOf_66 : decode cX7_lightestOf 66 = .ok (.iload 4, 2) := by decide +kernel
theorem dX7_lightestOf_68 : decode cX7_lightestOf 68 = .ok (.iload_n 3, 1) := by decide +kernel
theorem dX7_lightestOf_69 : decode cX7_lightestOf 69 = .ok (.isub, 1) := by decide +kernel
theorem dX7_lightestOf_70 : decode cX7_lightestOf 70 = .ok (.iconst 2, 1) := by decide +kernel
theorem dX7_lightestOf_71 : decode cX7_lightestOf 71 = .ok (.idiv, 1) := by decide +kernel
theorem dX7_lightestOf_72 : decode cX7_lightestOf 72 = .ok (.iadd, 1) := by decide +kernel
theorem dX7_lightestOf_73 : decode cX7_lightestOf 73 = .ok (.istore 6, 2) := by decide +kernel
theorem dX7_lightestOf_75 : decode cX7_lightestOf 75 = .ok (.aload_n 0, 1) := by decide +kernel
theorem dX7_lightestOf_76 : decode cX7_lightestOf 76 = .ok (.iload 6, 2) := by decide +kernel
theorem dX7_lightestOf_78 : decode cX7_lightestOf 78 = .ok (.aload_n 1, 1) := by decide +kernel
theorem dX7_lightestOf_79 : decode cX7_lightestOf 79 = .ok (.getfield 22, 3) := by decide +kernel
theorem dX7_lightestOf_82 : decode cX7_lightestOf 82 = .ok (.invokevirtual 36, 3) := by decide +kernel
theorem dX7_lightestOf_85 : decode cX7_lightestOf 85 = .ok (.iload_n 2, 1) := by decide +kernel
theorem dX7_lightestOf_86 : decode cX7_lightestOf 86 = .ok (.if_icmp .le 10, 3) := by decide +kernel
theorem dX7_lightestOf_89 : decode cX7_lightestOf 89 = .ok (.iload 6, 2) := by decide +kernel
theorem dX7_lightestOf_91 : decode cX7_lightestOf 91 = .ok (.istore 4, 2) := by decide +kernel
theorem dX7_lightestOf_93 : decode cX7_lightestOf 93 = .ok (.goto 8, 3) := by decide +kernel
theorem dX7_lightestOf_96 : decode cX7_lightestOf 96 = .ok (.iload 6, 2) := by decide +kernel
theorem dX7_lightestOf_98 : decode cX7_lightestOf 98 = .ok (.iconst 1, 1) := by decide +kernel
theorem dX7_lightestOf_99 : decode cX7_lightestOf 99 = .ok (.iadd, 1) := by decide +kernel
theorem dX7_lightestOf_100 : decode cX7_lightestOf 100 = .ok (.istore_n 3, 1) := by decide +kernel
theorem dX7_lightestOf_101 : decode cX7_lightestOf 101 = .ok (.iinc 5 1, 3) := by decide +kernel
theorem dX7_lightestOf_104 : decode cX7_lightestOf 104 = .ok (.goto (-52), 3) := by decide +kernel
theorem dX7_lightestOf_107 : decode cX7_lightestOf 107 = .ok (.iload_n 3, 1) := by decide +kernel
theorem dX7_lightestOf_108 : decode cX7_lightestOf 108 = .ok (.sipush 16383, 3) := by decide +kernel
theorem dX7_lightestOf_111 : decode cX7_lightestOf 111 = .ok (.iand, 1) := by decide +kernel
theorem dX7_lightestOf_112 : decode cX7_lightestOf 112 = .ok (.ireturn, 1) := by decide +kernel
theorem s_X7_lightestOf : gSt yX7_lightestOf cX7_lightestOf 7 (some .int) 2 := ⟨q3_72, q1_4, ⟨by decide, by decide, by decide +kernel⟩, by decide⟩
theorem sel_X7_lightestOf : Cond.selects yX7_lightestOf.cls yX7_lightestOf yX7_lightestOf ∈ gT := q3_71
theorem ins_X7_lightestOf : Cond.instanceMethod yX7_lightestOf ∈ gT := q3_70
def w_X7_lightestOf_L2 (Q : Int32 → gM → Prop) (K43 : Int32 → gM → Prop) (v2 : Int32) : Nat → Int32 → gM → Prop
  | 0, _, _ => False
  | n + 1, v3, M => gbr ((v3 : Int32) < (M 4 2)) (vp_in v3 4000 ∧ (w_X7_sumOf (M 30 (Int32.toNatClampNeg v3)) M (fun (r2 : Int32) (M1 : gM) => vp_in v3 4000 ∧ (vp_in v3 4000 ∧ ∀ M3 : gM, M3 = gst M1 33 (Int32.toNatClampNeg v3) ((r2 * 16384) + (M1 30 (Int32.toNatClampNeg v3))) → (∀ x4 : Int32, x4 = (v3 + 1) → (w_X7_lightestOf_L2 Q K43 v2 n (x4) M3)))))) (K43 (v3) M)
def w_X7_lightestOf_L52 (Q : Int32 → gM → Prop) (K107 : Int32 → Int32 → Int32 → gM → Prop) (v2 : Int32) : Nat → Int32 → Int32 → Int32 → gM → Prop
  | 0, _, _, _, _ => False
  | n + 1, v3, v4, v5, M => gbr ((v5 : Int32) < 32) (gbr ((v3 : Int32) < v4) (∀ x10 : Int32, x10 = (v3 + ((v4 - v3) / 2)) → (w_X7_keysUpTo x10 (M 4 2) M (fun (r12 : Int32) (M11 : gM) => gbr ((v2 : Int32) < r12) (∀ x15 : Int32, x15 = (v5 + 1) → (w_X7_lightestOf_L52 Q K107 v2 n (v3) (x10) (x15) M11)) (∀ x13 : Int32, x13 = (x10 + 1) → (∀ x14 : Int32, x14 = (v5 + 1) → (w_X7_lightestOf_L52 Q K107 v2 n (x13) (v4) (x14) M11)))))) (K107 (v3) (v4) (v5) M)) (K107 (v3) (v4) (v5) M)
def w_X7_lightestOf (p2 : Int32) (M : gM) (Q : Int32 → gM → Prop) : Prop := ∃ nf, w_X7_lightestOf_L2 Q (fun (x5 : Int32) (M9 : gM) => ∃ nf, w_X7_lightestOf_L52 Q (fun (x16 : Int32) (x17 : Int32) (x18 : Int32) (M20 : gM) => Q (x16 &&& 16383) M20) p2 nf 0 22724608 0 M9) p2 nf 0 M
set_option maxRecDepth 100000 in
set_option maxHeartbeats 4000000 in
theorem w_X7_lightestOf_L2_w {X : gX} (ok : gOk X cX7_lightestOf yX7_lightestOf.cls 2 7 (some .int) gL) {Q : Int32 → gM → Prop} (hZ : gZi X Q) {K43 : Int32 → gM → Prop} (v2 : Int32) (hK43 : ∀ (v3 : Int32) (u4 : Option gV) (u5 : Option gV) (u6 : Option gV) (M : gM), K43 v3 M → gW X 43 [some (.inr 3), some (.inr 4), some (.inl v2), some (.inl v3), u4, u5, u6] [] M) : ∀ (n : Nat) (v3 : Int32) (u4 : Option gV) (u5 : Option gV) (u6 : Option gV) (M : gM), w_X7_lightestOf_L2 Q K43 v2 n v3 M → gW X 2 [some (.inr 3), some (.inr 4), some (.inl v2), some (.inl v3), u4, u5, u6] [] M
  | 0, _, _, _, _, _, h => h.elim
  | n + 1, v3, u4, u5, u6, M, h => by
    have ih := fun (v3 : Int32) (u4 : Option gV) (u5 : Option gV) (u6 : Option gV) (M : gM) h => w_X7_lightestOf_L2_w ok hZ v2 hK43 n v3 u4 u5 u6 M h
    rw [w_X7_lightestOf_L2.eq_2] at h
    refine g_iload_n ok dX7_lightestOf_2 rfl rfl ?_
    refine g_aload_n ok dX7_lightestOf_3 rfl rfl ?_
    refine g_get (w := .inl (M 4 2)) ok f4_2 (gLm (by decide)) q1_125 dX7_lightestOf_4 rfl ?_
    refine g_icmp_ge (tgt := 43) ok dX7_lightestOf_7 (by decide) (fun z => ?_) (fun z => ?_)
    · have h := h.2 z
      exact hK43 (v3) (u4) (u5) (u6) M h
    · have h := h.1 z
      refine g_aload_n ok dX7_lightestOf_10 rfl rfl ?_
      refine g_get (w := .inr 33) ok f3_1 (gLm (by decide)) q1_101 dX7_lightestOf_11 rfl ?_
      refine g_iload_n ok dX7_lightestOf_14 rfl rfl ?_
      refine g_aload_n ok dX7_lightestOf_15 rfl rfl ?_
      refine g_aload_n ok dX7_lightestOf_16 rfl rfl ?_
      refine g_get (w := .inr 30) ok f4_0 (gLm (by decide)) q1_119 dX7_lightestOf_17 rfl ?_
      refine g_iload_n ok dX7_lightestOf_20 rfl rfl ?_
      have hb := h.1
      have h := h.2
      refine g_iald (w := (M 30 (Int32.toNatClampNeg v3))) ok a30 (gLm (by decide)) dX7_lightestOf_21 hb rfl ?_
      refine g_callVi (st := [.inl v3, .inr 33]) (as := [.inl (M 30 (Int32.toNatClampNeg v3))]) ok rfl (k_X7_sumOf h) s_X7_sumOf rfl (by decide) (gLm (by decide)) cl3 sel_X7_sumOf ins_X7_sumOf (gle rfl) rfl q3_73 dX7_lightestOf_22 ?_
      intro r2 M1 h
      refine g_sipush (v := 16384) ok dX7_lightestOf_25 (by decide) ?_
      refine g_imul ok dX7_lightestOf_28 ?_
      refine g_aload_n ok dX7_lightestOf_29 rfl rfl ?_
      refine g_get (w := .inr 30) ok f4_0 (gLm (by decide)) q1_119 dX7_lightestOf_30 rfl ?_
      refine g_iload_n ok dX7_lightestOf_33 rfl rfl ?_
      have hb := h.1
      have h := h.2
      refine g_iald (w := (M1 30 (Int32.toNatClampNeg v3))) ok a30 (gLm (by decide)) dX7_lightestOf_34 hb rfl ?_
      refine g_iadd ok dX7_lightestOf_35 ?_
      have hb := h.1
      have h := h.2
      refine g_iast ok a33 (gLm (by decide)) dX7_lightestOf_36 hb (g_mem (fun M3 eM3 => ?_))
      have h := h M3 eM3
      obtain ⟨x4, ex4⟩ : ∃ y : Int32, y = (v3 + 1) := ⟨_, rfl⟩
      have h := h x4 ex4
      refine g_iinc (v := x4) (lv1 := [some (.inr 3), some (.inr 4), some (.inl v2), some (.inl x4), u4, u5, u6]) ok dX7_lightestOf_37 rfl (by rw [ex4]; rfl) rfl ?_
      refine g_goto (tgt := 2) ok dX7_lightestOf_40 (by decide) ?_
      exact ih (x4) (u4) (u5) (u6) M3 h
set_option maxRecDepth 100000 in
set_option maxHeartbeats 4000000 in
theorem w_X7_lightestOf_L52_w {X : gX} (ok : gOk X cX7_lightestOf yX7_lightestOf.cls 2 7 (some .int) gL) {Q : Int32 → gM → Prop} (hZ : gZi X Q) {K107 : Int32 → Int32 → Int32 → gM → Prop} (v2 : Int32) (hK107 : ∀ (v3 : Int32) (v4 : Int32) (v5 : Int32) (u6 : Option gV) (M : gM), K107 v3 v4 v5 M → gW X 107 [some (.inr 3), some (.inr 4), some (.inl v2), some (.inl v3), some (.inl v4), some (.inl v5), u6] [] M) : ∀ (n : Nat) (v3 : Int32) (v4 : Int32) (v5 : Int32) (u6 : Option gV) (M : gM), w_X7_lightestOf_L52 Q K107 v2 n v3 v4 v5 M → gW X 52 [some (.inr 3), some (.inr 4), some (.inl v2), some (.inl v3), some (.inl v4), some (.inl v5), u6] [] M
  | 0, _, _, _, _, _, h => h.elim
  | n + 1, v3, v4, v5, u6, M, h => by
    have ih := fun (v3 : Int32) (v4 : Int32) (v5 : Int32) (u6 : Option gV) (M : gM) h => w_X7_lightestOf_L52_w ok hZ v2 hK107 n v3 v4 v5 u6 M h
    rw [w_X7_lightestOf_L52.eq_2] at h
    refine g_iload ok dX7_lightestOf_52 rfl ?_
    refine g_bipush (v := 32) ok dX7_lightestOf_54 (by decide) ?_
    refine g_icmp_ge (tgt := 107) ok dX7_lightestOf_56 (by decide) (fun z => ?_) (fun z => ?_)
    · have h := h.2 z
      exact hK107 (v3) (v4) (v5) (u6) M h
    · have h := h.1 z
      refine g_iload_n ok dX7_lightestOf_59 rfl rfl ?_
      refine g_iload ok dX7_lightestOf_60 rfl ?_
      refine g_icmp_ge (tgt := 107) ok dX7_lightestOf_62 (by decide) (fun z => ?_) (fun z => ?_)
      · have h := h.2 z
        exact hK107 (v3) (v4) (v5) (u6) M h
      · have h := h.1 z
        refine g_iload_n ok dX7_lightestOf_65 rfl rfl ?_
        refine g_iload ok dX7_lightestOf_66 rfl ?_
        refine g_iload_n ok dX7_lightestOf_68 rfl rfl ?_
        refine g_isub ok dX7_lightestOf_69 ?_
        refine g_iconst (v := 2) ok dX7_lightestOf_70 (by decide) ?_
        refine g_idiv ok dX7_lightestOf_71 (by decide) ?_
        refine g_iadd ok dX7_lightestOf_72 ?_
        refine g_nm (fun x10 ex10 => ?_)
        have h := h x10 ex10
        refine g_istore (lv1 := [some (.inr 3), some (.inr 4), some (.inl v2), some (.inl v3), some (.inl v4), some (.inl v5), some (.inl x10)]) ok dX7_lightestOf_73 (glt rfl) rfl ?_
        refine g_aload_n ok dX7_lightestOf_75 rfl rfl ?_
        refine g_iload ok dX7_lightestOf_76 rfl ?_
        refine g_aload_n ok dX7_lightestOf_78 rfl rfl ?_
        refine g_get (w := .inl (M 4 2)) ok f4_2 (gLm (by decide)) q1_125 dX7_lightestOf_79 rfl ?_
        refine g_callVi (st := []) (as := [.inl x10, .inl (M 4 2)]) ok rfl (k_X7_keysUpTo h) s_X7_keysUpTo rfl (by decide) (gLm (by decide)) cl3 sel_X7_keysUpTo ins_X7_keysUpTo (gle rfl) rfl q3_79 dX7_lightestOf_82 ?_
        intro r12 M11 h
        refine g_iload_n ok dX7_lightestOf_85 rfl rfl ?_
        refine g_icmp_le (tgt := 96) ok dX7_lightestOf_86 (by decide) (fun z => ?_) (fun z => ?_)
        · have h := h.2 z
          refine g_iload ok dX7_lightestOf_96 rfl ?_
          refine g_iconst (v := 1) ok dX7_lightestOf_98 (by decide) ?_
          refine g_iadd ok dX7_lightestOf_99 ?_
          refine g_nm (fun x13 ex13 => ?_)
          have h := h x13 ex13
          refine g_istore_n (lv1 := [some (.inr 3), some (.inr 4), some (.inl v2), some (.inl x13), some (.inl v4), some (.inl v5), some (.inl x10)]) ok dX7_lightestOf_100 rfl (glt rfl) rfl ?_
          obtain ⟨x14, ex14⟩ : ∃ y : Int32, y = (v5 + 1) := ⟨_, rfl⟩
          have h := h x14 ex14
          refine g_iinc (v := x14) (lv1 := [some (.inr 3), some (.inr 4), some (.inl v2), some (.inl x13), some (.inl v4), some (.inl x14), some (.inl x10)]) ok dX7_lightestOf_101 rfl (by rw [ex14]; rfl) rfl ?_
          refine g_goto (tgt := 52) ok dX7_lightestOf_104 (by decide) ?_
          exact ih (x13) (v4) (x14) (some (.inl x10)) M11 h
        · have h := h.1 z
          refine g_iload ok dX7_lightestOf_89 rfl ?_
          refine g_istore (lv1 := [some (.inr 3), some (.inr 4), some (.inl v2), some (.inl v3), some (.inl x10), some (.inl v5), some (.inl x10)]) ok dX7_lightestOf_91 (glt rfl) rfl ?_
          refine g_goto (tgt := 101) ok dX7_lightestOf_93 (by decide) ?_
          obtain ⟨x15, ex15⟩ : ∃ y : Int32, y = (v5 + 1) := ⟨_, rfl⟩
          have h := h x15 ex15
          refine g_iinc (v := x15) (lv1 := [some (.inr 3), some (.inr 4), some (.inl v2), some (.inl v3), some (.inl x10), some (.inl x15), some (.inl x10)]) ok dX7_lightestOf_101 rfl (by rw [ex15]; rfl) rfl ?_
          refine g_goto (tgt := 52) ok dX7_lightestOf_104 (by decide) ?_
          exact ih (v3) (x10) (x15) (some (.inl x10)) M11 h
set_option maxRecDepth 100000 in
set_option maxHeartbeats 4000000 in
theorem k_X7_lightestOf {p2 : Int32} {M : gM} {Q : Int32 → gM → Prop} (h : w_X7_lightestOf p2 M Q) : gCi gL 2 yX7_lightestOf cX7_lightestOf 7 .int [.inr 3, .inr 4, .inl p2] M Q := by
  refine gCi_of (by decide) gLn (gle rfl) (fun X ok hZ => ?_)
  show gW X 0 [some (.inr 3), some (.inr 4), some (.inl p2), none, none, none, none] [] M
  unfold w_X7_lightestOf at h
  refine g_iconst (v := 0) ok dX7_lightestOf_0 (by decide) ?_
  refine g_istore_n (lv1 := [some (.inr 3), some (.inr 4), some (.inl p2), some (.inl 0), none, none, none]) ok dX7_lightestOf_1 rfl (glt rfl) rfl ?_
  obtain ⟨nf, h⟩ := h
  refine w_X7_lightestOf_L2_w ok hZ p2 ?_ nf 0 (none) (none) (none) M h
  · intro x5 u6 u7 u8 M9 h
    refine g_iconst (v := 0) ok dX7_lightestOf_43 (by decide) ?_
    refine g_istore_n (lv1 := [some (.inr 3), some (.inr 4), some (.inl p2), some (.inl 0), u6, u7, u8]) ok dX7_lightestOf_44 rfl (glt rfl) rfl ?_
    refine g_ldc (v := 22724608) ok q3_78 dX7_lightestOf_45 ?_
    refine g_istore (lv1 := [some (.inr 3), some (.inr 4), some (.inl p2), some (.inl 0), some (.inl 22724608), u7, u8]) ok dX7_lightestOf_47 (glt rfl) rfl ?_
    refine g_iconst (v := 0) ok dX7_lightestOf_49 (by decide) ?_
    refine g_istore (lv1 := [some (.inr 3), some (.inr 4), some (.inl p2), some (.inl 0), some (.inl 22724608), some (.inl 0), u8]) ok dX7_lightestOf_50 (glt rfl) rfl ?_
    obtain ⟨nf, h⟩ := h
    refine w_X7_lightestOf_L52_w ok hZ p2 ?_ nf 0 22724608 0 (u8) M9 h
    · intro x16 x17 x18 u19 M20 h
      refine g_iload_n ok dX7_lightestOf_107 rfl rfl ?_
      refine g_sipush (v := 16383) ok dX7_lightestOf_108 (by decide) ?_
      refine g_iand ok dX7_lightestOf_111 ?_
      exact g_iret ok hZ dX7_lightestOf_112 h
theorem dX8_reset_0 : decode cX8_reset 0 = .ok (.iload_n 1, 1) := by decide +kernel
theorem dX8_reset_1 : decode cX8_reset 1 = .ok (.iconst 1, 1) := by decide +kernel
theorem dX8_reset_2 : decode cX8_reset 2 = .ok (.if_icmp .lt 9, 3) := by decide +kernel
theorem dX8_reset_5 : decode cX8_reset 5 = .ok (.iload_n 1, 1) := by decide +kernel
theorem dX8_reset_6 : decode cX8_reset 6 = .ok (.bipush 14, 2) := by decide +kernel
theorem dX8_reset_8 : decode cX8_reset 8 = .ok (.if_icmp .le 6, 3) := by decide +kernel
theorem dX8_reset_11 : decode cX8_reset 11 = .ok (.bipush (-3), 2) := by decide +kernel
theorem dX8_reset_13 : decode cX8_reset 13 = .ok (.ireturn, 1) := by decide +kernel
theorem dX8_reset_14 : decode cX8_reset 14 = .ok (.aload_n 0, 1) := by decide +kernel
theorem dX8_reset_15 : decode cX8_reset 15 = .ok (.getfield 12, 3) := by decide +kernel
theorem dX8_reset_18 : decode cX8_reset 18 = .ok (.getfield 63, 3) := by decide +kernel
theorem dX8_reset_21 : decode cX8_reset 21 = .ok (.istore_n 2, 1) := by decide +kernel
theorem dX8_reset_22 : decode cX8_reset 22 = .ok (.aload_n 0, 1) := by decide +kernel
theorem dX8_reset_23 : decode cX8_reset 23 = .ok (.getfield 12, 3) := by decide +kernel
theorem dX8_reset_26 : decode cX8_reset 26 = .ok (.iload_n 1, 1) := by decide +kernel
theorem dX8_reset_27 : decode cX8_reset 27 = .ok (.invokevirtual 67, 3) := by decide +kernel
theorem dX8_reset_30 : decode cX8_reset 30 = .ok (.aload_n 0, 1) := by decide +kernel
theorem dX8_reset_31 : decode cX8_reset 31 = .ok (.getfield 19, 3) := by decide +kernel
theorem dX8_reset_34 : decode cX8_reset 34 = .ok (.invokevirtual 23, 3) := by decide +kernel
theorem dX8_reset_37 : decode cX8_reset 37 = .ok (.iload_n 2, 1) := by decide +kernel
theorem dX8_reset_38 : decode cX8_reset 38 = .ok (.ireturn, 1) := by decide +kernel
theorem s_X8_reset : gSt yX8_reset cX8_reset 3 (some .int) 1 := ⟨q2_30, q1_1, ⟨by decide, by decide, by decide +kernel⟩, by decide⟩
theorem sel_X8_reset : Cond.selects yX8_reset.cls yX8_reset yX8_reset ∈ gT := q2_29
theorem ins_X8_reset : Cond.instanceMethod yX8_reset ∈ gT := q2_28
def w_X8_reset (p1 : Int32) (M : gM) (Q : Int32 → gM → Prop) : Prop := gbr ((p1 : Int32) < 1) (Q (-3) M) (gbr ((14 : Int32) < p1) (Q (-3) M) (∀ x1 : Int32, x1 = (M 1 0) → (w_X5_startAnew p1 M (fun (M2 : gM) => w_X7_startAnew M2 (fun (M4 : gM) => Q x1 M4)))))
set_option maxRecDepth 100000 in
set_option maxHeartbeats 4000000 in
theorem k_X8_reset {p1 : Int32} {M : gM} {Q : Int32 → gM → Prop} (h : w_X8_reset p1 M Q) : gCi gL 3 yX8_reset cX8_reset 3 .int [.inr 0, .inl p1] M Q := by
  refine gCi_of (by decide) gLn (gle rfl) (fun X ok hZ => ?_)
  show gW X 0 [some (.inr 0), some (.inl p1), none] [] M
  unfold w_X8_reset at h
  refine g_iload_n ok dX8_reset_0 rfl rfl ?_
  refine g_iconst (v := 1) ok dX8_reset_1 (by decide) ?_
  refine g_icmp_lt (tgt := 11) ok dX8_reset_2 (by decide) (fun z => ?_) (fun z => ?_)
  · have h := h.1 z
    refine g_bipush (v := (-3)) ok dX8_reset_11 (by decide) ?_
    exact g_iret ok hZ dX8_reset_13 h
  · have h := h.2 z
    refine g_iload_n ok dX8_reset_5 rfl rfl ?_
    refine g_bipush (v := 14) ok dX8_reset_6 (by decide) ?_
    refine g_icmp_le (tgt := 14) ok dX8_reset_8 (by decide) (fun z => ?_) (fun z => ?_)
    · have h := h.2 z
      refine g_aload_n ok dX8_reset_14 rfl rfl ?_
      refine g_get (w := .inr 1) ok f0_0 (gLm (by decide)) q2_8 dX8_reset_15 rfl ?_
      refine g_get (w := .inl (M 1 0)) ok f1_0 (gLm (by decide)) q1_56 dX8_reset_18 rfl ?_
      refine g_nm (fun x1 ex1 => ?_)
      have h := h x1 ex1
      refine g_istore_n (lv1 := [some (.inr 0), some (.inl p1), some (.inl x1)]) ok dX8_reset_21 rfl (glt rfl) rfl ?_
      refine g_aload_n ok dX8_reset_22 rfl rfl ?_
      refine g_get (w := .inr 1) ok f0_0 (gLm (by decide)) q2_8 dX8_reset_23 rfl ?_
      refine g_iload_n ok dX8_reset_26 rfl rfl ?_
      refine g_callVv (st := []) (as := [.inl p1]) ok rfl (k_X5_startAnew h) s_X5_startAnew rfl (by decide) (gLm (by decide)) cl1 sel_X5_startAnew ins_X5_startAnew (gle rfl) rfl q2_31 dX8_reset_27 ?_
      intro M2 h
      refine g_aload_n ok dX8_reset_30 rfl rfl ?_
      refine g_get (w := .inr 3) ok f0_1 (gLm (by decide)) q2_9 dX8_reset_31 rfl ?_
      refine g_callVv (st := []) (as := []) ok rfl (k_X7_startAnew (L := gL) gLn gL_w h) s_X7_startAnew rfl (by decide) (gLm (by decide)) cl3 sel_X7_startAnew ins_X7_startAnew (gle rfl) rfl q1_107 dX8_reset_34 ?_
      intro M4 h
      refine g_iload_n ok dX8_reset_37 rfl rfl ?_
      exact g_iret ok hZ dX8_reset_38 h
    · have h := h.1 z
      refine g_bipush (v := (-3)) ok dX8_reset_11 (by decide) ?_
      exact g_iret ok hZ dX8_reset_13 h
theorem dX8_addEdge_0 : decode cX8_addEdge 0 = .ok (.iload_n 1, 1) := by decide +kernel
theorem dX8_addEdge_1 : decode cX8_addEdge 1 = .ok (.ifCond .eq 14, 3) := by decide +kernel
theorem dX8_addEdge_4 : decode cX8_addEdge 4 = .ok (.aload_n 0, 1) := by decide +kernel
theorem dX8_addEdge_5 : decode cX8_addEdge 5 = .ok (.getfield 12, 3) := by decide +kernel
theorem dX8_addEdge_8 : decode cX8_addEdge 8 = .ok (.iload_n 1, 1) := by decide +kernel
theorem dX8_addEdge_9 : decode cX8_addEdge 9 = .ok (.invokevirtual 70, 3) := by decide +kernel
theorem dX8_addEdge_12 : decode cX8_addEdge 12 = .ok (.ifCond .ne 6, 3) := by decide +kernel
theorem dX8_addEdge_15 : decode cX8_addEdge 15 = .ok (.bipush (-3), 2) := by decide +kernel
theorem dX8_addEdge_17 : decode cX8_addEdge 17 = .ok (.ireturn, 1) := by decide +kernel
theorem dX8_addEdge_18 : decode cX8_addEdge 18 = .ok (.aload_n 0, 1) := by decide +kernel
theorem dX8_addEdge_19 : decode cX8_addEdge 19 = .ok (.getfield 12, 3) := by decide +kernel
theorem dX8_addEdge_22 : decode cX8_addEdge 22 = .ok (.iload_n 1, 1) := by decide +kernel
theorem dX8_addEdge_23 : decode cX8_addEdge 23 = .ok (.invokevirtual 74, 3) := by decide +kernel
theorem dX8_addEdge_26 : decode cX8_addEdge 26 = .ok (.ifCond .eq 6, 3) := by decide +kernel
theorem dX8_addEdge_29 : decode cX8_addEdge 29 = .ok (.bipush (-4), 2) := by decide +kernel
theorem dX8_addEdge_31 : decode cX8_addEdge 31 = .ok (.ireturn, 1) := by decide +kernel
theorem dX8_addEdge_32 : decode cX8_addEdge 32 = .ok (.aload_n 0, 1) := by decide +kernel
theorem dX8_addEdge_33 : decode cX8_addEdge 33 = .ok (.getfield 12, 3) := by decide +kernel
theorem dX8_addEdge_36 : decode cX8_addEdge 36 = .ok (.invokevirtual 77, 3) := by decide +kernel
theorem dX8_addEdge_39 : decode cX8_addEdge 39 = .ok (.ifCond .eq 6, 3) := by decide +kernel
theorem dX8_addEdge_42 : decode cX8_addEdge 42 = .ok (.bipush (-5), 2) := by decide +kernel
theorem dX8_addEdge_44 : decode cX8_addEdge 44 = .ok (.ireturn, 1) := by decide +kernel
theorem dX8_addEdge_45 : decode cX8_addEdge 45 = .ok (.aload_n 0, 1) := by decide +kernel
theorem dX8_addEdge_46 : decode cX8_addEdge 46 = .ok (.getfield 12, 3) := by decide +kernel
theorem dX8_addEdge_49 : decode cX8_addEdge 49 = .ok (.iload_n 1, 1) := by decide +kernel
theorem dX8_addEdge_50 : decode cX8_addEdge 50 = .ok (.invokevirtual 81, 3) := by decide +kernel
theorem dX8_addEdge_53 : decode cX8_addEdge 53 = .ok (.aload_n 0, 1) := by decide +kernel
theorem dX8_addEdge_54 : decode cX8_addEdge 54 = .ok (.getfield 12, 3) := by decide +kernel
theorem dX8_addEdge_57 : decode cX8_addEdge 57 = .ok (.invokevirtual 84, 3) := by decide +kernel
theorem dX8_addEdge_60 : decode cX8_addEdge 60 = .ok (.aload_n 0, 1) := by decide +kernel
theorem dX8_addEdge_61 : decode cX8_addEdge 61 = .ok (.getfield 12, 3) := by decide +kernel
theorem dX8_addEdge_64 : decode cX8_addEdge 64 = .ok (.getfield 87, 3) := by decide +kernel
theorem dX8_addEdge_67 : decode cX8_addEdge 67 = .ok (.iconst 1, 1) := by decide +kernel
theorem dX8_addEdge_68 : decode cX8_addEdge 68 = .ok (.isub, 1) := by decide +kernel
theorem dX8_addEdge_69 : decode cX8_addEdge 69 = .ok (.ireturn, 1) := by decide +kernel
theorem s_X8_addEdge : gSt yX8_addEdge cX8_addEdge 2 (some .int) 1 := ⟨q2_49, q1_1, ⟨by decide, by decide, by decide +kernel⟩, by decide⟩
theorem sel_X8_addEdge : Cond.selects yX8_addEdge.cls yX8_addEdge yX8_addEdge ∈ gT := q2_48
theorem ins_X8_addEdge : Cond.instanceMethod yX8_addEdge ∈ gT := q2_47
def w_X8_addEdge (p1 : Int32) (M : gM) (Q : Int32 → gM → Prop) : Prop := gbr ((p1 : Int32) = 0) (Q (-3) M) (w_X5_isSet p1 M (fun (r2 : Int32) (M1 : gM) => gbr ((r2 : Int32) = 0) (Q (-3) M1) (w_X5_contains p1 M1 (fun (r4 : Int32) (M3 : gM) => gbr ((r4 : Int32) = 0) (w_X5_isFull M3 (fun (r6 : Int32) (M5 : gM) => gbr ((r6 : Int32) = 0) (w_X5_append p1 M5 (fun (M7 : gM) => w_X5_endEdit M7 (fun (M9 : gM) => Q ((M9 1 1) - 1) M9))) (Q (-5) M5))) (Q (-4) M3)))))
set_option maxRecDepth 100000 in
set_option maxHeartbeats 4000000 in
theorem k_X8_addEdge {p1 : Int32} {M : gM} {Q : Int32 → gM → Prop} (h : w_X8_addEdge p1 M Q) : gCi gL 3 yX8_addEdge cX8_addEdge 2 .int [.inr 0, .inl p1] M Q := by
  refine gCi_of (by decide) gLn (gle rfl) (fun X ok hZ => ?_)
  show gW X 0 [some (.inr 0), some (.inl p1)] [] M
  unfold w_X8_addEdge at h
  refine g_iload_n ok dX8_addEdge_0 rfl rfl ?_
  refine g_if_eq (tgt := 15) ok dX8_addEdge_1 (by decide) (fun z => ?_) (fun z => ?_)
  · have h := h.1 z
    refine g_bipush (v := (-3)) ok dX8_addEdge_15 (by decide) ?_
    exact g_iret ok hZ dX8_addEdge_17 h
  · have h := h.2 z
    refine g_aload_n ok dX8_addEdge_4 rfl rfl ?_
    refine g_get (w := .inr 1) ok f0_0 (gLm (by decide)) q2_8 dX8_addEdge_5 rfl ?_
    refine g_iload_n ok dX8_addEdge_8 rfl rfl ?_
    refine g_callVi (st := []) (as := [.inl p1]) ok rfl (k_X5_isSet h) s_X5_isSet rfl (by decide) (gLm (by decide)) cl1 sel_X5_isSet ins_X5_isSet (gle rfl) rfl q2_50 dX8_addEdge_9 ?_
    intro r2 M1 h
    refine g_if_ne (tgt := 18) ok dX8_addEdge_12 (by decide) (fun z => ?_) (fun z => ?_)
    · have h := h.2 z
      refine g_aload_n ok dX8_addEdge_18 rfl rfl ?_
      refine g_get (w := .inr 1) ok f0_0 (gLm (by decide)) q2_8 dX8_addEdge_19 rfl ?_
      refine g_iload_n ok dX8_addEdge_22 rfl rfl ?_
      refine g_callVi (st := []) (as := [.inl p1]) ok rfl (k_X5_contains h) s_X5_contains rfl (by decide) (gLm (by decide)) cl1 sel_X5_contains ins_X5_contains (gle rfl) rfl q2_54 dX8_addEdge_23 ?_
      intro r4 M3 h
      refine g_if_eq (tgt := 32) ok dX8_addEdge_26 (by decide) (fun z => ?_) (fun z => ?_)
      · have h := h.1 z
        refine g_aload_n ok dX8_addEdge_32 rfl rfl ?_
        refine g_get (w := .inr 1) ok f0_0 (gLm (by decide)) q2_8 dX8_addEdge_33 rfl ?_
        refine g_callVi (st := []) (as := []) ok rfl (k_X5_isFull h) s_X5_isFull rfl (by decide) (gLm (by decide)) cl1 sel_X5_isFull ins_X5_isFull (gle rfl) rfl q2_58 dX8_addEdge_36 ?_
        intro r6 M5 h
        refine g_if_eq (tgt := 45) ok dX8_addEdge_39 (by decide) (fun z => ?_) (fun z => ?_)
        · have h := h.1 z
          refine g_aload_n ok dX8_addEdge_45 rfl rfl ?_
          refine g_get (w := .inr 1) ok f0_0 (gLm (by decide)) q2_8 dX8_addEdge_46 rfl ?_
          refine g_iload_n ok dX8_addEdge_49 rfl rfl ?_
          refine g_callVv (st := []) (as := [.inl p1]) ok rfl (k_X5_append h) s_X5_append rfl (by decide) (gLm (by decide)) cl1 sel_X5_append ins_X5_append (gle rfl) rfl q2_62 dX8_addEdge_50 ?_
          intro M7 h
          refine g_aload_n ok dX8_addEdge_53 rfl rfl ?_
          refine g_get (w := .inr 1) ok f0_0 (gLm (by decide)) q2_8 dX8_addEdge_54 rfl ?_
          refine g_callVv (st := []) (as := []) ok rfl (k_X5_endEdit h) s_X5_endEdit rfl (by decide) (gLm (by decide)) cl1 sel_X5_endEdit ins_X5_endEdit (gle rfl) rfl q2_67 dX8_addEdge_57 ?_
          intro M9 h
          refine g_aload_n ok dX8_addEdge_60 rfl rfl ?_
          refine g_get (w := .inr 1) ok f0_0 (gLm (by decide)) q2_8 dX8_addEdge_61 rfl ?_
          refine g_get (w := .inl (M9 1 1)) ok f1_1 (gLm (by decide)) q1_64 dX8_addEdge_64 rfl ?_
          refine g_iconst (v := 1) ok dX8_addEdge_67 (by decide) ?_
          refine g_isub ok dX8_addEdge_68 ?_
          exact g_iret ok hZ dX8_addEdge_69 h
        · have h := h.2 z
          refine g_bipush (v := (-5)) ok dX8_addEdge_42 (by decide) ?_
          exact g_iret ok hZ dX8_addEdge_44 h
      · have h := h.2 z
        refine g_bipush (v := (-4)) ok dX8_addEdge_29 (by decide) ?_
        exact g_iret ok hZ dX8_addEdge_31 h
    · have h := h.1 z
      refine g_bipush (v := (-3)) ok dX8_addEdge_15 (by decide) ?_
      exact g_iret ok hZ dX8_addEdge_17 h
theorem dX8_removeEdge_0 : decode cX8_removeEdge 0 = .ok (.aload_n 0, 1) := by decide +kernel
theorem dX8_removeEdge_1 : decode cX8_removeEdge 1 = .ok (.getfield 12, 3) := by decide +kernel
theorem dX8_removeEdge_4 : decode cX8_removeEdge 4 = .ok (.iload_n 1, 1) := by decide +kernel
theorem dX8_removeEdge_5 : decode cX8_removeEdge 5 = .ok (.invokevirtual 90, 3) := by decide +kernel
theorem dX8_removeEdge_8 : decode cX8_removeEdge 8 = .ok (.ifCond .ne 6, 3) := by decide +kernel
theorem dX8_removeEdge_11 : decode cX8_removeEdge 11 = .ok (.bipush (-2), 2) := by decide +kernel
theorem dX8_removeEdge_13 : decode cX8_removeEdge 13 = .ok (.ireturn, 1) := by decide +kernel
theorem dX8_removeEdge_14 : decode cX8_removeEdge 14 = .ok (.aload_n 0, 1) := by decide +kernel
theorem dX8_removeEdge_15 : decode cX8_removeEdge 15 = .ok (.getfield 12, 3) := by decide +kernel
theorem dX8_removeEdge_18 : decode cX8_removeEdge 18 = .ok (.getfield 93, 3) := by decide +kernel
theorem dX8_removeEdge_21 : decode cX8_removeEdge 21 = .ok (.iload_n 1, 1) := by decide +kernel
theorem dX8_removeEdge_22 : decode cX8_removeEdge 22 = .ok (.iaload, 1) := by decide +kernel
theorem dX8_removeEdge_23 : decode cX8_removeEdge 23 = .ok (.istore_n 2, 1) := by decide +kernel
theorem dX8_removeEdge_24 : decode cX8_removeEdge 24 = .ok (.aload_n 0, 1) := by decide +kernel
theorem dX8_removeEdge_25 : decode cX8_removeEdge 25 = .ok (.getfield 12, 3) := by decide +kernel
theorem dX8_removeEdge_28 : decode cX8_removeEdge 28 = .ok (.aload_n 0, 1) := by decide +kernel
theorem dX8_removeEdge_29 : decode cX8_removeEdge 29 = .ok (.getfield 12, 3) := by decide +kernel
theorem dX8_removeEdge_32 : decode cX8_removeEdge 32 = .ok (.invokevirtual 97, 3) := by decide +kernel
theorem dX8_removeEdge_35 : decode cX8_removeEdge 35 = .ok (.iconst 1, 1) := by decide +kernel
theorem dX8_removeEdge_36 : decode cX8_removeEdge 36 = .ok (.iload_n 1, 1) := by decide +kernel
theorem dX8_removeEdge_37 : decode cX8_removeEdge 37 = .ok (.ishl, 1) := by decide +kernel
theorem dX8_removeEdge_38 : decode cX8_removeEdge 38 = .ok (.iconst (-1), 1) := by decide +kernel
theorem dX8_removeEdge_39 : decode cX8_removeEdge 39 = .ok (.ixor, 1) := by decide +kernel
theorem dX8_removeEdge_40 : decode cX8_removeEdge 40 = .ok (.iand, 1) := by decide +kernel
theorem dX8_removeEdge_41 : decode cX8_removeEdge 41 = .ok (.invokevirtual 101, 3) := by decide +kernel
theorem dX8_removeEdge_44 : decode cX8_removeEdge 44 = .ok (.aload_n 0, 1) := by decide +kernel
theorem dX8_removeEdge_45 : decode cX8_removeEdge 45 = .ok (.getfield 12, 3) := by decide +kernel
theorem dX8_removeEdge_48 : decode cX8_removeEdge 48 = .ok (.invokevirtual 84, 3) := by decide +kernel
theorem dX8_removeEdge_51 : decode cX8_removeEdge 51 = .ok (.iload_n 2, 1) := by decide +kernel
theorem dX8_removeEdge_52 : decode cX8_removeEdge 52 = .ok (.ireturn, 1) := by decide +kernel
theorem s_X8_removeEdge : gSt yX8_removeEdge cX8_removeEdge 3 (some .int) 1 := ⟨q2_84, q1_1, ⟨by decide, by decide, by decide +kernel⟩, by decide⟩
theorem sel_X8_removeEdge : Cond.selects yX8_removeEdge.cls yX8_removeEdge yX8_removeEdge ∈ gT := q2_83
theorem ins_X8_removeEdge : Cond.instanceMethod yX8_removeEdge ∈ gT := q2_82
def w_X8_removeEdge (p1 : Int32) (M : gM) (Q : Int32 → gM → Prop) : Prop := w_X5_isEdge p1 M (fun (r2 : Int32) (M1 : gM) => gbr ((r2 : Int32) = 0) (Q (-2) M1) (vp_in p1 24 ∧ (∀ x3 : Int32, x3 = (M1 9 (Int32.toNatClampNeg p1)) → (w_X5_allEdges M1 (fun (r5 : Int32) (M4 : gM) => w_X5_keepOnly (r5 &&& ((1 <<< (p1 &&& 31)) ^^^ (-1))) M4 (fun (M6 : gM) => w_X5_endEdit M6 (fun (M8 : gM) => Q x3 M8)))))))
set_option maxRecDepth 100000 in
set_option maxHeartbeats 4000000 in
theorem k_X8_removeEdge {p1 : Int32} {M : gM} {Q : Int32 → gM → Prop} (h : w_X8_removeEdge p1 M Q) : gCi gL 3 yX8_removeEdge cX8_removeEdge 3 .int [.inr 0, .inl p1] M Q := by
  refine gCi_of (by decide) gLn (gle rfl) (fun X ok hZ => ?_)
  show gW X 0 [some (.inr 0), some (.inl p1), none] [] M
  unfold w_X8_removeEdge at h
  refine g_aload_n ok dX8_removeEdge_0 rfl rfl ?_
  refine g_get (w := .inr 1) ok f0_0 (gLm (by decide)) q2_8 dX8_removeEdge_1 rfl ?_
  refine g_iload_n ok dX8_removeEdge_4 rfl rfl ?_
  refine g_callVi (st := []) (as := [.inl p1]) ok rfl (k_X5_isEdge h) s_X5_isEdge rfl (by decide) (gLm (by decide)) cl1 sel_X5_isEdge ins_X5_isEdge (gle rfl) rfl q2_85 dX8_removeEdge_5 ?_
  intro r2 M1 h
  refine g_if_ne (tgt := 14) ok dX8_removeEdge_8 (by decide) (fun z => ?_) (fun z => ?_)
  · have h := h.2 z
    refine g_aload_n ok dX8_removeEdge_14 rfl rfl ?_
    refine g_get (w := .inr 1) ok f0_0 (gLm (by decide)) q2_8 dX8_removeEdge_15 rfl ?_
    refine g_get (w := .inr 9) ok f1_2 (gLm (by decide)) q1_68 dX8_removeEdge_18 rfl ?_
    refine g_iload_n ok dX8_removeEdge_21 rfl rfl ?_
    have hb := h.1
    have h := h.2
    refine g_iald (w := (M1 9 (Int32.toNatClampNeg p1))) ok a9 (gLm (by decide)) dX8_removeEdge_22 hb rfl ?_
    refine g_nm (fun x3 ex3 => ?_)
    have h := h x3 ex3
    refine g_istore_n (lv1 := [some (.inr 0), some (.inl p1), some (.inl x3)]) ok dX8_removeEdge_23 rfl (glt rfl) rfl ?_
    refine g_aload_n ok dX8_removeEdge_24 rfl rfl ?_
    refine g_get (w := .inr 1) ok f0_0 (gLm (by decide)) q2_8 dX8_removeEdge_25 rfl ?_
    refine g_aload_n ok dX8_removeEdge_28 rfl rfl ?_
    refine g_get (w := .inr 1) ok f0_0 (gLm (by decide)) q2_8 dX8_removeEdge_29 rfl ?_
    refine g_callVi (st := [.inr 1]) (as := []) ok rfl (k_X5_allEdges h) s_X5_allEdges rfl (by decide) (gLm (by decide)) cl1 sel_X5_allEdges ins_X5_allEdges (gle rfl) rfl q2_89 dX8_removeEdge_32 ?_
    intro r5 M4 h
    refine g_iconst (v := 1) ok dX8_removeEdge_35 (by decide) ?_
    refine g_iload_n ok dX8_removeEdge_36 rfl rfl ?_
    refine g_ishl ok dX8_removeEdge_37 ?_
    refine g_iconst (v := (-1)) ok dX8_removeEdge_38 (by decide) ?_
    refine g_ixor ok dX8_removeEdge_39 ?_
    refine g_iand ok dX8_removeEdge_40 ?_
    refine g_callVv (st := []) (as := [.inl (r5 &&& ((1 <<< (p1 &&& 31)) ^^^ (-1)))]) ok rfl (k_X5_keepOnly h) s_X5_keepOnly rfl (by decide) (gLm (by decide)) cl1 sel_X5_keepOnly ins_X5_keepOnly (gle rfl) rfl q2_93 dX8_removeEdge_41 ?_
    intro M6 h
    refine g_aload_n ok dX8_removeEdge_44 rfl rfl ?_
    refine g_get (w := .inr 1) ok f0_0 (gLm (by decide)) q2_8 dX8_removeEdge_45 rfl ?_
    refine g_callVv (st := []) (as := []) ok rfl (k_X5_endEdit h) s_X5_endEdit rfl (by decide) (gLm (by decide)) cl1 sel_X5_endEdit ins_X5_endEdit (gle rfl) rfl q2_67 dX8_removeEdge_48 ?_
    intro M8 h
    refine g_iload_n ok dX8_removeEdge_51 rfl rfl ?_
    exact g_iret ok hZ dX8_removeEdge_52 h
  · have h := h.1 z
    refine g_bipush (v := (-2)) ok dX8_removeEdge_11 (by decide) ?_
    exact g_iret ok hZ dX8_removeEdge_13 h
theorem dX8_minimize_0 : decode cX8_minimize 0 = .ok (.aload_n 0, 1) := by decide +kernel
theorem dX8_minimize_1 : decode cX8_minimize 1 = .ok (.getfield 12, 3) := by decide +kernel
theorem dX8_minimize_4 : decode cX8_minimize 4 = .ok (.getfield 87, 3) := by decide +kernel
theorem dX8_minimize_7 : decode cX8_minimize 7 = .ok (.istore_n 1, 1) := by decide +kernel
theorem dX8_minimize_8 : decode cX8_minimize 8 = .ok (.aload_n 0, 1) := by decide +kernel
theorem dX8_minimize_9 : decode cX8_minimize 9 = .ok (.getfield 12, 3) := by decide +kernel
theorem dX8_minimize_12 : decode cX8_minimize 12 = .ok (.aload_n 0, 1) := by decide +kernel
theorem dX8_minimize_13 : decode cX8_minimize 13 = .ok (.getfield 12, 3) := by decide +kernel
theorem dX8_minimize_16 : decode cX8_minimize 16 = .ok (.invokevirtual 104, 3) := by decide +kernel
theorem dX8_minimize_19 : decode cX8_minimize 19 = .ok (.invokevirtual 101, 3) := by decide +kernel
theorem dX8_minimize_22 : decode cX8_minimize 22 = .ok (.aload_n 0, 1) := by decide +kernel
theorem dX8_minimize_23 : decode cX8_minimize 23 = .ok (.getfield 12, 3) := by decide +kernel
theorem dX8_minimize_26 : decode cX8_minimize 26 = .ok (.invokevirtual 84, 3) := by decide +kernel
theorem dX8_minimize_29 : decode cX8_minimize 29 = .ok (.iload_n 1, 1) := by decide +kernel
theorem dX8_minimize_30 : decode cX8_minimize 30 = .ok (.aload_n 0, 1) := by decide +kernel
theorem dX8_minimize_31 : decode cX8_minimize 31 = .ok (.getfield 12, 3) := by decide +kernel
theorem dX8_minimize_34 : decode cX8_minimize 34 = .ok (.getfield 87, 3) := by decide +kernel
theorem dX8_minimize_37 : decode cX8_minimize 37 = .ok (.isub, 1) := by decide +kernel
theorem dX8_minimize_38 : decode cX8_minimize 38 = .ok (.ireturn, 1) := by decide +kernel
theorem s_X8_minimize : gSt yX8_minimize cX8_minimize 2 (some .int) 0 := ⟨q2_101, q1_1, ⟨by decide, by decide, by decide +kernel⟩, by decide⟩
theorem sel_X8_minimize : Cond.selects yX8_minimize.cls yX8_minimize yX8_minimize ∈ gT := q2_100
theorem ins_X8_minimize : Cond.instanceMethod yX8_minimize ∈ gT := q2_99
def w_X8_minimize  (M : gM) (Q : Int32 → gM → Prop) : Prop := ∀ x1 : Int32, x1 = (M 1 1) → (w_X5_minimalEdges M (fun (r3 : Int32) (M2 : gM) => w_X5_keepOnly r3 M2 (fun (M4 : gM) => w_X5_endEdit M4 (fun (M6 : gM) => Q (x1 - (M6 1 1)) M6))))
set_option maxRecDepth 100000 in
set_option maxHeartbeats 4000000 in
theorem k_X8_minimize  {M : gM} {Q : Int32 → gM → Prop} (h : w_X8_minimize  M Q) : gCi gL 3 yX8_minimize cX8_minimize 2 .int [.inr 0] M Q := by
  refine gCi_of (by decide) gLn (gle rfl) (fun X ok hZ => ?_)
  show gW X 0 [some (.inr 0), none] [] M
  unfold w_X8_minimize at h
  refine g_aload_n ok dX8_minimize_0 rfl rfl ?_
  refine g_get (w := .inr 1) ok f0_0 (gLm (by decide)) q2_8 dX8_minimize_1 rfl ?_
  refine g_get (w := .inl (M 1 1)) ok f1_1 (gLm (by decide)) q1_64 dX8_minimize_4 rfl ?_
  refine g_nm (fun x1 ex1 => ?_)
  have h := h x1 ex1
  refine g_istore_n (lv1 := [some (.inr 0), some (.inl x1)]) ok dX8_minimize_7 rfl (glt rfl) rfl ?_
  refine g_aload_n ok dX8_minimize_8 rfl rfl ?_
  refine g_get (w := .inr 1) ok f0_0 (gLm (by decide)) q2_8 dX8_minimize_9 rfl ?_
  refine g_aload_n ok dX8_minimize_12 rfl rfl ?_
  refine g_get (w := .inr 1) ok f0_0 (gLm (by decide)) q2_8 dX8_minimize_13 rfl ?_
  refine g_callVi (st := [.inr 1]) (as := []) ok rfl (k_X5_minimalEdges h) s_X5_minimalEdges rfl (by decide) (gLm (by decide)) cl1 sel_X5_minimalEdges ins_X5_minimalEdges (gle rfl) rfl q2_102 dX8_minimize_16 ?_
  intro r3 M2 h
  refine g_callVv (st := []) (as := [.inl r3]) ok rfl (k_X5_keepOnly h) s_X5_keepOnly rfl (by decide) (gLm (by decide)) cl1 sel_X5_keepOnly ins_X5_keepOnly (gle rfl) rfl q2_93 dX8_minimize_19 ?_
  intro M4 h
  refine g_aload_n ok dX8_minimize_22 rfl rfl ?_
  refine g_get (w := .inr 1) ok f0_0 (gLm (by decide)) q2_8 dX8_minimize_23 rfl ?_
  refine g_callVv (st := []) (as := []) ok rfl (k_X5_endEdit h) s_X5_endEdit rfl (by decide) (gLm (by decide)) cl1 sel_X5_endEdit ins_X5_endEdit (gle rfl) rfl q2_67 dX8_minimize_26 ?_
  intro M6 h
  refine g_iload_n ok dX8_minimize_29 rfl rfl ?_
  refine g_aload_n ok dX8_minimize_30 rfl rfl ?_
  refine g_get (w := .inr 1) ok f0_0 (gLm (by decide)) q2_8 dX8_minimize_31 rfl ?_
  refine g_get (w := .inl (M6 1 1)) ok f1_1 (gLm (by decide)) q1_64 dX8_minimize_34 rfl ?_
  refine g_isub ok dX8_minimize_37 ?_
  exact g_iret ok hZ dX8_minimize_38 h
theorem dX8_contract_0 : decode cX8_contract 0 = .ok (.aload_n 0, 1) := by decide +kernel
theorem dX8_contract_1 : decode cX8_contract 1 = .ok (.getfield 12, 3) := by decide +kernel
theorem dX8_contract_4 : decode cX8_contract 4 = .ok (.iload_n 1, 1) := by decide +kernel
theorem dX8_contract_5 : decode cX8_contract 5 = .ok (.invokevirtual 107, 3) := by decide +kernel
theorem dX8_contract_8 : decode cX8_contract 8 = .ok (.ifCond .ne 5, 3) := by decide +kernel
theorem dX8_contract_11 : decode cX8_contract 11 = .ok (.iconst (-1), 1) := by decide +kernel
theorem dX8_contract_12 : decode cX8_contract 12 = .ok (.ireturn, 1) := by decide +kernel
theorem dX8_contract_13 : decode cX8_contract 13 = .ok (.aload_n 0, 1) := by decide +kernel
theorem dX8_contract_14 : decode cX8_contract 14 = .ok (.getfield 12, 3) := by decide +kernel
theorem dX8_contract_17 : decode cX8_contract 17 = .ok (.getfield 110, 3) := by decide +kernel
theorem dX8_contract_20 : decode cX8_contract 20 = .ok (.iload_n 1, 1) := by decide +kernel
theorem dX8_contract_21 : decode cX8_contract 21 = .ok (.iaload, 1) := by decide +kernel
theorem dX8_contract_22 : decode cX8_contract 22 = .ok (.invokestatic 113, 3) := by decide +kernel
theorem dX8_contract_25 : decode cX8_contract 25 = .ok (.istore_n 2, 1) := by decide +kernel
theorem dX8_contract_26 : decode cX8_contract 26 = .ok (.aload_n 0, 1) := by decide +kernel
theorem dX8_contract_27 : decode cX8_contract 27 = .ok (.getfield 12, 3) := by decide +kernel
theorem dX8_contract_30 : decode cX8_contract 30 = .ok (.iload_n 1, 1) := by decide +kernel
theorem dX8_contract_31 : decode cX8_contract 31 = .ok (.invokevirtual 119, 3) := by decide +kernel
theorem dX8_contract_34 : decode cX8_contract 34 = .ok (.aload_n 0, 1) := by decide +kernel
theorem dX8_contract_35 : decode cX8_contract 35 = .ok (.getfield 12, 3) := by decide +kernel
theorem dX8_contract_38 : decode cX8_contract 38 = .ok (.invokevirtual 84, 3) := by decide +kernel
theorem dX8_contract_41 : decode cX8_contract 41 = .ok (.iload_n 2, 1) := by decide +kernel
theorem dX8_contract_42 : decode cX8_contract 42 = .ok (.ireturn, 1) := by decide +kernel
theorem s_X8_contract : gSt yX8_contract cX8_contract 3 (some .int) 1 := ⟨q2_116, q1_1, ⟨by decide, by decide, by decide +kernel⟩, by decide⟩
theorem sel_X8_contract : Cond.selects yX8_contract.cls yX8_contract yX8_contract ∈ gT := q2_115
theorem ins_X8_contract : Cond.instanceMethod yX8_contract ∈ gT := q2_114
def w_X8_contract (p1 : Int32) (M : gM) (Q : Int32 → gM → Prop) : Prop := w_X5_isVertex p1 M (fun (r2 : Int32) (M1 : gM) => gbr ((r2 : Int32) = 0) (Q (-1) M1) (vp_in p1 14 ∧ (w_J6_bitCount_0f7a4 (M1 10 (Int32.toNatClampNeg p1)) M1 (fun (r4 : Int32) (M3 : gM) => w_X5_takeOut p1 M3 (fun (M5 : gM) => w_X5_endEdit M5 (fun (M7 : gM) => Q r4 M7))))))
set_option maxRecDepth 100000 in
set_option maxHeartbeats 4000000 in
theorem k_X8_contract {p1 : Int32} {M : gM} {Q : Int32 → gM → Prop} (h : w_X8_contract p1 M Q) : gCi gL 3 yX8_contract cX8_contract 3 .int [.inr 0, .inl p1] M Q := by
  refine gCi_of (by decide) gLn (gle rfl) (fun X ok hZ => ?_)
  show gW X 0 [some (.inr 0), some (.inl p1), none] [] M
  unfold w_X8_contract at h
  refine g_aload_n ok dX8_contract_0 rfl rfl ?_
  refine g_get (w := .inr 1) ok f0_0 (gLm (by decide)) q2_8 dX8_contract_1 rfl ?_
  refine g_iload_n ok dX8_contract_4 rfl rfl ?_
  refine g_callVi (st := []) (as := [.inl p1]) ok rfl (k_X5_isVertex h) s_X5_isVertex rfl (by decide) (gLm (by decide)) cl1 sel_X5_isVertex ins_X5_isVertex (gle rfl) rfl q2_117 dX8_contract_5 ?_
  intro r2 M1 h
  refine g_if_ne (tgt := 13) ok dX8_contract_8 (by decide) (fun z => ?_) (fun z => ?_)
  · have h := h.2 z
    refine g_aload_n ok dX8_contract_13 rfl rfl ?_
    refine g_get (w := .inr 1) ok f0_0 (gLm (by decide)) q2_8 dX8_contract_14 rfl ?_
    refine g_get (w := .inr 10) ok f1_3 (gLm (by decide)) q1_73 dX8_contract_17 rfl ?_
    refine g_iload_n ok dX8_contract_20 rfl rfl ?_
    have hb := h.1
    have h := h.2
    refine g_iald (w := (M1 10 (Int32.toNatClampNeg p1))) ok a10 (gLm (by decide)) dX8_contract_21 hb rfl ?_
    refine g_callSi (st := []) (as := [.inl (M1 10 (Int32.toNatClampNeg p1))]) ok rfl (k_J6_bitCount_0f7a4 h) s_J6_bitCount_0f7a4 rfl (by decide) stt_J6_bitCount_0f7a4 (gle rfl) rfl q2_121 dX8_contract_22 ?_
    intro r4 M3 h
    refine g_istore_n (lv1 := [some (.inr 0), some (.inl p1), some (.inl r4)]) ok dX8_contract_25 rfl (glt rfl) rfl ?_
    refine g_aload_n ok dX8_contract_26 rfl rfl ?_
    refine g_get (w := .inr 1) ok f0_0 (gLm (by decide)) q2_8 dX8_contract_27 rfl ?_
    refine g_iload_n ok dX8_contract_30 rfl rfl ?_
    refine g_callVv (st := []) (as := [.inl p1]) ok rfl (k_X5_takeOut h) s_X5_takeOut rfl (by decide) (gLm (by decide)) cl1 sel_X5_takeOut ins_X5_takeOut (gle rfl) rfl q2_127 dX8_contract_31 ?_
    intro M5 h
    refine g_aload_n ok dX8_contract_34 rfl rfl ?_
    refine g_get (w := .inr 1) ok f0_0 (gLm (by decide)) q2_8 dX8_contract_35 rfl ?_
    refine g_callVv (st := []) (as := []) ok rfl (k_X5_endEdit h) s_X5_endEdit rfl (by decide) (gLm (by decide)) cl1 sel_X5_endEdit ins_X5_endEdit (gle rfl) rfl q2_67 dX8_contract_38 ?_
    intro M7 h
    refine g_iload_n ok dX8_contract_41 rfl rfl ?_
    exact g_iret ok hZ dX8_contract_42 h
  · have h := h.1 z
    refine g_iconst (v := (-1)) ok dX8_contract_11 (by decide) ?_
    exact g_iret ok hZ dX8_contract_12 h
theorem dX8_delete_0 : decode cX8_delete 0 = .ok (.aload_n 0, 1) := by decide +kernel
theorem dX8_delete_1 : decode cX8_delete 1 = .ok (.getfield 12, 3) := by decide +kernel
theorem dX8_delete_4 : decode cX8_delete 4 = .ok (.iload_n 1, 1) := by decide +kernel
theorem dX8_delete_5 : decode cX8_delete 5 = .ok (.invokevirtual 107, 3) := by decide +kernel
theorem dX8_delete_8 : decode cX8_delete 8 = .ok (.ifCond .ne 5, 3) := by decide +kernel
theorem dX8_delete_11 : decode cX8_delete 11 = .ok (.iconst (-1), 1) := by decide +kernel
theorem dX8_delete_12 : decode cX8_delete 12 = .ok (.ireturn, 1) := by decide +kernel
theorem dX8_delete_13 : decode cX8_delete 13 = .ok (.aload_n 0, 1) := by decide +kernel
theorem dX8_delete_14 : decode cX8_delete 14 = .ok (.getfield 12, 3) := by decide +kernel
theorem dX8_delete_17 : decode cX8_delete 17 = .ok (.getfield 87, 3) := by decide +kernel
theorem dX8_delete_20 : decode cX8_delete 20 = .ok (.istore_n 2, 1) := by decide +kernel
theorem dX8_delete_21 : decode cX8_delete 21 = .ok (.aload_n 0, 1) := by decide +kernel
theorem dX8_delete_22 : decode cX8_delete 22 = .ok (.getfield 12, 3) := by decide +kernel
theorem dX8_delete_25 : decode cX8_delete 25 = .ok (.aload_n 0, 1) := by decide +kernel
theorem dX8_delete_26 : decode cX8_delete 26 = .ok (.getfield 12, 3) := by decide +kernel
theorem dX8_delete_29 : decode cX8_delete 29 = .ok (.invokevirtual 97, 3) := by decide +kernel
theorem dX8_delete_32 : decode cX8_delete 32 = .ok (.aload_n 0, 1) := by decide +kernel
theorem dX8_delete_33 : decode cX8_delete 33 = .ok (.getfield 12, 3) := by decide +kernel
theorem dX8_delete_36 : decode cX8_delete 36 = .ok (.getfield 110, 3) := by decide +kernel
theorem dX8_delete_39 : decode cX8_delete 39 = .ok (.iload_n 1, 1) := by decide +kernel
theorem dX8_delete_40 : decode cX8_delete 40 = .ok (.iaload, 1) := by decide +kernel
theorem dX8_delete_41 : decode cX8_delete 41 = .ok (.iconst (-1), 1) := by decide +kernel
theorem dX8_delete_42 : decode cX8_delete 42 = .ok (.ixor, 1) := by decide +kernel
theorem dX8_delete_43 : decode cX8_delete 43 = .ok (.iand, 1) := by decide +kernel
theorem dX8_delete_44 : decode cX8_delete 44 = .ok (.invokevirtual 101, 3) := by decide +kernel
theorem dX8_delete_47 : decode cX8_delete 47 = .ok (.aload_n 0, 1) := by decide +kernel
theorem dX8_delete_48 : decode cX8_delete 48 = .ok (.getfield 12, 3) := by decide +kernel
theorem dX8_delete_51 : decode cX8_delete 51 = .ok (.invokevirtual 84, 3) := by decide +kernel
theorem dX8_delete_54 : decode cX8_delete 54 = .ok (.iload_n 2, 1) := by decide +kernel
theorem dX8_delete_55 : decode cX8_delete 55 = .ok (.aload_n 0, 1) := by decide +kernel
theorem dX8_delete_56 : decode cX8_delete 56 = .ok (.getfield 12, 3) := by decide +kernel
theorem dX8_delete_59 : decode cX8_delete 59 = .ok (.getfield 87, 3) := by decide +kernel
theorem dX8_delete_62 : decode cX8_delete 62 = .ok (.isub, 1) := by decide +kernel
theorem dX8_delete_63 : decode cX8_delete 63 = .ok (.ireturn, 1) := by decide +kernel
theorem s_X8_delete : gSt yX8_delete cX8_delete 3 (some .int) 1 := ⟨q2_135, q1_1, ⟨by decide, by decide, by decide +kernel⟩, by decide⟩
theorem sel_X8_delete : Cond.selects yX8_delete.cls yX8_delete yX8_delete ∈ gT := q2_134
theorem ins_X8_delete : Cond.instanceMethod yX8_delete ∈ gT := q2_133
def w_X8_delete (p1 : Int32) (M : gM) (Q : Int32 → gM → Prop) : Prop := w_X5_isVertex p1 M (fun (r2 : Int32) (M1 : gM) => gbr ((r2 : Int32) = 0) (Q (-1) M1) (∀ x3 : Int32, x3 = (M1 1 1) → (w_X5_allEdges M1 (fun (r5 : Int32) (M4 : gM) => vp_in p1 14 ∧ (w_X5_keepOnly (r5 &&& ((M4 10 (Int32.toNatClampNeg p1)) ^^^ (-1))) M4 (fun (M6 : gM) => w_X5_endEdit M6 (fun (M8 : gM) => Q (x3 - (M8 1 1)) M8)))))))
set_option maxRecDepth 100000 in
set_option maxHeartbeats 4000000 in
theorem k_X8_delete {p1 : Int32} {M : gM} {Q : Int32 → gM → Prop} (h : w_X8_delete p1 M Q) : gCi gL 3 yX8_delete cX8_delete 3 .int [.inr 0, .inl p1] M Q := by
  refine gCi_of (by decide) gLn (gle rfl) (fun X ok hZ => ?_)
  show gW X 0 [some (.inr 0), some (.inl p1), none] [] M
  unfold w_X8_delete at h
  refine g_aload_n ok dX8_delete_0 rfl rfl ?_
  refine g_get (w := .inr 1) ok f0_0 (gLm (by decide)) q2_8 dX8_delete_1 rfl ?_
  refine g_iload_n ok dX8_delete_4 rfl rfl ?_
  refine g_callVi (st := []) (as := [.inl p1]) ok rfl (k_X5_isVertex h) s_X5_isVertex rfl (by decide) (gLm (by decide)) cl1 sel_X5_isVertex ins_X5_isVertex (gle rfl) rfl q2_117 dX8_delete_5 ?_
  intro r2 M1 h
  refine g_if_ne (tgt := 13) ok dX8_delete_8 (by decide) (fun z => ?_) (fun z => ?_)
  · have h := h.2 z
    refine g_aload_n ok dX8_delete_13 rfl rfl ?_
    refine g_get (w := .inr 1) ok f0_0 (gLm (by decide)) q2_8 dX8_delete_14 rfl ?_
    refine g_get (w := .inl (M1 1 1)) ok f1_1 (gLm (by decide)) q1_64 dX8_delete_17 rfl ?_
    refine g_nm (fun x3 ex3 => ?_)
    have h := h x3 ex3
    refine g_istore_n (lv1 := [some (.inr 0), some (.inl p1), some (.inl x3)]) ok dX8_delete_20 rfl (glt rfl) rfl ?_
    refine g_aload_n ok dX8_delete_21 rfl rfl ?_
    refine g_get (w := .inr 1) ok f0_0 (gLm (by decide)) q2_8 dX8_delete_22 rfl ?_
    refine g_aload_n ok dX8_delete_25 rfl rfl ?_
    refine g_get (w := .inr 1) ok f0_0 (gLm (by decide)) q2_8 dX8_delete_26 rfl ?_
    refine g_callVi (st := [.inr 1]) (as := []) ok rfl (k_X5_allEdges h) s_X5_allEdges rfl (by decide) (gLm (by decide)) cl1 sel_X5_allEdges ins_X5_allEdges (gle rfl) rfl q2_89 dX8_delete_29 ?_
    intro r5 M4 h
    refine g_aload_n ok dX8_delete_32 rfl rfl ?_
    refine g_get (w := .inr 1) ok f0_0 (gLm (by decide)) q2_8 dX8_delete_33 rfl ?_
    refine g_get (w := .inr 10) ok f1_3 (gLm (by decide)) q1_73 dX8_delete_36 rfl ?_
    refine g_iload_n ok dX8_delete_39 rfl rfl ?_
    have hb := h.1
    have h := h.2
    refine g_iald (w := (M4 10 (Int32.toNatClampNeg p1))) ok a10 (gLm (by decide)) dX8_delete_40 hb rfl ?_
    refine g_iconst (v := (-1)) ok dX8_delete_41 (by decide) ?_
    refine g_ixor ok dX8_delete_42 ?_
    refine g_iand ok dX8_delete_43 ?_
    refine g_callVv (st := []) (as := [.inl (r5 &&& ((M4 10 (Int32.toNatClampNeg p1)) ^^^ (-1)))]) ok rfl (k_X5_keepOnly h) s_X5_keepOnly rfl (by decide) (gLm (by decide)) cl1 sel_X5_keepOnly ins_X5_keepOnly (gle rfl) rfl q2_93 dX8_delete_44 ?_
    intro M6 h
    refine g_aload_n ok dX8_delete_47 rfl rfl ?_
    refine g_get (w := .inr 1) ok f0_0 (gLm (by decide)) q2_8 dX8_delete_48 rfl ?_
    refine g_callVv (st := []) (as := []) ok rfl (k_X5_endEdit h) s_X5_endEdit rfl (by decide) (gLm (by decide)) cl1 sel_X5_endEdit ins_X5_endEdit (gle rfl) rfl q2_67 dX8_delete_51 ?_
    intro M8 h
    refine g_iload_n ok dX8_delete_54 rfl rfl ?_
    refine g_aload_n ok dX8_delete_55 rfl rfl ?_
    refine g_get (w := .inr 1) ok f0_0 (gLm (by decide)) q2_8 dX8_delete_56 rfl ?_
    refine g_get (w := .inl (M8 1 1)) ok f1_1 (gLm (by decide)) q1_64 dX8_delete_59 rfl ?_
    refine g_isub ok dX8_delete_62 ?_
    exact g_iret ok hZ dX8_delete_63 h
  · have h := h.1 z
    refine g_iconst (v := (-1)) ok dX8_delete_11 (by decide) ?_
    exact g_iret ok hZ dX8_delete_12 h
theorem dX8_dualize_0 : decode cX8_dualize 0 = .ok (.aload_n 0, 1) := by decide +kernel
theorem dX8_dualize_1 : decode cX8_dualize 1 = .ok (.getfield 12, 3) := by decide +kernel
theorem dX8_dualize_4 : decode cX8_dualize 4 = .ok (.getfield 87, 3) := by decide +kernel
theorem dX8_dualize_7 : decode cX8_dualize 7 = .ok (.ifCond .ne 6, 3) := by decide +kernel
theorem dX8_dualize_10 : decode cX8_dualize 10 = .ok (.bipush (-3), 2) := by decide +kernel
theorem dX8_dualize_12 : decode cX8_dualize 12 = .ok (.ireturn, 1) := by decide +kernel
theorem dX8_dualize_13 : decode cX8_dualize 13 = .ok (.aload_n 0, 1) := by decide +kernel
theorem dX8_dualize_14 : decode cX8_dualize 14 = .ok (.getfield 31, 3) := by decide +kernel
theorem dX8_dualize_17 : decode cX8_dualize 17 = .ok (.invokevirtual 122, 3) := by decide +kernel
theorem dX8_dualize_20 : decode cX8_dualize 20 = .ok (.ifCond .ne 6, 3) := by decide +kernel
theorem dX8_dualize_23 : decode cX8_dualize 23 = .ok (.bipush (-6), 2) := by decide +kernel
theorem dX8_dualize_25 : decode cX8_dualize 25 = .ok (.ireturn, 1) := by decide +kernel
theorem dX8_dualize_26 : decode cX8_dualize 26 = .ok (.aload_n 0, 1) := by decide +kernel
theorem dX8_dualize_27 : decode cX8_dualize 27 = .ok (.getfield 31, 3) := by decide +kernel
theorem dX8_dualize_30 : decode cX8_dualize 30 = .ok (.getfield 125, 3) := by decide +kernel
theorem dX8_dualize_33 : decode cX8_dualize 33 = .ok (.bipush 24, 2) := by decide +kernel
theorem dX8_dualize_35 : decode cX8_dualize 35 = .ok (.if_icmp .le 6, 3) := by decide +kernel
theorem dX8_dualize_38 : decode cX8_dualize 38 = .ok (.bipush (-5), 2) := by decide +kernel
theorem dX8_dualize_40 : decode cX8_dualize 40 = .ok (.ireturn, 1) := by decide +kernel
theorem dX8_dualize_41 : decode cX8_dualize 41 = .ok (.aload_n 0, 1) := by decide +kernel
theorem dX8_dualize_42 : decode cX8_dualize 42 = .ok (.getfield 12, 3) := by decide +kernel
theorem dX8_dualize_45 : decode cX8_dualize 45 = .ok (.iconst 0, 1) := by decide +kernel
theorem dX8_dualize_46 : decode cX8_dualize 46 = .ok (.invokevirtual 101, 3) := by decide +kernel
theorem dX8_dualize_49 : decode cX8_dualize 49 = .ok (.iconst (-1), 1) := by decide +kernel
theorem dX8_dualize_50 : decode cX8_dualize 50 = .ok (.istore_n 1, 1) := by decide +kernel
theorem dX8_dualize_51 : decode cX8_dualize 51 = .ok (.iconst 0, 1) := by decide +kernel
theorem dX8_dualize_52 : decode cX8_dualize 52 = .ok (.istore_n 2, 1) := by decide +kernel
theorem dX8_dualize_53 : decode cX8_dualize 53 = .ok (.iload_n 2, 1) := by decide +kernel
theorem dX8_dualize_54 : decode cX8_dualize 54 = .ok (.aload_n 0, 1) := by decide +kernel
theorem dX8_dualize_55 : decode cX8_dualize 55 = .ok (.getfield 31, 3) := by decide +kernel
theorem dX8_dualize_58 : decode cX8_dualize 58 = .ok (.getfield 125, 3) := by decide +kernel
theorem dX8_dualize_61 : decode cX8_dualize 61 = .ok (.if_icmp .ge 26, 3) := by decide +kernel
theorem dX8_dualize_64 : decode cX8_dualize 64 = .ok (.aload_n 0, 1) := by decide +kernel
theorem dX8_dualize_65 : decode cX8_dualize 65 = .ok (.getfield 31, 3) := by decide +kernel
theorem dX8_dualize_68 : decode cX8_dualize 68 = .ok (.iload_n 1, 1) := by decide +kernel
theorem dX8_dualize_69 : decode cX8_dualize 69 = .ok (.invokevirtual 128, 3) := by decide +kernel
theorem dX8_dualize_72 : decode cX8_dualize 72 = .ok (.istore_n 1, 1) := by decide +kernel
theorem dX8_dualize_73 : decode cX8_dualize 73 = .ok (.aload_n 0, 1) := by decide +kernel
theorem dX8_dualize_74 : decode cX8_dualize 74 = .ok (.getfield 12, 3) := by decide +kernel
theorem dX8_dualize_77 : decode cX8_dualize 77 = .ok (.iload_n 1, 1) := by decide +kernel
theorem dX8_dualize_78 : decode cX8_dualize 78 = .ok (.invokevirtual 81, 3) := by decide +kernel
theorem dX8_dualize_81 : decode cX8_dualize 81 = .ok (.iinc 2 1, 3) := by decide +kernel
theorem dX8_dualize_84 : decode cX8_dualize 84 = .ok (.goto (-31), 3) := by decide +kernel
theorem dX8_dualize_87 : decode cX8_dualize 87 = .ok (.aload_n 0, 1) := by decide +kernel
theorem dX8_dualize_88 : decode cX8_dualize 88 = .ok (.getfield 12, 3) := by decide +kernel
theorem dX8_dualize_91 : decode cX8_dualize 91 = .ok (.invokevirtual 84, 3) := by decide +kernel
theorem dX8_dualize_94 : decode cX8_dualize 94 = .ok (.aload_n 0, 1) := by decide +kernel
theorem dX8_dualize_95 : decode cX8_dualize 95 = .ok (.getfield 12, 3) := by decide +kernel
theorem dX8_dualize_98 : decode cX8_dualize 98 = .ok (.getfield 87, 3) := by decide +kernel
theorem dX8_dualize_101 : decode cX8_dualize 101 = .ok (.ireturn, 1) := by decide +kernel
theorem s_X8_dualize : gSt yX8_dualize cX8_dualize 3 (some .int) 0 := ⟨q2_139, q1_1, ⟨by decide, by decide, by decide +kernel⟩, by decide⟩
theorem sel_X8_dualize : Cond.selects yX8_dualize.cls yX8_dualize yX8_dualize ∈ gT := q2_138
theorem ins_X8_dualize : Cond.instanceMethod yX8_dualize ∈ gT := q2_137
def w_X8_dualize_L53 (Q : Int32 → gM → Prop) (K87 : Int32 → Int32 → gM → Prop) : Nat → Int32 → Int32 → gM → Prop
  | 0, _, _, _ => False
  | n + 1, v1, v2, M => gbr ((v2 : Int32) < (M 4 2)) (w_X6_leastAbove v1 M (fun (r6 : Int32) (M5 : gM) => w_X5_append r6 M5 (fun (M7 : gM) => ∀ x9 : Int32, x9 = (v2 + 1) → (w_X8_dualize_L53 Q K87 n (r6) (x9) M7)))) (K87 (v1) (v2) M)
def w_X8_dualize  (M : gM) (Q : Int32 → gM → Prop) : Prop := gbr (((M 1 1) : Int32) = 0) (Q (-3) M) (w_X6_succeeds M (fun (r2 : Int32) (M1 : gM) => gbr ((r2 : Int32) = 0) (Q (-6) M1) (gbr ((24 : Int32) < (M1 4 2)) (Q (-5) M1) (w_X5_keepOnly 0 M1 (fun (M3 : gM) => ∃ nf, w_X8_dualize_L53 Q (fun (x10 : Int32) (x11 : Int32) (M12 : gM) => w_X5_endEdit M12 (fun (M13 : gM) => Q (M13 1 1) M13))  nf (-1) 0 M3)))))
set_option maxRecDepth 100000 in
set_option maxHeartbeats 4000000 in
theorem w_X8_dualize_L53_w {X : gX} (ok : gOk X cX8_dualize yX8_dualize.cls 21 3 (some .int) gL) {Q : Int32 → gM → Prop} (hZ : gZi X Q) {K87 : Int32 → Int32 → gM → Prop}  (hK87 : ∀ (v1 : Int32) (v2 : Int32)  (M : gM), K87 v1 v2 M → gW X 87 [some (.inr 0), some (.inl v1), some (.inl v2)] [] M) : ∀ (n : Nat) (v1 : Int32) (v2 : Int32)  (M : gM), w_X8_dualize_L53 Q K87 n v1 v2 M → gW X 53 [some (.inr 0), some (.inl v1), some (.inl v2)] [] M
  | 0, _, _, _, h => h.elim
  | n + 1, v1, v2, M, h => by
    have ih := fun (v1 : Int32) (v2 : Int32)  (M : gM) h => w_X8_dualize_L53_w ok hZ  hK87 n v1 v2  M h
    rw [w_X8_dualize_L53.eq_2] at h
    refine g_iload_n ok dX8_dualize_53 rfl rfl ?_
    refine g_aload_n ok dX8_dualize_54 rfl rfl ?_
    refine g_get (w := .inr 4) ok f0_2 (gLm (by decide)) q2_10 dX8_dualize_55 rfl ?_
    refine g_get (w := .inl (M 4 2)) ok f4_2 (gLm (by decide)) q1_126 dX8_dualize_58 rfl ?_
    refine g_icmp_ge (tgt := 87) ok dX8_dualize_61 (by decide) (fun z => ?_) (fun z => ?_)
    · have h := h.2 z
      exact hK87 (v1) (v2) M h
    · have h := h.1 z
      refine g_aload_n ok dX8_dualize_64 rfl rfl ?_
      refine g_get (w := .inr 4) ok f0_2 (gLm (by decide)) q2_10 dX8_dualize_65 rfl ?_
      refine g_iload_n ok dX8_dualize_68 rfl rfl ?_
      refine g_callVi (st := []) (as := [.inl v1]) ok rfl (k_X6_leastAbove h) s_X6_leastAbove rfl (by decide) (gLm (by decide)) cl4 sel_X6_leastAbove ins_X6_leastAbove (gle rfl) rfl q2_162 dX8_dualize_69 ?_
      intro r6 M5 h
      refine g_istore_n (lv1 := [some (.inr 0), some (.inl r6), some (.inl v2)]) ok dX8_dualize_72 rfl (glt rfl) rfl ?_
      refine g_aload_n ok dX8_dualize_73 rfl rfl ?_
      refine g_get (w := .inr 1) ok f0_0 (gLm (by decide)) q2_8 dX8_dualize_74 rfl ?_
      refine g_iload_n ok dX8_dualize_77 rfl rfl ?_
      refine g_callVv (st := []) (as := [.inl r6]) ok rfl (k_X5_append h) s_X5_append rfl (by decide) (gLm (by decide)) cl1 sel_X5_append ins_X5_append (gle rfl) rfl q2_62 dX8_dualize_78 ?_
      intro M7 h
      obtain ⟨x9, ex9⟩ : ∃ y : Int32, y = (v2 + 1) := ⟨_, rfl⟩
      have h := h x9 ex9
      refine g_iinc (v := x9) (lv1 := [some (.inr 0), some (.inl r6), some (.inl x9)]) ok dX8_dualize_81 rfl (by rw [ex9]; rfl) rfl ?_
      refine g_goto (tgt := 53) ok dX8_dualize_84 (by decide) ?_
      exact ih (r6) (x9) M7 h
set_option maxRecDepth 100000 in
set_option maxHeartbeats 4000000 in
theorem k_X8_dualize  {M : gM} {Q : Int32 → gM → Prop} (h : w_X8_dualize  M Q) : gCi gL 21 yX8_dualize cX8_dualize 3 .int [.inr 0] M Q := by
  refine gCi_of (by decide) gLn (gle rfl) (fun X ok hZ => ?_)
  show gW X 0 [some (.inr 0), none, none] [] M
  unfold w_X8_dualize at h
  refine g_aload_n ok dX8_dualize_0 rfl rfl ?_
  refine g_get (w := .inr 1) ok f0_0 (gLm (by decide)) q2_8 dX8_dualize_1 rfl ?_
  refine g_get (w := .inl (M 1 1)) ok f1_1 (gLm (by decide)) q1_64 dX8_dualize_4 rfl ?_
  refine g_if_ne (tgt := 13) ok dX8_dualize_7 (by decide) (fun z => ?_) (fun z => ?_)
  · have h := h.2 z
    refine g_aload_n ok dX8_dualize_13 rfl rfl ?_
    refine g_get (w := .inr 4) ok f0_2 (gLm (by decide)) q2_10 dX8_dualize_14 rfl ?_
    refine g_callVi (st := []) (as := []) ok rfl (k_X6_succeeds h) s_X6_succeeds rfl (by decide) (gLm (by decide)) cl4 sel_X6_succeeds ins_X6_succeeds (gle rfl) rfl q2_140 dX8_dualize_17 ?_
    intro r2 M1 h
    refine g_if_ne (tgt := 26) ok dX8_dualize_20 (by decide) (fun z => ?_) (fun z => ?_)
    · have h := h.2 z
      refine g_aload_n ok dX8_dualize_26 rfl rfl ?_
      refine g_get (w := .inr 4) ok f0_2 (gLm (by decide)) q2_10 dX8_dualize_27 rfl ?_
      refine g_get (w := .inl (M1 4 2)) ok f4_2 (gLm (by decide)) q1_126 dX8_dualize_30 rfl ?_
      refine g_bipush (v := 24) ok dX8_dualize_33 (by decide) ?_
      refine g_icmp_le (tgt := 41) ok dX8_dualize_35 (by decide) (fun z => ?_) (fun z => ?_)
      · have h := h.2 z
        refine g_aload_n ok dX8_dualize_41 rfl rfl ?_
        refine g_get (w := .inr 1) ok f0_0 (gLm (by decide)) q2_8 dX8_dualize_42 rfl ?_
        refine g_iconst (v := 0) ok dX8_dualize_45 (by decide) ?_
        refine g_callVv (st := []) (as := [.inl 0]) ok rfl (k_X5_keepOnly h) s_X5_keepOnly rfl (by decide) (gLm (by decide)) cl1 sel_X5_keepOnly ins_X5_keepOnly (gle rfl) rfl q2_93 dX8_dualize_46 ?_
        intro M3 h
        refine g_iconst (v := (-1)) ok dX8_dualize_49 (by decide) ?_
        refine g_istore_n (lv1 := [some (.inr 0), some (.inl (-1)), none]) ok dX8_dualize_50 rfl (glt rfl) rfl ?_
        refine g_iconst (v := 0) ok dX8_dualize_51 (by decide) ?_
        refine g_istore_n (lv1 := [some (.inr 0), some (.inl (-1)), some (.inl 0)]) ok dX8_dualize_52 rfl (glt rfl) rfl ?_
        obtain ⟨nf, h⟩ := h
        refine w_X8_dualize_L53_w ok hZ  ?_ nf (-1) 0  M3 h
        · intro x10 x11  M12 h
          refine g_aload_n ok dX8_dualize_87 rfl rfl ?_
          refine g_get (w := .inr 1) ok f0_0 (gLm (by decide)) q2_8 dX8_dualize_88 rfl ?_
          refine g_callVv (st := []) (as := []) ok rfl (k_X5_endEdit h) s_X5_endEdit rfl (by decide) (gLm (by decide)) cl1 sel_X5_endEdit ins_X5_endEdit (gle rfl) rfl q2_67 dX8_dualize_91 ?_
          intro M13 h
          refine g_aload_n ok dX8_dualize_94 rfl rfl ?_
          refine g_get (w := .inr 1) ok f0_0 (gLm (by decide)) q2_8 dX8_dualize_95 rfl ?_
          refine g_get (w := .inl (M13 1 1)) ok f1_1 (gLm (by decide)) q1_64 dX8_dualize_98 rfl ?_
          exact g_iret ok hZ dX8_dualize_101 h
      · have h := h.1 z
        refine g_bipush (v := (-5)) ok dX8_dualize_38 (by decide) ?_
        exact g_iret ok hZ dX8_dualize_40 h
    · have h := h.1 z
      refine g_bipush (v := (-6)) ok dX8_dualize_23 (by decide) ?_
      exact g_iret ok hZ dX8_dualize_25 h
  · have h := h.1 z
    refine g_bipush (v := (-3)) ok dX8_dualize_10 (by decide) ?_
    exact g_iret ok hZ dX8_dualize_12 h
theorem dX8_undo_0 : decode cX8_undo 0 = .ok (.aload_n 0, 1) := by decide +kernel
theorem dX8_undo_1 : decode cX8_undo 1 = .ok (.getfield 12, 3) := by decide +kernel
theorem dX8_undo_4 : decode cX8_undo 4 = .ok (.invokevirtual 131, 3) := by decide +kernel
theorem dX8_undo_7 : decode cX8_undo 7 = .ok (.ifCond .eq 16, 3) := by decide +kernel
theorem dX8_undo_10 : decode cX8_undo 10 = .ok (.aload_n 0, 1) := by decide +kernel
theorem dX8_undo_11 : decode cX8_undo 11 = .ok (.getfield 12, 3) := by decide +kernel
theorem dX8_undo_14 : decode cX8_undo 14 = .ok (.getfield 134, 3) := by decide +kernel
theorem dX8_undo_17 : decode cX8_undo 17 = .ok (.getfield 138, 3) := by decide +kernel
theorem dX8_undo_20 : decode cX8_undo 20 = .ok (.goto 5, 3) := by decide +kernel
theorem dX8_undo_23 : decode cX8_undo 23 = .ok (.bipush (-7), 2) := by decide +kernel
theorem dX8_undo_25 : decode cX8_undo 25 = .ok (.ireturn, 1) := by decide +kernel
theorem s_X8_undo : gSt yX8_undo cX8_undo 1 (some .int) 0 := ⟨q2_169, q1_1, ⟨by decide, by decide, by decide +kernel⟩, by decide⟩
theorem sel_X8_undo : Cond.selects yX8_undo.cls yX8_undo yX8_undo ∈ gT := q2_168
theorem ins_X8_undo : Cond.instanceMethod yX8_undo ∈ gT := q2_167
def w_X8_undo  (M : gM) (Q : Int32 → gM → Prop) : Prop := w_X5_stepBack M (fun (r2 : Int32) (M1 : gM) => gbr ((r2 : Int32) = 0) (Q (-7) M1) (Q (M1 2 0) M1))
set_option maxRecDepth 100000 in
set_option maxHeartbeats 4000000 in
theorem k_X8_undo  {M : gM} {Q : Int32 → gM → Prop} (h : w_X8_undo  M Q) : gCi gL 4 yX8_undo cX8_undo 1 .int [.inr 0] M Q := by
  refine gCi_of (by decide) gLn (gle rfl) (fun X ok hZ => ?_)
  show gW X 0 [some (.inr 0)] [] M
  unfold w_X8_undo at h
  refine g_aload_n ok dX8_undo_0 rfl rfl ?_
  refine g_get (w := .inr 1) ok f0_0 (gLm (by decide)) q2_8 dX8_undo_1 rfl ?_
  refine g_callVi (st := []) (as := []) ok rfl (k_X5_stepBack h) s_X5_stepBack rfl (by decide) (gLm (by decide)) cl1 sel_X5_stepBack ins_X5_stepBack (gle rfl) rfl q2_170 dX8_undo_4 ?_
  intro r2 M1 h
  refine g_if_eq (tgt := 23) ok dX8_undo_7 (by decide) (fun z => ?_) (fun z => ?_)
  · have h := h.1 z
    refine g_bipush (v := (-7)) ok dX8_undo_23 (by decide) ?_
    exact g_iret ok hZ dX8_undo_25 h
  · have h := h.2 z
    refine g_aload_n ok dX8_undo_10 rfl rfl ?_
    refine g_get (w := .inr 1) ok f0_0 (gLm (by decide)) q2_8 dX8_undo_11 rfl ?_
    refine g_get (w := .inr 2) ok f1_4 (gLm (by decide)) q1_75 dX8_undo_14 rfl ?_
    refine g_get (w := .inl (M1 2 0)) ok f2_0 (gLm (by decide)) q1_37 dX8_undo_17 rfl ?_
    refine g_goto (tgt := 25) ok dX8_undo_20 (by decide) ?_
    exact g_iret ok hZ dX8_undo_25 h
theorem dX8_redo_0 : decode cX8_redo 0 = .ok (.aload_n 0, 1) := by decide +kernel
theorem dX8_redo_1 : decode cX8_redo 1 = .ok (.getfield 12, 3) := by decide +kernel
theorem dX8_redo_4 : decode cX8_redo 4 = .ok (.invokevirtual 143, 3) := by decide +kernel
theorem dX8_redo_7 : decode cX8_redo 7 = .ok (.ifCond .eq 16, 3) := by decide +kernel
theorem dX8_redo_10 : decode cX8_redo 10 = .ok (.aload_n 0, 1) := by decide +kernel
theorem dX8_redo_11 : decode cX8_redo 11 = .ok (.getfield 12, 3) := by decide +kernel
theorem dX8_redo_14 : decode cX8_redo 14 = .ok (.getfield 134, 3) := by decide +kernel
theorem dX8_redo_17 : decode cX8_redo 17 = .ok (.getfield 146, 3) := by decide +kernel
theorem dX8_redo_20 : decode cX8_redo 20 = .ok (.goto 5, 3) := by decide +kernel
theorem dX8_redo_23 : decode cX8_redo 23 = .ok (.bipush (-7), 2) := by decide +kernel
theorem dX8_redo_25 : decode cX8_redo 25 = .ok (.ireturn, 1) := by decide +kernel
theorem s_X8_redo : gSt yX8_redo cX8_redo 1 (some .int) 0 := ⟨q2_189, q1_1, ⟨by decide, by decide, by decide +kernel⟩, by decide⟩
theorem sel_X8_redo : Cond.selects yX8_redo.cls yX8_redo yX8_redo ∈ gT := q2_188
theorem ins_X8_redo : Cond.instanceMethod yX8_redo ∈ gT := q2_187
def w_X8_redo  (M : gM) (Q : Int32 → gM → Prop) : Prop := w_X5_stepForward M (fun (r2 : Int32) (M1 : gM) => gbr ((r2 : Int32) = 0) (Q (-7) M1) (Q (M1 2 1) M1))
set_option maxRecDepth 100000 in
set_option maxHeartbeats 4000000 in
theorem k_X8_redo  {M : gM} {Q : Int32 → gM → Prop} (h : w_X8_redo  M Q) : gCi gL 4 yX8_redo cX8_redo 1 .int [.inr 0] M Q := by
  refine gCi_of (by decide) gLn (gle rfl) (fun X ok hZ => ?_)
  show gW X 0 [some (.inr 0)] [] M
  unfold w_X8_redo at h
  refine g_aload_n ok dX8_redo_0 rfl rfl ?_
  refine g_get (w := .inr 1) ok f0_0 (gLm (by decide)) q2_8 dX8_redo_1 rfl ?_
  refine g_callVi (st := []) (as := []) ok rfl (k_X5_stepForward h) s_X5_stepForward rfl (by decide) (gLm (by decide)) cl1 sel_X5_stepForward ins_X5_stepForward (gle rfl) rfl q2_190 dX8_redo_4 ?_
  intro r2 M1 h
  refine g_if_eq (tgt := 23) ok dX8_redo_7 (by decide) (fun z => ?_) (fun z => ?_)
  · have h := h.1 z
    refine g_bipush (v := (-7)) ok dX8_redo_23 (by decide) ?_
    exact g_iret ok hZ dX8_redo_25 h
  · have h := h.2 z
    refine g_aload_n ok dX8_redo_10 rfl rfl ?_
    refine g_get (w := .inr 1) ok f0_0 (gLm (by decide)) q2_8 dX8_redo_11 rfl ?_
    refine g_get (w := .inr 2) ok f1_4 (gLm (by decide)) q1_75 dX8_redo_14 rfl ?_
    refine g_get (w := .inl (M1 2 1)) ok f2_1 (gLm (by decide)) q1_39 dX8_redo_17 rfl ?_
    refine g_goto (tgt := 25) ok dX8_redo_20 (by decide) ?_
    exact g_iret ok hZ dX8_redo_25 h
theorem dX8_edge_0 : decode cX8_edge 0 = .ok (.aload_n 0, 1) := by decide +kernel
theorem dX8_edge_1 : decode cX8_edge 1 = .ok (.getfield 12, 3) := by decide +kernel
theorem dX8_edge_4 : decode cX8_edge 4 = .ok (.iload_n 1, 1) := by decide +kernel
theorem dX8_edge_5 : decode cX8_edge 5 = .ok (.invokevirtual 90, 3) := by decide +kernel
theorem dX8_edge_8 : decode cX8_edge 8 = .ok (.ifCond .eq 15, 3) := by decide +kernel
theorem dX8_edge_11 : decode cX8_edge 11 = .ok (.aload_n 0, 1) := by decide +kernel
theorem dX8_edge_12 : decode cX8_edge 12 = .ok (.getfield 12, 3) := by decide +kernel
theorem dX8_edge_15 : decode cX8_edge 15 = .ok (.getfield 93, 3) := by decide +kernel
theorem dX8_edge_18 : decode cX8_edge 18 = .ok (.iload_n 1, 1) := by decide +kernel
theorem dX8_edge_19 : decode cX8_edge 19 = .ok (.iaload, 1) := by decide +kernel
theorem dX8_edge_20 : decode cX8_edge 20 = .ok (.goto 5, 3) := by decide +kernel
theorem dX8_edge_23 : decode cX8_edge 23 = .ok (.bipush (-2), 2) := by decide +kernel
theorem dX8_edge_25 : decode cX8_edge 25 = .ok (.ireturn, 1) := by decide +kernel
theorem s_X8_edge : gSt yX8_edge cX8_edge 2 (some .int) 1 := ⟨q2_201, q1_1, ⟨by decide, by decide, by decide +kernel⟩, by decide⟩
theorem sel_X8_edge : Cond.selects yX8_edge.cls yX8_edge yX8_edge ∈ gT := q2_200
theorem ins_X8_edge : Cond.instanceMethod yX8_edge ∈ gT := q2_199
def w_X8_edge (p1 : Int32) (M : gM) (Q : Int32 → gM → Prop) : Prop := w_X5_isEdge p1 M (fun (r2 : Int32) (M1 : gM) => gbr ((r2 : Int32) = 0) (Q (-2) M1) (vp_in p1 24 ∧ (Q (M1 9 (Int32.toNatClampNeg p1)) M1)))
set_option maxRecDepth 100000 in
set_option maxHeartbeats 4000000 in
theorem k_X8_edge {p1 : Int32} {M : gM} {Q : Int32 → gM → Prop} (h : w_X8_edge p1 M Q) : gCi gL 1 yX8_edge cX8_edge 2 .int [.inr 0, .inl p1] M Q := by
  refine gCi_of (by decide) gLn (gle rfl) (fun X ok hZ => ?_)
  show gW X 0 [some (.inr 0), some (.inl p1)] [] M
  unfold w_X8_edge at h
  refine g_aload_n ok dX8_edge_0 rfl rfl ?_
  refine g_get (w := .inr 1) ok f0_0 (gLm (by decide)) q2_8 dX8_edge_1 rfl ?_
  refine g_iload_n ok dX8_edge_4 rfl rfl ?_
  refine g_callVi (st := []) (as := [.inl p1]) ok rfl (k_X5_isEdge h) s_X5_isEdge rfl (by decide) (gLm (by decide)) cl1 sel_X5_isEdge ins_X5_isEdge (gle rfl) rfl q2_85 dX8_edge_5 ?_
  intro r2 M1 h
  refine g_if_eq (tgt := 23) ok dX8_edge_8 (by decide) (fun z => ?_) (fun z => ?_)
  · have h := h.1 z
    refine g_bipush (v := (-2)) ok dX8_edge_23 (by decide) ?_
    exact g_iret ok hZ dX8_edge_25 h
  · have h := h.2 z
    refine g_aload_n ok dX8_edge_11 rfl rfl ?_
    refine g_get (w := .inr 1) ok f0_0 (gLm (by decide)) q2_8 dX8_edge_12 rfl ?_
    refine g_get (w := .inr 9) ok f1_2 (gLm (by decide)) q1_68 dX8_edge_15 rfl ?_
    refine g_iload_n ok dX8_edge_18 rfl rfl ?_
    have hb := h.1
    have h := h.2
    refine g_iald (w := (M1 9 (Int32.toNatClampNeg p1))) ok a9 (gLm (by decide)) dX8_edge_19 hb rfl ?_
    refine g_goto (tgt := 25) ok dX8_edge_20 (by decide) ?_
    exact g_iret ok hZ dX8_edge_25 h
theorem dX8_value_0 : decode cX8_value 0 = .ok (.iload_n 1, 1) := by decide +kernel
theorem dX8_value_1 : decode cX8_value 1 = .ok (.tableswitch 100 0 5 #[39, 47, 55, 66, 77, 85], 39) := by decide +kernel
theorem dX8_value_40 : decode cX8_value 40 = .ok (.aload_n 0, 1) := by decide +kernel
theorem dX8_value_41 : decode cX8_value 41 = .ok (.getfield 12, 3) := by decide +kernel
theorem dX8_value_44 : decode cX8_value 44 = .ok (.getfield 63, 3) := by decide +kernel
theorem dX8_value_47 : decode cX8_value 47 = .ok (.ireturn, 1) := by decide +kernel
theorem dX8_value_48 : decode cX8_value 48 = .ok (.aload_n 0, 1) := by decide +kernel
theorem dX8_value_49 : decode cX8_value 49 = .ok (.getfield 12, 3) := by decide +kernel
theorem dX8_value_52 : decode cX8_value 52 = .ok (.getfield 87, 3) := by decide +kernel
theorem dX8_value_55 : decode cX8_value 55 = .ok (.ireturn, 1) := by decide +kernel
theorem dX8_value_56 : decode cX8_value 56 = .ok (.aload_n 0, 1) := by decide +kernel
theorem dX8_value_57 : decode cX8_value 57 = .ok (.getfield 12, 3) := by decide +kernel
theorem dX8_value_60 : decode cX8_value 60 = .ok (.invokevirtual 104, 3) := by decide +kernel
theorem dX8_value_63 : decode cX8_value 63 = .ok (.invokestatic 113, 3) := by decide +kernel
theorem dX8_value_66 : decode cX8_value 66 = .ok (.ireturn, 1) := by decide +kernel
theorem dX8_value_67 : decode cX8_value 67 = .ok (.aload_n 0, 1) := by decide +kernel
theorem dX8_value_68 : decode cX8_value 68 = .ok (.getfield 12, 3) := by decide +kernel
theorem dX8_value_71 : decode cX8_value 71 = .ok (.getfield 134, 3) := by decide +kernel
theorem dX8_value_74 : decode cX8_value 74 = .ok (.getfield 138, 3) := by decide +kernel
theorem dX8_value_77 : decode cX8_value 77 = .ok (.ireturn, 1) := by decide +kernel
theorem dX8_value_78 : decode cX8_value 78 = .ok (.aload_n 0, 1) := by decide +kernel
theorem dX8_value_79 : decode cX8_value 79 = .ok (.getfield 12, 3) := by decide +kernel
theorem dX8_value_82 : decode cX8_value 82 = .ok (.invokevirtual 149, 3) := by decide +kernel
theorem dX8_value_85 : decode cX8_value 85 = .ok (.ireturn, 1) := by decide +kernel
theorem dX8_value_86 : decode cX8_value 86 = .ok (.aload_n 0, 1) := by decide +kernel
theorem dX8_value_87 : decode cX8_value 87 = .ok (.getfield 12, 3) := by decide +kernel
theorem dX8_value_90 : decode cX8_value 90 = .ok (.aload_n 0, 1) := by decide +kernel
theorem dX8_value_91 : decode cX8_value 91 = .ok (.getfield 12, 3) := by decide +kernel
theorem dX8_value_94 : decode cX8_value 94 = .ok (.invokevirtual 104, 3) := by decide +kernel
theorem dX8_value_97 : decode cX8_value 97 = .ok (.invokevirtual 152, 3) := by decide +kernel
theorem dX8_value_100 : decode cX8_value 100 = .ok (.ireturn, 1) := by decide +kernel
theorem dX8_value_101 : decode cX8_value 101 = .ok (.bipush (-3), 2) := by decide +kernel
theorem dX8_value_103 : decode cX8_value 103 = .ok (.ireturn, 1) := by decide +kernel
theorem s_X8_value : gSt yX8_value cX8_value 2 (some .int) 1 := ⟨q2_205, q1_1, ⟨by decide, by decide, by decide +kernel⟩, by decide⟩
theorem sel_X8_value : Cond.selects yX8_value.cls yX8_value yX8_value ∈ gT := q2_204
theorem ins_X8_value : Cond.instanceMethod yX8_value ∈ gT := q2_203
def w_X8_value (p1 : Int32) (M : gM) (Q : Int32 → gM → Prop) : Prop := gbr ((p1 : Int32) = 0) (Q (M 1 0) M) (gbr ((p1 : Int32) = 1) (Q (M 1 1) M) (gbr ((p1 : Int32) = 2) (w_X5_minimalEdges M (fun (r2 : Int32) (M1 : gM) => w_J6_bitCount_0f7a4 r2 M1 (fun (r4 : Int32) (M3 : gM) => Q r4 M3))) (gbr ((p1 : Int32) = 3) (Q (M 2 0) M) (gbr ((p1 : Int32) = 4) (w_X5_smallestSize M (fun (r6 : Int32) (M5 : gM) => Q r6 M5)) (gbr ((p1 : Int32) = 5) (w_X5_minimalEdges M (fun (r8 : Int32) (M7 : gM) => w_X5_unionOf r8 M7 (fun (r10 : Int32) (M9 : gM) => Q r10 M9))) (Q (-3) M))))))
set_option maxRecDepth 100000 in
set_option maxHeartbeats 4000000 in
theorem k_X8_value {p1 : Int32} {M : gM} {Q : Int32 → gM → Prop} (h : w_X8_value p1 M Q) : gCi gL 3 yX8_value cX8_value 2 .int [.inr 0, .inl p1] M Q := by
  refine gCi_of (by decide) gLn (gle rfl) (fun X ok hZ => ?_)
  show gW X 0 [some (.inr 0), some (.inl p1)] [] M
  unfold w_X8_value at h
  refine g_iload_n ok dX8_value_0 rfl rfl ?_
  by_cases z0 : (p1 : Int32) = 0
  · have h := h.1 z0
    refine g_tableIn (tgt := 40) ok 0 (by rw [z0]; rfl) dX8_value_1 (by decide) (by decide) rfl (by decide) ?_
    refine g_aload_n ok dX8_value_40 rfl rfl ?_
    refine g_get (w := .inr 1) ok f0_0 (gLm (by decide)) q2_8 dX8_value_41 rfl ?_
    refine g_get (w := .inl (M 1 0)) ok f1_0 (gLm (by decide)) q1_56 dX8_value_44 rfl ?_
    exact g_iret ok hZ dX8_value_47 h
  have h := h.2 z0
  by_cases z1 : (p1 : Int32) = 1
  · have h := h.1 z1
    refine g_tableIn (tgt := 48) ok 1 (by rw [z1]; rfl) dX8_value_1 (by decide) (by decide) rfl (by decide) ?_
    refine g_aload_n ok dX8_value_48 rfl rfl ?_
    refine g_get (w := .inr 1) ok f0_0 (gLm (by decide)) q2_8 dX8_value_49 rfl ?_
    refine g_get (w := .inl (M 1 1)) ok f1_1 (gLm (by decide)) q1_64 dX8_value_52 rfl ?_
    exact g_iret ok hZ dX8_value_55 h
  have h := h.2 z1
  by_cases z2 : (p1 : Int32) = 2
  · have h := h.1 z2
    refine g_tableIn (tgt := 56) ok 2 (by rw [z2]; rfl) dX8_value_1 (by decide) (by decide) rfl (by decide) ?_
    refine g_aload_n ok dX8_value_56 rfl rfl ?_
    refine g_get (w := .inr 1) ok f0_0 (gLm (by decide)) q2_8 dX8_value_57 rfl ?_
    refine g_callVi (st := []) (as := []) ok rfl (k_X5_minimalEdges h) s_X5_minimalEdges rfl (by decide) (gLm (by decide)) cl1 sel_X5_minimalEdges ins_X5_minimalEdges (gle rfl) rfl q2_102 dX8_value_60 ?_
    intro r2 M1 h
    refine g_callSi (st := []) (as := [.inl r2]) ok rfl (k_J6_bitCount_0f7a4 h) s_J6_bitCount_0f7a4 rfl (by decide) stt_J6_bitCount_0f7a4 (gle rfl) rfl q2_121 dX8_value_63 ?_
    intro r4 M3 h
    exact g_iret ok hZ dX8_value_66 h
  have h := h.2 z2
  by_cases z3 : (p1 : Int32) = 3
  · have h := h.1 z3
    refine g_tableIn (tgt := 67) ok 3 (by rw [z3]; rfl) dX8_value_1 (by decide) (by decide) rfl (by decide) ?_
    refine g_aload_n ok dX8_value_67 rfl rfl ?_
    refine g_get (w := .inr 1) ok f0_0 (gLm (by decide)) q2_8 dX8_value_68 rfl ?_
    refine g_get (w := .inr 2) ok f1_4 (gLm (by decide)) q1_75 dX8_value_71 rfl ?_
    refine g_get (w := .inl (M 2 0)) ok f2_0 (gLm (by decide)) q1_37 dX8_value_74 rfl ?_
    exact g_iret ok hZ dX8_value_77 h
  have h := h.2 z3
  by_cases z4 : (p1 : Int32) = 4
  · have h := h.1 z4
    refine g_tableIn (tgt := 78) ok 4 (by rw [z4]; rfl) dX8_value_1 (by decide) (by decide) rfl (by decide) ?_
    refine g_aload_n ok dX8_value_78 rfl rfl ?_
    refine g_get (w := .inr 1) ok f0_0 (gLm (by decide)) q2_8 dX8_value_79 rfl ?_
    refine g_callVi (st := []) (as := []) ok rfl (k_X5_smallestSize h) s_X5_smallestSize rfl (by decide) (gLm (by decide)) cl1 sel_X5_smallestSize ins_X5_smallestSize (gle rfl) rfl q2_206 dX8_value_82 ?_
    intro r6 M5 h
    exact g_iret ok hZ dX8_value_85 h
  have h := h.2 z4
  by_cases z5 : (p1 : Int32) = 5
  · have h := h.1 z5
    refine g_tableIn (tgt := 86) ok 5 (by rw [z5]; rfl) dX8_value_1 (by decide) (by decide) rfl (by decide) ?_
    refine g_aload_n ok dX8_value_86 rfl rfl ?_
    refine g_get (w := .inr 1) ok f0_0 (gLm (by decide)) q2_8 dX8_value_87 rfl ?_
    refine g_aload_n ok dX8_value_90 rfl rfl ?_
    refine g_get (w := .inr 1) ok f0_0 (gLm (by decide)) q2_8 dX8_value_91 rfl ?_
    refine g_callVi (st := [.inr 1]) (as := []) ok rfl (k_X5_minimalEdges h) s_X5_minimalEdges rfl (by decide) (gLm (by decide)) cl1 sel_X5_minimalEdges ins_X5_minimalEdges (gle rfl) rfl q2_102 dX8_value_94 ?_
    intro r8 M7 h
    refine g_callVi (st := []) (as := [.inl r8]) ok rfl (k_X5_unionOf h) s_X5_unionOf rfl (by decide) (gLm (by decide)) cl1 sel_X5_unionOf ins_X5_unionOf (gle rfl) rfl q2_211 dX8_value_97 ?_
    intro r10 M9 h
    exact g_iret ok hZ dX8_value_100 h
  have h := h.2 z5
  refine g_tableOut (tgt := 101) ok dX8_value_1 (sw_out 6 (by decide) (fun k hk => match k, hk with | 0, _ => z0 | 1, _ => z1 | 2, _ => z2 | 3, _ => z3 | 4, _ => z4 | 5, _ => z5 | k + 6, hk => absurd hk (by omega))) (by decide) ?_
  refine g_bipush (v := (-3)) ok dX8_value_101 (by decide) ?_
  exact g_iret ok hZ dX8_value_103 h
theorem dX8_edgesOf_0 : decode cX8_edgesOf 0 = .ok (.aload_n 0, 1) := by decide +kernel
theorem dX8_edgesOf_1 : decode cX8_edgesOf 1 = .ok (.getfield 12, 3) := by decide +kernel
theorem dX8_edgesOf_4 : decode cX8_edgesOf 4 = .ok (.iload_n 1, 1) := by decide +kernel
theorem dX8_edgesOf_5 : decode cX8_edgesOf 5 = .ok (.invokevirtual 107, 3) := by decide +kernel
theorem dX8_edgesOf_8 : decode cX8_edgesOf 8 = .ok (.ifCond .eq 15, 3) := by decide +kernel
theorem dX8_edgesOf_11 : decode cX8_edgesOf 11 = .ok (.aload_n 0, 1) := by decide +kernel
theorem dX8_edgesOf_12 : decode cX8_edgesOf 12 = .ok (.getfield 12, 3) := by decide +kernel
theorem dX8_edgesOf_15 : decode cX8_edgesOf 15 = .ok (.getfield 110, 3) := by decide +kernel
theorem dX8_edgesOf_18 : decode cX8_edgesOf 18 = .ok (.iload_n 1, 1) := by decide +kernel
theorem dX8_edgesOf_19 : decode cX8_edgesOf 19 = .ok (.iaload, 1) := by decide +kernel
theorem dX8_edgesOf_20 : decode cX8_edgesOf 20 = .ok (.goto 4, 3) := by decide +kernel
theorem dX8_edgesOf_23 : decode cX8_edgesOf 23 = .ok (.iconst (-1), 1) := by decide +kernel
theorem dX8_edgesOf_24 : decode cX8_edgesOf 24 = .ok (.ireturn, 1) := by decide +kernel
theorem s_X8_edgesOf : gSt yX8_edgesOf cX8_edgesOf 2 (some .int) 1 := ⟨q2_218, q1_1, ⟨by decide, by decide, by decide +kernel⟩, by decide⟩
theorem sel_X8_edgesOf : Cond.selects yX8_edgesOf.cls yX8_edgesOf yX8_edgesOf ∈ gT := q2_217
theorem ins_X8_edgesOf : Cond.instanceMethod yX8_edgesOf ∈ gT := q2_216
def w_X8_edgesOf (p1 : Int32) (M : gM) (Q : Int32 → gM → Prop) : Prop := w_X5_isVertex p1 M (fun (r2 : Int32) (M1 : gM) => gbr ((r2 : Int32) = 0) (Q (-1) M1) (vp_in p1 14 ∧ (Q (M1 10 (Int32.toNatClampNeg p1)) M1)))
set_option maxRecDepth 100000 in
set_option maxHeartbeats 4000000 in
theorem k_X8_edgesOf {p1 : Int32} {M : gM} {Q : Int32 → gM → Prop} (h : w_X8_edgesOf p1 M Q) : gCi gL 1 yX8_edgesOf cX8_edgesOf 2 .int [.inr 0, .inl p1] M Q := by
  refine gCi_of (by decide) gLn (gle rfl) (fun X ok hZ => ?_)
  show gW X 0 [some (.inr 0), some (.inl p1)] [] M
  unfold w_X8_edgesOf at h
  refine g_aload_n ok dX8_edgesOf_0 rfl rfl ?_
  refine g_get (w := .inr 1) ok f0_0 (gLm (by decide)) q2_8 dX8_edgesOf_1 rfl ?_
  refine g_iload_n ok dX8_edgesOf_4 rfl rfl ?_
  refine g_callVi (st := []) (as := [.inl p1]) ok rfl (k_X5_isVertex h) s_X5_isVertex rfl (by decide) (gLm (by decide)) cl1 sel_X5_isVertex ins_X5_isVertex (gle rfl) rfl q2_117 dX8_edgesOf_5 ?_
  intro r2 M1 h
  refine g_if_eq (tgt := 23) ok dX8_edgesOf_8 (by decide) (fun z => ?_) (fun z => ?_)
  · have h := h.1 z
    refine g_iconst (v := (-1)) ok dX8_edgesOf_23 (by decide) ?_
    exact g_iret ok hZ dX8_edgesOf_24 h
  · have h := h.2 z
    refine g_aload_n ok dX8_edgesOf_11 rfl rfl ?_
    refine g_get (w := .inr 1) ok f0_0 (gLm (by decide)) q2_8 dX8_edgesOf_12 rfl ?_
    refine g_get (w := .inr 10) ok f1_3 (gLm (by decide)) q1_73 dX8_edgesOf_15 rfl ?_
    refine g_iload_n ok dX8_edgesOf_18 rfl rfl ?_
    have hb := h.1
    have h := h.2
    refine g_iald (w := (M1 10 (Int32.toNatClampNeg p1))) ok a10 (gLm (by decide)) dX8_edgesOf_19 hb rfl ?_
    refine g_goto (tgt := 24) ok dX8_edgesOf_20 (by decide) ?_
    exact g_iret ok hZ dX8_edgesOf_24 h
theorem dX8_setWeight_0 : decode cX8_setWeight 0 = .ok (.aload_n 0, 1) := by decide +kernel
theorem dX8_setWeight_1 : decode cX8_setWeight 1 = .ok (.getfield 12, 3) := by decide +kernel
theorem dX8_setWeight_4 : decode cX8_setWeight 4 = .ok (.iload_n 1, 1) := by decide +kernel
theorem dX8_setWeight_5 : decode cX8_setWeight 5 = .ok (.invokevirtual 107, 3) := by decide +kernel
theorem dX8_setWeight_8 : decode cX8_setWeight 8 = .ok (.ifCond .ne 5, 3) := by decide +kernel
theorem dX8_setWeight_11 : decode cX8_setWeight 11 = .ok (.iconst (-1), 1) := by decide +kernel
theorem dX8_setWeight_12 : decode cX8_setWeight 12 = .ok (.ireturn, 1) := by decide +kernel
theorem dX8_setWeight_13 : decode cX8_setWeight 13 = .ok (.iload_n 2, 1) := by decide +kernel
theorem dX8_setWeight_14 : decode cX8_setWeight 14 = .ok (.ifCond .lt 9, 3) := by decide +kernel
theorem dX8_setWeight_17 : decode cX8_setWeight 17 = .ok (.iload_n 2, 1) := by decide +kernel
theorem dX8_setWeight_18 : decode cX8_setWeight 18 = .ok (.bipush 99, 2) := by decide +kernel
theorem dX8_setWeight_20 : decode cX8_setWeight 20 = .ok (.if_icmp .le 6, 3) := by decide +kernel
theorem dX8_setWeight_23 : decode cX8_setWeight 23 = .ok (.bipush (-3), 2) := by decide +kernel
theorem dX8_setWeight_25 : decode cX8_setWeight 25 = .ok (.ireturn, 1) := by decide +kernel
theorem dX8_setWeight_26 : decode cX8_setWeight 26 = .ok (.aload_n 0, 1) := by decide +kernel
theorem dX8_setWeight_27 : decode cX8_setWeight 27 = .ok (.getfield 19, 3) := by decide +kernel
theorem dX8_setWeight_30 : decode cX8_setWeight 30 = .ok (.getfield 155, 3) := by decide +kernel
theorem dX8_setWeight_33 : decode cX8_setWeight 33 = .ok (.iload_n 1, 1) := by decide +kernel
theorem dX8_setWeight_34 : decode cX8_setWeight 34 = .ok (.iaload, 1) := by decide +kernel
theorem dX8_setWeight_35 : decode cX8_setWeight 35 = .ok (.istore_n 3, 1) := by decide +kernel
theorem dX8_setWeight_36 : decode cX8_setWeight 36 = .ok (.aload_n 0, 1) := by decide +kernel
theorem dX8_setWeight_37 : decode cX8_setWeight 37 = .ok (.getfield 19, 3) := by decide +kernel
theorem dX8_setWeight_40 : decode cX8_setWeight 40 = .ok (.getfield 155, 3) := by decide +kernel
theorem dX8_setWeight_43 : decode cX8_setWeight 43 = .ok (.iload_n 1, 1) := by decide +kernel
theorem dX8_setWeight_44 : decode cX8_setWeight 44 = .ok (.iload_n 2, 1) := by decide +kernel
theorem dX8_setWeight_45 : decode cX8_setWeight 45 = .ok (.iastore, 1) := by decide +kernel
theorem dX8_setWeight_46 : decode cX8_setWeight 46 = .ok (.iload_n 3, 1) := by decide +kernel
theorem dX8_setWeight_47 : decode cX8_setWeight 47 = .ok (.ireturn, 1) := by decide +kernel
theorem s_X8_setWeight : gSt yX8_setWeight cX8_setWeight 4 (some .int) 2 := ⟨q2_222, q1_1, ⟨by decide, by decide, by decide +kernel⟩, by decide⟩
theorem sel_X8_setWeight : Cond.selects yX8_setWeight.cls yX8_setWeight yX8_setWeight ∈ gT := q2_221
theorem ins_X8_setWeight : Cond.instanceMethod yX8_setWeight ∈ gT := q2_220
def w_X8_setWeight (p1 : Int32) (p2 : Int32) (M : gM) (Q : Int32 → gM → Prop) : Prop := w_X5_isVertex p1 M (fun (r2 : Int32) (M1 : gM) => gbr ((r2 : Int32) = 0) (Q (-1) M1) (gbr ((p2 : Int32) < 0) (Q (-3) M1) (gbr ((99 : Int32) < p2) (Q (-3) M1) (vp_in p1 14 ∧ (∀ x3 : Int32, x3 = (M1 32 (Int32.toNatClampNeg p1)) → (vp_in p1 14 ∧ ∀ M4 : gM, M4 = gst M1 32 (Int32.toNatClampNeg p1) p2 → (Q x3 M4)))))))
set_option maxRecDepth 100000 in
set_option maxHeartbeats 4000000 in
theorem k_X8_setWeight {p1 : Int32} {p2 : Int32} {M : gM} {Q : Int32 → gM → Prop} (h : w_X8_setWeight p1 p2 M Q) : gCi gL 1 yX8_setWeight cX8_setWeight 4 .int [.inr 0, .inl p1, .inl p2] M Q := by
  refine gCi_of (by decide) gLn (gle rfl) (fun X ok hZ => ?_)
  show gW X 0 [some (.inr 0), some (.inl p1), some (.inl p2), none] [] M
  unfold w_X8_setWeight at h
  refine g_aload_n ok dX8_setWeight_0 rfl rfl ?_
  refine g_get (w := .inr 1) ok f0_0 (gLm (by decide)) q2_8 dX8_setWeight_1 rfl ?_
  refine g_iload_n ok dX8_setWeight_4 rfl rfl ?_
  refine g_callVi (st := []) (as := [.inl p1]) ok rfl (k_X5_isVertex h) s_X5_isVertex rfl (by decide) (gLm (by decide)) cl1 sel_X5_isVertex ins_X5_isVertex (gle rfl) rfl q2_117 dX8_setWeight_5 ?_
  intro r2 M1 h
  refine g_if_ne (tgt := 13) ok dX8_setWeight_8 (by decide) (fun z => ?_) (fun z => ?_)
  · have h := h.2 z
    refine g_iload_n ok dX8_setWeight_13 rfl rfl ?_
    refine g_if_lt (tgt := 23) ok dX8_setWeight_14 (by decide) (fun z => ?_) (fun z => ?_)
    · have h := h.1 z
      refine g_bipush (v := (-3)) ok dX8_setWeight_23 (by decide) ?_
      exact g_iret ok hZ dX8_setWeight_25 h
    · have h := h.2 z
      refine g_iload_n ok dX8_setWeight_17 rfl rfl ?_
      refine g_bipush (v := 99) ok dX8_setWeight_18 (by decide) ?_
      refine g_icmp_le (tgt := 26) ok dX8_setWeight_20 (by decide) (fun z => ?_) (fun z => ?_)
      · have h := h.2 z
        refine g_aload_n ok dX8_setWeight_26 rfl rfl ?_
        refine g_get (w := .inr 3) ok f0_1 (gLm (by decide)) q2_9 dX8_setWeight_27 rfl ?_
        refine g_get (w := .inr 32) ok f3_0 (gLm (by decide)) q1_100 dX8_setWeight_30 rfl ?_
        refine g_iload_n ok dX8_setWeight_33 rfl rfl ?_
        have hb := h.1
        have h := h.2
        refine g_iald (w := (M1 32 (Int32.toNatClampNeg p1))) ok a32 (gLm (by decide)) dX8_setWeight_34 hb rfl ?_
        refine g_nm (fun x3 ex3 => ?_)
        have h := h x3 ex3
        refine g_istore_n (lv1 := [some (.inr 0), some (.inl p1), some (.inl p2), some (.inl x3)]) ok dX8_setWeight_35 rfl (glt rfl) rfl ?_
        refine g_aload_n ok dX8_setWeight_36 rfl rfl ?_
        refine g_get (w := .inr 3) ok f0_1 (gLm (by decide)) q2_9 dX8_setWeight_37 rfl ?_
        refine g_get (w := .inr 32) ok f3_0 (gLm (by decide)) q1_100 dX8_setWeight_40 rfl ?_
        refine g_iload_n ok dX8_setWeight_43 rfl rfl ?_
        refine g_iload_n ok dX8_setWeight_44 rfl rfl ?_
        have hb := h.1
        have h := h.2
        refine g_iast ok a32 (gLm (by decide)) dX8_setWeight_45 hb (g_mem (fun M4 eM4 => ?_))
        have h := h M4 eM4
        refine g_iload_n ok dX8_setWeight_46 rfl rfl ?_
        exact g_iret ok hZ dX8_setWeight_47 h
      · have h := h.1 z
        refine g_bipush (v := (-3)) ok dX8_setWeight_23 (by decide) ?_
        exact g_iret ok hZ dX8_setWeight_25 h
  · have h := h.1 z
    refine g_iconst (v := (-1)) ok dX8_setWeight_11 (by decide) ?_
    exact g_iret ok hZ dX8_setWeight_12 h
theorem dX8_missed_0 : decode cX8_missed 0 = .ok (.aload_n 0, 1) := by decide +kernel
theorem dX8_missed_1 : decode cX8_missed 1 = .ok (.getfield 12, 3) := by decide +kernel
theorem dX8_missed_4 : decode cX8_missed 4 = .ok (.iload_n 1, 1) := by decide +kernel
theorem dX8_missed_5 : decode cX8_missed 5 = .ok (.invokevirtual 70, 3) := by decide +kernel
theorem dX8_missed_8 : decode cX8_missed 8 = .ok (.ifCond .eq 14, 3) := by decide +kernel
theorem dX8_missed_11 : decode cX8_missed 11 = .ok (.aload_n 0, 1) := by decide +kernel
theorem dX8_missed_12 : decode cX8_missed 12 = .ok (.getfield 12, 3) := by decide +kernel
theorem dX8_missed_15 : decode cX8_missed 15 = .ok (.iload_n 1, 1) := by decide +kernel
theorem dX8_missed_16 : decode cX8_missed 16 = .ok (.invokevirtual 158, 3) := by decide +kernel
theorem dX8_missed_19 : decode cX8_missed 19 = .ok (.goto 5, 3) := by decide +kernel
theorem dX8_missed_22 : decode cX8_missed 22 = .ok (.bipush (-3), 2) := by decide +kernel
theorem dX8_missed_24 : decode cX8_missed 24 = .ok (.ireturn, 1) := by decide +kernel
theorem s_X8_missed : gSt yX8_missed cX8_missed 2 (some .int) 1 := ⟨q2_226, q1_1, ⟨by decide, by decide, by decide +kernel⟩, by decide⟩
theorem sel_X8_missed : Cond.selects yX8_missed.cls yX8_missed yX8_missed ∈ gT := q2_225
theorem ins_X8_missed : Cond.instanceMethod yX8_missed ∈ gT := q2_224
def w_X8_missed (p1 : Int32) (M : gM) (Q : Int32 → gM → Prop) : Prop := w_X5_isSet p1 M (fun (r2 : Int32) (M1 : gM) => gbr ((r2 : Int32) = 0) (Q (-3) M1) (w_X5_missedBy p1 M1 (fun (r4 : Int32) (M3 : gM) => Q r4 M3)))
set_option maxRecDepth 100000 in
set_option maxHeartbeats 4000000 in
theorem k_X8_missed {p1 : Int32} {M : gM} {Q : Int32 → gM → Prop} (h : w_X8_missed p1 M Q) : gCi gL 2 yX8_missed cX8_missed 2 .int [.inr 0, .inl p1] M Q := by
  refine gCi_of (by decide) gLn (gle rfl) (fun X ok hZ => ?_)
  show gW X 0 [some (.inr 0), some (.inl p1)] [] M
  unfold w_X8_missed at h
  refine g_aload_n ok dX8_missed_0 rfl rfl ?_
  refine g_get (w := .inr 1) ok f0_0 (gLm (by decide)) q2_8 dX8_missed_1 rfl ?_
  refine g_iload_n ok dX8_missed_4 rfl rfl ?_
  refine g_callVi (st := []) (as := [.inl p1]) ok rfl (k_X5_isSet h) s_X5_isSet rfl (by decide) (gLm (by decide)) cl1 sel_X5_isSet ins_X5_isSet (gle rfl) rfl q2_50 dX8_missed_5 ?_
  intro r2 M1 h
  refine g_if_eq (tgt := 22) ok dX8_missed_8 (by decide) (fun z => ?_) (fun z => ?_)
  · have h := h.1 z
    refine g_bipush (v := (-3)) ok dX8_missed_22 (by decide) ?_
    exact g_iret ok hZ dX8_missed_24 h
  · have h := h.2 z
    refine g_aload_n ok dX8_missed_11 rfl rfl ?_
    refine g_get (w := .inr 1) ok f0_0 (gLm (by decide)) q2_8 dX8_missed_12 rfl ?_
    refine g_iload_n ok dX8_missed_15 rfl rfl ?_
    refine g_callVi (st := []) (as := [.inl p1]) ok rfl (k_X5_missedBy h) s_X5_missedBy rfl (by decide) (gLm (by decide)) cl1 sel_X5_missedBy ins_X5_missedBy (gle rfl) rfl q2_227 dX8_missed_16 ?_
    intro r4 M3 h
    refine g_goto (tgt := 24) ok dX8_missed_19 (by decide) ?_
    exact g_iret ok hZ dX8_missed_24 h
theorem dX8_privateEdges_0 : decode cX8_privateEdges 0 = .ok (.aload_n 0, 1) := by decide +kernel
theorem dX8_privateEdges_1 : decode cX8_privateEdges 1 = .ok (.getfield 12, 3) := by decide +kernel
theorem dX8_privateEdges_4 : decode cX8_privateEdges 4 = .ok (.iload_n 1, 1) := by decide +kernel
theorem dX8_privateEdges_5 : decode cX8_privateEdges 5 = .ok (.invokevirtual 70, 3) := by decide +kernel
theorem dX8_privateEdges_8 : decode cX8_privateEdges 8 = .ok (.ifCond .ne 6, 3) := by decide +kernel
theorem dX8_privateEdges_11 : decode cX8_privateEdges 11 = .ok (.bipush (-3), 2) := by decide +kernel
theorem dX8_privateEdges_13 : decode cX8_privateEdges 13 = .ok (.ireturn, 1) := by decide +kernel
theorem dX8_privateEdges_14 : decode cX8_privateEdges 14 = .ok (.aload_n 0, 1) := by decide +kernel
theorem dX8_privateEdges_15 : decode cX8_privateEdges 15 = .ok (.getfield 12, 3) := by decide +kernel
theorem dX8_privateEdges_18 : decode cX8_privateEdges 18 = .ok (.iload_n 2, 1) := by decide +kernel
theorem dX8_privateEdges_19 : decode cX8_privateEdges 19 = .ok (.invokevirtual 107, 3) := by decide +kernel
theorem dX8_privateEdges_22 : decode cX8_privateEdges 22 = .ok (.ifCond .ne 5, 3) := by decide +kernel
theorem dX8_privateEdges_25 : decode cX8_privateEdges 25 = .ok (.iconst (-1), 1) := by decide +kernel
theorem dX8_privateEdges_26 : decode cX8_privateEdges 26 = .ok (.ireturn, 1) := by decide +kernel
theorem dX8_privateEdges_27 : decode cX8_privateEdges 27 = .ok (.iload_n 1, 1) := by decide +kernel
theorem dX8_privateEdges_28 : decode cX8_privateEdges 28 = .ok (.iload_n 2, 1) := by decide +kernel
theorem dX8_privateEdges_29 : decode cX8_privateEdges 29 = .ok (.invokestatic 161, 3) := by decide +kernel
theorem dX8_privateEdges_32 : decode cX8_privateEdges 32 = .ok (.ifCond .ne 6, 3) := by decide +kernel
theorem dX8_privateEdges_35 : decode cX8_privateEdges 35 = .ok (.bipush (-7), 2) := by decide +kernel
theorem dX8_privateEdges_37 : decode cX8_privateEdges 37 = .ok (.ireturn, 1) := by decide +kernel
theorem dX8_privateEdges_38 : decode cX8_privateEdges 38 = .ok (.aload_n 0, 1) := by decide +kernel
theorem dX8_privateEdges_39 : decode cX8_privateEdges 39 = .ok (.getfield 12, 3) := by decide +kernel
theorem dX8_privateEdges_42 : decode cX8_privateEdges 42 = .ok (.iload_n 1, 1) := by decide +kernel
theorem dX8_privateEdges_43 : decode cX8_privateEdges 43 = .ok (.invokevirtual 165, 3) := by decide +kernel
theorem dX8_privateEdges_46 : decode cX8_privateEdges 46 = .ok (.aload_n 0, 1) := by decide +kernel
theorem dX8_privateEdges_47 : decode cX8_privateEdges 47 = .ok (.getfield 12, 3) := by decide +kernel
theorem dX8_privateEdges_50 : decode cX8_privateEdges 50 = .ok (.getfield 110, 3) := by decide +kernel
theorem dX8_privateEdges_53 : decode cX8_privateEdges 53 = .ok (.iload_n 2, 1) := by decide +kernel
theorem dX8_privateEdges_54 : decode cX8_privateEdges 54 = .ok (.iaload, 1) := by decide +kernel
theorem dX8_privateEdges_55 : decode cX8_privateEdges 55 = .ok (.iand, 1) := by decide +kernel
theorem dX8_privateEdges_56 : decode cX8_privateEdges 56 = .ok (.ireturn, 1) := by decide +kernel
theorem s_X8_privateEdges : gSt yX8_privateEdges cX8_privateEdges 3 (some .int) 2 := ⟨q2_235, q1_1, ⟨by decide, by decide, by decide +kernel⟩, by decide⟩
theorem sel_X8_privateEdges : Cond.selects yX8_privateEdges.cls yX8_privateEdges yX8_privateEdges ∈ gT := q2_234
theorem ins_X8_privateEdges : Cond.instanceMethod yX8_privateEdges ∈ gT := q2_233
def w_X8_privateEdges (p1 : Int32) (p2 : Int32) (M : gM) (Q : Int32 → gM → Prop) : Prop := w_X5_isSet p1 M (fun (r2 : Int32) (M1 : gM) => gbr ((r2 : Int32) = 0) (Q (-3) M1) (w_X5_isVertex p2 M1 (fun (r4 : Int32) (M3 : gM) => gbr ((r4 : Int32) = 0) (Q (-1) M3) (w_X8_has p1 p2 M3 (fun (r6 : Int32) (M5 : gM) => gbr ((r6 : Int32) = 0) (Q (-7) M5) (w_X5_hitOnceBy p1 M5 (fun (r8 : Int32) (M7 : gM) => vp_in p2 14 ∧ (Q (r8 &&& (M7 10 (Int32.toNatClampNeg p2))) M7))))))))
set_option maxRecDepth 100000 in
set_option maxHeartbeats 4000000 in
theorem k_X8_privateEdges {p1 : Int32} {p2 : Int32} {M : gM} {Q : Int32 → gM → Prop} (h : w_X8_privateEdges p1 p2 M Q) : gCi gL 2 yX8_privateEdges cX8_privateEdges 3 .int [.inr 0, .inl p1, .inl p2] M Q := by
  refine gCi_of (by decide) gLn (gle rfl) (fun X ok hZ => ?_)
  show gW X 0 [some (.inr 0), some (.inl p1), some (.inl p2)] [] M
  unfold w_X8_privateEdges at h
  refine g_aload_n ok dX8_privateEdges_0 rfl rfl ?_
  refine g_get (w := .inr 1) ok f0_0 (gLm (by decide)) q2_8 dX8_privateEdges_1 rfl ?_
  refine g_iload_n ok dX8_privateEdges_4 rfl rfl ?_
  refine g_callVi (st := []) (as := [.inl p1]) ok rfl (k_X5_isSet h) s_X5_isSet rfl (by decide) (gLm (by decide)) cl1 sel_X5_isSet ins_X5_isSet (gle rfl) rfl q2_50 dX8_privateEdges_5 ?_
  intro r2 M1 h
  refine g_if_ne (tgt := 14) ok dX8_privateEdges_8 (by decide) (fun z => ?_) (fun z => ?_)
  · have h := h.2 z
    refine g_aload_n ok dX8_privateEdges_14 rfl rfl ?_
    refine g_get (w := .inr 1) ok f0_0 (gLm (by decide)) q2_8 dX8_privateEdges_15 rfl ?_
    refine g_iload_n ok dX8_privateEdges_18 rfl rfl ?_
    refine g_callVi (st := []) (as := [.inl p2]) ok rfl (k_X5_isVertex h) s_X5_isVertex rfl (by decide) (gLm (by decide)) cl1 sel_X5_isVertex ins_X5_isVertex (gle rfl) rfl q2_117 dX8_privateEdges_19 ?_
    intro r4 M3 h
    refine g_if_ne (tgt := 27) ok dX8_privateEdges_22 (by decide) (fun z => ?_) (fun z => ?_)
    · have h := h.2 z
      refine g_iload_n ok dX8_privateEdges_27 rfl rfl ?_
      refine g_iload_n ok dX8_privateEdges_28 rfl rfl ?_
      refine g_callSi (st := []) (as := [.inl p1, .inl p2]) ok rfl (k_X8_has h) s_X8_has rfl (by decide) stt_X8_has (gle rfl) rfl q2_236 dX8_privateEdges_29 ?_
      intro r6 M5 h
      refine g_if_ne (tgt := 38) ok dX8_privateEdges_32 (by decide) (fun z => ?_) (fun z => ?_)
      · have h := h.2 z
        refine g_aload_n ok dX8_privateEdges_38 rfl rfl ?_
        refine g_get (w := .inr 1) ok f0_0 (gLm (by decide)) q2_8 dX8_privateEdges_39 rfl ?_
        refine g_iload_n ok dX8_privateEdges_42 rfl rfl ?_
        refine g_callVi (st := []) (as := [.inl p1]) ok rfl (k_X5_hitOnceBy h) s_X5_hitOnceBy rfl (by decide) (gLm (by decide)) cl1 sel_X5_hitOnceBy ins_X5_hitOnceBy (gle rfl) rfl q2_237 dX8_privateEdges_43 ?_
        intro r8 M7 h
        refine g_aload_n ok dX8_privateEdges_46 rfl rfl ?_
        refine g_get (w := .inr 1) ok f0_0 (gLm (by decide)) q2_8 dX8_privateEdges_47 rfl ?_
        refine g_get (w := .inr 10) ok f1_3 (gLm (by decide)) q1_73 dX8_privateEdges_50 rfl ?_
        refine g_iload_n ok dX8_privateEdges_53 rfl rfl ?_
        have hb := h.1
        have h := h.2
        refine g_iald (w := (M7 10 (Int32.toNatClampNeg p2))) ok a10 (gLm (by decide)) dX8_privateEdges_54 hb rfl ?_
        refine g_iand ok dX8_privateEdges_55 ?_
        exact g_iret ok hZ dX8_privateEdges_56 h
      · have h := h.1 z
        refine g_bipush (v := (-7)) ok dX8_privateEdges_35 (by decide) ?_
        exact g_iret ok hZ dX8_privateEdges_37 h
    · have h := h.1 z
      refine g_iconst (v := (-1)) ok dX8_privateEdges_25 (by decide) ?_
      exact g_iret ok hZ dX8_privateEdges_26 h
  · have h := h.1 z
    refine g_bipush (v := (-3)) ok dX8_privateEdges_11 (by decide) ?_
    exact g_iret ok hZ dX8_privateEdges_13 h
theorem dX8_kindOf_0 : decode cX8_kindOf 0 = .ok (.aload_n 0, 1) := by decide +kernel
theorem dX8_kindOf_1 : decode cX8_kindOf 1 = .ok (.getfield 12, 3) := by decide +kernel
theorem dX8_kindOf_4 : decode cX8_kindOf 4 = .ok (.iload_n 1, 1) := by decide +kernel
theorem dX8_kindOf_5 : decode cX8_kindOf 5 = .ok (.invokevirtual 70, 3) := by decide +kernel
theorem dX8_kindOf_8 : decode cX8_kindOf 8 = .ok (.ifCond .ne 6, 3) := by decide +kernel
theorem dX8_kindOf_11 : decode cX8_kindOf 11 = .ok (.bipush (-3), 2) := by decide +kernel
theorem dX8_kindOf_13 : decode cX8_kindOf 13 = .ok (.ireturn, 1) := by decide +kernel
theorem dX8_kindOf_14 : decode cX8_kindOf 14 = .ok (.aload_n 0, 1) := by decide +kernel
theorem dX8_kindOf_15 : decode cX8_kindOf 15 = .ok (.getfield 12, 3) := by decide +kernel
theorem dX8_kindOf_18 : decode cX8_kindOf 18 = .ok (.iload_n 1, 1) := by decide +kernel
theorem dX8_kindOf_19 : decode cX8_kindOf 19 = .ok (.invokevirtual 158, 3) := by decide +kernel
theorem dX8_kindOf_22 : decode cX8_kindOf 22 = .ok (.ifCond .eq 5, 3) := by decide +kernel
theorem dX8_kindOf_25 : decode cX8_kindOf 25 = .ok (.iconst 0, 1) := by decide +kernel
theorem dX8_kindOf_26 : decode cX8_kindOf 26 = .ok (.ireturn, 1) := by decide +kernel
theorem dX8_kindOf_27 : decode cX8_kindOf 27 = .ok (.aload_n 0, 1) := by decide +kernel
theorem dX8_kindOf_28 : decode cX8_kindOf 28 = .ok (.getfield 12, 3) := by decide +kernel
theorem dX8_kindOf_31 : decode cX8_kindOf 31 = .ok (.iload_n 1, 1) := by decide +kernel
theorem dX8_kindOf_32 : decode cX8_kindOf 32 = .ok (.invokevirtual 168, 3) := by decide +kernel
theorem dX8_kindOf_35 : decode cX8_kindOf 35 = .ok (.ifCond .eq 7, 3) := by decide +kernel
theorem dX8_kindOf_38 : decode cX8_kindOf 38 = .ok (.iconst 1, 1) := by decide +kernel
theorem dX8_kindOf_39 : decode cX8_kindOf 39 = .ok (.goto 4, 3) := by decide +kernel
theorem dX8_kindOf_42 : decode cX8_kindOf 42 = .ok (.iconst 2, 1) := by decide +kernel
theorem dX8_kindOf_43 : decode cX8_kindOf 43 = .ok (.ireturn, 1) := by decide +kernel
theorem s_X8_kindOf : gSt yX8_kindOf cX8_kindOf 2 (some .int) 1 := ⟨q3_4, q1_1, ⟨by decide, by decide, by decide +kernel⟩, by decide⟩
theorem sel_X8_kindOf : Cond.selects yX8_kindOf.cls yX8_kindOf yX8_kindOf ∈ gT := q3_3
theorem ins_X8_kindOf : Cond.instanceMethod yX8_kindOf ∈ gT := q3_2
def w_X8_kindOf (p1 : Int32) (M : gM) (Q : Int32 → gM → Prop) : Prop := w_X5_isSet p1 M (fun (r2 : Int32) (M1 : gM) => gbr ((r2 : Int32) = 0) (Q (-3) M1) (w_X5_missedBy p1 M1 (fun (r4 : Int32) (M3 : gM) => gbr ((r4 : Int32) = 0) (w_X5_isAnswer p1 M3 (fun (r6 : Int32) (M5 : gM) => gbr ((r6 : Int32) = 0) (Q 2 M5) (Q 1 M5))) (Q 0 M3))))
set_option maxRecDepth 100000 in
set_option maxHeartbeats 4000000 in
theorem k_X8_kindOf {p1 : Int32} {M : gM} {Q : Int32 → gM → Prop} (h : w_X8_kindOf p1 M Q) : gCi gL 3 yX8_kindOf cX8_kindOf 2 .int [.inr 0, .inl p1] M Q := by
  refine gCi_of (by decide) gLn (gle rfl) (fun X ok hZ => ?_)
  show gW X 0 [some (.inr 0), some (.inl p1)] [] M
  unfold w_X8_kindOf at h
  refine g_aload_n ok dX8_kindOf_0 rfl rfl ?_
  refine g_get (w := .inr 1) ok f0_0 (gLm (by decide)) q2_8 dX8_kindOf_1 rfl ?_
  refine g_iload_n ok dX8_kindOf_4 rfl rfl ?_
  refine g_callVi (st := []) (as := [.inl p1]) ok rfl (k_X5_isSet h) s_X5_isSet rfl (by decide) (gLm (by decide)) cl1 sel_X5_isSet ins_X5_isSet (gle rfl) rfl q2_50 dX8_kindOf_5 ?_
  intro r2 M1 h
  refine g_if_ne (tgt := 14) ok dX8_kindOf_8 (by decide) (fun z => ?_) (fun z => ?_)
  · have h := h.2 z
    refine g_aload_n ok dX8_kindOf_14 rfl rfl ?_
    refine g_get (w := .inr 1) ok f0_0 (gLm (by decide)) q2_8 dX8_kindOf_15 rfl ?_
    refine g_iload_n ok dX8_kindOf_18 rfl rfl ?_
    refine g_callVi (st := []) (as := [.inl p1]) ok rfl (k_X5_missedBy h) s_X5_missedBy rfl (by decide) (gLm (by decide)) cl1 sel_X5_missedBy ins_X5_missedBy (gle rfl) rfl q2_227 dX8_kindOf_19 ?_
    intro r4 M3 h
    refine g_if_eq (tgt := 27) ok dX8_kindOf_22 (by decide) (fun z => ?_) (fun z => ?_)
    · have h := h.1 z
      refine g_aload_n ok dX8_kindOf_27 rfl rfl ?_
      refine g_get (w := .inr 1) ok f0_0 (gLm (by decide)) q2_8 dX8_kindOf_28 rfl ?_
      refine g_iload_n ok dX8_kindOf_31 rfl rfl ?_
      refine g_callVi (st := []) (as := [.inl p1]) ok rfl (k_X5_isAnswer h) s_X5_isAnswer rfl (by decide) (gLm (by decide)) cl1 sel_X5_isAnswer ins_X5_isAnswer (gle rfl) rfl q3_5 dX8_kindOf_32 ?_
      intro r6 M5 h
      refine g_if_eq (tgt := 42) ok dX8_kindOf_35 (by decide) (fun z => ?_) (fun z => ?_)
      · have h := h.1 z
        refine g_iconst (v := 2) ok dX8_kindOf_42 (by decide) ?_
        exact g_iret ok hZ dX8_kindOf_43 h
      · have h := h.2 z
        refine g_iconst (v := 1) ok dX8_kindOf_38 (by decide) ?_
        refine g_goto (tgt := 43) ok dX8_kindOf_39 (by decide) ?_
        exact g_iret ok hZ dX8_kindOf_43 h
    · have h := h.2 z
      refine g_iconst (v := 0) ok dX8_kindOf_25 (by decide) ?_
      exact g_iret ok hZ dX8_kindOf_26 h
  · have h := h.1 z
    refine g_bipush (v := (-3)) ok dX8_kindOf_11 (by decide) ?_
    exact g_iret ok hZ dX8_kindOf_13 h
theorem dX8_shrink_0 : decode cX8_shrink 0 = .ok (.aload_n 0, 1) := by decide +kernel
theorem dX8_shrink_1 : decode cX8_shrink 1 = .ok (.getfield 12, 3) := by decide +kernel
theorem dX8_shrink_4 : decode cX8_shrink 4 = .ok (.iload_n 1, 1) := by decide +kernel
theorem dX8_shrink_5 : decode cX8_shrink 5 = .ok (.invokevirtual 70, 3) := by decide +kernel
theorem dX8_shrink_8 : decode cX8_shrink 8 = .ok (.ifCond .ne 6, 3) := by decide +kernel
theorem dX8_shrink_11 : decode cX8_shrink 11 = .ok (.bipush (-3), 2) := by decide +kernel
theorem dX8_shrink_13 : decode cX8_shrink 13 = .ok (.ireturn, 1) := by decide +kernel
theorem dX8_shrink_14 : decode cX8_shrink 14 = .ok (.aload_n 0, 1) := by decide +kernel
theorem dX8_shrink_15 : decode cX8_shrink 15 = .ok (.getfield 12, 3) := by decide +kernel
theorem dX8_shrink_18 : decode cX8_shrink 18 = .ok (.iload_n 1, 1) := by decide +kernel
theorem dX8_shrink_19 : decode cX8_shrink 19 = .ok (.invokevirtual 158, 3) := by decide +kernel
theorem dX8_shrink_22 : decode cX8_shrink 22 = .ok (.ifCond .eq 6, 3) := by decide +kernel
theorem dX8_shrink_25 : decode cX8_shrink 25 = .ok (.bipush (-7), 2) := by decide +kernel
theorem dX8_shrink_27 : decode cX8_shrink 27 = .ok (.ireturn, 1) := by decide +kernel
theorem dX8_shrink_28 : decode cX8_shrink 28 = .ok (.iload_n 1, 1) := by decide +kernel
theorem dX8_shrink_29 : decode cX8_shrink 29 = .ok (.istore_n 2, 1) := by decide +kernel
theorem dX8_shrink_30 : decode cX8_shrink 30 = .ok (.iconst 0, 1) := by decide +kernel
theorem dX8_shrink_31 : decode cX8_shrink 31 = .ok (.istore_n 3, 1) := by decide +kernel
theorem dX8_shrink_32 : decode cX8_shrink 32 = .ok (.iload_n 3, 1) := by decide +kernel
theorem dX8_shrink_33 : decode cX8_shrink 33 = .ok (.aload_n 0, 1) := by decide +kernel
theorem dX8_shrink_34 : decode cX8_shrink 34 = .ok (.getfield 12, 3) := by decide +kernel
theorem dX8_shrink_37 : decode cX8_shrink 37 = .ok (.getfield 63, 3) := by decide +kernel
theorem dX8_shrink_40 : decode cX8_shrink 40 = .ok (.if_icmp .ge 33, 3) := by decide +kernel
theorem dX8_shrink_43 : decode cX8_shrink 43 = .ok (.iload_n 2, 1) := by decide +kernel
theorem dX8_shrink_44 : decode cX8_shrink 44 = .ok (.iconst 1, 1) := by decide +kernel
theorem dX8_shrink_45 : decode cX8_shrink 45 = .ok (.iload_n 3, 1) := by decide +kernel
theorem dX8_shrink_46 : decode cX8_shrink 46 = .ok (.ishl, 1) := by decide +kernel
theorem dX8_shrink_47 : decode cX8_shrink 47 = .ok (.iconst (-1), 1) := by decide +kernel
theorem dX8_shrink_48 : decode cX8_shrink 48 = .ok (.ixor, 1) := by decide +kernel
theorem dX8_shrink_49 : decode cX8_shrink 49 = .ok (.iand, 1) := by decide +kernel
theorem dX8_shrink_50 : decode cX8_shrink 50 = .ok (.istore 4, 2) := by decide +kernel
theorem dX8_shrink_52 : decode cX8_shrink 52 = .ok (.aload_n 0, 1) := by decide +kernel
theorem dX8_shrink_53 : decode cX8_shrink 53 = .ok (.getfield 12, 3) := by decide +kernel
theorem dX8_shrink_56 : decode cX8_shrink 56 = .ok (.iload 4, 2) := by decide +kernel
theorem dX8_shrink_58 : decode cX8_shrink 58 = .ok (.invokevirtual 158, 3) := by decide +kernel
theorem dX8_shrink_61 : decode cX8_shrink 61 = .ok (.ifCond .ne 6, 3) := by decide +kernel
theorem dX8_shrink_64 : decode cX8_shrink 64 = .ok (.iload 4, 2) := by decide +kernel
theorem dX8_shrink_66 : decode cX8_shrink 66 = .ok (.istore_n 2, 1) := by decide +kernel
theorem dX8_shrink_67 : decode cX8_shrink 67 = .ok (.iinc 3 1, 3) := by decide +kernel
theorem dX8_shrink_70 : decode cX8_shrink 70 = .ok (.goto (-38), 3) := by decide +kernel
theorem dX8_shrink_73 : decode cX8_shrink 73 = .ok (.iload_n 2, 1) := by decide +kernel
theorem dX8_shrink_74 : decode cX8_shrink 74 = .ok (.ireturn, 1) := by decide +kernel
theorem s_X8_shrink : gSt yX8_shrink cX8_shrink 5 (some .int) 1 := ⟨q3_15, q1_1, ⟨by decide, by decide, by decide +kernel⟩, by decide⟩
theorem sel_X8_shrink : Cond.selects yX8_shrink.cls yX8_shrink yX8_shrink ∈ gT := q3_14
theorem ins_X8_shrink : Cond.instanceMethod yX8_shrink ∈ gT := q3_13
def w_X8_shrink_L32 (Q : Int32 → gM → Prop) (K73 : Int32 → Int32 → gM → Prop) (v1 : Int32) : Nat → Int32 → Int32 → gM → Prop
  | 0, _, _, _ => False
  | n + 1, v2, v3, M => gbr ((v3 : Int32) < (M 1 0)) (∀ x5 : Int32, x5 = (v2 &&& ((1 <<< (v3 &&& 31)) ^^^ (-1))) → (w_X5_missedBy x5 M (fun (r7 : Int32) (M6 : gM) => gbr ((r7 : Int32) = 0) (∀ x9 : Int32, x9 = (v3 + 1) → (w_X8_shrink_L32 Q K73 v1 n (x5) (x9) M6)) (∀ x8 : Int32, x8 = (v3 + 1) → (w_X8_shrink_L32 Q K73 v1 n (v2) (x8) M6))))) (K73 (v2) (v3) M)
def w_X8_shrink (p1 : Int32) (M : gM) (Q : Int32 → gM → Prop) : Prop := w_X5_isSet p1 M (fun (r2 : Int32) (M1 : gM) => gbr ((r2 : Int32) = 0) (Q (-3) M1) (w_X5_missedBy p1 M1 (fun (r4 : Int32) (M3 : gM) => gbr ((r4 : Int32) = 0) (∃ nf, w_X8_shrink_L32 Q (fun (x10 : Int32) (x11 : Int32) (M13 : gM) => Q x10 M13) p1 nf p1 0 M3) (Q (-7) M3))))
set_option maxRecDepth 100000 in
set_option maxHeartbeats 4000000 in
theorem w_X8_shrink_L32_w {X : gX} (ok : gOk X cX8_shrink yX8_shrink.cls 2 5 (some .int) gL) {Q : Int32 → gM → Prop} (hZ : gZi X Q) {K73 : Int32 → Int32 → gM → Prop} (v1 : Int32) (hK73 : ∀ (v2 : Int32) (v3 : Int32) (u4 : Option gV) (M : gM), K73 v2 v3 M → gW X 73 [some (.inr 0), some (.inl v1), some (.inl v2), some (.inl v3), u4] [] M) : ∀ (n : Nat) (v2 : Int32) (v3 : Int32) (u4 : Option gV) (M : gM), w_X8_shrink_L32 Q K73 v1 n v2 v3 M → gW X 32 [some (.inr 0), some (.inl v1), some (.inl v2), some (.inl v3), u4] [] M
  | 0, _, _, _, _, h => h.elim
  | n + 1, v2, v3, u4, M, h => by
    have ih := fun (v2 : Int32) (v3 : Int32) (u4 : Option gV) (M : gM) h => w_X8_shrink_L32_w ok hZ v1 hK73 n v2 v3 u4 M h
    rw [w_X8_shrink_L32.eq_2] at h
    refine g_iload_n ok dX8_shrink_32 rfl rfl ?_
    refine g_aload_n ok dX8_shrink_33 rfl rfl ?_
    refine g_get (w := .inr 1) ok f0_0 (gLm (by decide)) q2_8 dX8_shrink_34 rfl ?_
    refine g_get (w := .inl (M 1 0)) ok f1_0 (gLm (by decide)) q1_56 dX8_shrink_37 rfl ?_
    refine g_icmp_ge (tgt := 73) ok dX8_shrink_40 (by decide) (fun z => ?_) (fun z => ?_)
    · have h := h.2 z
      exact hK73 (v2) (v3) (u4) M h
    · have h := h.1 z
      refine g_iload_n ok dX8_shrink_43 rfl rfl ?_
      refine g_iconst (v := 1) ok dX8_shrink_44 (by decide) ?_
      refine g_iload_n ok dX8_shrink_45 rfl rfl ?_
      refine g_ishl ok dX8_shrink_46 ?_
      refine g_iconst (v := (-1)) ok dX8_shrink_47 (by decide) ?_
      refine g_ixor ok dX8_shrink_48 ?_
      refine g_iand ok dX8_shrink_49 ?_
      refine g_nm (fun x5 ex5 => ?_)
      have h := h x5 ex5
      refine g_istore (lv1 := [some (.inr 0), some (.inl v1), some (.inl v2), some (.inl v3), some (.inl x5)]) ok dX8_shrink_50 (glt rfl) rfl ?_
      refine g_aload_n ok dX8_shrink_52 rfl rfl ?_
      refine g_get (w := .inr 1) ok f0_0 (gLm (by decide)) q2_8 dX8_shrink_53 rfl ?_
      refine g_iload ok dX8_shrink_56 rfl ?_
      refine g_callVi (st := []) (as := [.inl x5]) ok rfl (k_X5_missedBy h) s_X5_missedBy rfl (by decide) (gLm (by decide)) cl1 sel_X5_missedBy ins_X5_missedBy (gle rfl) rfl q2_227 dX8_shrink_58 ?_
      intro r7 M6 h
      refine g_if_ne (tgt := 67) ok dX8_shrink_61 (by decide) (fun z => ?_) (fun z => ?_)
      · have h := h.2 z
        obtain ⟨x8, ex8⟩ : ∃ y : Int32, y = (v3 + 1) := ⟨_, rfl⟩
        have h := h x8 ex8
        refine g_iinc (v := x8) (lv1 := [some (.inr 0), some (.inl v1), some (.inl v2), some (.inl x8), some (.inl x5)]) ok dX8_shrink_67 rfl (by rw [ex8]; rfl) rfl ?_
        refine g_goto (tgt := 32) ok dX8_shrink_70 (by decide) ?_
        exact ih (v2) (x8) (some (.inl x5)) M6 h
      · have h := h.1 z
        refine g_iload ok dX8_shrink_64 rfl ?_
        refine g_istore_n (lv1 := [some (.inr 0), some (.inl v1), some (.inl x5), some (.inl v3), some (.inl x5)]) ok dX8_shrink_66 rfl (glt rfl) rfl ?_
        obtain ⟨x9, ex9⟩ : ∃ y : Int32, y = (v3 + 1) := ⟨_, rfl⟩
        have h := h x9 ex9
        refine g_iinc (v := x9) (lv1 := [some (.inr 0), some (.inl v1), some (.inl x5), some (.inl x9), some (.inl x5)]) ok dX8_shrink_67 rfl (by rw [ex9]; rfl) rfl ?_
        refine g_goto (tgt := 32) ok dX8_shrink_70 (by decide) ?_
        exact ih (x5) (x9) (some (.inl x5)) M6 h
set_option maxRecDepth 100000 in
set_option maxHeartbeats 4000000 in
theorem k_X8_shrink {p1 : Int32} {M : gM} {Q : Int32 → gM → Prop} (h : w_X8_shrink p1 M Q) : gCi gL 2 yX8_shrink cX8_shrink 5 .int [.inr 0, .inl p1] M Q := by
  refine gCi_of (by decide) gLn (gle rfl) (fun X ok hZ => ?_)
  show gW X 0 [some (.inr 0), some (.inl p1), none, none, none] [] M
  unfold w_X8_shrink at h
  refine g_aload_n ok dX8_shrink_0 rfl rfl ?_
  refine g_get (w := .inr 1) ok f0_0 (gLm (by decide)) q2_8 dX8_shrink_1 rfl ?_
  refine g_iload_n ok dX8_shrink_4 rfl rfl ?_
  refine g_callVi (st := []) (as := [.inl p1]) ok rfl (k_X5_isSet h) s_X5_isSet rfl (by decide) (gLm (by decide)) cl1 sel_X5_isSet ins_X5_isSet (gle rfl) rfl q2_50 dX8_shrink_5 ?_
  intro r2 M1 h
  refine g_if_ne (tgt := 14) ok dX8_shrink_8 (by decide) (fun z => ?_) (fun z => ?_)
  · have h := h.2 z
    refine g_aload_n ok dX8_shrink_14 rfl rfl ?_
    refine g_get (w := .inr 1) ok f0_0 (gLm (by decide)) q2_8 dX8_shrink_15 rfl ?_
    refine g_iload_n ok dX8_shrink_18 rfl rfl ?_
    refine g_callVi (st := []) (as := [.inl p1]) ok rfl (k_X5_missedBy h) s_X5_missedBy rfl (by decide) (gLm (by decide)) cl1 sel_X5_missedBy ins_X5_missedBy (gle rfl) rfl q2_227 dX8_shrink_19 ?_
    intro r4 M3 h
    refine g_if_eq (tgt := 28) ok dX8_shrink_22 (by decide) (fun z => ?_) (fun z => ?_)
    · have h := h.1 z
      refine g_iload_n ok dX8_shrink_28 rfl rfl ?_
      refine g_istore_n (lv1 := [some (.inr 0), some (.inl p1), some (.inl p1), none, none]) ok dX8_shrink_29 rfl (glt rfl) rfl ?_
      refine g_iconst (v := 0) ok dX8_shrink_30 (by decide) ?_
      refine g_istore_n (lv1 := [some (.inr 0), some (.inl p1), some (.inl p1), some (.inl 0), none]) ok dX8_shrink_31 rfl (glt rfl) rfl ?_
      obtain ⟨nf, h⟩ := h
      refine w_X8_shrink_L32_w ok hZ p1 ?_ nf p1 0 (none) M3 h
      · intro x10 x11 u12 M13 h
        refine g_iload_n ok dX8_shrink_73 rfl rfl ?_
        exact g_iret ok hZ dX8_shrink_74 h
    · have h := h.2 z
      refine g_bipush (v := (-7)) ok dX8_shrink_25 (by decide) ?_
      exact g_iret ok hZ dX8_shrink_27 h
  · have h := h.1 z
    refine g_bipush (v := (-3)) ok dX8_shrink_11 (by decide) ?_
    exact g_iret ok hZ dX8_shrink_13 h
theorem dX8_grow_0 : decode cX8_grow 0 = .ok (.aload_n 0, 1) := by decide +kernel
theorem dX8_grow_1 : decode cX8_grow 1 = .ok (.getfield 12, 3) := by decide +kernel
theorem dX8_grow_4 : decode cX8_grow 4 = .ok (.iload_n 1, 1) := by decide +kernel
theorem dX8_grow_5 : decode cX8_grow 5 = .ok (.invokevirtual 70, 3) := by decide +kernel
theorem dX8_grow_8 : decode cX8_grow 8 = .ok (.ifCond .ne 6, 3) := by decide +kernel
theorem dX8_grow_11 : decode cX8_grow 11 = .ok (.bipush (-3), 2) := by decide +kernel
theorem dX8_grow_13 : decode cX8_grow 13 = .ok (.ireturn, 1) := by decide +kernel
theorem dX8_grow_14 : decode cX8_grow 14 = .ok (.iload_n 1, 1) := by decide +kernel
theorem dX8_grow_15 : decode cX8_grow 15 = .ok (.istore_n 2, 1) := by decide +kernel
theorem dX8_grow_16 : decode cX8_grow 16 = .ok (.iconst 0, 1) := by decide +kernel
theorem dX8_grow_17 : decode cX8_grow 17 = .ok (.istore_n 3, 1) := by decide +kernel
theorem dX8_grow_18 : decode cX8_grow 18 = .ok (.iload_n 3, 1) := by decide +kernel
theorem dX8_grow_19 : decode cX8_grow 19 = .ok (.aload_n 0, 1) := by decide +kernel
theorem dX8_grow_20 : decode cX8_grow 20 = .ok (.getfield 12, 3) := by decide +kernel
theorem dX8_grow_23 : decode cX8_grow 23 = .ok (.getfield 63, 3) := by decide +kernel
theorem dX8_grow_26 : decode cX8_grow 26 = .ok (.if_icmp .ge 41, 3) := by decide +kernel
theorem dX8_grow_29 : decode cX8_grow 29 = .ok (.aload_n 0, 1) := by decide +kernel
theorem dX8_grow_30 : decode cX8_grow 30 = .ok (.getfield 12, 3) := by decide +kernel
theorem dX8_grow_33 : decode cX8_grow 33 = .ok (.iload_n 2, 1) := by decide +kernel
theorem dX8_grow_34 : decode cX8_grow 34 = .ok (.invokevirtual 158, 3) := by decide +kernel
theorem dX8_grow_37 : decode cX8_grow 37 = .ok (.istore 4, 2) := by decide +kernel
theorem dX8_grow_39 : decode cX8_grow 39 = .ok (.iload 4, 2) := by decide +kernel
theorem dX8_grow_41 : decode cX8_grow 41 = .ok (.ifCond .ne 6, 3) := by decide +kernel
theorem dX8_grow_44 : decode cX8_grow 44 = .ok (.goto 23, 3) := by decide +kernel
theorem dX8_grow_47 : decode cX8_grow 47 = .ok (.iload_n 2, 1) := by decide +kernel
theorem dX8_grow_48 : decode cX8_grow 48 = .ok (.iconst 1, 1) := by decide +kernel
theorem dX8_grow_49 : decode cX8_grow 49 = .ok (.aload_n 0, 1) := by decide +kernel
theorem dX8_grow_50 : decode cX8_grow 50 = .ok (.getfield 12, 3) := by decide +kernel
theorem dX8_grow_53 : decode cX8_grow 53 = .ok (.iload 4, 2) := by decide +kernel
theorem dX8_grow_55 : decode cX8_grow 55 = .ok (.invokevirtual 171, 3) := by decide +kernel
theorem dX8_grow_58 : decode cX8_grow 58 = .ok (.ishl, 1) := by decide +kernel
theorem dX8_grow_59 : decode cX8_grow 59 = .ok (.ior, 1) := by decide +kernel
theorem dX8_grow_60 : decode cX8_grow 60 = .ok (.istore_n 2, 1) := by decide +kernel
theorem dX8_grow_61 : decode cX8_grow 61 = .ok (.iinc 3 1, 3) := by decide +kernel
theorem dX8_grow_64 : decode cX8_grow 64 = .ok (.goto (-46), 3) := by decide +kernel
theorem dX8_grow_67 : decode cX8_grow 67 = .ok (.iload_n 2, 1) := by decide +kernel
theorem dX8_grow_68 : decode cX8_grow 68 = .ok (.ireturn, 1) := by decide +kernel
theorem s_X8_grow : gSt yX8_grow cX8_grow 5 (some .int) 1 := ⟨q3_19, q1_1, ⟨by decide, by decide, by decide +kernel⟩, by decide⟩
theorem sel_X8_grow : Cond.selects yX8_grow.cls yX8_grow yX8_grow ∈ gT := q3_18
theorem ins_X8_grow : Cond.instanceMethod yX8_grow ∈ gT := q3_17
def w_X8_grow_L18 (Q : Int32 → gM → Prop) (K67 : Int32 → Int32 → gM → Prop) (K44 : Int32 → Int32 → gM → Prop) (v1 : Int32) : Nat → Int32 → Int32 → gM → Prop
  | 0, _, _, _ => False
  | n + 1, v2, v3, M => gbr ((v3 : Int32) < (M 1 0)) (w_X5_missedBy v2 M (fun (r4 : Int32) (M3 : gM) => gbr ((r4 : Int32) = 0) (K44 (v2) (v3) M3) (w_X5_busiestVertex r4 M3 (fun (r6 : Int32) (M5 : gM) => ∀ x7 : Int32, x7 = (v2 ||| (1 <<< (r6 &&& 31))) → (∀ x8 : Int32, x8 = (v3 + 1) → (w_X8_grow_L18 Q K67 K44 v1 n (x7) (x8) M5)))))) (K67 (v2) (v3) M)
def w_X8_grow (p1 : Int32) (M : gM) (Q : Int32 → gM → Prop) : Prop := w_X5_isSet p1 M (fun (r2 : Int32) (M1 : gM) => gbr ((r2 : Int32) = 0) (Q (-3) M1) (∃ nf, w_X8_grow_L18 Q (fun (x9 : Int32) (x10 : Int32) (M12 : gM) => Q x9 M12) (fun (x13 : Int32) (x14 : Int32) (M16 : gM) => Q x13 M16) p1 nf p1 0 M1))
set_option maxRecDepth 100000 in
set_option maxHeartbeats 4000000 in
theorem w_X8_grow_L18_w {X : gX} (ok : gOk X cX8_grow yX8_grow.cls 2 5 (some .int) gL) {Q : Int32 → gM → Prop} (hZ : gZi X Q) {K67 : Int32 → Int32 → gM → Prop} {K44 : Int32 → Int32 → gM → Prop} (v1 : Int32) (hK67 : ∀ (v2 : Int32) (v3 : Int32) (u4 : Option gV) (M : gM), K67 v2 v3 M → gW X 67 [some (.inr 0), some (.inl v1), some (.inl v2), some (.inl v3), u4] [] M) (hK44 : ∀ (v2 : Int32) (v3 : Int32) (u4 : Option gV) (M : gM), K44 v2 v3 M → gW X 44 [some (.inr 0), some (.inl v1), some (.inl v2), some (.inl v3), u4] [] M) : ∀ (n : Nat) (v2 : Int32) (v3 : Int32) (u4 : Option gV) (M : gM), w_X8_grow_L18 Q K67 K44 v1 n v2 v3 M → gW X 18 [some (.inr 0), some (.inl v1), some (.inl v2), some (.inl v3), u4] [] M
  | 0, _, _, _, _, h => h.elim
  | n + 1, v2, v3, u4, M, h => by
    have ih := fun (v2 : Int32) (v3 : Int32) (u4 : Option gV) (M : gM) h => w_X8_grow_L18_w ok hZ v1 hK67 hK44 n v2 v3 u4 M h
    rw [w_X8_grow_L18.eq_2] at h
    refine g_iload_n ok dX8_grow_18 rfl rfl ?_
    refine g_aload_n ok dX8_grow_19 rfl rfl ?_
    refine g_get (w := .inr 1) ok f0_0 (gLm (by decide)) q2_8 dX8_grow_20 rfl ?_
    refine g_get (w := .inl (M 1 0)) ok f1_0 (gLm (by decide)) q1_56 dX8_grow_23 rfl ?_
    refine g_icmp_ge (tgt := 67) ok dX8_grow_26 (by decide) (fun z => ?_) (fun z => ?_)
    · have h := h.2 z
      exact hK67 (v2) (v3) (u4) M h
    · have h := h.1 z
      refine g_aload_n ok dX8_grow_29 rfl rfl ?_
      refine g_get (w := .inr 1) ok f0_0 (gLm (by decide)) q2_8 dX8_grow_30 rfl ?_
      refine g_iload_n ok dX8_grow_33 rfl rfl ?_
      refine g_callVi (st := []) (as := [.inl v2]) ok rfl (k_X5_missedBy h) s_X5_missedBy rfl (by decide) (gLm (by decide)) cl1 sel_X5_missedBy ins_X5_missedBy (gle rfl) rfl q2_227 dX8_grow_34 ?_
      intro r4 M3 h
      refine g_istore (lv1 := [some (.inr 0), some (.inl v1), some (.inl v2), some (.inl v3), some (.inl r4)]) ok dX8_grow_37 (glt rfl) rfl ?_
      refine g_iload ok dX8_grow_39 rfl ?_
      refine g_if_ne (tgt := 47) ok dX8_grow_41 (by decide) (fun z => ?_) (fun z => ?_)
      · have h := h.2 z
        refine g_iload_n ok dX8_grow_47 rfl rfl ?_
        refine g_iconst (v := 1) ok dX8_grow_48 (by decide) ?_
        refine g_aload_n ok dX8_grow_49 rfl rfl ?_
        refine g_get (w := .inr 1) ok f0_0 (gLm (by decide)) q2_8 dX8_grow_50 rfl ?_
        refine g_iload ok dX8_grow_53 rfl ?_
        refine g_callVi (st := [.inl 1, .inl v2]) (as := [.inl r4]) ok rfl (k_X5_busiestVertex h) s_X5_busiestVertex rfl (by decide) (gLm (by decide)) cl1 sel_X5_busiestVertex ins_X5_busiestVertex (gle rfl) rfl q3_20 dX8_grow_55 ?_
        intro r6 M5 h
        refine g_ishl ok dX8_grow_58 ?_
        refine g_ior ok dX8_grow_59 ?_
        refine g_nm (fun x7 ex7 => ?_)
        have h := h x7 ex7
        refine g_istore_n (lv1 := [some (.inr 0), some (.inl v1), some (.inl x7), some (.inl v3), some (.inl r4)]) ok dX8_grow_60 rfl (glt rfl) rfl ?_
        obtain ⟨x8, ex8⟩ : ∃ y : Int32, y = (v3 + 1) := ⟨_, rfl⟩
        have h := h x8 ex8
        refine g_iinc (v := x8) (lv1 := [some (.inr 0), some (.inl v1), some (.inl x7), some (.inl x8), some (.inl r4)]) ok dX8_grow_61 rfl (by rw [ex8]; rfl) rfl ?_
        refine g_goto (tgt := 18) ok dX8_grow_64 (by decide) ?_
        exact ih (x7) (x8) (some (.inl r4)) M5 h
      · have h := h.1 z
        exact hK44 (v2) (v3) (some (.inl r4)) M3 h
set_option maxRecDepth 100000 in
set_option maxHeartbeats 4000000 in
theorem k_X8_grow {p1 : Int32} {M : gM} {Q : Int32 → gM → Prop} (h : w_X8_grow p1 M Q) : gCi gL 2 yX8_grow cX8_grow 5 .int [.inr 0, .inl p1] M Q := by
  refine gCi_of (by decide) gLn (gle rfl) (fun X ok hZ => ?_)
  show gW X 0 [some (.inr 0), some (.inl p1), none, none, none] [] M
  unfold w_X8_grow at h
  refine g_aload_n ok dX8_grow_0 rfl rfl ?_
  refine g_get (w := .inr 1) ok f0_0 (gLm (by decide)) q2_8 dX8_grow_1 rfl ?_
  refine g_iload_n ok dX8_grow_4 rfl rfl ?_
  refine g_callVi (st := []) (as := [.inl p1]) ok rfl (k_X5_isSet h) s_X5_isSet rfl (by decide) (gLm (by decide)) cl1 sel_X5_isSet ins_X5_isSet (gle rfl) rfl q2_50 dX8_grow_5 ?_
  intro r2 M1 h
  refine g_if_ne (tgt := 14) ok dX8_grow_8 (by decide) (fun z => ?_) (fun z => ?_)
  · have h := h.2 z
    refine g_iload_n ok dX8_grow_14 rfl rfl ?_
    refine g_istore_n (lv1 := [some (.inr 0), some (.inl p1), some (.inl p1), none, none]) ok dX8_grow_15 rfl (glt rfl) rfl ?_
    refine g_iconst (v := 0) ok dX8_grow_16 (by decide) ?_
    refine g_istore_n (lv1 := [some (.inr 0), some (.inl p1), some (.inl p1), some (.inl 0), none]) ok dX8_grow_17 rfl (glt rfl) rfl ?_
    obtain ⟨nf, h⟩ := h
    refine w_X8_grow_L18_w ok hZ p1 ?_ ?_ nf p1 0 (none) M1 h
    · intro x9 x10 u11 M12 h
      refine g_iload_n ok dX8_grow_67 rfl rfl ?_
      exact g_iret ok hZ dX8_grow_68 h
    · intro x13 x14 u15 M16 h
      refine g_goto (tgt := 67) ok dX8_grow_44 (by decide) ?_
      refine g_iload_n ok dX8_grow_67 rfl rfl ?_
      exact g_iret ok hZ dX8_grow_68 h
  · have h := h.1 z
    refine g_bipush (v := (-3)) ok dX8_grow_11 (by decide) ?_
    exact g_iret ok hZ dX8_grow_13 h
theorem dX8_answerCount_0 : decode cX8_answerCount 0 = .ok (.aload_n 0, 1) := by decide +kernel
theorem dX8_answerCount_1 : decode cX8_answerCount 1 = .ok (.getfield 31, 3) := by decide +kernel
theorem dX8_answerCount_4 : decode cX8_answerCount 4 = .ok (.invokevirtual 122, 3) := by decide +kernel
theorem dX8_answerCount_7 : decode cX8_answerCount 7 = .ok (.ifCond .eq 13, 3) := by decide +kernel
theorem dX8_answerCount_10 : decode cX8_answerCount 10 = .ok (.aload_n 0, 1) := by decide +kernel
theorem dX8_answerCount_11 : decode cX8_answerCount 11 = .ok (.getfield 31, 3) := by decide +kernel
theorem dX8_answerCount_14 : decode cX8_answerCount 14 = .ok (.getfield 125, 3) := by decide +kernel
theorem dX8_answerCount_17 : decode cX8_answerCount 17 = .ok (.goto 5, 3) := by decide +kernel
theorem dX8_answerCount_20 : decode cX8_answerCount 20 = .ok (.bipush (-6), 2) := by decide +kernel
theorem dX8_answerCount_22 : decode cX8_answerCount 22 = .ok (.ireturn, 1) := by decide +kernel
theorem s_X8_answerCount : gSt yX8_answerCount cX8_answerCount 1 (some .int) 0 := ⟨q3_27, q1_1, ⟨by decide, by decide, by decide +kernel⟩, by decide⟩
theorem sel_X8_answerCount : Cond.selects yX8_answerCount.cls yX8_answerCount yX8_answerCount ∈ gT := q3_26
theorem ins_X8_answerCount : Cond.instanceMethod yX8_answerCount ∈ gT := q3_25
def w_X8_answerCount  (M : gM) (Q : Int32 → gM → Prop) : Prop := w_X6_succeeds M (fun (r2 : Int32) (M1 : gM) => gbr ((r2 : Int32) = 0) (Q (-6) M1) (Q (M1 4 2) M1))
set_option maxRecDepth 100000 in
set_option maxHeartbeats 4000000 in
theorem k_X8_answerCount  {M : gM} {Q : Int32 → gM → Prop} (h : w_X8_answerCount  M Q) : gCi gL 21 yX8_answerCount cX8_answerCount 1 .int [.inr 0] M Q := by
  refine gCi_of (by decide) gLn (gle rfl) (fun X ok hZ => ?_)
  show gW X 0 [some (.inr 0)] [] M
  unfold w_X8_answerCount at h
  refine g_aload_n ok dX8_answerCount_0 rfl rfl ?_
  refine g_get (w := .inr 4) ok f0_2 (gLm (by decide)) q2_10 dX8_answerCount_1 rfl ?_
  refine g_callVi (st := []) (as := []) ok rfl (k_X6_succeeds h) s_X6_succeeds rfl (by decide) (gLm (by decide)) cl4 sel_X6_succeeds ins_X6_succeeds (gle rfl) rfl q2_140 dX8_answerCount_4 ?_
  intro r2 M1 h
  refine g_if_eq (tgt := 20) ok dX8_answerCount_7 (by decide) (fun z => ?_) (fun z => ?_)
  · have h := h.1 z
    refine g_bipush (v := (-6)) ok dX8_answerCount_20 (by decide) ?_
    exact g_iret ok hZ dX8_answerCount_22 h
  · have h := h.2 z
    refine g_aload_n ok dX8_answerCount_10 rfl rfl ?_
    refine g_get (w := .inr 4) ok f0_2 (gLm (by decide)) q2_10 dX8_answerCount_11 rfl ?_
    refine g_get (w := .inl (M1 4 2)) ok f4_2 (gLm (by decide)) q1_126 dX8_answerCount_14 rfl ?_
    refine g_goto (tgt := 22) ok dX8_answerCount_17 (by decide) ?_
    exact g_iret ok hZ dX8_answerCount_22 h
theorem dX8_problemWithPlace_0 : decode cX8_problemWithPlace 0 = .ok (.iload_n 1, 1) := by decide +kernel
theorem dX8_problemWithPlace_1 : decode cX8_problemWithPlace 1 = .ok (.ifCond .ge 6, 3) := by decide +kernel
theorem dX8_problemWithPlace_4 : decode cX8_problemWithPlace 4 = .ok (.bipush (-3), 2) := by decide +kernel
theorem dX8_problemWithPlace_6 : decode cX8_problemWithPlace 6 = .ok (.ireturn, 1) := by decide +kernel
theorem dX8_problemWithPlace_7 : decode cX8_problemWithPlace 7 = .ok (.aload_n 0, 1) := by decide +kernel
theorem dX8_problemWithPlace_8 : decode cX8_problemWithPlace 8 = .ok (.getfield 31, 3) := by decide +kernel
theorem dX8_problemWithPlace_11 : decode cX8_problemWithPlace 11 = .ok (.invokevirtual 122, 3) := by decide +kernel
theorem dX8_problemWithPlace_14 : decode cX8_problemWithPlace 14 = .ok (.ifCond .ne 6, 3) := by decide +kernel
theorem dX8_problemWithPlace_17 : decode cX8_problemWithPlace 17 = .ok (.bipush (-6), 2) := by decide +kernel
theorem dX8_problemWithPlace_19 : decode cX8_problemWithPlace 19 = .ok (.ireturn, 1) := by decide +kernel
theorem dX8_problemWithPlace_20 : decode cX8_problemWithPlace 20 = .ok (.iload_n 1, 1) := by decide +kernel
theorem dX8_problemWithPlace_21 : decode cX8_problemWithPlace 21 = .ok (.aload_n 0, 1) := by decide +kernel
theorem dX8_problemWithPlace_22 : decode cX8_problemWithPlace 22 = .ok (.getfield 31, 3) := by decide +kernel
theorem dX8_problemWithPlace_25 : decode cX8_problemWithPlace 25 = .ok (.getfield 125, 3) := by decide +kernel
theorem dX8_problemWithPlace_28 : decode cX8_problemWithPlace 28 = .ok (.if_icmp .ge 7, 3) := by decide +kernel
theorem dX8_problemWithPlace_31 : decode cX8_problemWithPlace 31 = .ok (.iconst 0, 1) := by decide +kernel
theorem dX8_problemWithPlace_32 : decode cX8_problemWithPlace 32 = .ok (.goto 5, 3) := by decide +kernel
theorem dX8_problemWithPlace_35 : decode cX8_problemWithPlace 35 = .ok (.bipush (-7), 2) := by decide +kernel
theorem dX8_problemWithPlace_37 : decode cX8_problemWithPlace 37 = .ok (.ireturn, 1) := by decide +kernel
theorem s_X8_problemWithPlace : gSt yX8_problemWithPlace cX8_problemWithPlace 2 (some .int) 1 := ⟨q3_35, q1_1, ⟨by decide, by decide, by decide +kernel⟩, by decide⟩
theorem sel_X8_problemWithPlace : Cond.selects yX8_problemWithPlace.cls yX8_problemWithPlace yX8_problemWithPlace ∈ gT := qs_4
theorem ins_X8_problemWithPlace : Cond.instanceMethod yX8_problemWithPlace ∈ gT := q3_34
def w_X8_problemWithPlace (p1 : Int32) (M : gM) (Q : Int32 → gM → Prop) : Prop := gbr ((p1 : Int32) < 0) (Q (-3) M) (w_X6_succeeds M (fun (r2 : Int32) (M1 : gM) => gbr ((r2 : Int32) = 0) (Q (-6) M1) (gbr ((p1 : Int32) < (M1 4 2)) (Q 0 M1) (Q (-7) M1))))
set_option maxRecDepth 100000 in
set_option maxHeartbeats 4000000 in
theorem k_X8_problemWithPlace {p1 : Int32} {M : gM} {Q : Int32 → gM → Prop} (h : w_X8_problemWithPlace p1 M Q) : gCi gL 21 yX8_problemWithPlace cX8_problemWithPlace 2 .int [.inr 0, .inl p1] M Q := by
  refine gCi_of (by decide) gLn (gle rfl) (fun X ok hZ => ?_)
  show gW X 0 [some (.inr 0), some (.inl p1)] [] M
  unfold w_X8_problemWithPlace at h
  refine g_iload_n ok dX8_problemWithPlace_0 rfl rfl ?_
  refine g_if_ge (tgt := 7) ok dX8_problemWithPlace_1 (by decide) (fun z => ?_) (fun z => ?_)
  · have h := h.2 z
    refine g_aload_n ok dX8_problemWithPlace_7 rfl rfl ?_
    refine g_get (w := .inr 4) ok f0_2 (gLm (by decide)) q2_10 dX8_problemWithPlace_8 rfl ?_
    refine g_callVi (st := []) (as := []) ok rfl (k_X6_succeeds h) s_X6_succeeds rfl (by decide) (gLm (by decide)) cl4 sel_X6_succeeds ins_X6_succeeds (gle rfl) rfl q2_140 dX8_problemWithPlace_11 ?_
    intro r2 M1 h
    refine g_if_ne (tgt := 20) ok dX8_problemWithPlace_14 (by decide) (fun z => ?_) (fun z => ?_)
    · have h := h.2 z
      refine g_iload_n ok dX8_problemWithPlace_20 rfl rfl ?_
      refine g_aload_n ok dX8_problemWithPlace_21 rfl rfl ?_
      refine g_get (w := .inr 4) ok f0_2 (gLm (by decide)) q2_10 dX8_problemWithPlace_22 rfl ?_
      refine g_get (w := .inl (M1 4 2)) ok f4_2 (gLm (by decide)) q1_126 dX8_problemWithPlace_25 rfl ?_
      refine g_icmp_ge (tgt := 35) ok dX8_problemWithPlace_28 (by decide) (fun z => ?_) (fun z => ?_)
      · have h := h.2 z
        refine g_bipush (v := (-7)) ok dX8_problemWithPlace_35 (by decide) ?_
        exact g_iret ok hZ dX8_problemWithPlace_37 h
      · have h := h.1 z
        refine g_iconst (v := 0) ok dX8_problemWithPlace_31 (by decide) ?_
        refine g_goto (tgt := 37) ok dX8_problemWithPlace_32 (by decide) ?_
        exact g_iret ok hZ dX8_problemWithPlace_37 h
    · have h := h.1 z
      refine g_bipush (v := (-6)) ok dX8_problemWithPlace_17 (by decide) ?_
      exact g_iret ok hZ dX8_problemWithPlace_19 h
  · have h := h.1 z
    refine g_bipush (v := (-3)) ok dX8_problemWithPlace_4 (by decide) ?_
    exact g_iret ok hZ dX8_problemWithPlace_6 h
theorem dX8_answer_0 : decode cX8_answer 0 = .ok (.aload_n 0, 1) := by decide +kernel
theorem dX8_answer_1 : decode cX8_answer 1 = .ok (.iload_n 1, 1) := by decide +kernel
theorem dX8_answer_2 : decode cX8_answer 2 = .ok (.invokevirtual 174, 3) := by decide +kernel
theorem dX8_answer_5 : decode cX8_answer 5 = .ok (.istore_n 2, 1) := by decide +kernel
theorem dX8_answer_6 : decode cX8_answer 6 = .ok (.iload_n 2, 1) := by decide +kernel
theorem dX8_answer_7 : decode cX8_answer 7 = .ok (.ifCond .eq 7, 3) := by decide +kernel
theorem dX8_answer_10 : decode cX8_answer 10 = .ok (.iload_n 2, 1) := by decide +kernel
theorem dX8_answer_11 : decode cX8_answer 11 = .ok (.goto 12, 3) := by decide +kernel
theorem dX8_answer_14 : decode cX8_answer 14 = .ok (.aload_n 0, 1) := by decide +kernel
theorem dX8_answer_15 : decode cX8_answer 15 = .ok (.getfield 31, 3) := by decide +kernel
theorem dX8_answer_18 : decode cX8_answer 18 = .ok (.getfield 177, 3) := by decide +kernel
theorem dX8_answer_21 : decode cX8_answer 21 = .ok (.iload_n 1, 1) := by decide +kernel
theorem dX8_answer_22 : decode cX8_answer 22 = .ok (.iaload, 1) := by decide +kernel
theorem dX8_answer_23 : decode cX8_answer 23 = .ok (.ireturn, 1) := by decide +kernel
theorem s_X8_answer : gSt yX8_answer cX8_answer 3 (some .int) 1 := ⟨q3_31, q1_1, ⟨by decide, by decide, by decide +kernel⟩, by decide⟩
theorem sel_X8_answer : Cond.selects yX8_answer.cls yX8_answer yX8_answer ∈ gT := q3_30
theorem ins_X8_answer : Cond.instanceMethod yX8_answer ∈ gT := q3_29
def w_X8_answer (p1 : Int32) (M : gM) (Q : Int32 → gM → Prop) : Prop := w_X8_problemWithPlace p1 M (fun (r2 : Int32) (M1 : gM) => gbr ((r2 : Int32) = 0) (vp_in p1 4000 ∧ (Q (M1 30 (Int32.toNatClampNeg p1)) M1)) (Q r2 M1))
set_option maxRecDepth 100000 in
set_option maxHeartbeats 4000000 in
theorem k_X8_answer {p1 : Int32} {M : gM} {Q : Int32 → gM → Prop} (h : w_X8_answer p1 M Q) : gCi gL 22 yX8_answer cX8_answer 3 .int [.inr 0, .inl p1] M Q := by
  refine gCi_of (by decide) gLn (gle rfl) (fun X ok hZ => ?_)
  show gW X 0 [some (.inr 0), some (.inl p1), none] [] M
  unfold w_X8_answer at h
  refine g_aload_n ok dX8_answer_0 rfl rfl ?_
  refine g_iload_n ok dX8_answer_1 rfl rfl ?_
  refine g_callVi (st := []) (as := [.inl p1]) ok rfl (k_X8_problemWithPlace h) s_X8_problemWithPlace rfl (by decide) (gLm (by decide)) cl0 sel_X8_problemWithPlace ins_X8_problemWithPlace (gle rfl) rfl q3_32 dX8_answer_2 ?_
  intro r2 M1 h
  refine g_istore_n (lv1 := [some (.inr 0), some (.inl p1), some (.inl r2)]) ok dX8_answer_5 rfl (glt rfl) rfl ?_
  refine g_iload_n ok dX8_answer_6 rfl rfl ?_
  refine g_if_eq (tgt := 14) ok dX8_answer_7 (by decide) (fun z => ?_) (fun z => ?_)
  · have h := h.1 z
    refine g_aload_n ok dX8_answer_14 rfl rfl ?_
    refine g_get (w := .inr 4) ok f0_2 (gLm (by decide)) q2_10 dX8_answer_15 rfl ?_
    refine g_get (w := .inr 30) ok f4_0 (gLm (by decide)) q1_120 dX8_answer_18 rfl ?_
    refine g_iload_n ok dX8_answer_21 rfl rfl ?_
    have hb := h.1
    have h := h.2
    refine g_iald (w := (M1 30 (Int32.toNatClampNeg p1))) ok a30 (gLm (by decide)) dX8_answer_22 hb rfl ?_
    exact g_iret ok hZ dX8_answer_23 h
  · have h := h.2 z
    refine g_iload_n ok dX8_answer_10 rfl rfl ?_
    refine g_goto (tgt := 23) ok dX8_answer_11 (by decide) ?_
    exact g_iret ok hZ dX8_answer_23 h
theorem dX8_delay_0 : decode cX8_delay 0 = .ok (.aload_n 0, 1) := by decide +kernel
theorem dX8_delay_1 : decode cX8_delay 1 = .ok (.iload_n 1, 1) := by decide +kernel
theorem dX8_delay_2 : decode cX8_delay 2 = .ok (.invokevirtual 174, 3) := by decide +kernel
theorem dX8_delay_5 : decode cX8_delay 5 = .ok (.istore_n 2, 1) := by decide +kernel
theorem dX8_delay_6 : decode cX8_delay 6 = .ok (.iload_n 2, 1) := by decide +kernel
theorem dX8_delay_7 : decode cX8_delay 7 = .ok (.ifCond .eq 7, 3) := by decide +kernel
theorem dX8_delay_10 : decode cX8_delay 10 = .ok (.iload_n 2, 1) := by decide +kernel
theorem dX8_delay_11 : decode cX8_delay 11 = .ok (.goto 12, 3) := by decide +kernel
theorem dX8_delay_14 : decode cX8_delay 14 = .ok (.aload_n 0, 1) := by decide +kernel
theorem dX8_delay_15 : decode cX8_delay 15 = .ok (.getfield 31, 3) := by decide +kernel
theorem dX8_delay_18 : decode cX8_delay 18 = .ok (.getfield 180, 3) := by decide +kernel
theorem dX8_delay_21 : decode cX8_delay 21 = .ok (.iload_n 1, 1) := by decide +kernel
theorem dX8_delay_22 : decode cX8_delay 22 = .ok (.iaload, 1) := by decide +kernel
theorem dX8_delay_23 : decode cX8_delay 23 = .ok (.ireturn, 1) := by decide +kernel
theorem s_X8_delay : gSt yX8_delay cX8_delay 3 (some .int) 1 := ⟨q3_39, q1_1, ⟨by decide, by decide, by decide +kernel⟩, by decide⟩
theorem sel_X8_delay : Cond.selects yX8_delay.cls yX8_delay yX8_delay ∈ gT := q3_38
theorem ins_X8_delay : Cond.instanceMethod yX8_delay ∈ gT := q3_37
def w_X8_delay (p1 : Int32) (M : gM) (Q : Int32 → gM → Prop) : Prop := w_X8_problemWithPlace p1 M (fun (r2 : Int32) (M1 : gM) => gbr ((r2 : Int32) = 0) (vp_in p1 4000 ∧ (Q (M1 31 (Int32.toNatClampNeg p1)) M1)) (Q r2 M1))
set_option maxRecDepth 100000 in
set_option maxHeartbeats 4000000 in
theorem k_X8_delay {p1 : Int32} {M : gM} {Q : Int32 → gM → Prop} (h : w_X8_delay p1 M Q) : gCi gL 22 yX8_delay cX8_delay 3 .int [.inr 0, .inl p1] M Q := by
  refine gCi_of (by decide) gLn (gle rfl) (fun X ok hZ => ?_)
  show gW X 0 [some (.inr 0), some (.inl p1), none] [] M
  unfold w_X8_delay at h
  refine g_aload_n ok dX8_delay_0 rfl rfl ?_
  refine g_iload_n ok dX8_delay_1 rfl rfl ?_
  refine g_callVi (st := []) (as := [.inl p1]) ok rfl (k_X8_problemWithPlace h) s_X8_problemWithPlace rfl (by decide) (gLm (by decide)) cl0 sel_X8_problemWithPlace ins_X8_problemWithPlace (gle rfl) rfl q3_32 dX8_delay_2 ?_
  intro r2 M1 h
  refine g_istore_n (lv1 := [some (.inr 0), some (.inl p1), some (.inl r2)]) ok dX8_delay_5 rfl (glt rfl) rfl ?_
  refine g_iload_n ok dX8_delay_6 rfl rfl ?_
  refine g_if_eq (tgt := 14) ok dX8_delay_7 (by decide) (fun z => ?_) (fun z => ?_)
  · have h := h.1 z
    refine g_aload_n ok dX8_delay_14 rfl rfl ?_
    refine g_get (w := .inr 4) ok f0_2 (gLm (by decide)) q2_10 dX8_delay_15 rfl ?_
    refine g_get (w := .inr 31) ok f4_1 (gLm (by decide)) q1_122 dX8_delay_18 rfl ?_
    refine g_iload_n ok dX8_delay_21 rfl rfl ?_
    have hb := h.1
    have h := h.2
    refine g_iald (w := (M1 31 (Int32.toNatClampNeg p1))) ok a31 (gLm (by decide)) dX8_delay_22 hb rfl ?_
    exact g_iret ok hZ dX8_delay_23 h
  · have h := h.2 z
    refine g_iload_n ok dX8_delay_10 rfl rfl ?_
    refine g_goto (tgt := 23) ok dX8_delay_11 (by decide) ?_
    exact g_iret ok hZ dX8_delay_23 h
