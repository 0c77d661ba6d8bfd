theorem dX5_missedBy_0 : decode cX5_missedBy 0 = .ok (.iconst 0, 1) := by decide +kernel
theorem dX5_missedBy_1 : decode cX5_missedBy 1 = .ok (.istore_n 2, 1) := by decide +kernel
theorem dX5_missedBy_2 : decode cX5_missedBy 2 = .ok (.iconst 0, 1) := by decide +kernel
theorem dX5_missedBy_3 : decode cX5_missedBy 3 = .ok (.istore_n 3, 1) := by decide +kernel
theorem dX5_missedBy_4 : decode cX5_missedBy 4 = .ok (.iload_n 3, 1) := by decide +kernel
theorem dX5_missedBy_5 : decode cX5_missedBy 5 = .ok (.aload_n 0, 1) := by decide +kernel
theorem dX5_missedBy_6 : decode cX5_missedBy 6 = .ok (.getfield 9, 3) := by decide +kernel
theorem dX5_missedBy_9 : decode cX5_missedBy 9 = .ok (.if_icmp .ge 26, 3) := by decide +kernel
theorem dX5_missedBy_12 : decode cX5_missedBy 12 = .ok (.iload_n 1, 1) := by decide +kernel
theorem dX5_missedBy_13 : decode cX5_missedBy 13 = .ok (.iload_n 3, 1) := by decide +kernel
theorem dX5_missedBy_14 : decode cX5_missedBy 14 = .ok (.invokestatic 42, 3) := by decide +kernel
theorem dX5_missedBy_17 : decode cX5_missedBy 17 = .ok (.ifCond .eq 12, 3) := by decide +kernel
theorem dX5_missedBy_20 : decode cX5_missedBy 20 = .ok (.iload_n 2, 1) := by decide +kernel
theorem dX5_missedBy_21 : decode cX5_missedBy 21 = .ok (.aload_n 0, 1) := by decide +kernel
theorem dX5_missedBy_22 : decode cX5_missedBy 22 = .ok (.getfield 19, 3) := by decide +kernel
theorem dX5_missedBy_25 : decode cX5_missedBy 25 = .ok (.iload_n 3, 1) := by decide +kernel
theorem dX5_missedBy_26 : decode cX5_missedBy 26 = .ok (.iaload, 1) := by decide +kernel
theorem dX5_missedBy_27 : decode cX5_missedBy 27 = .ok (.ior, 1) := by decide +kernel
theorem dX5_missedBy_28 : decode cX5_missedBy 28 = .ok (.istore_n 2, 1) := by decide +kernel
theorem dX5_missedBy_29 : decode cX5_missedBy 29 = .ok (.iinc 3 1, 3) := by decide +kernel
theorem dX5_missedBy_32 : decode cX5_missedBy 32 = .ok (.goto (-28), 3) := by decide +kernel
theorem dX5_missedBy_35 : decode cX5_missedBy 35 = .ok (.aload_n 0, 1) := by decide +kernel
theorem dX5_missedBy_36 : decode cX5_missedBy 36 = .ok (.invokevirtual 92, 3) := by decide +kernel
theorem dX5_missedBy_39 : decode cX5_missedBy 39 = .ok (.iload_n 2, 1) := by decide +kernel
theorem dX5_missedBy_40 : decode cX5_missedBy 40 = .ok (.iconst (-1), 1) := by decide +kernel
theorem dX5_missedBy_41 : decode cX5_missedBy 41 = .ok (.ixor, 1) := by decide +kernel
theorem dX5_missedBy_42 : decode cX5_missedBy 42 = .ok (.iand, 1) := by decide +kernel
theorem dX5_missedBy_43 : decode cX5_missedBy 43 = .ok (.ireturn, 1) := by decide +kernel
theorem s_X5_missedBy : gSt yX5_missedBy cX5_missedBy 4 (some .int) 1 := ⟨q2_230, q1_2, ⟨by decide, by decide, by decide +kernel⟩, by decide⟩
theorem sel_X5_missedBy : Cond.selects yX5_missedBy.cls yX5_missedBy yX5_missedBy ∈ gT := q2_229
theorem ins_X5_missedBy : Cond.instanceMethod yX5_missedBy ∈ gT := q2_228
def w_X5_missedBy_L4 (Q : Int32 → gM → Prop) (K35 : Int32 → Int32 → gM → Prop) (v1 : Int32) : Nat → Int32 → Int32 → gM → Prop
  | 0, _, _, _ => False
  | n + 1, v2, v3, M => gbr ((v3 : Int32) < (M 1 0)) (w_X8_has v1 v3 M (fun (r2 : Int32) (M1 : gM) => gbr ((r2 : Int32) = 0) (∀ x3 : Int32, x3 = (v3 + 1) → (w_X5_missedBy_L4 Q K35 v1 n (v2) (x3) M1)) (vp_in v3 14 ∧ (∀ x4 : Int32, x4 = (v2 ||| (M1 10 (Int32.toNatClampNeg v3))) → (∀ x5 : Int32, x5 = (v3 + 1) → (w_X5_missedBy_L4 Q K35 v1 n (x4) (x5) M1)))))) (K35 (v2) (v3) M)
def w_X5_missedBy (p1 : Int32) (M : gM) (Q : Int32 → gM → Prop) : Prop := ∃ nf, w_X5_missedBy_L4 Q (fun (x6 : Int32) (x7 : Int32) (M8 : gM) => w_X5_allEdges M8 (fun (r10 : Int32) (M9 : gM) => Q (r10 &&& (x6 ^^^ (-1))) M9)) p1 nf 0 0 M
set_option maxRecDepth 100000 in
set_option maxHeartbeats 4000000 in
theorem w_X5_missedBy_L4_w {X : gX} (ok : gOk X cX5_missedBy yX5_missedBy.cls 1 4 (some .int) gL) {Q : Int32 → gM → Prop} (hZ : gZi X Q) {K35 : Int32 → Int32 → gM → Prop} (v1 : Int32) (hK35 : ∀ (v2 : Int32) (v3 : Int32)  (M : gM), K35 v2 v3 M → gW X 35 [some (.inr 1), some (.inl v1), some (.inl v2), some (.inl v3)] [] M) : ∀ (n : Nat) (v2 : Int32) (v3 : Int32)  (M : gM), w_X5_missedBy_L4 Q K35 v1 n v2 v3 M → gW X 4 [some (.inr 1), some (.inl v1), some (.inl v2), some (.inl v3)] [] M
  | 0, _, _, _, h => h.elim
  | n + 1, v2, v3, M, h => by
    have ih := fun (v2 : Int32) (v3 : Int32)  (M : gM) h => w_X5_missedBy_L4_w ok hZ v1 hK35 n v2 v3  M h
    rw [w_X5_missedBy_L4.eq_2] at h
    refine g_iload_n ok dX5_missedBy_4 rfl rfl ?_
    refine g_aload_n ok dX5_missedBy_5 rfl rfl ?_
    refine g_get (w := .inl (M 1 0)) ok f1_0 (gLm (by decide)) q1_55 dX5_missedBy_6 rfl ?_
    refine g_icmp_ge (tgt := 35) ok dX5_missedBy_9 (by decide) (fun z => ?_) (fun z => ?_)
    · have h := h.2 z
      exact hK35 (v2) (v3) M h
    · have h := h.1 z
      refine g_iload_n ok dX5_missedBy_12 rfl rfl ?_
      refine g_iload_n ok dX5_missedBy_13 rfl rfl ?_
      refine g_callNi (st := []) (as := [.inl v1, .inl v3]) ok rfl (k_X8_has h) s_X8_has rfl (by decide) stt_X8_has (gle rfl) rfl (List.mem_of_getElem? (i := 1) rfl) dX5_missedBy_14 ?_
      intro r2 M1 h
      refine g_if_eq (tgt := 29) ok dX5_missedBy_17 (by decide) (fun z => ?_) (fun z => ?_)
      · have h := h.1 z
        obtain ⟨x3, ex3⟩ : ∃ y : Int32, y = (v3 + 1) := ⟨_, rfl⟩
        have h := h x3 ex3
        refine g_iinc (v := x3) (lv1 := [some (.inr 1), some (.inl v1), some (.inl v2), some (.inl x3)]) ok dX5_missedBy_29 rfl (by rw [ex3]; rfl) rfl ?_
        refine g_goto (tgt := 4) ok dX5_missedBy_32 (by decide) ?_
        exact ih (v2) (x3) M1 h
      · have h := h.2 z
        refine g_iload_n ok dX5_missedBy_20 rfl rfl ?_
        refine g_aload_n ok dX5_missedBy_21 rfl rfl ?_
        refine g_get (w := .inr 10) ok f1_3 (gLm (by decide)) q1_70 dX5_missedBy_22 rfl ?_
        refine g_iload_n ok dX5_missedBy_25 rfl rfl ?_
        have hb := h.1
        have h := h.2
        refine g_iald (w := (M1 10 (Int32.toNatClampNeg v3))) ok a10 (gLm (by decide)) dX5_missedBy_26 hb rfl ?_
        refine g_ior ok dX5_missedBy_27 ?_
        refine g_nm (fun x4 ex4 => ?_)
        have h := h x4 ex4
        refine g_istore_n (lv1 := [some (.inr 1), some (.inl v1), some (.inl x4), some (.inl v3)]) ok dX5_missedBy_28 rfl (glt rfl) rfl ?_
        obtain ⟨x5, ex5⟩ : ∃ y : Int32, y = (v3 + 1) := ⟨_, rfl⟩
        have h := h x5 ex5
        refine g_iinc (v := x5) (lv1 := [some (.inr 1), some (.inl v1), some (.inl x4), some (.inl x5)]) ok dX5_missedBy_29 rfl (by rw [ex5]; rfl) rfl ?_
        refine g_goto (tgt := 4) ok dX5_missedBy_32 (by decide) ?_
        exact ih (x4) (x5) M1 h
set_option maxRecDepth 100000 in
set_option maxHeartbeats 4000000 in
theorem k_X5_missedBy {p1 : Int32} {M : gM} {Q : Int32 → gM → Prop} (h : w_X5_missedBy p1 M Q) : gCi gL 1 yX5_missedBy cX5_missedBy 4 .int [.inr 1, .inl p1] M Q := by
  refine gCi_of (by decide) gLn (gle rfl) (fun X ok hZ => ?_)
  show gW X 0 [some (.inr 1), some (.inl p1), none, none] [] M
  unfold w_X5_missedBy at h
  refine g_iconst (v := 0) ok dX5_missedBy_0 (by decide) ?_
  refine g_istore_n (lv1 := [some (.inr 1), some (.inl p1), some (.inl 0), none]) ok dX5_missedBy_1 rfl (glt rfl) rfl ?_
  refine g_iconst (v := 0) ok dX5_missedBy_2 (by decide) ?_
  refine g_istore_n (lv1 := [some (.inr 1), some (.inl p1), some (.inl 0), some (.inl 0)]) ok dX5_missedBy_3 rfl (glt rfl) rfl ?_
  obtain ⟨nf, h⟩ := h
  refine w_X5_missedBy_L4_w ok hZ p1 ?_ nf 0 0  M h
  · intro x6 x7  M8 h
    refine g_aload_n ok dX5_missedBy_35 rfl rfl ?_
    refine g_callVi (st := []) (as := []) ok rfl (k_X5_allEdges h) s_X5_allEdges rfl (by decide) (gLm (by decide)) cl1 sel_X5_allEdges ins_X5_allEdges (gle rfl) rfl q2_231 dX5_missedBy_36 ?_
    intro r10 M9 h
    refine g_iload_n ok dX5_missedBy_39 rfl rfl ?_
    refine g_iconst (v := (-1)) ok dX5_missedBy_40 (by decide) ?_
    refine g_ixor ok dX5_missedBy_41 ?_
    refine g_iand ok dX5_missedBy_42 ?_
    exact g_iret ok hZ dX5_missedBy_43 h
theorem dX5_hitOnceBy_0 : decode cX5_hitOnceBy 0 = .ok (.iconst 0, 1) := by decide +kernel
theorem dX5_hitOnceBy_1 : decode cX5_hitOnceBy 1 = .ok (.istore_n 2, 1) := by decide +kernel
theorem dX5_hitOnceBy_2 : decode cX5_hitOnceBy 2 = .ok (.iconst 0, 1) := by decide +kernel
theorem dX5_hitOnceBy_3 : decode cX5_hitOnceBy 3 = .ok (.istore_n 3, 1) := by decide +kernel
theorem dX5_hitOnceBy_4 : decode cX5_hitOnceBy 4 = .ok (.iconst 0, 1) := by decide +kernel
theorem dX5_hitOnceBy_5 : decode cX5_hitOnceBy 5 = .ok (.istore 4, 2) := by decide +kernel
theorem dX5_hitOnceBy_7 : decode cX5_hitOnceBy 7 = .ok (.iload 4, 2) := by decide +kernel
theorem dX5_hitOnceBy_9 : decode cX5_hitOnceBy 9 = .ok (.aload_n 0, 1) := by decide +kernel
theorem dX5_hitOnceBy_10 : decode cX5_hitOnceBy 10 = .ok (.getfield 9, 3) := by decide +kernel
theorem dX5_hitOnceBy_13 : decode cX5_hitOnceBy 13 = .ok (.if_icmp .ge 40, 3) := by decide +kernel
theorem dX5_hitOnceBy_16 : decode cX5_hitOnceBy 16 = .ok (.iload_n 1, 1) := by decide +kernel
theorem dX5_hitOnceBy_17 : decode cX5_hitOnceBy 17 = .ok (.iload 4, 2) := by decide +kernel
theorem dX5_hitOnceBy_19 : decode cX5_hitOnceBy 19 = .ok (.invokestatic 42, 3) := by decide +kernel
theorem dX5_hitOnceBy_22 : decode cX5_hitOnceBy 22 = .ok (.ifCond .eq 25, 3) := by decide +kernel
theorem dX5_hitOnceBy_25 : decode cX5_hitOnceBy 25 = .ok (.iload_n 3, 1) := by decide +kernel
theorem dX5_hitOnceBy_26 : decode cX5_hitOnceBy 26 = .ok (.iload_n 2, 1) := by decide +kernel
theorem dX5_hitOnceBy_27 : decode cX5_hitOnceBy 27 = .ok (.aload_n 0, 1) := by decide +kernel
theorem dX5_hitOnceBy_28 : decode cX5_hitOnceBy 28 = .ok (.getfield 19, 3) := by decide +kernel
theorem dX5_hitOnceBy_31 : decode cX5_hitOnceBy 31 = .ok (.iload 4, 2) := by decide +kernel
theorem dX5_hitOnceBy_33 : decode cX5_hitOnceBy 33 = .ok (.iaload, 1) := by decide +kernel
theorem dX5_hitOnceBy_34 : decode cX5_hitOnceBy 34 = .ok (.iand, 1) := by decide +kernel
theorem dX5_hitOnceBy_35 : decode cX5_hitOnceBy 35 = .ok (.ior, 1) := by decide +kernel
theorem dX5_hitOnceBy_36 : decode cX5_hitOnceBy 36 = .ok (.istore_n 3, 1) := by decide +kernel
theorem dX5_hitOnceBy_37 : decode cX5_hitOnceBy 37 = .ok (.iload_n 2, 1) := by decide +kernel
theorem dX5_hitOnceBy_38 : decode cX5_hitOnceBy 38 = .ok (.aload_n 0, 1) := by decide +kernel
theorem dX5_hitOnceBy_39 : decode cX5_hitOnceBy 39 = .ok (.getfield 19, 3) := by decide +kernel
theorem dX5_hitOnceBy_42 : decode cX5_hitOnceBy 42 = .ok (.iload 4, 2) := by decide +kernel
theorem dX5_hitOnceBy_44 : decode cX5_hitOnceBy 44 = .ok (.iaload, 1) := by decide +kernel
theorem dX5_hitOnceBy_45 : decode cX5_hitOnceBy 45 = .ok (.ior, 1) := by decide +kernel
theorem dX5_hitOnceBy_46 : decode cX5_hitOnceBy 46 = .ok (.istore_n 2, 1) := by decide +kernel
theorem dX5_hitOnceBy_47 : decode cX5_hitOnceBy 47 = .ok (.iinc 4 1, 3) := by decide +kernel
theorem dX5_hitOnceBy_50 : decode cX5_hitOnceBy 50 = .ok (.goto (-43), 3) := by decide +kernel
theorem dX5_hitOnceBy_53 : decode cX5_hitOnceBy 53 = .ok (.iload_n 2, 1) := by decide +kernel
theorem dX5_hitOnceBy_54 : decode cX5_hitOnceBy 54 = .ok (.iload_n 3, 1) := by decide +kernel
theorem dX5_hitOnceBy_55 : decode cX5_hitOnceBy 55 = .ok (.iconst (-1), 1) := by decide +kernel
theorem dX5_hitOnceBy_56 : decode cX5_hitOnceBy 56 = .ok (.ixor, 1) := by decide +kernel
theorem dX5_hitOnceBy_57 : decode cX5_hitOnceBy 57 = .ok (.iand, 1) := by decide +kernel
theorem dX5_hitOnceBy_58 : decode cX5_hitOnceBy 58 = .ok (.ireturn, 1) := by decide +kernel
theorem s_X5_hitOnceBy : gSt yX5_hitOnceBy cX5_hitOnceBy 5 (some .int) 1 := ⟨q3_0, q1_2, ⟨by decide, by decide, by decide +kernel⟩, by decide⟩
theorem sel_X5_hitOnceBy : Cond.selects yX5_hitOnceBy.cls yX5_hitOnceBy yX5_hitOnceBy ∈ gT := q2_239
theorem ins_X5_hitOnceBy : Cond.instanceMethod yX5_hitOnceBy ∈ gT := q2_238
def w_X5_hitOnceBy_L7 (Q : Int32 → gM → Prop) (K53 : Int32 → Int32 → Int32 → gM → Prop) (v1 : Int32) : Nat → Int32 → Int32 → Int32 → gM → Prop
  | 0, _, _, _, _ => False
  | n + 1, v2, v3, v4, M => gbr ((v4 : Int32) < (M 1 0)) (w_X8_has v1 v4 M (fun (r2 : Int32) (M1 : gM) => gbr ((r2 : Int32) = 0) (∀ x3 : Int32, x3 = (v4 + 1) → (w_X5_hitOnceBy_L7 Q K53 v1 n (v2) (v3) (x3) M1)) (vp_in v4 14 ∧ (∀ x4 : Int32, x4 = (v3 ||| (v2 &&& (M1 10 (Int32.toNatClampNeg v4)))) → (vp_in v4 14 ∧ (∀ x5 : Int32, x5 = (v2 ||| (M1 10 (Int32.toNatClampNeg v4))) → (∀ x6 : Int32, x6 = (v4 + 1) → (w_X5_hitOnceBy_L7 Q K53 v1 n (x5) (x4) (x6) M1)))))))) (K53 (v2) (v3) (v4) M)
def w_X5_hitOnceBy (p1 : Int32) (M : gM) (Q : Int32 → gM → Prop) : Prop := ∃ nf, w_X5_hitOnceBy_L7 Q (fun (x7 : Int32) (x8 : Int32) (x9 : Int32) (M10 : gM) => Q (x7 &&& (x8 ^^^ (-1))) M10) p1 nf 0 0 0 M
set_option maxRecDepth 100000 in
set_option maxHeartbeats 4000000 in
theorem w_X5_hitOnceBy_L7_w {X : gX} (ok : gOk X cX5_hitOnceBy yX5_hitOnceBy.cls 1 5 (some .int) gL) {Q : Int32 → gM → Prop} (hZ : gZi X Q) {K53 : Int32 → Int32 → Int32 → gM → Prop} (v1 : Int32) (hK53 : ∀ (v2 : Int32) (v3 : Int32) (v4 : Int32)  (M : gM), K53 v2 v3 v4 M → gW X 53 [some (.inr 1), some (.inl v1), some (.inl v2), some (.inl v3), some (.inl v4)] [] M) : ∀ (n : Nat) (v2 : Int32) (v3 : Int32) (v4 : Int32)  (M : gM), w_X5_hitOnceBy_L7 Q K53 v1 n v2 v3 v4 M → gW X 7 [some (.inr 1), some (.inl v1), some (.inl v2), some (.inl v3), some (.inl v4)] [] M
  | 0, _, _, _, _, h => h.elim
  | n + 1, v2, v3, v4, M, h => by
    have ih := fun (v2 : Int32) (v3 : Int32) (v4 : Int32)  (M : gM) h => w_X5_hitOnceBy_L7_w ok hZ v1 hK53 n v2 v3 v4  M h
    rw [w_X5_hitOnceBy_L7.eq_2] at h
    refine g_iload ok dX5_hitOnceBy_7 rfl ?_
    refine g_aload_n ok dX5_hitOnceBy_9 rfl rfl ?_
    refine g_get (w := .inl (M 1 0)) ok f1_0 (gLm (by decide)) q1_55 dX5_hitOnceBy_10 rfl ?_
    refine g_icmp_ge (tgt := 53) ok dX5_hitOnceBy_13 (by decide) (fun z => ?_) (fun z => ?_)
    · have h := h.2 z
      exact hK53 (v2) (v3) (v4) M h
    · have h := h.1 z
      refine g_iload_n ok dX5_hitOnceBy_16 rfl rfl ?_
      refine g_iload ok dX5_hitOnceBy_17 rfl ?_
      refine g_callNi (st := []) (as := [.inl v1, .inl v4]) ok rfl (k_X8_has h) s_X8_has rfl (by decide) stt_X8_has (gle rfl) rfl (List.mem_of_getElem? (i := 1) rfl) dX5_hitOnceBy_19 ?_
      intro r2 M1 h
      refine g_if_eq (tgt := 47) ok dX5_hitOnceBy_22 (by decide) (fun z => ?_) (fun z => ?_)
      · have h := h.1 z
        obtain ⟨x3, ex3⟩ : ∃ y : Int32, y = (v4 + 1) := ⟨_, rfl⟩
        have h := h x3 ex3
        refine g_iinc (v := x3) (lv1 := [some (.inr 1), some (.inl v1), some (.inl v2), some (.inl v3), some (.inl x3)]) ok dX5_hitOnceBy_47 rfl (by rw [ex3]; rfl) rfl ?_
        refine g_goto (tgt := 7) ok dX5_hitOnceBy_50 (by decide) ?_
        exact ih (v2) (v3) (x3) M1 h
      · have h := h.2 z
        refine g_iload_n ok dX5_hitOnceBy_25 rfl rfl ?_
        refine g_iload_n ok dX5_hitOnceBy_26 rfl rfl ?_
        refine g_aload_n ok dX5_hitOnceBy_27 rfl rfl ?_
        refine g_get (w := .inr 10) ok f1_3 (gLm (by decide)) q1_70 dX5_hitOnceBy_28 rfl ?_
        refine g_iload ok dX5_hitOnceBy_31 rfl ?_
        have hb := h.1
        have h := h.2
        refine g_iald (w := (M1 10 (Int32.toNatClampNeg v4))) ok a10 (gLm (by decide)) dX5_hitOnceBy_33 hb rfl ?_
        refine g_iand ok dX5_hitOnceBy_34 ?_
        refine g_ior ok dX5_hitOnceBy_35 ?_
        refine g_nm (fun x4 ex4 => ?_)
        have h := h x4 ex4
        refine g_istore_n (lv1 := [some (.inr 1), some (.inl v1), some (.inl v2), some (.inl x4), some (.inl v4)]) ok dX5_hitOnceBy_36 rfl (glt rfl) rfl ?_
        refine g_iload_n ok dX5_hitOnceBy_37 rfl rfl ?_
        refine g_aload_n ok dX5_hitOnceBy_38 rfl rfl ?_
        refine g_get (w := .inr 10) ok f1_3 (gLm (by decide)) q1_70 dX5_hitOnceBy_39 rfl ?_
        refine g_iload ok dX5_hitOnceBy_42 rfl ?_
        have hb := h.1
        have h := h.2
        refine g_iald (w := (M1 10 (Int32.toNatClampNeg v4))) ok a10 (gLm (by decide)) dX5_hitOnceBy_44 hb rfl ?_
        refine g_ior ok dX5_hitOnceBy_45 ?_
        refine g_nm (fun x5 ex5 => ?_)
        have h := h x5 ex5
        refine g_istore_n (lv1 := [some (.inr 1), some (.inl v1), some (.inl x5), some (.inl x4), some (.inl v4)]) ok dX5_hitOnceBy_46 rfl (glt rfl) rfl ?_
        obtain ⟨x6, ex6⟩ : ∃ y : Int32, y = (v4 + 1) := ⟨_, rfl⟩
        have h := h x6 ex6
        refine g_iinc (v := x6) (lv1 := [some (.inr 1), some (.inl v1), some (.inl x5), some (.inl x4), some (.inl x6)]) ok dX5_hitOnceBy_47 rfl (by rw [ex6]; rfl) rfl ?_
        refine g_goto (tgt := 7) ok dX5_hitOnceBy_50 (by decide) ?_
        exact ih (x5) (x4) (x6) M1 h
set_option maxRecDepth 100000 in
set_option maxHeartbeats 4000000 in
theorem k_X5_hitOnceBy {p1 : Int32} {M : gM} {Q : Int32 → gM → Prop} (h : w_X5_hitOnceBy p1 M Q) : gCi gL 1 yX5_hitOnceBy cX5_hitOnceBy 5 .int [.inr 1, .inl p1] M Q := by
  refine gCi_of (by decide) gLn (gle rfl) (fun X ok hZ => ?_)
  show gW X 0 [some (.inr 1), some (.inl p1), none, none, none] [] M
  unfold w_X5_hitOnceBy at h
  refine g_iconst (v := 0) ok dX5_hitOnceBy_0 (by decide) ?_
  refine g_istore_n (lv1 := [some (.inr 1), some (.inl p1), some (.inl 0), none, none]) ok dX5_hitOnceBy_1 rfl (glt rfl) rfl ?_
  refine g_iconst (v := 0) ok dX5_hitOnceBy_2 (by decide) ?_
  refine g_istore_n (lv1 := [some (.inr 1), some (.inl p1), some (.inl 0), some (.inl 0), none]) ok dX5_hitOnceBy_3 rfl (glt rfl) rfl ?_
  refine g_iconst (v := 0) ok dX5_hitOnceBy_4 (by decide) ?_
  refine g_istore (lv1 := [some (.inr 1), some (.inl p1), some (.inl 0), some (.inl 0), some (.inl 0)]) ok dX5_hitOnceBy_5 (glt rfl) rfl ?_
  obtain ⟨nf, h⟩ := h
  refine w_X5_hitOnceBy_L7_w ok hZ p1 ?_ nf 0 0 0  M h
  · intro x7 x8 x9  M10 h
    refine g_iload_n ok dX5_hitOnceBy_53 rfl rfl ?_
    refine g_iload_n ok dX5_hitOnceBy_54 rfl rfl ?_
    refine g_iconst (v := (-1)) ok dX5_hitOnceBy_55 (by decide) ?_
    refine g_ixor ok dX5_hitOnceBy_56 ?_
    refine g_iand ok dX5_hitOnceBy_57 ?_
    exact g_iret ok hZ dX5_hitOnceBy_58 h
theorem dX5_eachHasPrivate_0 : decode cX5_eachHasPrivate 0 = .ok (.iconst 0, 1) := by decide +kernel
theorem dX5_eachHasPrivate_1 : decode cX5_eachHasPrivate 1 = .ok (.istore_n 3, 1) := by decide +kernel
theorem dX5_eachHasPrivate_2 : decode cX5_eachHasPrivate 2 = .ok (.iload_n 3, 1) := by decide +kernel
theorem dX5_eachHasPrivate_3 : decode cX5_eachHasPrivate 3 = .ok (.aload_n 0, 1) := by decide +kernel
theorem dX5_eachHasPrivate_4 : decode cX5_eachHasPrivate 4 = .ok (.getfield 9, 3) := by decide +kernel
theorem dX5_eachHasPrivate_7 : decode cX5_eachHasPrivate 7 = .ok (.if_icmp .ge 30, 3) := by decide +kernel
theorem dX5_eachHasPrivate_10 : decode cX5_eachHasPrivate 10 = .ok (.iload_n 1, 1) := by decide +kernel
theorem dX5_eachHasPrivate_11 : decode cX5_eachHasPrivate 11 = .ok (.iload_n 3, 1) := by decide +kernel
theorem dX5_eachHasPrivate_12 : decode cX5_eachHasPrivate 12 = .ok (.invokestatic 42, 3) := by decide +kernel
theorem dX5_eachHasPrivate_15 : decode cX5_eachHasPrivate 15 = .ok (.ifCond .eq 16, 3) := by decide +kernel
theorem dX5_eachHasPrivate_18 : decode cX5_eachHasPrivate 18 = .ok (.aload_n 0, 1) := by decide +kernel
theorem dX5_eachHasPrivate_19 : decode cX5_eachHasPrivate 19 = .ok (.getfield 19, 3) := by decide +kernel
theorem dX5_eachHasPrivate_22 : decode cX5_eachHasPrivate 22 = .ok (.iload_n 3, 1) := by decide +kernel
theorem dX5_eachHasPrivate_23 : decode cX5_eachHasPrivate 23 = .ok (.iaload, 1) := by decide +kernel
theorem dX5_eachHasPrivate_24 : decode cX5_eachHasPrivate 24 = .ok (.iload_n 2, 1) := by decide +kernel
theorem dX5_eachHasPrivate_25 : decode cX5_eachHasPrivate 25 = .ok (.iand, 1) := by decide +kernel
theorem dX5_eachHasPrivate_26 : decode cX5_eachHasPrivate 26 = .ok (.ifCond .ne 5, 3) := by decide +kernel
theorem dX5_eachHasPrivate_29 : decode cX5_eachHasPrivate 29 = .ok (.iconst 0, 1) := by decide +kernel
theorem dX5_eachHasPrivate_30 : decode cX5_eachHasPrivate 30 = .ok (.ireturn, 1) := by decide +kernel
theorem dX5_eachHasPrivate_31 : decode cX5_eachHasPrivate 31 = .ok (.iinc 3 1, 3) := by decide +kernel
theorem dX5_eachHasPrivate_34 : decode cX5_eachHasPrivate 34 = .ok (.goto (-32), 3) := by decide +kernel
theorem dX5_eachHasPrivate_37 : decode cX5_eachHasPrivate 37 = .ok (.iconst 1, 1) := by decide +kernel
theorem dX5_eachHasPrivate_38 : decode cX5_eachHasPrivate 38 = .ok (.ireturn, 1) := by decide +kernel
theorem s_X5_eachHasPrivate : gSt yX5_eachHasPrivate cX5_eachHasPrivate 4 (some .boolean) 2 := ⟨q2_161, q1_2, ⟨by decide, by decide, by decide +kernel⟩, by decide⟩
theorem sel_X5_eachHasPrivate : Cond.selects yX5_eachHasPrivate.cls yX5_eachHasPrivate yX5_eachHasPrivate ∈ gT := q2_160
theorem ins_X5_eachHasPrivate : Cond.instanceMethod yX5_eachHasPrivate ∈ gT := q2_159
def w_X5_eachHasPrivate_L2 (Q : Int32 → gM → Prop) (K37 : Int32 → gM → Prop) (K29 : Int32 → gM → Prop) (v1 : Int32) (v2 : Int32) : Nat → Int32 → gM → Prop
  | 0, _, _ => False
  | n + 1, v3, M => gbr ((v3 : Int32) < (M 1 0)) (w_X8_has v1 v3 M (fun (r2 : Int32) (M1 : gM) => gbr ((r2 : Int32) = 0) (∀ x3 : Int32, x3 = (v3 + 1) → (w_X5_eachHasPrivate_L2 Q K37 K29 v1 v2 n (x3) M1)) (vp_in v3 14 ∧ (gbr ((((M1 10 (Int32.toNatClampNeg v3)) &&& v2) : Int32) = 0) (K29 (v3) M1) (∀ x4 : Int32, x4 = (v3 + 1) → (w_X5_eachHasPrivate_L2 Q K37 K29 v1 v2 n (x4) M1)))))) (K37 (v3) M)
def w_X5_eachHasPrivate (p1 : Int32) (p2 : Int32) (M : gM) (Q : Int32 → gM → Prop) : Prop := ∃ nf, w_X5_eachHasPrivate_L2 Q (fun (x5 : Int32) (M6 : gM) => Q 1 M6) (fun (x7 : Int32) (M8 : gM) => Q 0 M8) p1 p2 nf 0 M
set_option maxRecDepth 100000 in
set_option maxHeartbeats 4000000 in
theorem w_X5_eachHasPrivate_L2_w {X : gX} (ok : gOk X cX5_eachHasPrivate yX5_eachHasPrivate.cls 1 4 (some .boolean) gL) {Q : Int32 → gM → Prop} (hZ : gZi X Q) {K37 : Int32 → gM → Prop} {K29 : Int32 → gM → Prop} (v1 : Int32) (v2 : Int32) (hK37 : ∀ (v3 : Int32)  (M : gM), K37 v3 M → gW X 37 [some (.inr 1), some (.inl v1), some (.inl v2), some (.inl v3)] [] M) (hK29 : ∀ (v3 : Int32)  (M : gM), K29 v3 M → gW X 29 [some (.inr 1), some (.inl v1), some (.inl v2), some (.inl v3)] [] M) : ∀ (n : Nat) (v3 : Int32)  (M : gM), w_X5_eachHasPrivate_L2 Q K37 K29 v1 v2 n v3 M → gW X 2 [some (.inr 1), some (.inl v1), some (.inl v2), some (.inl v3)] [] M
  | 0, _, _, h => h.elim
  | n + 1, v3, M, h => by
    have ih := fun (v3 : Int32)  (M : gM) h => w_X5_eachHasPrivate_L2_w ok hZ v1 v2 hK37 hK29 n v3  M h
    rw [w_X5_eachHasPrivate_L2.eq_2] at h
    refine g_iload_n ok dX5_eachHasPrivate_2 rfl rfl ?_
    refine g_aload_n ok dX5_eachHasPrivate_3 rfl rfl ?_
    refine g_get (w := .inl (M 1 0)) ok f1_0 (gLm (by decide)) q1_55 dX5_eachHasPrivate_4 rfl ?_
    refine g_icmp_ge (tgt := 37) ok dX5_eachHasPrivate_7 (by decide) (fun z => ?_) (fun z => ?_)
    · have h := h.2 z
      exact hK37 (v3) M h
    · have h := h.1 z
      refine g_iload_n ok dX5_eachHasPrivate_10 rfl rfl ?_
      refine g_iload_n ok dX5_eachHasPrivate_11 rfl rfl ?_
      refine g_callNi (st := []) (as := [.inl v1, .inl v3]) ok rfl (k_X8_has h) s_X8_has rfl (by decide) stt_X8_has (gle rfl) rfl (List.mem_of_getElem? (i := 1) rfl) dX5_eachHasPrivate_12 ?_
      intro r2 M1 h
      refine g_if_eq (tgt := 31) ok dX5_eachHasPrivate_15 (by decide) (fun z => ?_) (fun z => ?_)
      · have h := h.1 z
        obtain ⟨x3, ex3⟩ : ∃ y : Int32, y = (v3 + 1) := ⟨_, rfl⟩
        have h := h x3 ex3
        refine g_iinc (v := x3) (lv1 := [some (.inr 1), some (.inl v1), some (.inl v2), some (.inl x3)]) ok dX5_eachHasPrivate_31 rfl (by rw [ex3]; rfl) rfl ?_
        refine g_goto (tgt := 2) ok dX5_eachHasPrivate_34 (by decide) ?_
        exact ih (x3) M1 h
      · have h := h.2 z
        refine g_aload_n ok dX5_eachHasPrivate_18 rfl rfl ?_
        refine g_get (w := .inr 10) ok f1_3 (gLm (by decide)) q1_70 dX5_eachHasPrivate_19 rfl ?_
        refine g_iload_n ok dX5_eachHasPrivate_22 rfl rfl ?_
        have hb := h.1
        have h := h.2
        refine g_iald (w := (M1 10 (Int32.toNatClampNeg v3))) ok a10 (gLm (by decide)) dX5_eachHasPrivate_23 hb rfl ?_
        refine g_iload_n ok dX5_eachHasPrivate_24 rfl rfl ?_
        refine g_iand ok dX5_eachHasPrivate_25 ?_
        refine g_if_ne (tgt := 31) ok dX5_eachHasPrivate_26 (by decide) (fun z => ?_) (fun z => ?_)
        · have h := h.2 z
          obtain ⟨x4, ex4⟩ : ∃ y : Int32, y = (v3 + 1) := ⟨_, rfl⟩
          have h := h x4 ex4
          refine g_iinc (v := x4) (lv1 := [some (.inr 1), some (.inl v1), some (.inl v2), some (.inl x4)]) ok dX5_eachHasPrivate_31 rfl (by rw [ex4]; rfl) rfl ?_
          refine g_goto (tgt := 2) ok dX5_eachHasPrivate_34 (by decide) ?_
          exact ih (x4) M1 h
        · have h := h.1 z
          exact hK29 (v3) M1 h
set_option maxRecDepth 100000 in
set_option maxHeartbeats 4000000 in
theorem k_X5_eachHasPrivate {p1 : Int32} {p2 : Int32} {M : gM} {Q : Int32 → gM → Prop} (h : w_X5_eachHasPrivate p1 p2 M Q) : gCi gL 1 yX5_eachHasPrivate cX5_eachHasPrivate 4 .boolean [.inr 1, .inl p1, .inl p2] M Q := by
  refine gCi_of (by decide) gLn (gle rfl) (fun X ok hZ => ?_)
  show gW X 0 [some (.inr 1), some (.inl p1), some (.inl p2), none] [] M
  unfold w_X5_eachHasPrivate at h
  refine g_iconst (v := 0) ok dX5_eachHasPrivate_0 (by decide) ?_
  refine g_istore_n (lv1 := [some (.inr 1), some (.inl p1), some (.inl p2), some (.inl 0)]) ok dX5_eachHasPrivate_1 rfl (glt rfl) rfl ?_
  obtain ⟨nf, h⟩ := h
  refine w_X5_eachHasPrivate_L2_w ok hZ p1 p2 ?_ ?_ nf 0  M h
  · intro x5  M6 h
    refine g_iconst (v := 1) ok dX5_eachHasPrivate_37 (by decide) ?_
    exact g_zret ok hZ dX5_eachHasPrivate_38 (by decide) h
  · intro x7  M8 h
    refine g_iconst (v := 0) ok dX5_eachHasPrivate_29 (by decide) ?_
    exact g_zret ok hZ dX5_eachHasPrivate_30 (by decide) h
theorem dX5_isAnswer_0 : decode cX5_isAnswer 0 = .ok (.aload_n 0, 1) := by decide +kernel
theorem dX5_isAnswer_1 : decode cX5_isAnswer 1 = .ok (.iload_n 1, 1) := by decide +kernel
theorem dX5_isAnswer_2 : decode cX5_isAnswer 2 = .ok (.invokevirtual 96, 3) := by decide +kernel
theorem dX5_isAnswer_5 : decode cX5_isAnswer 5 = .ok (.ifCond .ne 20, 3) := by decide +kernel
theorem dX5_isAnswer_8 : decode cX5_isAnswer 8 = .ok (.aload_n 0, 1) := by decide +kernel
theorem dX5_isAnswer_9 : decode cX5_isAnswer 9 = .ok (.iload_n 1, 1) := by decide +kernel
theorem dX5_isAnswer_10 : decode cX5_isAnswer 10 = .ok (.aload_n 0, 1) := by decide +kernel
theorem dX5_isAnswer_11 : decode cX5_isAnswer 11 = .ok (.iload_n 1, 1) := by decide +kernel
theorem dX5_isAnswer_12 : decode cX5_isAnswer 12 = .ok (.invokevirtual 99, 3) := by decide +kernel
theorem dX5_isAnswer_15 : decode cX5_isAnswer 15 = .ok (.invokevirtual 102, 3) := by decide +kernel
theorem dX5_isAnswer_18 : decode cX5_isAnswer 18 = .ok (.ifCond .eq 7, 3) := by decide +kernel
theorem dX5_isAnswer_21 : decode cX5_isAnswer 21 = .ok (.iconst 1, 1) := by decide +kernel
theorem dX5_isAnswer_22 : decode cX5_isAnswer 22 = .ok (.goto 4, 3) := by decide +kernel
theorem dX5_isAnswer_25 : decode cX5_isAnswer 25 = .ok (.iconst 0, 1) := by decide +kernel
theorem dX5_isAnswer_26 : decode cX5_isAnswer 26 = .ok (.ireturn, 1) := by decide +kernel
theorem s_X5_isAnswer : gSt yX5_isAnswer cX5_isAnswer 2 (some .boolean) 1 := ⟨q3_8, q1_2, ⟨by decide, by decide, by decide +kernel⟩, by decide⟩
theorem sel_X5_isAnswer : Cond.selects yX5_isAnswer.cls yX5_isAnswer yX5_isAnswer ∈ gT := q3_7
theorem ins_X5_isAnswer : Cond.instanceMethod yX5_isAnswer ∈ gT := q3_6
def w_X5_isAnswer (p1 : Int32) (M : gM) (Q : Int32 → gM → Prop) : Prop := w_X5_missedBy p1 M (fun (r2 : Int32) (M1 : gM) => gbr ((r2 : Int32) = 0) (w_X5_hitOnceBy p1 M1 (fun (r4 : Int32) (M3 : gM) => w_X5_eachHasPrivate p1 r4 M3 (fun (r6 : Int32) (M5 : gM) => gbr ((r6 : Int32) = 0) (Q 0 M5) (Q 1 M5)))) (Q 0 M1))
set_option maxRecDepth 100000 in
set_option maxHeartbeats 4000000 in
theorem k_X5_isAnswer {p1 : Int32} {M : gM} {Q : Int32 → gM → Prop} (h : w_X5_isAnswer p1 M Q) : gCi gL 2 yX5_isAnswer cX5_isAnswer 2 .boolean [.inr 1, .inl p1] M Q := by
  refine gCi_of (by decide) gLn (gle rfl) (fun X ok hZ => ?_)
  show gW X 0 [some (.inr 1), some (.inl p1)] [] M
  unfold w_X5_isAnswer at h
  refine g_aload_n ok dX5_isAnswer_0 rfl rfl ?_
  refine g_iload_n ok dX5_isAnswer_1 rfl rfl ?_
  refine g_callVi (st := []) (as := [.inl p1]) ok rfl (k_X5_missedBy h) s_X5_missedBy rfl (by decide) (gLm (by decide)) cl1 sel_X5_missedBy ins_X5_missedBy (gle rfl) rfl q3_9 dX5_isAnswer_2 ?_
  intro r2 M1 h
  refine g_if_ne (tgt := 25) ok dX5_isAnswer_5 (by decide) (fun z => ?_) (fun z => ?_)
  · have h := h.2 z
    refine g_iconst (v := 0) ok dX5_isAnswer_25 (by decide) ?_
    exact g_zret ok hZ dX5_isAnswer_26 (by decide) h
  · have h := h.1 z
    refine g_aload_n ok dX5_isAnswer_8 rfl rfl ?_
    refine g_iload_n ok dX5_isAnswer_9 rfl rfl ?_
    refine g_aload_n ok dX5_isAnswer_10 rfl rfl ?_
    refine g_iload_n ok dX5_isAnswer_11 rfl rfl ?_
    refine g_callVi (st := [.inl p1, .inr 1]) (as := [.inl p1]) ok rfl (k_X5_hitOnceBy h) s_X5_hitOnceBy rfl (by decide) (gLm (by decide)) cl1 sel_X5_hitOnceBy ins_X5_hitOnceBy (gle rfl) rfl q3_10 dX5_isAnswer_12 ?_
    intro r4 M3 h
    refine g_callVi (st := []) (as := [.inl p1, .inl r4]) ok rfl (k_X5_eachHasPrivate h) s_X5_eachHasPrivate rfl (by decide) (gLm (by decide)) cl1 sel_X5_eachHasPrivate ins_X5_eachHasPrivate (gle rfl) rfl q3_11 dX5_isAnswer_15 ?_
    intro r6 M5 h
    refine g_if_eq (tgt := 25) ok dX5_isAnswer_18 (by decide) (fun z => ?_) (fun z => ?_)
    · have h := h.1 z
      refine g_iconst (v := 0) ok dX5_isAnswer_25 (by decide) ?_
      exact g_zret ok hZ dX5_isAnswer_26 (by decide) h
    · have h := h.2 z
      refine g_iconst (v := 1) ok dX5_isAnswer_21 (by decide) ?_
      refine g_goto (tgt := 26) ok dX5_isAnswer_22 (by decide) ?_
      exact g_zret ok hZ dX5_isAnswer_26 (by decide) h
theorem dX5_busiestVertex_0 : decode cX5_busiestVertex 0 = .ok (.iconst 0, 1) := by decide +kernel
theorem dX5_busiestVertex_1 : decode cX5_busiestVertex 1 = .ok (.istore_n 2, 1) := by decide +kernel
theorem dX5_busiestVertex_2 : decode cX5_busiestVertex 2 = .ok (.iconst (-1), 1) := by decide +kernel
theorem dX5_busiestVertex_3 : decode cX5_busiestVertex 3 = .ok (.istore_n 3, 1) := by decide +kernel
theorem dX5_busiestVertex_4 : decode cX5_busiestVertex 4 = .ok (.iconst 0, 1) := by decide +kernel
theorem dX5_busiestVertex_5 : decode cX5_busiestVertex 5 = .ok (.istore 4, 2) := by decide +kernel
theorem dX5_busiestVertex_7 : decode cX5_busiestVertex 7 = .ok (.iload 4, 2) := by decide +kernel
theorem dX5_busiestVertex_9 : decode cX5_busiestVertex 9 = .ok (.aload_n 0, 1) := by decide +kernel
theorem dX5_busiestVertex_10 : decode cX5_busiestVertex 10 = .ok (.getfield 9, 3) := by decide +kernel
theorem dX5_busiestVertex_13 : decode cX5_busiestVertex 13 = .ok (.if_icmp .ge 35, 3) := by decide +kernel
theorem dX5_busiestVertex_16 : decode cX5_busiestVertex 16 = .ok (.aload_n 0, 1) := by decide +kernel
theorem dX5_busiestVertex_17 : decode cX5_busiestVertex 17 = .ok (.getfield 19, 3) := by decide +kernel
theorem dX5_busiestVertex_20 : decode cX5_busiestVertex 20 = .ok (.iload 4, 2) := by decide +kernel
theorem dX5_busiestVertex_22 : decode cX5_busiestVertex 22 = .ok (.iaload, 1) := by decide +kernel
theorem dX5_busiestVertex_23 : decode cX5_busiestVertex 23 = .ok (.iload_n 1, 1) := by decide +kernel
theorem dX5_busiestVertex_24 : decode cX5_busiestVertex 24 = .ok (.iand, 1) := by decide +kernel
theorem dX5_busiestVertex_25 : decode cX5_busiestVertex 25 = .ok (.invokestatic 80, 3) := by decide +kernel
theorem dX5_busiestVertex_28 : decode cX5_busiestVertex 28 = .ok (.istore 5, 2) := by decide +kernel
theorem dX5_busiestVertex_30 : decode cX5_busiestVertex 30 = .ok (.iload 5, 2) := by decide +kernel
theorem dX5_busiestVertex_32 : decode cX5_busiestVertex 32 = .ok (.iload_n 3, 1) := by decide +kernel
theorem dX5_busiestVertex_33 : decode cX5_busiestVertex 33 = .ok (.if_icmp .le 9, 3) := by decide +kernel
theorem dX5_busiestVertex_36 : decode cX5_busiestVertex 36 = .ok (.iload 5, 2) := by decide +kernel
theorem dX5_busiestVertex_38 : decode cX5_busiestVertex 38 = .ok (.istore_n 3, 1) := by decide +kernel
theorem dX5_busiestVertex_39 : decode cX5_busiestVertex 39 = .ok (.iload 4, 2) := by decide +kernel
theorem dX5_busiestVertex_41 : decode cX5_busiestVertex 41 = .ok (.istore_n 2, 1) := by decide +kernel
theorem dX5_busiestVertex_42 : decode cX5_busiestVertex 42 = .ok (.iinc 4 1, 3) := by decide +kernel
theorem dX5_busiestVertex_45 : decode cX5_busiestVertex 45 = .ok (.goto (-38), 3) := by decide +kernel
theorem dX5_busiestVertex_48 : decode cX5_busiestVertex 48 = .ok (.iload_n 2, 1) := by decide +kernel
theorem dX5_busiestVertex_49 : decode cX5_busiestVertex 49 = .ok (.ireturn, 1) := by decide +kernel
theorem s_X5_busiestVertex : gSt yX5_busiestVertex cX5_busiestVertex 6 (some .int) 1 := ⟨q3_23, q1_2, ⟨by decide, by decide, by decide +kernel⟩, by decide⟩
theorem sel_X5_busiestVertex : Cond.selects yX5_busiestVertex.cls yX5_busiestVertex yX5_busiestVertex ∈ gT := q3_22
theorem ins_X5_busiestVertex : Cond.instanceMethod yX5_busiestVertex ∈ gT := q3_21
def w_X5_busiestVertex_L7 (Q : Int32 → gM → Prop) (K48 : Int32 → Int32 → Int32 → gM → Prop) (v1 : Int32) : Nat → Int32 → Int32 → Int32 → gM → Prop
  | 0, _, _, _, _ => False
  | n + 1, v2, v3, v4, M => gbr ((v4 : Int32) < (M 1 0)) (vp_in v4 14 ∧ (w_J6_bitCount_0f7a4 ((M 10 (Int32.toNatClampNeg v4)) &&& v1) M (fun (r2 : Int32) (M1 : gM) => gbr ((v3 : Int32) < r2) (∀ x4 : Int32, x4 = (v4 + 1) → (w_X5_busiestVertex_L7 Q K48 v1 n (v4) (r2) (x4) M1)) (∀ x3 : Int32, x3 = (v4 + 1) → (w_X5_busiestVertex_L7 Q K48 v1 n (v2) (v3) (x3) M1))))) (K48 (v2) (v3) (v4) M)
def w_X5_busiestVertex (p1 : Int32) (M : gM) (Q : Int32 → gM → Prop) : Prop := ∃ nf, w_X5_busiestVertex_L7 Q (fun (x5 : Int32) (x6 : Int32) (x7 : Int32) (M9 : gM) => Q x5 M9) p1 nf 0 (-1) 0 M
set_option maxRecDepth 100000 in
set_option maxHeartbeats 4000000 in
theorem w_X5_busiestVertex_L7_w {X : gX} (ok : gOk X cX5_busiestVertex yX5_busiestVertex.cls 1 6 (some .int) gL) {Q : Int32 → gM → Prop} (hZ : gZi X Q) {K48 : Int32 → Int32 → Int32 → gM → Prop} (v1 : Int32) (hK48 : ∀ (v2 : Int32) (v3 : Int32) (v4 : Int32) (u5 : Option gV) (M : gM), K48 v2 v3 v4 M → gW X 48 [some (.inr 1), some (.inl v1), some (.inl v2), some (.inl v3), some (.inl v4), u5] [] M) : ∀ (n : Nat) (v2 : Int32) (v3 : Int32) (v4 : Int32) (u5 : Option gV) (M : gM), w_X5_busiestVertex_L7 Q K48 v1 n v2 v3 v4 M → gW X 7 [some (.inr 1), some (.inl v1), some (.inl v2), some (.inl v3), some (.inl v4), u5] [] M
  | 0, _, _, _, _, _, h => h.elim
  | n + 1, v2, v3, v4, u5, M, h => by
    have ih := fun (v2 : Int32) (v3 : Int32) (v4 : Int32) (u5 : Option gV) (M : gM) h => w_X5_busiestVertex_L7_w ok hZ v1 hK48 n v2 v3 v4 u5 M h
    rw [w_X5_busiestVertex_L7.eq_2] at h
    refine g_iload ok dX5_busiestVertex_7 rfl ?_
    refine g_aload_n ok dX5_busiestVertex_9 rfl rfl ?_
    refine g_get (w := .inl (M 1 0)) ok f1_0 (gLm (by decide)) q1_55 dX5_busiestVertex_10 rfl ?_
    refine g_icmp_ge (tgt := 48) ok dX5_busiestVertex_13 (by decide) (fun z => ?_) (fun z => ?_)
    · have h := h.2 z
      exact hK48 (v2) (v3) (v4) (u5) M h
    · have h := h.1 z
      refine g_aload_n ok dX5_busiestVertex_16 rfl rfl ?_
      refine g_get (w := .inr 10) ok f1_3 (gLm (by decide)) q1_70 dX5_busiestVertex_17 rfl ?_
      refine g_iload ok dX5_busiestVertex_20 rfl ?_
      have hb := h.1
      have h := h.2
      refine g_iald (w := (M 10 (Int32.toNatClampNeg v4))) ok a10 (gLm (by decide)) dX5_busiestVertex_22 hb rfl ?_
      refine g_iload_n ok dX5_busiestVertex_23 rfl rfl ?_
      refine g_iand ok dX5_busiestVertex_24 ?_
      refine g_callSi (st := []) (as := [.inl ((M 10 (Int32.toNatClampNeg v4)) &&& v1)]) ok rfl (k_J6_bitCount_0f7a4 h) s_J6_bitCount_0f7a4 rfl (by decide) stt_J6_bitCount_0f7a4 (gle rfl) rfl q2_156 dX5_busiestVertex_25 ?_
      intro r2 M1 h
      refine g_istore (lv1 := [some (.inr 1), some (.inl v1), some (.inl v2), some (.inl v3), some (.inl v4), some (.inl r2)]) ok dX5_busiestVertex_28 (glt rfl) rfl ?_
      refine g_iload ok dX5_busiestVertex_30 rfl ?_
      refine g_iload_n ok dX5_busiestVertex_32 rfl rfl ?_
      refine g_icmp_le (tgt := 42) ok dX5_busiestVertex_33 (by decide) (fun z => ?_) (fun z => ?_)
      · have h := h.2 z
        obtain ⟨x3, ex3⟩ : ∃ y : Int32, y = (v4 + 1) := ⟨_, rfl⟩
        have h := h x3 ex3
        refine g_iinc (v := x3) (lv1 := [some (.inr 1), some (.inl v1), some (.inl v2), some (.inl v3), some (.inl x3), some (.inl r2)]) ok dX5_busiestVertex_42 rfl (by rw [ex3]; rfl) rfl ?_
        refine g_goto (tgt := 7) ok dX5_busiestVertex_45 (by decide) ?_
        exact ih (v2) (v3) (x3) (some (.inl r2)) M1 h
      · have h := h.1 z
        refine g_iload ok dX5_busiestVertex_36 rfl ?_
        refine g_istore_n (lv1 := [some (.inr 1), some (.inl v1), some (.inl v2), some (.inl r2), some (.inl v4), some (.inl r2)]) ok dX5_busiestVertex_38 rfl (glt rfl) rfl ?_
        refine g_iload ok dX5_busiestVertex_39 rfl ?_
        refine g_istore_n (lv1 := [some (.inr 1), some (.inl v1), some (.inl v4), some (.inl r2), some (.inl v4), some (.inl r2)]) ok dX5_busiestVertex_41 rfl (glt rfl) rfl ?_
        obtain ⟨x4, ex4⟩ : ∃ y : Int32, y = (v4 + 1) := ⟨_, rfl⟩
        have h := h x4 ex4
        refine g_iinc (v := x4) (lv1 := [some (.inr 1), some (.inl v1), some (.inl v4), some (.inl r2), some (.inl x4), some (.inl r2)]) ok dX5_busiestVertex_42 rfl (by rw [ex4]; rfl) rfl ?_
        refine g_goto (tgt := 7) ok dX5_busiestVertex_45 (by decide) ?_
        exact ih (v4) (r2) (x4) (some (.inl r2)) M1 h
set_option maxRecDepth 100000 in
set_option maxHeartbeats 4000000 in
theorem k_X5_busiestVertex {p1 : Int32} {M : gM} {Q : Int32 → gM → Prop} (h : w_X5_busiestVertex p1 M Q) : gCi gL 1 yX5_busiestVertex cX5_busiestVertex 6 .int [.inr 1, .inl p1] M Q := by
  refine gCi_of (by decide) gLn (gle rfl) (fun X ok hZ => ?_)
  show gW X 0 [some (.inr 1), some (.inl p1), none, none, none, none] [] M
  unfold w_X5_busiestVertex at h
  refine g_iconst (v := 0) ok dX5_busiestVertex_0 (by decide) ?_
  refine g_istore_n (lv1 := [some (.inr 1), some (.inl p1), some (.inl 0), none, none, none]) ok dX5_busiestVertex_1 rfl (glt rfl) rfl ?_
  refine g_iconst (v := (-1)) ok dX5_busiestVertex_2 (by decide) ?_
  refine g_istore_n (lv1 := [some (.inr 1), some (.inl p1), some (.inl 0), some (.inl (-1)), none, none]) ok dX5_busiestVertex_3 rfl (glt rfl) rfl ?_
  refine g_iconst (v := 0) ok dX5_busiestVertex_4 (by decide) ?_
  refine g_istore (lv1 := [some (.inr 1), some (.inl p1), some (.inl 0), some (.inl (-1)), some (.inl 0), none]) ok dX5_busiestVertex_5 (glt rfl) rfl ?_
  obtain ⟨nf, h⟩ := h
  refine w_X5_busiestVertex_L7_w ok hZ p1 ?_ nf 0 (-1) 0 (none) M h
  · intro x5 x6 x7 u8 M9 h
    refine g_iload_n ok dX5_busiestVertex_48 rfl rfl ?_
    exact g_iret ok hZ dX5_busiestVertex_49 h
theorem dX5_fewestCandidates_0 : decode cX5_fewestCandidates 0 = .ok (.iconst 0, 1) := by decide +kernel
theorem dX5_fewestCandidates_1 : decode cX5_fewestCandidates 1 = .ok (.istore_n 3, 1) := by decide +kernel
theorem dX5_fewestCandidates_2 : decode cX5_fewestCandidates 2 = .ok (.bipush 15, 2) := by decide +kernel
theorem dX5_fewestCandidates_4 : decode cX5_fewestCandidates 4 = .ok (.istore 4, 2) := by decide +kernel
theorem dX5_fewestCandidates_6 : decode cX5_fewestCandidates 6 = .ok (.iconst 0, 1) := by decide +kernel
theorem dX5_fewestCandidates_7 : decode cX5_fewestCandidates 7 = .ok (.istore 5, 2) := by decide +kernel
theorem dX5_fewestCandidates_9 : decode cX5_fewestCandidates 9 = .ok (.iload 5, 2) := by decide +kernel
theorem dX5_fewestCandidates_11 : decode cX5_fewestCandidates 11 = .ok (.aload_n 0, 1) := by decide +kernel
theorem dX5_fewestCandidates_12 : decode cX5_fewestCandidates 12 = .ok (.getfield 29, 3) := by decide +kernel
theorem dX5_fewestCandidates_15 : decode cX5_fewestCandidates 15 = .ok (.if_icmp .ge 50, 3) := by decide +kernel
theorem dX5_fewestCandidates_18 : decode cX5_fewestCandidates 18 = .ok (.iload_n 1, 1) := by decide +kernel
theorem dX5_fewestCandidates_19 : decode cX5_fewestCandidates 19 = .ok (.iload 5, 2) := by decide +kernel
theorem dX5_fewestCandidates_21 : decode cX5_fewestCandidates 21 = .ok (.invokestatic 42, 3) := by decide +kernel
theorem dX5_fewestCandidates_24 : decode cX5_fewestCandidates 24 = .ok (.ifCond .eq 35, 3) := by decide +kernel
theorem dX5_fewestCandidates_27 : decode cX5_fewestCandidates 27 = .ok (.aload_n 0, 1) := by decide +kernel
theorem dX5_fewestCandidates_28 : decode cX5_fewestCandidates 28 = .ok (.getfield 15, 3) := by decide +kernel
theorem dX5_fewestCandidates_31 : decode cX5_fewestCandidates 31 = .ok (.iload 5, 2) := by decide +kernel
theorem dX5_fewestCandidates_33 : decode cX5_fewestCandidates 33 = .ok (.iaload, 1) := by decide +kernel
theorem dX5_fewestCandidates_34 : decode cX5_fewestCandidates 34 = .ok (.iload_n 2, 1) := by decide +kernel
theorem dX5_fewestCandidates_35 : decode cX5_fewestCandidates 35 = .ok (.iand, 1) := by decide +kernel
theorem dX5_fewestCandidates_36 : decode cX5_fewestCandidates 36 = .ok (.istore 6, 2) := by decide +kernel
theorem dX5_fewestCandidates_38 : decode cX5_fewestCandidates 38 = .ok (.iload 6, 2) := by decide +kernel
theorem dX5_fewestCandidates_40 : decode cX5_fewestCandidates 40 = .ok (.invokestatic 80, 3) := by decide +kernel
theorem dX5_fewestCandidates_43 : decode cX5_fewestCandidates 43 = .ok (.istore 7, 2) := by decide +kernel
theorem dX5_fewestCandidates_45 : decode cX5_fewestCandidates 45 = .ok (.iload 7, 2) := by decide +kernel
theorem dX5_fewestCandidates_47 : decode cX5_fewestCandidates 47 = .ok (.iload 4, 2) := by decide +kernel
theorem dX5_fewestCandidates_49 : decode cX5_fewestCandidates 49 = .ok (.if_icmp .ge 10, 3) := by decide +kernel
theorem dX5_fewestCandidates_52 : decode cX5_fewestCandidates 52 = .ok (.iload 7, 2) := by decide +kernel
theorem dX5_fewestCandidates_54 : decode cX5_fewestCandidates 54 = .ok (.istore 4, 2) := by decide +kernel
theorem dX5_fewestCandidates_56 : decode cX5_fewestCandidates 56 = .ok (.iload 6, 2) := by decide +kernel
theorem dX5_fewestCandidates_58 : decode cX5_fewestCandidates 58 = .ok (.istore_n 3, 1) := by decide +kernel
theorem dX5_fewestCandidates_59 : decode cX5_fewestCandidates 59 = .ok (.iinc 5 1, 3) := by decide +kernel
theorem dX5_fewestCandidates_62 : decode cX5_fewestCandidates 62 = .ok (.goto (-53), 3) := by decide +kernel
theorem dX5_fewestCandidates_65 : decode cX5_fewestCandidates 65 = .ok (.iload_n 3, 1) := by decide +kernel
theorem dX5_fewestCandidates_66 : decode cX5_fewestCandidates 66 = .ok (.ireturn, 1) := by decide +kernel
theorem s_X5_fewestCandidates : gSt yX5_fewestCandidates cX5_fewestCandidates 8 (some .int) 2 := ⟨q2_155, q1_2, ⟨by decide, by decide, by decide +kernel⟩, by decide⟩
theorem sel_X5_fewestCandidates : Cond.selects yX5_fewestCandidates.cls yX5_fewestCandidates yX5_fewestCandidates ∈ gT := q2_154
theorem ins_X5_fewestCandidates : Cond.instanceMethod yX5_fewestCandidates ∈ gT := q2_153
def w_X5_fewestCandidates_L9 (Q : Int32 → gM → Prop) (K65 : Int32 → Int32 → Int32 → gM → Prop) (v1 : Int32) (v2 : Int32) : Nat → Int32 → Int32 → Int32 → gM → Prop
  | 0, _, _, _, _ => False
  | n + 1, v3, v4, v5, M => gbr ((v5 : Int32) < (M 1 1)) (w_X8_has v1 v5 M (fun (r2 : Int32) (M1 : gM) => gbr ((r2 : Int32) = 0) (∀ x3 : Int32, x3 = (v5 + 1) → (w_X5_fewestCandidates_L9 Q K65 v1 v2 n (v3) (v4) (x3) M1)) (vp_in v5 24 ∧ (∀ x4 : Int32, x4 = ((M1 9 (Int32.toNatClampNeg v5)) &&& v2) → (w_J6_bitCount_0f7a4 x4 M1 (fun (r6 : Int32) (M5 : gM) => gbr ((r6 : Int32) < v4) (∀ x8 : Int32, x8 = (v5 + 1) → (w_X5_fewestCandidates_L9 Q K65 v1 v2 n (x4) (r6) (x8) M5)) (∀ x7 : Int32, x7 = (v5 + 1) → (w_X5_fewestCandidates_L9 Q K65 v1 v2 n (v3) (v4) (x7) M5)))))))) (K65 (v3) (v4) (v5) M)
def w_X5_fewestCandidates (p1 : Int32) (p2 : Int32) (M : gM) (Q : Int32 → gM → Prop) : Prop := ∃ nf, w_X5_fewestCandidates_L9 Q (fun (x9 : Int32) (x10 : Int32) (x11 : Int32) (M14 : gM) => Q x9 M14) p1 p2 nf 0 15 0 M
set_option maxRecDepth 100000 in
set_option maxHeartbeats 4000000 in
theorem w_X5_fewestCandidates_L9_w {X : gX} (ok : gOk X cX5_fewestCandidates yX5_fewestCandidates.cls 1 8 (some .int) gL) {Q : Int32 → gM → Prop} (hZ : gZi X Q) {K65 : Int32 → Int32 → Int32 → gM → Prop} (v1 : Int32) (v2 : Int32) (hK65 : ∀ (v3 : Int32) (v4 : Int32) (v5 : Int32) (u6 : Option gV) (u7 : Option gV) (M : gM), K65 v3 v4 v5 M → gW X 65 [some (.inr 1), some (.inl v1), some (.inl v2), some (.inl v3), some (.inl v4), some (.inl v5), u6, u7] [] M) : ∀ (n : Nat) (v3 : Int32) (v4 : Int32) (v5 : Int32) (u6 : Option gV) (u7 : Option gV) (M : gM), w_X5_fewestCandidates_L9 Q K65 v1 v2 n v3 v4 v5 M → gW X 9 [some (.inr 1), some (.inl v1), some (.inl v2), some (.inl v3), some (.inl v4), some (.inl v5), u6, u7] [] M
  | 0, _, _, _, _, _, _, h => h.elim
  | n + 1, v3, v4, v5, u6, u7, M, h => by
    have ih := fun (v3 : Int32) (v4 : Int32) (v5 : Int32) (u6 : Option gV) (u7 : Option gV) (M : gM) h => w_X5_fewestCandidates_L9_w ok hZ v1 v2 hK65 n v3 v4 v5 u6 u7 M h
    rw [w_X5_fewestCandidates_L9.eq_2] at h
    refine g_iload ok dX5_fewestCandidates_9 rfl ?_
    refine g_aload_n ok dX5_fewestCandidates_11 rfl rfl ?_
    refine g_get (w := .inl (M 1 1)) ok f1_1 (gLm (by decide)) q1_62 dX5_fewestCandidates_12 rfl ?_
    refine g_icmp_ge (tgt := 65) ok dX5_fewestCandidates_15 (by decide) (fun z => ?_) (fun z => ?_)
    · have h := h.2 z
      exact hK65 (v3) (v4) (v5) (u6) (u7) M h
    · have h := h.1 z
      refine g_iload_n ok dX5_fewestCandidates_18 rfl rfl ?_
      refine g_iload ok dX5_fewestCandidates_19 rfl ?_
      refine g_callNi (st := []) (as := [.inl v1, .inl v5]) ok rfl (k_X8_has h) s_X8_has rfl (by decide) stt_X8_has (gle rfl) rfl (List.mem_of_getElem? (i := 1) rfl) dX5_fewestCandidates_21 ?_
      intro r2 M1 h
      refine g_if_eq (tgt := 59) ok dX5_fewestCandidates_24 (by decide) (fun z => ?_) (fun z => ?_)
      · have h := h.1 z
        obtain ⟨x3, ex3⟩ : ∃ y : Int32, y = (v5 + 1) := ⟨_, rfl⟩
        have h := h x3 ex3
        refine g_iinc (v := x3) (lv1 := [some (.inr 1), some (.inl v1), some (.inl v2), some (.inl v3), some (.inl v4), some (.inl x3), u6, u7]) ok dX5_fewestCandidates_59 rfl (by rw [ex3]; rfl) rfl ?_
        refine g_goto (tgt := 9) ok dX5_fewestCandidates_62 (by decide) ?_
        exact ih (v3) (v4) (x3) (u6) (u7) M1 h
      · have h := h.2 z
        refine g_aload_n ok dX5_fewestCandidates_27 rfl rfl ?_
        refine g_get (w := .inr 9) ok f1_2 (gLm (by decide)) q1_66 dX5_fewestCandidates_28 rfl ?_
        refine g_iload ok dX5_fewestCandidates_31 rfl ?_
        have hb := h.1
        have h := h.2
        refine g_iald (w := (M1 9 (Int32.toNatClampNeg v5))) ok a9 (gLm (by decide)) dX5_fewestCandidates_33 hb rfl ?_
        refine g_iload_n ok dX5_fewestCandidates_34 rfl rfl ?_
        refine g_iand ok dX5_fewestCandidates_35 ?_
        refine g_nm (fun x4 ex4 => ?_)
        have h := h x4 ex4
        refine g_istore (lv1 := [some (.inr 1), some (.inl v1), some (.inl v2), some (.inl v3), some (.inl v4), some (.inl v5), some (.inl x4), u7]) ok dX5_fewestCandidates_36 (glt rfl) rfl ?_
        refine g_iload ok dX5_fewestCandidates_38 rfl ?_
        refine g_callSi (st := []) (as := [.inl x4]) ok rfl (k_J6_bitCount_0f7a4 h) s_J6_bitCount_0f7a4 rfl (by decide) stt_J6_bitCount_0f7a4 (gle rfl) rfl q2_156 dX5_fewestCandidates_40 ?_
        intro r6 M5 h
        refine g_istore (lv1 := [some (.inr 1), some (.inl v1), some (.inl v2), some (.inl v3), some (.inl v4), some (.inl v5), some (.inl x4), some (.inl r6)]) ok dX5_fewestCandidates_43 (glt rfl) rfl ?_
        refine g_iload ok dX5_fewestCandidates_45 rfl ?_
        refine g_iload ok dX5_fewestCandidates_47 rfl ?_
        refine g_icmp_ge (tgt := 59) ok dX5_fewestCandidates_49 (by decide) (fun z => ?_) (fun z => ?_)
        · have h := h.2 z
          obtain ⟨x7, ex7⟩ : ∃ y : Int32, y = (v5 + 1) := ⟨_, rfl⟩
          have h := h x7 ex7
          refine g_iinc (v := x7) (lv1 := [some (.inr 1), some (.inl v1), some (.inl v2), some (.inl v3), some (.inl v4), some (.inl x7), some (.inl x4), some (.inl r6)]) ok dX5_fewestCandidates_59 rfl (by rw [ex7]; rfl) rfl ?_
          refine g_goto (tgt := 9) ok dX5_fewestCandidates_62 (by decide) ?_
          exact ih (v3) (v4) (x7) (some (.inl x4)) (some (.inl r6)) M5 h
        · have h := h.1 z
          refine g_iload ok dX5_fewestCandidates_52 rfl ?_
          refine g_istore (lv1 := [some (.inr 1), some (.inl v1), some (.inl v2), some (.inl v3), some (.inl r6), some (.inl v5), some (.inl x4), some (.inl r6)]) ok dX5_fewestCandidates_54 (glt rfl) rfl ?_
          refine g_iload ok dX5_fewestCandidates_56 rfl ?_
          refine g_istore_n (lv1 := [some (.inr 1), some (.inl v1), some (.inl v2), some (.inl x4), some (.inl r6), some (.inl v5), some (.inl x4), some (.inl r6)]) ok dX5_fewestCandidates_58 rfl (glt rfl) rfl ?_
          obtain ⟨x8, ex8⟩ : ∃ y : Int32, y = (v5 + 1) := ⟨_, rfl⟩
          have h := h x8 ex8
          refine g_iinc (v := x8) (lv1 := [some (.inr 1), some (.inl v1), some (.inl v2), some (.inl x4), some (.inl r6), some (.inl x8), some (.inl x4), some (.inl r6)]) ok dX5_fewestCandidates_59 rfl (by rw [ex8]; rfl) rfl ?_
          refine g_goto (tgt := 9) ok dX5_fewestCandidates_62 (by decide) ?_
          exact ih (x4) (r6) (x8) (some (.inl x4)) (some (.inl r6)) M5 h
set_option maxRecDepth 100000 in
set_option maxHeartbeats 4000000 in
theorem k_X5_fewestCandidates {p1 : Int32} {p2 : Int32} {M : gM} {Q : Int32 → gM → Prop} (h : w_X5_fewestCandidates p1 p2 M Q) : gCi gL 1 yX5_fewestCandidates cX5_fewestCandidates 8 .int [.inr 1, .inl p1, .inl p2] M Q := by
  refine gCi_of (by decide) gLn (gle rfl) (fun X ok hZ => ?_)
  show gW X 0 [some (.inr 1), some (.inl p1), some (.inl p2), none, none, none, none, none] [] M
  unfold w_X5_fewestCandidates at h
  refine g_iconst (v := 0) ok dX5_fewestCandidates_0 (by decide) ?_
  refine g_istore_n (lv1 := [some (.inr 1), some (.inl p1), some (.inl p2), some (.inl 0), none, none, none, none]) ok dX5_fewestCandidates_1 rfl (glt rfl) rfl ?_
  refine g_bipush (v := 15) ok dX5_fewestCandidates_2 (by decide) ?_
  refine g_istore (lv1 := [some (.inr 1), some (.inl p1), some (.inl p2), some (.inl 0), some (.inl 15), none, none, none]) ok dX5_fewestCandidates_4 (glt rfl) rfl ?_
  refine g_iconst (v := 0) ok dX5_fewestCandidates_6 (by decide) ?_
  refine g_istore (lv1 := [some (.inr 1), some (.inl p1), some (.inl p2), some (.inl 0), some (.inl 15), some (.inl 0), none, none]) ok dX5_fewestCandidates_7 (glt rfl) rfl ?_
  obtain ⟨nf, h⟩ := h
  refine w_X5_fewestCandidates_L9_w ok hZ p1 p2 ?_ nf 0 15 0 (none) (none) M h
  · intro x9 x10 x11 u12 u13 M14 h
    refine g_iload_n ok dX5_fewestCandidates_65 rfl rfl ?_
    exact g_iret ok hZ dX5_fewestCandidates_66 h
theorem dX6_keep_0 : decode cX6_keep 0 = .ok (.aload_n 0, 1) := by decide +kernel
theorem dX6_keep_1 : decode cX6_keep 1 = .ok (.getfield 29, 3) := by decide +kernel
theorem dX6_keep_4 : decode cX6_keep 4 = .ok (.sipush 4000, 3) := by decide +kernel
theorem dX6_keep_7 : decode cX6_keep 7 = .ok (.if_icmp .ge 49, 3) := by decide +kernel
theorem dX6_keep_10 : decode cX6_keep 10 = .ok (.aload_n 0, 1) := by decide +kernel
theorem dX6_keep_11 : decode cX6_keep 11 = .ok (.getfield 15, 3) := by decide +kernel
theorem dX6_keep_14 : decode cX6_keep 14 = .ok (.aload_n 0, 1) := by decide +kernel
theorem dX6_keep_15 : decode cX6_keep 15 = .ok (.getfield 29, 3) := by decide +kernel
theorem dX6_keep_18 : decode cX6_keep 18 = .ok (.iload_n 1, 1) := by decide +kernel
theorem dX6_keep_19 : decode cX6_keep 19 = .ok (.iastore, 1) := by decide +kernel
theorem dX6_keep_20 : decode cX6_keep 20 = .ok (.aload_n 0, 1) := by decide +kernel
theorem dX6_keep_21 : decode cX6_keep 21 = .ok (.getfield 19, 3) := by decide +kernel
theorem dX6_keep_24 : decode cX6_keep 24 = .ok (.aload_n 0, 1) := by decide +kernel
theorem dX6_keep_25 : decode cX6_keep 25 = .ok (.getfield 29, 3) := by decide +kernel
theorem dX6_keep_28 : decode cX6_keep 28 = .ok (.aload_n 0, 1) := by decide +kernel
theorem dX6_keep_29 : decode cX6_keep 29 = .ok (.getfield 32, 3) := by decide +kernel
theorem dX6_keep_32 : decode cX6_keep 32 = .ok (.aload_n 0, 1) := by decide +kernel
theorem dX6_keep_33 : decode cX6_keep 33 = .ok (.getfield 35, 3) := by decide +kernel
theorem dX6_keep_36 : decode cX6_keep 36 = .ok (.isub, 1) := by decide +kernel
theorem dX6_keep_37 : decode cX6_keep 37 = .ok (.iastore, 1) := by decide +kernel
theorem dX6_keep_38 : decode cX6_keep 38 = .ok (.aload_n 0, 1) := by decide +kernel
theorem dX6_keep_39 : decode cX6_keep 39 = .ok (.aload_n 0, 1) := by decide +kernel
theorem dX6_keep_40 : decode cX6_keep 40 = .ok (.getfield 32, 3) := by decide +kernel
theorem dX6_keep_43 : decode cX6_keep 43 = .ok (.putfield 35, 3) := by decide +kernel
theorem dX6_keep_46 : decode cX6_keep 46 = .ok (.aload_n 0, 1) := by decide +kernel
theorem dX6_keep_47 : decode cX6_keep 47 = .ok (.dup, 1) := by decide +kernel
theorem dX6_keep_48 : decode cX6_keep 48 = .ok (.getfield 29, 3) := by decide +kernel
theorem dX6_keep_51 : decode cX6_keep 51 = .ok (.iconst 1, 1) := by decide +kernel
theorem dX6_keep_52 : decode cX6_keep 52 = .ok (.iadd, 1) := by decide +kernel
theorem dX6_keep_53 : decode cX6_keep 53 = .ok (.putfield 29, 3) := by decide +kernel
theorem dX6_keep_56 : decode cX6_keep 56 = .ok (.return_, 1) := by decide +kernel
theorem s_X6_keep : gSt yX6_keep cX6_keep 2 none 1 := ⟨q2_151, q1_5, ⟨by decide, by decide, by decide +kernel⟩, by decide⟩
theorem sel_X6_keep : Cond.selects yX6_keep.cls yX6_keep yX6_keep ∈ gT := qs_2
theorem ins_X6_keep : Cond.instanceMethod yX6_keep ∈ gT := q2_150
def w_X6_keep (p1 : Int32) (M : gM) (Q : gM → Prop) : Prop := gbr (((M 4 2) : Int32) < 4000) (vp_in (M 4 2) 4000 ∧ ∀ M1 : gM, M1 = gst M 30 (Int32.toNatClampNeg (M 4 2)) p1 → (vp_in (M1 4 2) 4000 ∧ ∀ M2 : gM, M2 = gst M1 31 (Int32.toNatClampNeg (M1 4 2)) ((M1 4 3) - (M1 4 5)) → (∀ M3 : gM, M3 = gst M2 4 5 (M2 4 3) → (∀ M4 : gM, M4 = gst M3 4 2 ((M3 4 2) + 1) → (Q M4))))) (Q M)
set_option maxRecDepth 100000 in
set_option maxHeartbeats 4000000 in
theorem k_X6_keep {p1 : Int32} {M : gM} {Q : gM → Prop} (h : w_X6_keep p1 M Q) : gCv gL 0 yX6_keep cX6_keep 2 [.inr 4, .inl p1] M Q := by
  refine gCv_of (by decide) gLn (gle rfl) (fun X ok hZ => ?_)
  show gW X 0 [some (.inr 4), some (.inl p1)] [] M
  unfold w_X6_keep at h
  refine g_aload_n ok dX6_keep_0 rfl rfl ?_
  refine g_get (w := .inl (M 4 2)) ok f4_2 (gLm (by decide)) q1_123 dX6_keep_1 rfl ?_
  refine g_sipush (v := 4000) ok dX6_keep_4 (by decide) ?_
  refine g_icmp_ge (tgt := 56) ok dX6_keep_7 (by decide) (fun z => ?_) (fun z => ?_)
  · have h := h.2 z
    exact g_vret ok hZ dX6_keep_56 h
  · have h := h.1 z
    refine g_aload_n ok dX6_keep_10 rfl rfl ?_
    refine g_get (w := .inr 30) ok f4_0 (gLm (by decide)) q1_117 dX6_keep_11 rfl ?_
    refine g_aload_n ok dX6_keep_14 rfl rfl ?_
    refine g_get (w := .inl (M 4 2)) ok f4_2 (gLm (by decide)) q1_123 dX6_keep_15 rfl ?_
    refine g_iload_n ok dX6_keep_18 rfl rfl ?_
    have hb := h.1
    have h := h.2
    refine g_iast ok a30 (gLm (by decide)) dX6_keep_19 hb (g_mem (fun M1 eM1 => ?_))
    have h := h M1 eM1
    refine g_aload_n ok dX6_keep_20 rfl rfl ?_
    refine g_get (w := .inr 31) ok f4_1 (gLm (by decide)) q1_121 dX6_keep_21 rfl ?_
    refine g_aload_n ok dX6_keep_24 rfl rfl ?_
    refine g_get (w := .inl (M1 4 2)) ok f4_2 (gLm (by decide)) q1_123 dX6_keep_25 rfl ?_
    refine g_aload_n ok dX6_keep_28 rfl rfl ?_
    refine g_get (w := .inl (M1 4 3)) ok f4_3 (gLm (by decide)) q1_127 dX6_keep_29 rfl ?_
    refine g_aload_n ok dX6_keep_32 rfl rfl ?_
    refine g_get (w := .inl (M1 4 5)) ok f4_5 (gLm (by decide)) q1_130 dX6_keep_33 rfl ?_
    refine g_isub ok dX6_keep_36 ?_
    have hb := h.1
    have h := h.2
    refine g_iast ok a31 (gLm (by decide)) dX6_keep_37 hb (g_mem (fun M2 eM2 => ?_))
    have h := h M2 eM2
    refine g_aload_n ok dX6_keep_38 rfl rfl ?_
    refine g_aload_n ok dX6_keep_39 rfl rfl ?_
    refine g_get (w := .inl (M2 4 3)) ok f4_3 (gLm (by decide)) q1_127 dX6_keep_40 rfl ?_
    refine g_put ok f4_5p (gLm (by decide)) q1_130 dX6_keep_43 rfl rfl (g_mem (fun M3 eM3 => ?_))
    have h := h M3 eM3
    refine g_aload_n ok dX6_keep_46 rfl rfl ?_
    refine g_dup ok dX6_keep_47 ?_
    refine g_get (w := .inl (M3 4 2)) ok f4_2 (gLm (by decide)) q1_123 dX6_keep_48 rfl ?_
    refine g_iconst (v := 1) ok dX6_keep_51 (by decide) ?_
    refine g_iadd ok dX6_keep_52 ?_
    refine g_put ok f4_2p (gLm (by decide)) q1_123 dX6_keep_53 rfl rfl (g_mem (fun M4 eM4 => ?_))
    have h := h M4 eM4
    exact g_vret ok hZ dX6_keep_56 h
theorem dX6_explore_0 : decode cX6_explore 0 = .ok (.iload 5, 2) := by decide +kernel
theorem dX6_explore_2 : decode cX6_explore 2 = .ok (.bipush 14, 2) := by decide +kernel
theorem dX6_explore_4 : decode cX6_explore 4 = .ok (.if_icmp .gt 13, 3) := by decide +kernel
theorem dX6_explore_7 : decode cX6_explore 7 = .ok (.aload_n 0, 1) := by decide +kernel
theorem dX6_explore_8 : decode cX6_explore 8 = .ok (.getfield 32, 3) := by decide +kernel
theorem dX6_explore_11 : decode cX6_explore 11 = .ok (.sipush 4000, 3) := by decide +kernel
theorem dX6_explore_14 : decode cX6_explore 14 = .ok (.if_icmp .lt 9, 3) := by decide +kernel
theorem dX6_explore_17 : decode cX6_explore 17 = .ok (.aload_n 0, 1) := by decide +kernel
theorem dX6_explore_18 : decode cX6_explore 18 = .ok (.iconst 1, 1) := by decide +kernel
theorem dX6_explore_19 : decode cX6_explore 19 = .ok (.putfield 38, 3) := by decide +kernel
theorem dX6_explore_22 : decode cX6_explore 22 = .ok (.return_, 1) := by decide +kernel
theorem dX6_explore_23 : decode cX6_explore 23 = .ok (.aload_n 0, 1) := by decide +kernel
theorem dX6_explore_24 : decode cX6_explore 24 = .ok (.dup, 1) := by decide +kernel
theorem dX6_explore_25 : decode cX6_explore 25 = .ok (.getfield 32, 3) := by decide +kernel
theorem dX6_explore_28 : decode cX6_explore 28 = .ok (.iconst 1, 1) := by decide +kernel
theorem dX6_explore_29 : decode cX6_explore 29 = .ok (.iadd, 1) := by decide +kernel
theorem dX6_explore_30 : decode cX6_explore 30 = .ok (.putfield 32, 3) := by decide +kernel
theorem dX6_explore_33 : decode cX6_explore 33 = .ok (.aload_n 0, 1) := by decide +kernel
theorem dX6_explore_34 : decode cX6_explore 34 = .ok (.getfield 9, 3) := by decide +kernel
theorem dX6_explore_37 : decode cX6_explore 37 = .ok (.astore 6, 2) := by decide +kernel
theorem dX6_explore_39 : decode cX6_explore 39 = .ok (.aload 6, 2) := by decide +kernel
theorem dX6_explore_41 : decode cX6_explore 41 = .ok (.invokevirtual 49, 3) := by decide +kernel
theorem dX6_explore_44 : decode cX6_explore 44 = .ok (.iload 4, 2) := by decide +kernel
theorem dX6_explore_46 : decode cX6_explore 46 = .ok (.iconst (-1), 1) := by decide +kernel
theorem dX6_explore_47 : decode cX6_explore 47 = .ok (.ixor, 1) := by decide +kernel
theorem dX6_explore_48 : decode cX6_explore 48 = .ok (.iand, 1) := by decide +kernel
theorem dX6_explore_49 : decode cX6_explore 49 = .ok (.istore 7, 2) := by decide +kernel
theorem dX6_explore_51 : decode cX6_explore 51 = .ok (.iload 7, 2) := by decide +kernel
theorem dX6_explore_53 : decode cX6_explore 53 = .ok (.ifCond .ne 9, 3) := by decide +kernel
theorem dX6_explore_56 : decode cX6_explore 56 = .ok (.aload_n 0, 1) := by decide +kernel
theorem dX6_explore_57 : decode cX6_explore 57 = .ok (.iload_n 1, 1) := by decide +kernel
theorem dX6_explore_58 : decode cX6_explore 58 = .ok (.invokevirtual 53, 3) := by decide +kernel
theorem dX6_explore_61 : decode cX6_explore 61 = .ok (.return_, 1) := by decide +kernel
theorem dX6_explore_62 : decode cX6_explore 62 = .ok (.aload 6, 2) := by decide +kernel
theorem dX6_explore_64 : decode cX6_explore 64 = .ok (.iload 7, 2) := by decide +kernel
theorem dX6_explore_66 : decode cX6_explore 66 = .ok (.iload_n 2, 1) := by decide +kernel
theorem dX6_explore_67 : decode cX6_explore 67 = .ok (.invokevirtual 57, 3) := by decide +kernel
theorem dX6_explore_70 : decode cX6_explore 70 = .ok (.istore 8, 2) := by decide +kernel
theorem dX6_explore_72 : decode cX6_explore 72 = .ok (.iload_n 2, 1) := by decide +kernel
theorem dX6_explore_73 : decode cX6_explore 73 = .ok (.iload 8, 2) := by decide +kernel
theorem dX6_explore_75 : decode cX6_explore 75 = .ok (.iconst (-1), 1) := by decide +kernel
theorem dX6_explore_76 : decode cX6_explore 76 = .ok (.ixor, 1) := by decide +kernel
theorem dX6_explore_77 : decode cX6_explore 77 = .ok (.iand, 1) := by decide +kernel
theorem dX6_explore_78 : decode cX6_explore 78 = .ok (.istore 9, 2) := by decide +kernel
theorem dX6_explore_80 : decode cX6_explore 80 = .ok (.iconst 0, 1) := by decide +kernel
theorem dX6_explore_81 : decode cX6_explore 81 = .ok (.istore 10, 2) := by decide +kernel
theorem dX6_explore_83 : decode cX6_explore 83 = .ok (.iload 10, 2) := by decide +kernel
theorem dX6_explore_85 : decode cX6_explore 85 = .ok (.aload 6, 2) := by decide +kernel
theorem dX6_explore_87 : decode cX6_explore 87 = .ok (.getfield 42, 3) := by decide +kernel
theorem dX6_explore_90 : decode cX6_explore 90 = .ok (.if_icmp .ge 100, 3) := by decide +kernel
theorem dX6_explore_93 : decode cX6_explore 93 = .ok (.aload_n 0, 1) := by decide +kernel
theorem dX6_explore_94 : decode cX6_explore 94 = .ok (.getfield 38, 3) := by decide +kernel
theorem dX6_explore_97 : decode cX6_explore 97 = .ok (.ifCond .ne 93, 3) := by decide +kernel
theorem dX6_explore_100 : decode cX6_explore 100 = .ok (.iload 8, 2) := by decide +kernel
theorem dX6_explore_102 : decode cX6_explore 102 = .ok (.iload 10, 2) := by decide +kernel
theorem dX6_explore_104 : decode cX6_explore 104 = .ok (.invokestatic 61, 3) := by decide +kernel
theorem dX6_explore_107 : decode cX6_explore 107 = .ok (.ifCond .eq 77, 3) := by decide +kernel
theorem dX6_explore_110 : decode cX6_explore 110 = .ok (.iload_n 1, 1) := by decide +kernel
theorem dX6_explore_111 : decode cX6_explore 111 = .ok (.iconst 1, 1) := by decide +kernel
theorem dX6_explore_112 : decode cX6_explore 112 = .ok (.iload 10, 2) := by decide +kernel
theorem dX6_explore_114 : decode cX6_explore 114 = .ok (.ishl, 1) := by decide +kernel
theorem dX6_explore_115 : decode cX6_explore 115 = .ok (.ior, 1) := by decide +kernel
theorem dX6_explore_116 : decode cX6_explore 116 = .ok (.istore 11, 2) := by decide +kernel
theorem dX6_explore_118 : decode cX6_explore 118 = .ok (.aload 6, 2) := by decide +kernel
theorem dX6_explore_120 : decode cX6_explore 120 = .ok (.getfield 65, 3) := by decide +kernel
theorem dX6_explore_123 : decode cX6_explore 123 = .ok (.iload 10, 2) := by decide +kernel
theorem dX6_explore_125 : decode cX6_explore 125 = .ok (.iaload, 1) := by decide +kernel
theorem dX6_explore_126 : decode cX6_explore 126 = .ok (.istore 12, 2) := by decide +kernel
theorem dX6_explore_128 : decode cX6_explore 128 = .ok (.iload_n 3, 1) := by decide +kernel
theorem dX6_explore_129 : decode cX6_explore 129 = .ok (.iload 12, 2) := by decide +kernel
theorem dX6_explore_131 : decode cX6_explore 131 = .ok (.iconst (-1), 1) := by decide +kernel
theorem dX6_explore_132 : decode cX6_explore 132 = .ok (.ixor, 1) := by decide +kernel
theorem dX6_explore_133 : decode cX6_explore 133 = .ok (.iand, 1) := by decide +kernel
theorem dX6_explore_134 : decode cX6_explore 134 = .ok (.iload 12, 2) := by decide +kernel
theorem dX6_explore_136 : decode cX6_explore 136 = .ok (.iload 4, 2) := by decide +kernel
theorem dX6_explore_138 : decode cX6_explore 138 = .ok (.iconst (-1), 1) := by decide +kernel
theorem dX6_explore_139 : decode cX6_explore 139 = .ok (.ixor, 1) := by decide +kernel
theorem dX6_explore_140 : decode cX6_explore 140 = .ok (.iand, 1) := by decide +kernel
theorem dX6_explore_141 : decode cX6_explore 141 = .ok (.ior, 1) := by decide +kernel
theorem dX6_explore_142 : decode cX6_explore 142 = .ok (.istore 13, 2) := by decide +kernel
theorem dX6_explore_144 : decode cX6_explore 144 = .ok (.aload 6, 2) := by decide +kernel
theorem dX6_explore_146 : decode cX6_explore 146 = .ok (.iload 11, 2) := by decide +kernel
theorem dX6_explore_148 : decode cX6_explore 148 = .ok (.iload 13, 2) := by decide +kernel
theorem dX6_explore_150 : decode cX6_explore 150 = .ok (.invokevirtual 68, 3) := by decide +kernel
theorem dX6_explore_153 : decode cX6_explore 153 = .ok (.ifCond .eq 22, 3) := by decide +kernel
theorem dX6_explore_156 : decode cX6_explore 156 = .ok (.aload_n 0, 1) := by decide +kernel
theorem dX6_explore_157 : decode cX6_explore 157 = .ok (.iload 11, 2) := by decide +kernel
theorem dX6_explore_159 : decode cX6_explore 159 = .ok (.iload 9, 2) := by decide +kernel
theorem dX6_explore_161 : decode cX6_explore 161 = .ok (.iload 13, 2) := by decide +kernel
theorem dX6_explore_163 : decode cX6_explore 163 = .ok (.iload 4, 2) := by decide +kernel
theorem dX6_explore_165 : decode cX6_explore 165 = .ok (.iload 12, 2) := by decide +kernel
theorem dX6_explore_167 : decode cX6_explore 167 = .ok (.ior, 1) := by decide +kernel
theorem dX6_explore_168 : decode cX6_explore 168 = .ok (.iload 5, 2) := by decide +kernel
theorem dX6_explore_170 : decode cX6_explore 170 = .ok (.iconst 1, 1) := by decide +kernel
theorem dX6_explore_171 : decode cX6_explore 171 = .ok (.iadd, 1) := by decide +kernel
theorem dX6_explore_172 : decode cX6_explore 172 = .ok (.invokestatic 45, 3) := by decide +kernel
theorem dX6_explore_175 : decode cX6_explore 175 = .ok (.iload 9, 2) := by decide +kernel
theorem dX6_explore_177 : decode cX6_explore 177 = .ok (.iconst 1, 1) := by decide +kernel
theorem dX6_explore_178 : decode cX6_explore 178 = .ok (.iload 10, 2) := by decide +kernel
theorem dX6_explore_180 : decode cX6_explore 180 = .ok (.ishl, 1) := by decide +kernel
theorem dX6_explore_181 : decode cX6_explore 181 = .ok (.ior, 1) := by decide +kernel
theorem dX6_explore_182 : decode cX6_explore 182 = .ok (.istore 9, 2) := by decide +kernel
theorem dX6_explore_184 : decode cX6_explore 184 = .ok (.iinc 10 1, 3) := by decide +kernel
theorem dX6_explore_187 : decode cX6_explore 187 = .ok (.goto (-104), 3) := by decide +kernel
theorem dX6_explore_190 : decode cX6_explore 190 = .ok (.return_, 1) := by decide +kernel
theorem s_X6_explore : gSt yX6_explore cX6_explore 14 none 6 := ⟨q2_146, q1_5, ⟨by decide, by decide, by decide +kernel⟩, by decide⟩
theorem stt_X6_explore : Cond.static yX6_explore ∈ gT := q2_145
def w_X6_explore_L83 (rec : Int32 → Int32 → Int32 → Int32 → Int32 → gM → (gM → Prop) → Prop) (Q : gM → Prop) (K190 : Int32 → Int32 → gM → Prop) (v1 : Int32) (v2 : Int32) (v3 : Int32) (v4 : Int32) (v5 : Int32) (v7 : Int32) (v8 : Int32) : Nat → Int32 → Int32 → gM → Prop
  | 0, _, _, _ => False
  | n + 1, v9, v10, M => gbr ((v10 : Int32) < (M 1 0)) (gbr (((M 4 6) : Int32) = 0) (w_X8_has v8 v10 M (fun (r10 : Int32) (M9 : gM) => gbr ((r10 : Int32) = 0) (∀ x11 : Int32, x11 = (v10 + 1) → (w_X6_explore_L83 rec Q K190 v1 v2 v3 v4 v5 v7 v8 n (v9) (x11) M9)) (∀ x12 : Int32, x12 = (v1 ||| (1 <<< (v10 &&& 31))) → (vp_in v10 14 ∧ (∀ x13 : Int32, x13 = (M9 10 (Int32.toNatClampNeg v10)) → (∀ x14 : Int32, x14 = ((v3 &&& (x13 ^^^ (-1))) ||| (x13 &&& (v4 ^^^ (-1)))) → (w_X5_eachHasPrivate x12 x14 M9 (fun (r16 : Int32) (M15 : gM) => gbr ((r16 : Int32) = 0) (∀ x17 : Int32, x17 = (v9 ||| (1 <<< (v10 &&& 31))) → (∀ x18 : Int32, x18 = (v10 + 1) → (w_X6_explore_L83 rec Q K190 v1 v2 v3 v4 v5 v7 v8 n (x17) (x18) M15))) (rec x12 v9 x14 (v4 ||| x13) (v5 + 1) M15 (fun (M19 : gM) => ∀ x21 : Int32, x21 = (v9 ||| (1 <<< (v10 &&& 31))) → (∀ x22 : Int32, x22 = (v10 + 1) → (w_X6_explore_L83 rec Q K190 v1 v2 v3 v4 v5 v7 v8 n (x21) (x22) M19)))))))))))) (K190 (v9) (v10) M)) (K190 (v9) (v10) M)
def w_X6_explore_b (rec : Int32 → Int32 → Int32 → Int32 → Int32 → gM → (gM → Prop) → Prop) (p1 : Int32) (p2 : Int32) (p3 : Int32) (p4 : Int32) (p5 : Int32) (M : gM) (Q : gM → Prop) : Prop := gbr ((14 : Int32) < p5) (∀ M1 : gM, M1 = gst M 4 6 1 → (Q M1)) (gbr (((M 4 3) : Int32) < 4000) (∀ M2 : gM, M2 = gst M 4 3 ((M 4 3) + 1) → (w_X5_allEdges M2 (fun (r4 : Int32) (M3 : gM) => ∀ x5 : Int32, x5 = (r4 &&& (p4 ^^^ (-1))) → (gbr ((x5 : Int32) = 0) (w_X6_keep p1 M3 (fun (M29 : gM) => Q M29)) (w_X5_fewestCandidates x5 p2 M3 (fun (r7 : Int32) (M6 : gM) => ∀ x8 : Int32, x8 = (p2 &&& (r7 ^^^ (-1))) → (∃ nf, w_X6_explore_L83 rec Q (fun (x23 : Int32) (x24 : Int32) (M28 : gM) => Q M28) p1 p2 p3 p4 p5 x5 r7 nf x8 0 M6))))))) (∀ M31 : gM, M31 = gst M 4 6 1 → (Q M31)))
def w_X6_explore : Nat → Int32 → Int32 → Int32 → Int32 → Int32 → gM → (gM → Prop) → Prop
  | 0, _, _, _, _, _, _, _ => False
  | nd + 1, p1, p2, p3, p4, p5, M, Q => w_X6_explore_b (w_X6_explore nd) p1 p2 p3 p4 p5 M Q
set_option maxRecDepth 100000 in
set_option maxHeartbeats 4000000 in
theorem w_X6_explore_L83_w {X : gX} {d0 : Nat} (ok : gOk X cX6_explore yX6_explore.cls (2 + (d0 + 1)) 14 none gL) {rec : Int32 → Int32 → Int32 → Int32 → Int32 → gM → (gM → Prop) → Prop} (ihd : ∀ (p1 : Int32) (p2 : Int32) (p3 : Int32) (p4 : Int32) (p5 : Int32) (M : gM) (Q : gM → Prop), rec p1 p2 p3 p4 p5 M Q → gCv gL (2 + d0) yX6_explore cX6_explore 14 [.inr 4, .inl p1, .inl p2, .inl p3, .inl p4, .inl p5] M Q) {Q : gM → Prop} (hZ : gZv X Q) {K190 : Int32 → Int32 → gM → Prop} (v1 : Int32) (v2 : Int32) (v3 : Int32) (v4 : Int32) (v5 : Int32) (v7 : Int32) (v8 : Int32) (hK190 : ∀ (v9 : Int32) (v10 : Int32) (u11 : Option gV) (u12 : Option gV) (u13 : Option gV) (M : gM), K190 v9 v10 M → gW X 190 [some (.inr 4), some (.inl v1), some (.inl v2), some (.inl v3), some (.inl v4), some (.inl v5), some (.inr 1), some (.inl v7), some (.inl v8), some (.inl v9), some (.inl v10), u11, u12, u13] [] M) : ∀ (n : Nat) (v9 : Int32) (v10 : Int32) (u11 : Option gV) (u12 : Option gV) (u13 : Option gV) (M : gM), w_X6_explore_L83 rec Q K190 v1 v2 v3 v4 v5 v7 v8 n v9 v10 M → gW X 83 [some (.inr 4), some (.inl v1), some (.inl v2), some (.inl v3), some (.inl v4), some (.inl v5), some (.inr 1), some (.inl v7), some (.inl v8), some (.inl v9), some (.inl v10), u11, u12, u13] [] M
  | 0, _, _, _, _, _, _, h => h.elim
  | n + 1, v9, v10, u11, u12, u13, M, h => by
    have ih := fun (v9 : Int32) (v10 : Int32) (u11 : Option gV) (u12 : Option gV) (u13 : Option gV) (M : gM) h => w_X6_explore_L83_w ok ihd hZ v1 v2 v3 v4 v5 v7 v8 hK190 n v9 v10 u11 u12 u13 M h
    rw [w_X6_explore_L83.eq_2] at h
    refine g_iload ok dX6_explore_83 rfl ?_
    refine g_aload ok dX6_explore_85 rfl ?_
    refine g_get (w := .inl (M 1 0)) ok f1_0 (gLm (by decide)) q1_57 dX6_explore_87 rfl ?_
    refine g_icmp_ge (tgt := 190) ok dX6_explore_90 (by decide) (fun z => ?_) (fun z => ?_)
    · have h := h.2 z
      exact hK190 (v9) (v10) (u11) (u12) (u13) M h
    · have h := h.1 z
      refine g_aload_n ok dX6_explore_93 rfl rfl ?_
      refine g_get (w := .inl (M 4 6)) ok f4_6 (gLm (by decide)) q1_131 dX6_explore_94 rfl ?_
      refine g_if_ne (tgt := 190) ok dX6_explore_97 (by decide) (fun z => ?_) (fun z => ?_)
      · have h := h.2 z
        exact hK190 (v9) (v10) (u11) (u12) (u13) M h
      · have h := h.1 z
        refine g_iload ok dX6_explore_100 rfl ?_
        refine g_iload ok dX6_explore_102 rfl ?_
        refine g_callNi (st := []) (as := [.inl v8, .inl v10]) ok rfl (k_X8_has h) s_X8_has rfl (by omega) stt_X8_has (gle rfl) rfl (List.mem_of_getElem? (i := 3) rfl) dX6_explore_104 ?_
        intro r10 M9 h
        refine g_if_eq (tgt := 184) ok dX6_explore_107 (by decide) (fun z => ?_) (fun z => ?_)
        · have h := h.1 z
          obtain ⟨x11, ex11⟩ : ∃ y : Int32, y = (v10 + 1) := ⟨_, rfl⟩
          have h := h x11 ex11
          refine g_iinc (v := x11) (lv1 := [some (.inr 4), some (.inl v1), some (.inl v2), some (.inl v3), some (.inl v4), some (.inl v5), some (.inr 1), some (.inl v7), some (.inl v8), some (.inl v9), some (.inl x11), u11, u12, u13]) ok dX6_explore_184 rfl (by rw [ex11]; rfl) rfl ?_
          refine g_goto (tgt := 83) ok dX6_explore_187 (by decide) ?_
          exact ih (v9) (x11) (u11) (u12) (u13) M9 h
        · have h := h.2 z
          refine g_iload_n ok dX6_explore_110 rfl rfl ?_
          refine g_iconst (v := 1) ok dX6_explore_111 (by decide) ?_
          refine g_iload ok dX6_explore_112 rfl ?_
          refine g_ishl ok dX6_explore_114 ?_
          refine g_ior ok dX6_explore_115 ?_
          refine g_nm (fun x12 ex12 => ?_)
          have h := h x12 ex12
          refine g_istore (lv1 := [some (.inr 4), some (.inl v1), some (.inl v2), some (.inl v3), some (.inl v4), some (.inl v5), some (.inr 1), some (.inl v7), some (.inl v8), some (.inl v9), some (.inl v10), some (.inl x12), u12, u13]) ok dX6_explore_116 (glt rfl) rfl ?_
          refine g_aload ok dX6_explore_118 rfl ?_
          refine g_get (w := .inr 10) ok f1_3 (gLm (by decide)) q1_71 dX6_explore_120 rfl ?_
          refine g_iload ok dX6_explore_123 rfl ?_
          have hb := h.1
          have h := h.2
          refine g_iald (w := (M9 10 (Int32.toNatClampNeg v10))) ok a10 (gLm (by decide)) dX6_explore_125 hb rfl ?_
          refine g_nm (fun x13 ex13 => ?_)
          have h := h x13 ex13
          refine g_istore (lv1 := [some (.inr 4), some (.inl v1), some (.inl v2), some (.inl v3), some (.inl v4), some (.inl v5), some (.inr 1), some (.inl v7), some (.inl v8), some (.inl v9), some (.inl v10), some (.inl x12), some (.inl x13), u13]) ok dX6_explore_126 (glt rfl) rfl ?_
          refine g_iload_n ok dX6_explore_128 rfl rfl ?_
          refine g_iload ok dX6_explore_129 rfl ?_
          refine g_iconst (v := (-1)) ok dX6_explore_131 (by decide) ?_
          refine g_ixor ok dX6_explore_132 ?_
          refine g_iand ok dX6_explore_133 ?_
          refine g_iload ok dX6_explore_134 rfl ?_
          refine g_iload ok dX6_explore_136 rfl ?_
          refine g_iconst (v := (-1)) ok dX6_explore_138 (by decide) ?_
          refine g_ixor ok dX6_explore_139 ?_
          refine g_iand ok dX6_explore_140 ?_
          refine g_ior ok dX6_explore_141 ?_
          refine g_nm (fun x14 ex14 => ?_)
          have h := h x14 ex14
          refine g_istore (lv1 := [some (.inr 4), some (.inl v1), some (.inl v2), some (.inl v3), some (.inl v4), some (.inl v5), some (.inr 1), some (.inl v7), some (.inl v8), some (.inl v9), some (.inl v10), some (.inl x12), some (.inl x13), some (.inl x14)]) ok dX6_explore_142 (glt rfl) rfl ?_
          refine g_aload ok dX6_explore_144 rfl ?_
          refine g_iload ok dX6_explore_146 rfl ?_
          refine g_iload ok dX6_explore_148 rfl ?_
          refine g_callVi (st := []) (as := [.inl x12, .inl x14]) ok rfl (k_X5_eachHasPrivate h) s_X5_eachHasPrivate rfl (by omega) (gLm (by decide)) cl1 sel_X5_eachHasPrivate ins_X5_eachHasPrivate (gle rfl) rfl q2_158 dX6_explore_150 ?_
          intro r16 M15 h
          refine g_if_eq (tgt := 175) ok dX6_explore_153 (by decide) (fun z => ?_) (fun z => ?_)
          · have h := h.1 z
            refine g_iload ok dX6_explore_175 rfl ?_
            refine g_iconst (v := 1) ok dX6_explore_177 (by decide) ?_
            refine g_iload ok dX6_explore_178 rfl ?_
            refine g_ishl ok dX6_explore_180 ?_
            refine g_ior ok dX6_explore_181 ?_
            refine g_nm (fun x17 ex17 => ?_)
            have h := h x17 ex17
            refine g_istore (lv1 := [some (.inr 4), some (.inl v1), some (.inl v2), some (.inl v3), some (.inl v4), some (.inl v5), some (.inr 1), some (.inl v7), some (.inl v8), some (.inl x17), some (.inl v10), some (.inl x12), some (.inl x13), some (.inl x14)]) ok dX6_explore_182 (glt rfl) rfl ?_
            obtain ⟨x18, ex18⟩ : ∃ y : Int32, y = (v10 + 1) := ⟨_, rfl⟩
            have h := h x18 ex18
            refine g_iinc (v := x18) (lv1 := [some (.inr 4), some (.inl v1), some (.inl v2), some (.inl v3), some (.inl v4), some (.inl v5), some (.inr 1), some (.inl v7), some (.inl v8), some (.inl x17), some (.inl x18), some (.inl x12), some (.inl x13), some (.inl x14)]) ok dX6_explore_184 rfl (by rw [ex18]; rfl) rfl ?_
            refine g_goto (tgt := 83) ok dX6_explore_187 (by decide) ?_
            exact ih (x17) (x18) (some (.inl x12)) (some (.inl x13)) (some (.inl x14)) M15 h
          · have h := h.2 z
            refine g_aload_n ok dX6_explore_156 rfl rfl ?_
            refine g_iload ok dX6_explore_157 rfl ?_
            refine g_iload ok dX6_explore_159 rfl ?_
            refine g_iload ok dX6_explore_161 rfl ?_
            refine g_iload ok dX6_explore_163 rfl ?_
            refine g_iload ok dX6_explore_165 rfl ?_
            refine g_ior ok dX6_explore_167 ?_
            refine g_iload ok dX6_explore_168 rfl ?_
            refine g_iconst (v := 1) ok dX6_explore_170 (by decide) ?_
            refine g_iadd ok dX6_explore_171 ?_
            refine g_callSv (st := []) (as := [.inr 4, .inl x12, .inl v9, .inl x14, .inl (v4 ||| x13), .inl (v5 + 1)]) ok rfl (ihd x12 v9 x14 (v4 ||| x13) (v5 + 1) M15 _ h) s_X6_explore rfl (by omega) stt_X6_explore (gle rfl) rfl q2_144 dX6_explore_172 ?_
            intro M19 h
            refine g_iload ok dX6_explore_175 rfl ?_
            refine g_iconst (v := 1) ok dX6_explore_177 (by decide) ?_
            refine g_iload ok dX6_explore_178 rfl ?_
            refine g_ishl ok dX6_explore_180 ?_
            refine g_ior ok dX6_explore_181 ?_
            refine g_nm (fun x21 ex21 => ?_)
            have h := h x21 ex21
            refine g_istore (lv1 := [some (.inr 4), some (.inl v1), some (.inl v2), some (.inl v3), some (.inl v4), some (.inl v5), some (.inr 1), some (.inl v7), some (.inl v8), some (.inl x21), some (.inl v10), some (.inl x12), some (.inl x13), some (.inl x14)]) ok dX6_explore_182 (glt rfl) rfl ?_
            obtain ⟨x22, ex22⟩ : ∃ y : Int32, y = (v10 + 1) := ⟨_, rfl⟩
            have h := h x22 ex22
            refine g_iinc (v := x22) (lv1 := [some (.inr 4), some (.inl v1), some (.inl v2), some (.inl v3), some (.inl v4), some (.inl v5), some (.inr 1), some (.inl v7), some (.inl v8), some (.inl x21), some (.inl x22), some (.inl x12), some (.inl x13), some (.inl x14)]) ok dX6_explore_184 rfl (by rw [ex22]; rfl) rfl ?_
            refine g_goto (tgt := 83) ok dX6_explore_187 (by decide) ?_
            exact ih (x21) (x22) (some (.inl x12)) (some (.inl x13)) (some (.inl x14)) M19 h
set_option maxRecDepth 100000 in
set_option maxHeartbeats 4000000 in
theorem k_X6_explore_b {d0 : Nat} {rec : Int32 → Int32 → Int32 → Int32 → Int32 → gM → (gM → Prop) → Prop} (ihd : ∀ (p1 : Int32) (p2 : Int32) (p3 : Int32) (p4 : Int32) (p5 : Int32) (M : gM) (Q : gM → Prop), rec p1 p2 p3 p4 p5 M Q → gCv gL (2 + d0) yX6_explore cX6_explore 14 [.inr 4, .inl p1, .inl p2, .inl p3, .inl p4, .inl p5] M Q) {p1 : Int32} {p2 : Int32} {p3 : Int32} {p4 : Int32} {p5 : Int32} {M : gM} {Q : gM → Prop} (h : w_X6_explore_b rec p1 p2 p3 p4 p5 M Q) : gCv gL (2 + (d0 + 1)) yX6_explore cX6_explore 14 [.inr 4, .inl p1, .inl p2, .inl p3, .inl p4, .inl p5] M Q := by
  refine gCv_of (by decide) gLn (gle rfl) (fun X ok hZ => ?_)
  show gW X 0 [some (.inr 4), some (.inl p1), some (.inl p2), some (.inl p3), some (.inl p4), some (.inl p5), none, none, none, none, none, none, none, none] [] M
  unfold w_X6_explore_b at h
  refine g_iload ok dX6_explore_0 rfl ?_
  refine g_bipush (v := 14) ok dX6_explore_2 (by decide) ?_
  refine g_icmp_gt (tgt := 17) ok dX6_explore_4 (by decide) (fun z => ?_) (fun z => ?_)
  · have h := h.1 z
    refine g_aload_n ok dX6_explore_17 rfl rfl ?_
    refine g_iconst (v := 1) ok dX6_explore_18 (by decide) ?_
    refine g_put ok f4_6p (gLm (by decide)) q1_131 dX6_explore_19 (by decide) (by decide) (g_mem (fun M1 eM1 => ?_))
    have h := h M1 eM1
    exact g_vret ok hZ dX6_explore_22 h
  · have h := h.2 z
    refine g_aload_n ok dX6_explore_7 rfl rfl ?_
    refine g_get (w := .inl (M 4 3)) ok f4_3 (gLm (by decide)) q1_127 dX6_explore_8 rfl ?_
    refine g_sipush (v := 4000) ok dX6_explore_11 (by decide) ?_
    refine g_icmp_lt (tgt := 23) ok dX6_explore_14 (by decide) (fun z => ?_) (fun z => ?_)
    · have h := h.1 z
      refine g_aload_n ok dX6_explore_23 rfl rfl ?_
      refine g_dup ok dX6_explore_24 ?_
      refine g_get (w := .inl (M 4 3)) ok f4_3 (gLm (by decide)) q1_127 dX6_explore_25 rfl ?_
      refine g_iconst (v := 1) ok dX6_explore_28 (by decide) ?_
      refine g_iadd ok dX6_explore_29 ?_
      refine g_put ok f4_3p (gLm (by decide)) q1_127 dX6_explore_30 rfl rfl (g_mem (fun M2 eM2 => ?_))
      have h := h M2 eM2
      refine g_aload_n ok dX6_explore_33 rfl rfl ?_
      refine g_get (w := .inr 1) ok f4_4 (gLm (by decide)) q1_129 dX6_explore_34 rfl ?_
      refine g_astore (lv1 := [some (.inr 4), some (.inl p1), some (.inl p2), some (.inl p3), some (.inl p4), some (.inl p5), some (.inr 1), none, none, none, none, none, none, none]) ok dX6_explore_37 (glt rfl) rfl ?_
      refine g_aload ok dX6_explore_39 rfl ?_
      refine g_callVi (st := []) (as := []) ok rfl (k_X5_allEdges h) s_X5_allEdges rfl (by omega) (gLm (by decide)) cl1 sel_X5_allEdges ins_X5_allEdges (gle rfl) rfl q2_147 dX6_explore_41 ?_
      intro r4 M3 h
      refine g_iload ok dX6_explore_44 rfl ?_
      refine g_iconst (v := (-1)) ok dX6_explore_46 (by decide) ?_
      refine g_ixor ok dX6_explore_47 ?_
      refine g_iand ok dX6_explore_48 ?_
      refine g_nm (fun x5 ex5 => ?_)
      have h := h x5 ex5
      refine g_istore (lv1 := [some (.inr 4), some (.inl p1), some (.inl p2), some (.inl p3), some (.inl p4), some (.inl p5), some (.inr 1), some (.inl x5), none, none, none, none, none, none]) ok dX6_explore_49 (glt rfl) rfl ?_
      refine g_iload ok dX6_explore_51 rfl ?_
      refine g_if_ne (tgt := 62) ok dX6_explore_53 (by decide) (fun z => ?_) (fun z => ?_)
      · have h := h.2 z
        refine g_aload ok dX6_explore_62 rfl ?_
        refine g_iload ok dX6_explore_64 rfl ?_
        refine g_iload_n ok dX6_explore_66 rfl rfl ?_
        refine g_callVi (st := []) (as := [.inl x5, .inl p2]) ok rfl (k_X5_fewestCandidates h) s_X5_fewestCandidates rfl (by omega) (gLm (by decide)) cl1 sel_X5_fewestCandidates ins_X5_fewestCandidates (gle rfl) rfl q2_152 dX6_explore_67 ?_
        intro r7 M6 h
        refine g_istore (lv1 := [some (.inr 4), some (.inl p1), some (.inl p2), some (.inl p3), some (.inl p4), some (.inl p5), some (.inr 1), some (.inl x5), some (.inl r7), none, none, none, none, none]) ok dX6_explore_70 (glt rfl) rfl ?_
        refine g_iload_n ok dX6_explore_72 rfl rfl ?_
        refine g_iload ok dX6_explore_73 rfl ?_
        refine g_iconst (v := (-1)) ok dX6_explore_75 (by decide) ?_
        refine g_ixor ok dX6_explore_76 ?_
        refine g_iand ok dX6_explore_77 ?_
        refine g_nm (fun x8 ex8 => ?_)
        have h := h x8 ex8
        refine g_istore (lv1 := [some (.inr 4), some (.inl p1), some (.inl p2), some (.inl p3), some (.inl p4), some (.inl p5), some (.inr 1), some (.inl x5), some (.inl r7), some (.inl x8), none, none, none, none]) ok dX6_explore_78 (glt rfl) rfl ?_
        refine g_iconst (v := 0) ok dX6_explore_80 (by decide) ?_
        refine g_istore (lv1 := [some (.inr 4), some (.inl p1), some (.inl p2), some (.inl p3), some (.inl p4), some (.inl p5), some (.inr 1), some (.inl x5), some (.inl r7), some (.inl x8), some (.inl 0), none, none, none]) ok dX6_explore_81 (glt rfl) rfl ?_
        obtain ⟨nf, h⟩ := h
        refine w_X6_explore_L83_w ok ihd hZ p1 p2 p3 p4 p5 x5 r7 ?_ nf x8 0 (none) (none) (none) M6 h
        · intro x23 x24 u25 u26 u27 M28 h
          exact g_vret ok hZ dX6_explore_190 h
      · have h := h.1 z
        refine g_aload_n ok dX6_explore_56 rfl rfl ?_
        refine g_iload_n ok dX6_explore_57 rfl rfl ?_
        refine g_callVv (st := []) (as := [.inl p1]) ok rfl (k_X6_keep h) s_X6_keep rfl (by omega) (gLm (by decide)) cl4 sel_X6_keep ins_X6_keep (gle rfl) rfl q2_148 dX6_explore_58 ?_
        intro M29 h
        exact g_vret ok hZ dX6_explore_61 h
    · have h := h.2 z
      refine g_aload_n ok dX6_explore_17 rfl rfl ?_
      refine g_iconst (v := 1) ok dX6_explore_18 (by decide) ?_
      refine g_put ok f4_6p (gLm (by decide)) q1_131 dX6_explore_19 (by decide) (by decide) (g_mem (fun M31 eM31 => ?_))
      have h := h M31 eM31
      exact g_vret ok hZ dX6_explore_22 h
theorem k_X6_explore : ∀ (d0 : Nat) (p1 : Int32) (p2 : Int32) (p3 : Int32) (p4 : Int32) (p5 : Int32) (M : gM) (Q : gM → Prop), w_X6_explore d0 p1 p2 p3 p4 p5 M Q → gCv gL (2 + d0) yX6_explore cX6_explore 14 [.inr 4, .inl p1, .inl p2, .inl p3, .inl p4, .inl p5] M Q
  | 0, _, _, _, _, _, _, _, h => h.elim
  | d0 + 1, p1, p2, p3, p4, p5, M, Q, h => k_X6_explore_b (k_X6_explore d0) h
theorem dX6_succeeds_0 : decode cX6_succeeds 0 = .ok (.aload_n 0, 1) := by decide +kernel
theorem dX6_succeeds_1 : decode cX6_succeeds 1 = .ok (.getfield 22, 3) := by decide +kernel
theorem dX6_succeeds_4 : decode cX6_succeeds 4 = .ok (.aload_n 0, 1) := by decide +kernel
theorem dX6_succeeds_5 : decode cX6_succeeds 5 = .ok (.getfield 9, 3) := by decide +kernel
theorem dX6_succeeds_8 : decode cX6_succeeds 8 = .ok (.getfield 26, 3) := by decide +kernel
theorem dX6_succeeds_11 : decode cX6_succeeds 11 = .ok (.if_icmp .eq 53, 3) := by decide +kernel
theorem dX6_succeeds_14 : decode cX6_succeeds 14 = .ok (.aload_n 0, 1) := by decide +kernel
theorem dX6_succeeds_15 : decode cX6_succeeds 15 = .ok (.aload_n 0, 1) := by decide +kernel
theorem dX6_succeeds_16 : decode cX6_succeeds 16 = .ok (.getfield 9, 3) := by decide +kernel
theorem dX6_succeeds_19 : decode cX6_succeeds 19 = .ok (.getfield 26, 3) := by decide +kernel
theorem dX6_succeeds_22 : decode cX6_succeeds 22 = .ok (.putfield 22, 3) := by decide +kernel
theorem dX6_succeeds_25 : decode cX6_succeeds 25 = .ok (.aload_n 0, 1) := by decide +kernel
theorem dX6_succeeds_26 : decode cX6_succeeds 26 = .ok (.iconst 0, 1) := by decide +kernel
theorem dX6_succeeds_27 : decode cX6_succeeds 27 = .ok (.putfield 29, 3) := by decide +kernel
theorem dX6_succeeds_30 : decode cX6_succeeds 30 = .ok (.aload_n 0, 1) := by decide +kernel
theorem dX6_succeeds_31 : decode cX6_succeeds 31 = .ok (.iconst 0, 1) := by decide +kernel
theorem dX6_succeeds_32 : decode cX6_succeeds 32 = .ok (.putfield 32, 3) := by decide +kernel
theorem dX6_succeeds_35 : decode cX6_succeeds 35 = .ok (.aload_n 0, 1) := by decide +kernel
theorem dX6_succeeds_36 : decode cX6_succeeds 36 = .ok (.iconst 0, 1) := by decide +kernel
theorem dX6_succeeds_37 : decode cX6_succeeds 37 = .ok (.putfield 35, 3) := by decide +kernel
theorem dX6_succeeds_40 : decode cX6_succeeds 40 = .ok (.aload_n 0, 1) := by decide +kernel
theorem dX6_succeeds_41 : decode cX6_succeeds 41 = .ok (.iconst 0, 1) := by decide +kernel
theorem dX6_succeeds_42 : decode cX6_succeeds 42 = .ok (.putfield 38, 3) := by decide +kernel
theorem dX6_succeeds_45 : decode cX6_succeeds 45 = .ok (.aload_n 0, 1) := by decide +kernel
theorem dX6_succeeds_46 : decode cX6_succeeds 46 = .ok (.iconst 0, 1) := by decide +kernel
theorem dX6_succeeds_47 : decode cX6_succeeds 47 = .ok (.iconst 1, 1) := by decide +kernel
theorem dX6_succeeds_48 : decode cX6_succeeds 48 = .ok (.aload_n 0, 1) := by decide +kernel
theorem dX6_succeeds_49 : decode cX6_succeeds 49 = .ok (.getfield 9, 3) := by decide +kernel
theorem dX6_succeeds_52 : decode cX6_succeeds 52 = .ok (.getfield 42, 3) := by decide +kernel
theorem dX6_succeeds_55 : decode cX6_succeeds 55 = .ok (.ishl, 1) := by decide +kernel
theorem dX6_succeeds_56 : decode cX6_succeeds 56 = .ok (.iconst 1, 1) := by decide +kernel
theorem dX6_succeeds_57 : decode cX6_succeeds 57 = .ok (.isub, 1) := by decide +kernel
theorem dX6_succeeds_58 : decode cX6_succeeds 58 = .ok (.iconst 0, 1) := by decide +kernel
theorem dX6_succeeds_59 : decode cX6_succeeds 59 = .ok (.iconst 0, 1) := by decide +kernel
theorem dX6_succeeds_60 : decode cX6_succeeds 60 = .ok (.iconst 0, 1) := by decide +kernel
theorem dX6_succeeds_61 : decode cX6_succeeds 61 = .ok (.invokestatic 45, 3) := by decide +kernel
theorem dX6_succeeds_64 : decode cX6_succeeds 64 = .ok (.aload_n 0, 1) := by decide +kernel
theorem dX6_succeeds_65 : decode cX6_succeeds 65 = .ok (.getfield 38, 3) := by decide +kernel
theorem dX6_succeeds_68 : decode cX6_succeeds 68 = .ok (.ifCond .ne 7, 3) := by decide +kernel
theorem dX6_succeeds_71 : decode cX6_succeeds 71 = .ok (.iconst 1, 1) := by decide +kernel
theorem dX6_succeeds_72 : decode cX6_succeeds 72 = .ok (.goto 4, 3) := by decide +kernel
theorem dX6_succeeds_75 : decode cX6_succeeds 75 = .ok (.iconst 0, 1) := by decide +kernel
theorem dX6_succeeds_76 : decode cX6_succeeds 76 = .ok (.ireturn, 1) := by decide +kernel
theorem s_X6_succeeds : gSt yX6_succeeds cX6_succeeds 1 (some .boolean) 0 := ⟨q2_143, q1_5, ⟨by decide, by decide, by decide +kernel⟩, by decide⟩
theorem sel_X6_succeeds : Cond.selects yX6_succeeds.cls yX6_succeeds yX6_succeeds ∈ gT := q2_142
theorem ins_X6_succeeds : Cond.instanceMethod yX6_succeeds ∈ gT := q2_141
def w_X6_succeeds  (M : gM) (Q : Int32 → gM → Prop) : Prop := gbr (((M 4 7) : Int32) = (M 1 5)) (gbr (((M 4 6) : Int32) = 0) (Q 1 M) (Q 0 M)) (∀ M1 : gM, M1 = gst M 4 7 (M 1 5) → (∀ M2 : gM, M2 = gst M1 4 2 0 → (∀ M3 : gM, M3 = gst M2 4 3 0 → (∀ M4 : gM, M4 = gst M3 4 5 0 → (∀ M5 : gM, M5 = gst M4 4 6 0 → (∃ nd, nd ≤ 17 ∧ w_X6_explore nd 0 ((1 <<< ((M5 1 0) &&& 31)) - 1) 0 0 0 M5 (fun (M6 : gM) => gbr (((M6 4 6) : Int32) = 0) (Q 1 M6) (Q 0 M6))))))))
set_option maxRecDepth 100000 in
set_option maxHeartbeats 4000000 in
theorem k_X6_succeeds  {M : gM} {Q : Int32 → gM → Prop} (h : w_X6_succeeds  M Q) : gCi gL 20 yX6_succeeds cX6_succeeds 1 .boolean [.inr 4] M Q := by
  refine gCi_of (by decide) gLn (gle rfl) (fun X ok hZ => ?_)
  show gW X 0 [some (.inr 4)] [] M
  unfold w_X6_succeeds at h
  refine g_aload_n ok dX6_succeeds_0 rfl rfl ?_
  refine g_get (w := .inl (M 4 7)) ok f4_7 (gLm (by decide)) q1_132 dX6_succeeds_1 rfl ?_
  refine g_aload_n ok dX6_succeeds_4 rfl rfl ?_
  refine g_get (w := .inr 1) ok f4_4 (gLm (by decide)) q1_129 dX6_succeeds_5 rfl ?_
  refine g_get (w := .inl (M 1 5)) ok f1_5 (gLm (by decide)) q1_76 dX6_succeeds_8 rfl ?_
  refine g_icmp_eq (tgt := 64) ok dX6_succeeds_11 (by decide) (fun z => ?_) (fun z => ?_)
  · have h := h.1 z
    refine g_aload_n ok dX6_succeeds_64 rfl rfl ?_
    refine g_get (w := .inl (M 4 6)) ok f4_6 (gLm (by decide)) q1_131 dX6_succeeds_65 rfl ?_
    refine g_if_ne (tgt := 75) ok dX6_succeeds_68 (by decide) (fun z => ?_) (fun z => ?_)
    · have h := h.2 z
      refine g_iconst (v := 0) ok dX6_succeeds_75 (by decide) ?_
      exact g_zret ok hZ dX6_succeeds_76 (by decide) h
    · have h := h.1 z
      refine g_iconst (v := 1) ok dX6_succeeds_71 (by decide) ?_
      refine g_goto (tgt := 76) ok dX6_succeeds_72 (by decide) ?_
      exact g_zret ok hZ dX6_succeeds_76 (by decide) h
  · have h := h.2 z
    refine g_aload_n ok dX6_succeeds_14 rfl rfl ?_
    refine g_aload_n ok dX6_succeeds_15 rfl rfl ?_
    refine g_get (w := .inr 1) ok f4_4 (gLm (by decide)) q1_129 dX6_succeeds_16 rfl ?_
    refine g_get (w := .inl (M 1 5)) ok f1_5 (gLm (by decide)) q1_76 dX6_succeeds_19 rfl ?_
    refine g_put ok f4_7p (gLm (by decide)) q1_132 dX6_succeeds_22 rfl rfl (g_mem (fun M1 eM1 => ?_))
    have h := h M1 eM1
    refine g_aload_n ok dX6_succeeds_25 rfl rfl ?_
    refine g_iconst (v := 0) ok dX6_succeeds_26 (by decide) ?_
    refine g_put ok f4_2p (gLm (by decide)) q1_123 dX6_succeeds_27 rfl rfl (g_mem (fun M2 eM2 => ?_))
    have h := h M2 eM2
    refine g_aload_n ok dX6_succeeds_30 rfl rfl ?_
    refine g_iconst (v := 0) ok dX6_succeeds_31 (by decide) ?_
    refine g_put ok f4_3p (gLm (by decide)) q1_127 dX6_succeeds_32 rfl rfl (g_mem (fun M3 eM3 => ?_))
    have h := h M3 eM3
    refine g_aload_n ok dX6_succeeds_35 rfl rfl ?_
    refine g_iconst (v := 0) ok dX6_succeeds_36 (by decide) ?_
    refine g_put ok f4_5p (gLm (by decide)) q1_130 dX6_succeeds_37 rfl rfl (g_mem (fun M4 eM4 => ?_))
    have h := h M4 eM4
    refine g_aload_n ok dX6_succeeds_40 rfl rfl ?_
    refine g_iconst (v := 0) ok dX6_succeeds_41 (by decide) ?_
    refine g_put ok f4_6p (gLm (by decide)) q1_131 dX6_succeeds_42 (by decide) (by decide) (g_mem (fun M5 eM5 => ?_))
    have h := h M5 eM5
    refine g_aload_n ok dX6_succeeds_45 rfl rfl ?_
    refine g_iconst (v := 0) ok dX6_succeeds_46 (by decide) ?_
    refine g_iconst (v := 1) ok dX6_succeeds_47 (by decide) ?_
    refine g_aload_n ok dX6_succeeds_48 rfl rfl ?_
    refine g_get (w := .inr 1) ok f4_4 (gLm (by decide)) q1_129 dX6_succeeds_49 rfl ?_
    refine g_get (w := .inl (M5 1 0)) ok f1_0 (gLm (by decide)) q1_57 dX6_succeeds_52 rfl ?_
    refine g_ishl ok dX6_succeeds_55 ?_
    refine g_iconst (v := 1) ok dX6_succeeds_56 (by decide) ?_
    refine g_isub ok dX6_succeeds_57 ?_
    refine g_iconst (v := 0) ok dX6_succeeds_58 (by decide) ?_
    refine g_iconst (v := 0) ok dX6_succeeds_59 (by decide) ?_
    refine g_iconst (v := 0) ok dX6_succeeds_60 (by decide) ?_
    obtain ⟨nd, hnd, h⟩ := h
    refine g_callSv (st := []) (as := [.inr 4, .inl 0, .inl ((1 <<< ((M5 1 0) &&& 31)) - 1), .inl 0, .inl 0, .inl 0]) ok rfl (k_X6_explore nd 0 ((1 <<< ((M5 1 0) &&& 31)) - 1) 0 0 0 M5 _ h) s_X6_explore rfl (by omega) stt_X6_explore (gle rfl) rfl q2_144 dX6_succeeds_61 ?_
    intro M6 h
    refine g_aload_n ok dX6_succeeds_64 rfl rfl ?_
    refine g_get (w := .inl (M6 4 6)) ok f4_6 (gLm (by decide)) q1_131 dX6_succeeds_65 rfl ?_
    refine g_if_ne (tgt := 75) ok dX6_succeeds_68 (by decide) (fun z => ?_) (fun z => ?_)
    · have h := h.2 z
      refine g_iconst (v := 0) ok dX6_succeeds_75 (by decide) ?_
      exact g_zret ok hZ dX6_succeeds_76 (by decide) h
    · have h := h.1 z
      refine g_iconst (v := 1) ok dX6_succeeds_71 (by decide) ?_
      refine g_goto (tgt := 76) ok dX6_succeeds_72 (by decide) ?_
      exact g_zret ok hZ dX6_succeeds_76 (by decide) h
theorem dX6_leastAbove_0 : decode cX6_leastAbove 0 = .ok (.bipush (-7), 2) := by decide +kernel
theorem dX6_leastAbove_2 : decode cX6_leastAbove 2 = .ok (.istore_n 2, 1) := by decide +kernel
theorem dX6_leastAbove_3 : decode cX6_leastAbove 3 = .ok (.iconst 0, 1) := by decide +kernel
theorem dX6_leastAbove_4 : decode cX6_leastAbove 4 = .ok (.istore_n 3, 1) := by decide +kernel
theorem dX6_leastAbove_5 : decode cX6_leastAbove 5 = .ok (.iload_n 3, 1) := by decide +kernel
theorem dX6_leastAbove_6 : decode cX6_leastAbove 6 = .ok (.aload_n 0, 1) := by decide +kernel
theorem dX6_leastAbove_7 : decode cX6_leastAbove 7 = .ok (.getfield 29, 3) := by decide +kernel
theorem dX6_leastAbove_10 : decode cX6_leastAbove 10 = .ok (.if_icmp .ge 42, 3) := by decide +kernel
theorem dX6_leastAbove_13 : decode cX6_leastAbove 13 = .ok (.aload_n 0, 1) := by decide +kernel
theorem dX6_leastAbove_14 : decode cX6_leastAbove 14 = .ok (.getfield 15, 3) := by decide +kernel
theorem dX6_leastAbove_17 : decode cX6_leastAbove 17 = .ok (.iload_n 3, 1) := by decide +kernel
theorem dX6_leastAbove_18 : decode cX6_leastAbove 18 = .ok (.iaload, 1) := by decide +kernel
theorem dX6_leastAbove_19 : decode cX6_leastAbove 19 = .ok (.iload_n 1, 1) := by decide +kernel
theorem dX6_leastAbove_20 : decode cX6_leastAbove 20 = .ok (.if_icmp .le 26, 3) := by decide +kernel
theorem dX6_leastAbove_23 : decode cX6_leastAbove 23 = .ok (.iload_n 2, 1) := by decide +kernel
theorem dX6_leastAbove_24 : decode cX6_leastAbove 24 = .ok (.bipush (-7), 2) := by decide +kernel
theorem dX6_leastAbove_26 : decode cX6_leastAbove 26 = .ok (.if_icmp .eq 13, 3) := by decide +kernel
theorem dX6_leastAbove_29 : decode cX6_leastAbove 29 = .ok (.aload_n 0, 1) := by decide +kernel
theorem dX6_leastAbove_30 : decode cX6_leastAbove 30 = .ok (.getfield 15, 3) := by decide +kernel
theorem dX6_leastAbove_33 : decode cX6_leastAbove 33 = .ok (.iload_n 3, 1) := by decide +kernel
theorem dX6_leastAbove_34 : decode cX6_leastAbove 34 = .ok (.iaload, 1) := by decide +kernel
theorem dX6_leastAbove_35 : decode cX6_leastAbove 35 = .ok (.iload_n 2, 1) := by decide +kernel
theorem dX6_leastAbove_36 : decode cX6_leastAbove 36 = .ok (.if_icmp .ge 10, 3) := by decide +kernel
theorem dX6_leastAbove_39 : decode cX6_leastAbove 39 = .ok (.aload_n 0, 1) := by decide +kernel
theorem dX6_leastAbove_40 : decode cX6_leastAbove 40 = .ok (.getfield 15, 3) := by decide +kernel
theorem dX6_leastAbove_43 : decode cX6_leastAbove 43 = .ok (.iload_n 3, 1) := by decide +kernel
theorem dX6_leastAbove_44 : decode cX6_leastAbove 44 = .ok (.iaload, 1) := by decide +kernel
theorem dX6_leastAbove_45 : decode cX6_leastAbove 45 = .ok (.istore_n 2, 1) := by decide +kernel
theorem dX6_leastAbove_46 : decode cX6_leastAbove 46 = .ok (.iinc 3 1, 3) := by decide +kernel
theorem dX6_leastAbove_49 : decode cX6_leastAbove 49 = .ok (.goto (-44), 3) := by decide +kernel
theorem dX6_leastAbove_52 : decode cX6_leastAbove 52 = .ok (.iload_n 2, 1) := by decide +kernel
theorem dX6_leastAbove_53 : decode cX6_leastAbove 53 = .ok (.ireturn, 1) := by decide +kernel
theorem s_X6_leastAbove : gSt yX6_leastAbove cX6_leastAbove 4 (some .int) 1 := ⟨q2_165, q1_5, ⟨by decide, by decide, by decide +kernel⟩, by decide⟩
theorem sel_X6_leastAbove : Cond.selects yX6_leastAbove.cls yX6_leastAbove yX6_leastAbove ∈ gT := q2_164
theorem ins_X6_leastAbove : Cond.instanceMethod yX6_leastAbove ∈ gT := q2_163
def w_X6_leastAbove_L5 (Q : Int32 → gM → Prop) (K52 : Int32 → Int32 → gM → Prop) (v1 : Int32) : Nat → Int32 → Int32 → gM → Prop
  | 0, _, _, _ => False
  | n + 1, v2, v3, M => gbr ((v3 : Int32) < (M 4 2)) (vp_in v3 4000 ∧ (gbr ((v1 : Int32) < (M 30 (Int32.toNatClampNeg v3))) (gbr ((v2 : Int32) = (-7)) (vp_in v3 4000 ∧ (∀ x2 : Int32, x2 = (M 30 (Int32.toNatClampNeg v3)) → (∀ x3 : Int32, x3 = (v3 + 1) → (w_X6_leastAbove_L5 Q K52 v1 n (x2) (x3) M)))) (vp_in v3 4000 ∧ (gbr (((M 30 (Int32.toNatClampNeg v3)) : Int32) < v2) (vp_in v3 4000 ∧ (∀ x5 : Int32, x5 = (M 30 (Int32.toNatClampNeg v3)) → (∀ x6 : Int32, x6 = (v3 + 1) → (w_X6_leastAbove_L5 Q K52 v1 n (x5) (x6) M)))) (∀ x4 : Int32, x4 = (v3 + 1) → (w_X6_leastAbove_L5 Q K52 v1 n (v2) (x4) M))))) (∀ x1 : Int32, x1 = (v3 + 1) → (w_X6_leastAbove_L5 Q K52 v1 n (v2) (x1) M)))) (K52 (v2) (v3) M)
def w_X6_leastAbove (p1 : Int32) (M : gM) (Q : Int32 → gM → Prop) : Prop := ∃ nf, w_X6_leastAbove_L5 Q (fun (x7 : Int32) (x8 : Int32) (M9 : gM) => Q x7 M9) p1 nf (-7) 0 M
set_option maxRecDepth 100000 in
set_option maxHeartbeats 4000000 in
theorem w_X6_leastAbove_L5_w {X : gX} (ok : gOk X cX6_leastAbove yX6_leastAbove.cls 0 4 (some .int) gL) {Q : Int32 → gM → Prop} (hZ : gZi X Q) {K52 : Int32 → Int32 → gM → Prop} (v1 : Int32) (hK52 : ∀ (v2 : Int32) (v3 : Int32)  (M : gM), K52 v2 v3 M → gW X 52 [some (.inr 4), some (.inl v1), some (.inl v2), some (.inl v3)] [] M) : ∀ (n : Nat) (v2 : Int32) (v3 : Int32)  (M : gM), w_X6_leastAbove_L5 Q K52 v1 n v2 v3 M → gW X 5 [some (.inr 4), some (.inl v1), some (.inl v2), some (.inl v3)] [] M
  | 0, _, _, _, h => h.elim
  | n + 1, v2, v3, M, h => by
    have ih := fun (v2 : Int32) (v3 : Int32)  (M : gM) h => w_X6_leastAbove_L5_w ok hZ v1 hK52 n v2 v3  M h
    rw [w_X6_leastAbove_L5.eq_2] at h
    refine g_iload_n ok dX6_leastAbove_5 rfl rfl ?_
    refine g_aload_n ok dX6_leastAbove_6 rfl rfl ?_
    refine g_get (w := .inl (M 4 2)) ok f4_2 (gLm (by decide)) q1_123 dX6_leastAbove_7 rfl ?_
    refine g_icmp_ge (tgt := 52) ok dX6_leastAbove_10 (by decide) (fun z => ?_) (fun z => ?_)
    · have h := h.2 z
      exact hK52 (v2) (v3) M h
    · have h := h.1 z
      refine g_aload_n ok dX6_leastAbove_13 rfl rfl ?_
      refine g_get (w := .inr 30) ok f4_0 (gLm (by decide)) q1_117 dX6_leastAbove_14 rfl ?_
      refine g_iload_n ok dX6_leastAbove_17 rfl rfl ?_
      have hb := h.1
      have h := h.2
      refine g_iald (w := (M 30 (Int32.toNatClampNeg v3))) ok a30 (gLm (by decide)) dX6_leastAbove_18 hb rfl ?_
      refine g_iload_n ok dX6_leastAbove_19 rfl rfl ?_
      refine g_icmp_le (tgt := 46) ok dX6_leastAbove_20 (by decide) (fun z => ?_) (fun z => ?_)
      · have h := h.2 z
        obtain ⟨x1, ex1⟩ : ∃ y : Int32, y = (v3 + 1) := ⟨_, rfl⟩
        have h := h x1 ex1
        refine g_iinc (v := x1) (lv1 := [some (.inr 4), some (.inl v1), some (.inl v2), some (.inl x1)]) ok dX6_leastAbove_46 rfl (by rw [ex1]; rfl) rfl ?_
        refine g_goto (tgt := 5) ok dX6_leastAbove_49 (by decide) ?_
        exact ih (v2) (x1) M h
      · have h := h.1 z
        refine g_iload_n ok dX6_leastAbove_23 rfl rfl ?_
        refine g_bipush (v := (-7)) ok dX6_leastAbove_24 (by decide) ?_
        refine g_icmp_eq (tgt := 39) ok dX6_leastAbove_26 (by decide) (fun z => ?_) (fun z => ?_)
        · have h := h.1 z
          refine g_aload_n ok dX6_leastAbove_39 rfl rfl ?_
          refine g_get (w := .inr 30) ok f4_0 (gLm (by decide)) q1_117 dX6_leastAbove_40 rfl ?_
          refine g_iload_n ok dX6_leastAbove_43 rfl rfl ?_
          have hb := h.1
          have h := h.2
          refine g_iald (w := (M 30 (Int32.toNatClampNeg v3))) ok a30 (gLm (by decide)) dX6_leastAbove_44 hb rfl ?_
          refine g_nm (fun x2 ex2 => ?_)
          have h := h x2 ex2
          refine g_istore_n (lv1 := [some (.inr 4), some (.inl v1), some (.inl x2), some (.inl v3)]) ok dX6_leastAbove_45 rfl (glt rfl) rfl ?_
          obtain ⟨x3, ex3⟩ : ∃ y : Int32, y = (v3 + 1) := ⟨_, rfl⟩
          have h := h x3 ex3
          refine g_iinc (v := x3) (lv1 := [some (.inr 4), some (.inl v1), some (.inl x2), some (.inl x3)]) ok dX6_leastAbove_46 rfl (by rw [ex3]; rfl) rfl ?_
          refine g_goto (tgt := 5) ok dX6_leastAbove_49 (by decide) ?_
          exact ih (x2) (x3) M h
        · have h := h.2 z
          refine g_aload_n ok dX6_leastAbove_29 rfl rfl ?_
          refine g_get (w := .inr 30) ok f4_0 (gLm (by decide)) q1_117 dX6_leastAbove_30 rfl ?_
          refine g_iload_n ok dX6_leastAbove_33 rfl rfl ?_
          have hb := h.1
          have h := h.2
          refine g_iald (w := (M 30 (Int32.toNatClampNeg v3))) ok a30 (gLm (by decide)) dX6_leastAbove_34 hb rfl ?_
          refine g_iload_n ok dX6_leastAbove_35 rfl rfl ?_
          refine g_icmp_ge (tgt := 46) ok dX6_leastAbove_36 (by decide) (fun z => ?_) (fun z => ?_)
          · have h := h.2 z
            obtain ⟨x4, ex4⟩ : ∃ y : Int32, y = (v3 + 1) := ⟨_, rfl⟩
            have h := h x4 ex4
            refine g_iinc (v := x4) (lv1 := [some (.inr 4), some (.inl v1), some (.inl v2), some (.inl x4)]) ok dX6_leastAbove_46 rfl (by rw [ex4]; rfl) rfl ?_
            refine g_goto (tgt := 5) ok dX6_leastAbove_49 (by decide) ?_
            exact ih (v2) (x4) M h
          · have h := h.1 z
            refine g_aload_n ok dX6_leastAbove_39 rfl rfl ?_
            refine g_get (w := .inr 30) ok f4_0 (gLm (by decide)) q1_117 dX6_leastAbove_40 rfl ?_
            refine g_iload_n ok dX6_leastAbove_43 rfl rfl ?_
            have hb := h.1
            have h := h.2
            refine g_iald (w := (M 30 (Int32.toNatClampNeg v3))) ok a30 (gLm (by decide)) dX6_leastAbove_44 hb rfl ?_
            refine g_nm (fun x5 ex5 => ?_)
            have h := h x5 ex5
            refine g_istore_n (lv1 := [some (.inr 4), some (.inl v1), some (.inl x5), some (.inl v3)]) ok dX6_leastAbove_45 rfl (glt rfl) rfl ?_
            obtain ⟨x6, ex6⟩ : ∃ y : Int32, y = (v3 + 1) := ⟨_, rfl⟩
            have h := h x6 ex6
            refine g_iinc (v := x6) (lv1 := [some (.inr 4), some (.inl v1), some (.inl x5), some (.inl x6)]) ok dX6_leastAbove_46 rfl (by rw [ex6]; rfl) rfl ?_
            refine g_goto (tgt := 5) ok dX6_leastAbove_49 (by decide) ?_
            exact ih (x5) (x6) M h
set_option maxRecDepth 100000 in
set_option maxHeartbeats 4000000 in
theorem k_X6_leastAbove {p1 : Int32} {M : gM} {Q : Int32 → gM → Prop} (h : w_X6_leastAbove p1 M Q) : gCi gL 0 yX6_leastAbove cX6_leastAbove 4 .int [.inr 4, .inl p1] M Q := by
  refine gCi_of (by decide) gLn (gle rfl) (fun X ok hZ => ?_)
  show gW X 0 [some (.inr 4), some (.inl p1), none, none] [] M
  unfold w_X6_leastAbove at h
  refine g_bipush (v := (-7)) ok dX6_leastAbove_0 (by decide) ?_
  refine g_istore_n (lv1 := [some (.inr 4), some (.inl p1), some (.inl (-7)), none]) ok dX6_leastAbove_2 rfl (glt rfl) rfl ?_
  refine g_iconst (v := 0) ok dX6_leastAbove_3 (by decide) ?_
  refine g_istore_n (lv1 := [some (.inr 4), some (.inl p1), some (.inl (-7)), some (.inl 0)]) ok dX6_leastAbove_4 rfl (glt rfl) rfl ?_
  obtain ⟨nf, h⟩ := h
  refine w_X6_leastAbove_L5_w ok hZ p1 ?_ nf (-7) 0  M h
  · intro x7 x8  M9 h
    refine g_iload_n ok dX6_leastAbove_52 rfl rfl ?_
    exact g_iret ok hZ dX6_leastAbove_53 h
theorem dX6_countOfSize_0 : decode cX6_countOfSize 0 = .ok (.iconst 0, 1) := by decide +kernel
theorem dX6_countOfSize_1 : decode cX6_countOfSize 1 = .ok (.istore_n 2, 1) := by decide +kernel
theorem dX6_countOfSize_2 : decode cX6_countOfSize 2 = .ok (.iconst 0, 1) := by decide +kernel
theorem dX6_countOfSize_3 : decode cX6_countOfSize 3 = .ok (.istore_n 3, 1) := by decide +kernel
theorem dX6_countOfSize_4 : decode cX6_countOfSize 4 = .ok (.iload_n 3, 1) := by decide +kernel
theorem dX6_countOfSize_5 : decode cX6_countOfSize 5 = .ok (.aload_n 0, 1) := by decide +kernel
theorem dX6_countOfSize_6 : decode cX6_countOfSize 6 = .ok (.getfield 29, 3) := by decide +kernel
theorem dX6_countOfSize_9 : decode cX6_countOfSize 9 = .ok (.if_icmp .ge 25, 3) := by decide +kernel
theorem dX6_countOfSize_12 : decode cX6_countOfSize 12 = .ok (.aload_n 0, 1) := by decide +kernel
theorem dX6_countOfSize_13 : decode cX6_countOfSize 13 = .ok (.getfield 15, 3) := by decide +kernel
theorem dX6_countOfSize_16 : decode cX6_countOfSize 16 = .ok (.iload_n 3, 1) := by decide +kernel
theorem dX6_countOfSize_17 : decode cX6_countOfSize 17 = .ok (.iaload, 1) := by decide +kernel
theorem dX6_countOfSize_18 : decode cX6_countOfSize 18 = .ok (.invokestatic 71, 3) := by decide +kernel
theorem dX6_countOfSize_21 : decode cX6_countOfSize 21 = .ok (.iload_n 1, 1) := by decide +kernel
theorem dX6_countOfSize_22 : decode cX6_countOfSize 22 = .ok (.if_icmp .ne 6, 3) := by decide +kernel
theorem dX6_countOfSize_25 : decode cX6_countOfSize 25 = .ok (.iinc 2 1, 3) := by decide +kernel
theorem dX6_countOfSize_28 : decode cX6_countOfSize 28 = .ok (.iinc 3 1, 3) := by decide +kernel
theorem dX6_countOfSize_31 : decode cX6_countOfSize 31 = .ok (.goto (-27), 3) := by decide +kernel
theorem dX6_countOfSize_34 : decode cX6_countOfSize 34 = .ok (.iload_n 2, 1) := by decide +kernel
theorem dX6_countOfSize_35 : decode cX6_countOfSize 35 = .ok (.ireturn, 1) := by decide +kernel
theorem s_X6_countOfSize : gSt yX6_countOfSize cX6_countOfSize 4 (some .int) 1 := ⟨q3_55, q1_5, ⟨by decide, by decide, by decide +kernel⟩, by decide⟩
theorem sel_X6_countOfSize : Cond.selects yX6_countOfSize.cls yX6_countOfSize yX6_countOfSize ∈ gT := q3_54
theorem ins_X6_countOfSize : Cond.instanceMethod yX6_countOfSize ∈ gT := q3_53
def w_X6_countOfSize_L4 (Q : Int32 → gM → Prop) (K34 : Int32 → Int32 → gM → Prop) (v1 : Int32) : Nat → Int32 → Int32 → gM → Prop
  | 0, _, _, _ => False
  | n + 1, v2, v3, M => gbr ((v3 : Int32) < (M 4 2)) (vp_in v3 4000 ∧ (w_J6_bitCount_0f7a4 (M 30 (Int32.toNatClampNeg v3)) M (fun (r2 : Int32) (M1 : gM) => gbr ((r2 : Int32) = v1) (∀ x4 : Int32, x4 = (v2 + 1) → (∀ x5 : Int32, x5 = (v3 + 1) → (w_X6_countOfSize_L4 Q K34 v1 n (x4) (x5) M1))) (∀ x3 : Int32, x3 = (v3 + 1) → (w_X6_countOfSize_L4 Q K34 v1 n (v2) (x3) M1))))) (K34 (v2) (v3) M)
def w_X6_countOfSize (p1 : Int32) (M : gM) (Q : Int32 → gM → Prop) : Prop := ∃ nf, w_X6_countOfSize_L4 Q (fun (x6 : Int32) (x7 : Int32) (M8 : gM) => Q x6 M8) p1 nf 0 0 M
set_option maxRecDepth 100000 in
set_option maxHeartbeats 4000000 in
theorem w_X6_countOfSize_L4_w {X : gX} (ok : gOk X cX6_countOfSize yX6_countOfSize.cls 1 4 (some .int) gL) {Q : Int32 → gM → Prop} (hZ : gZi X Q) {K34 : Int32 → Int32 → gM → Prop} (v1 : Int32) (hK34 : ∀ (v2 : Int32) (v3 : Int32)  (M : gM), K34 v2 v3 M → gW X 34 [some (.inr 4), some (.inl v1), some (.inl v2), some (.inl v3)] [] M) : ∀ (n : Nat) (v2 : Int32) (v3 : Int32)  (M : gM), w_X6_countOfSize_L4 Q K34 v1 n v2 v3 M → gW X 4 [some (.inr 4), some (.inl v1), some (.inl v2), some (.inl v3)] [] M
  | 0, _, _, _, h => h.elim
  | n + 1, v2, v3, M, h => by
    have ih := fun (v2 : Int32) (v3 : Int32)  (M : gM) h => w_X6_countOfSize_L4_w ok hZ v1 hK34 n v2 v3  M h
    rw [w_X6_countOfSize_L4.eq_2] at h
    refine g_iload_n ok dX6_countOfSize_4 rfl rfl ?_
    refine g_aload_n ok dX6_countOfSize_5 rfl rfl ?_
    refine g_get (w := .inl (M 4 2)) ok f4_2 (gLm (by decide)) q1_123 dX6_countOfSize_6 rfl ?_
    refine g_icmp_ge (tgt := 34) ok dX6_countOfSize_9 (by decide) (fun z => ?_) (fun z => ?_)
    · have h := h.2 z
      exact hK34 (v2) (v3) M h
    · have h := h.1 z
      refine g_aload_n ok dX6_countOfSize_12 rfl rfl ?_
      refine g_get (w := .inr 30) ok f4_0 (gLm (by decide)) q1_117 dX6_countOfSize_13 rfl ?_
      refine g_iload_n ok dX6_countOfSize_16 rfl rfl ?_
      have hb := h.1
      have h := h.2
      refine g_iald (w := (M 30 (Int32.toNatClampNeg v3))) ok a30 (gLm (by decide)) dX6_countOfSize_17 hb rfl ?_
      refine g_callSi (st := []) (as := [.inl (M 30 (Int32.toNatClampNeg v3))]) ok rfl (k_J6_bitCount_0f7a4 h) s_J6_bitCount_0f7a4 rfl (by decide) stt_J6_bitCount_0f7a4 (gle rfl) rfl q3_56 dX6_countOfSize_18 ?_
      intro r2 M1 h
      refine g_iload_n ok dX6_countOfSize_21 rfl rfl ?_
      refine g_icmp_ne (tgt := 28) ok dX6_countOfSize_22 (by decide) (fun z => ?_) (fun z => ?_)
      · have h := h.2 z
        obtain ⟨x3, ex3⟩ : ∃ y : Int32, y = (v3 + 1) := ⟨_, rfl⟩
        have h := h x3 ex3
        refine g_iinc (v := x3) (lv1 := [some (.inr 4), some (.inl v1), some (.inl v2), some (.inl x3)]) ok dX6_countOfSize_28 rfl (by rw [ex3]; rfl) rfl ?_
        refine g_goto (tgt := 4) ok dX6_countOfSize_31 (by decide) ?_
        exact ih (v2) (x3) M1 h
      · have h := h.1 z
        obtain ⟨x4, ex4⟩ : ∃ y : Int32, y = (v2 + 1) := ⟨_, rfl⟩
        have h := h x4 ex4
        refine g_iinc (v := x4) (lv1 := [some (.inr 4), some (.inl v1), some (.inl x4), some (.inl v3)]) ok dX6_countOfSize_25 rfl (by rw [ex4]; rfl) rfl ?_
        obtain ⟨x5, ex5⟩ : ∃ y : Int32, y = (v3 + 1) := ⟨_, rfl⟩
        have h := h x5 ex5
        refine g_iinc (v := x5) (lv1 := [some (.inr 4), some (.inl v1), some (.inl x4), some (.inl x5)]) ok dX6_countOfSize_28 rfl (by rw [ex5]; rfl) rfl ?_
        refine g_goto (tgt := 4) ok dX6_countOfSize_31 (by decide) ?_
        exact ih (x4) (x5) M1 h
set_option maxRecDepth 100000 in
set_option maxHeartbeats 4000000 in
theorem k_X6_countOfSize {p1 : Int32} {M : gM} {Q : Int32 → gM → Prop} (h : w_X6_countOfSize p1 M Q) : gCi gL 1 yX6_countOfSize cX6_countOfSize 4 .int [.inr 4, .inl p1] M Q := by
  refine gCi_of (by decide) gLn (gle rfl) (fun X ok hZ => ?_)
  show gW X 0 [some (.inr 4), some (.inl p1), none, none] [] M
  unfold w_X6_countOfSize at h
  refine g_iconst (v := 0) ok dX6_countOfSize_0 (by decide) ?_
  refine g_istore_n (lv1 := [some (.inr 4), some (.inl p1), some (.inl 0), none]) ok dX6_countOfSize_1 rfl (glt rfl) rfl ?_
  refine g_iconst (v := 0) ok dX6_countOfSize_2 (by decide) ?_
  refine g_istore_n (lv1 := [some (.inr 4), some (.inl p1), some (.inl 0), some (.inl 0)]) ok dX6_countOfSize_3 rfl (glt rfl) rfl ?_
  obtain ⟨nf, h⟩ := h
  refine w_X6_countOfSize_L4_w ok hZ p1 ?_ nf 0 0  M h
  · intro x6 x7  M8 h
    refine g_iload_n ok dX6_countOfSize_34 rfl rfl ?_
    exact g_iret ok hZ dX6_countOfSize_35 h
theorem dX6_countWith_0 : decode cX6_countWith 0 = .ok (.iconst 0, 1) := by decide +kernel
theorem dX6_countWith_1 : decode cX6_countWith 1 = .ok (.istore_n 2, 1) := by decide +kernel
theorem dX6_countWith_2 : decode cX6_countWith 2 = .ok (.iconst 0, 1) := by decide +kernel
theorem dX6_countWith_3 : decode cX6_countWith 3 = .ok (.istore_n 3, 1) := by decide +kernel
theorem dX6_countWith_4 : decode cX6_countWith 4 = .ok (.iload_n 3, 1) := by decide +kernel
theorem dX6_countWith_5 : decode cX6_countWith 5 = .ok (.aload_n 0, 1) := by decide +kernel
theorem dX6_countWith_6 : decode cX6_countWith 6 = .ok (.getfield 29, 3) := by decide +kernel
theorem dX6_countWith_9 : decode cX6_countWith 9 = .ok (.if_icmp .ge 25, 3) := by decide +kernel
theorem dX6_countWith_12 : decode cX6_countWith 12 = .ok (.aload_n 0, 1) := by decide +kernel
theorem dX6_countWith_13 : decode cX6_countWith 13 = .ok (.getfield 15, 3) := by decide +kernel
theorem dX6_countWith_16 : decode cX6_countWith 16 = .ok (.iload_n 3, 1) := by decide +kernel
theorem dX6_countWith_17 : decode cX6_countWith 17 = .ok (.iaload, 1) := by decide +kernel
theorem dX6_countWith_18 : decode cX6_countWith 18 = .ok (.iload_n 1, 1) := by decide +kernel
theorem dX6_countWith_19 : decode cX6_countWith 19 = .ok (.invokestatic 61, 3) := by decide +kernel
theorem dX6_countWith_22 : decode cX6_countWith 22 = .ok (.ifCond .eq 6, 3) := by decide +kernel
theorem dX6_countWith_25 : decode cX6_countWith 25 = .ok (.iinc 2 1, 3) := by decide +kernel
theorem dX6_countWith_28 : decode cX6_countWith 28 = .ok (.iinc 3 1, 3) := by decide +kernel
theorem dX6_countWith_31 : decode cX6_countWith 31 = .ok (.goto (-27), 3) := by decide +kernel
theorem dX6_countWith_34 : decode cX6_countWith 34 = .ok (.iload_n 2, 1) := by decide +kernel
theorem dX6_countWith_35 : decode cX6_countWith 35 = .ok (.ireturn, 1) := by decide +kernel
theorem s_X6_countWith : gSt yX6_countWith cX6_countWith 4 (some .int) 1 := ⟨q3_64, q1_5, ⟨by decide, by decide, by decide +kernel⟩, by decide⟩
theorem sel_X6_countWith : Cond.selects yX6_countWith.cls yX6_countWith yX6_countWith ∈ gT := q3_63
theorem ins_X6_countWith : Cond.instanceMethod yX6_countWith ∈ gT := q3_62
def w_X6_countWith_L4 (Q : Int32 → gM → Prop) (K34 : Int32 → Int32 → gM → Prop) (v1 : Int32) : Nat → Int32 → Int32 → gM → Prop
  | 0, _, _, _ => False
  | n + 1, v2, v3, M => gbr ((v3 : Int32) < (M 4 2)) (vp_in v3 4000 ∧ (w_X8_has (M 30 (Int32.toNatClampNeg v3)) v1 M (fun (r2 : Int32) (M1 : gM) => gbr ((r2 : Int32) = 0) (∀ x3 : Int32, x3 = (v3 + 1) → (w_X6_countWith_L4 Q K34 v1 n (v2) (x3) M1)) (∀ x4 : Int32, x4 = (v2 + 1) → (∀ x5 : Int32, x5 = (v3 + 1) → (w_X6_countWith_L4 Q K34 v1 n (x4) (x5) M1)))))) (K34 (v2) (v3) M)
def w_X6_countWith (p1 : Int32) (M : gM) (Q : Int32 → gM → Prop) : Prop := ∃ nf, w_X6_countWith_L4 Q (fun (x6 : Int32) (x7 : Int32) (M8 : gM) => Q x6 M8) p1 nf 0 0 M
set_option maxRecDepth 100000 in
set_option maxHeartbeats 4000000 in
theorem w_X6_countWith_L4_w {X : gX} (ok : gOk X cX6_countWith yX6_countWith.cls 1 4 (some .int) gL) {Q : Int32 → gM → Prop} (hZ : gZi X Q) {K34 : Int32 → Int32 → gM → Prop} (v1 : Int32) (hK34 : ∀ (v2 : Int32) (v3 : Int32)  (M : gM), K34 v2 v3 M → gW X 34 [some (.inr 4), some (.inl v1), some (.inl v2), some (.inl v3)] [] M) : ∀ (n : Nat) (v2 : Int32) (v3 : Int32)  (M : gM), w_X6_countWith_L4 Q K34 v1 n v2 v3 M → gW X 4 [some (.inr 4), some (.inl v1), some (.inl v2), some (.inl v3)] [] M
  | 0, _, _, _, h => h.elim
  | n + 1, v2, v3, M, h => by
    have ih := fun (v2 : Int32) (v3 : Int32)  (M : gM) h => w_X6_countWith_L4_w ok hZ v1 hK34 n v2 v3  M h
    rw [w_X6_countWith_L4.eq_2] at h
    refine g_iload_n ok dX6_countWith_4 rfl rfl ?_
    refine g_aload_n ok dX6_countWith_5 rfl rfl ?_
    refine g_get (w := .inl (M 4 2)) ok f4_2 (gLm (by decide)) q1_123 dX6_countWith_6 rfl ?_
    refine g_icmp_ge (tgt := 34) ok dX6_countWith_9 (by decide) (fun z => ?_) (fun z => ?_)
    · have h := h.2 z
      exact hK34 (v2) (v3) M h
    · have h := h.1 z
      refine g_aload_n ok dX6_countWith_12 rfl rfl ?_
      refine g_get (w := .inr 30) ok f4_0 (gLm (by decide)) q1_117 dX6_countWith_13 rfl ?_
      refine g_iload_n ok dX6_countWith_16 rfl rfl ?_
      have hb := h.1
      have h := h.2
      refine g_iald (w := (M 30 (Int32.toNatClampNeg v3))) ok a30 (gLm (by decide)) dX6_countWith_17 hb rfl ?_
      refine g_iload_n ok dX6_countWith_18 rfl rfl ?_
      refine g_callNi (st := []) (as := [.inl (M 30 (Int32.toNatClampNeg v3)), .inl v1]) ok rfl (k_X8_has h) s_X8_has rfl (by decide) stt_X8_has (gle rfl) rfl (List.mem_of_getElem? (i := 3) rfl) dX6_countWith_19 ?_
      intro r2 M1 h
      refine g_if_eq (tgt := 28) ok dX6_countWith_22 (by decide) (fun z => ?_) (fun z => ?_)
      · have h := h.1 z
        obtain ⟨x3, ex3⟩ : ∃ y : Int32, y = (v3 + 1) := ⟨_, rfl⟩
        have h := h x3 ex3
        refine g_iinc (v := x3) (lv1 := [some (.inr 4), some (.inl v1), some (.inl v2), some (.inl x3)]) ok dX6_countWith_28 rfl (by rw [ex3]; rfl) rfl ?_
        refine g_goto (tgt := 4) ok dX6_countWith_31 (by decide) ?_
        exact ih (v2) (x3) M1 h
      · have h := h.2 z
        obtain ⟨x4, ex4⟩ : ∃ y : Int32, y = (v2 + 1) := ⟨_, rfl⟩
        have h := h x4 ex4
        refine g_iinc (v := x4) (lv1 := [some (.inr 4), some (.inl v1), some (.inl x4), some (.inl v3)]) ok dX6_countWith_25 rfl (by rw [ex4]; rfl) rfl ?_
        obtain ⟨x5, ex5⟩ : ∃ y : Int32, y = (v3 + 1) := ⟨_, rfl⟩
        have h := h x5 ex5
        refine g_iinc (v := x5) (lv1 := [some (.inr 4), some (.inl v1), some (.inl x4), some (.inl x5)]) ok dX6_countWith_28 rfl (by rw [ex5]; rfl) rfl ?_
        refine g_goto (tgt := 4) ok dX6_countWith_31 (by decide) ?_
        exact ih (x4) (x5) M1 h
set_option maxRecDepth 100000 in
set_option maxHeartbeats 4000000 in
theorem k_X6_countWith {p1 : Int32} {M : gM} {Q : Int32 → gM → Prop} (h : w_X6_countWith p1 M Q) : gCi gL 1 yX6_countWith cX6_countWith 4 .int [.inr 4, .inl p1] M Q := by
  refine gCi_of (by decide) gLn (gle rfl) (fun X ok hZ => ?_)
  show gW X 0 [some (.inr 4), some (.inl p1), none, none] [] M
  unfold w_X6_countWith at h
  refine g_iconst (v := 0) ok dX6_countWith_0 (by decide) ?_
  refine g_istore_n (lv1 := [some (.inr 4), some (.inl p1), some (.inl 0), none]) ok dX6_countWith_1 rfl (glt rfl) rfl ?_
  refine g_iconst (v := 0) ok dX6_countWith_2 (by decide) ?_
  refine g_istore_n (lv1 := [some (.inr 4), some (.inl p1), some (.inl 0), some (.inl 0)]) ok dX6_countWith_3 rfl (glt rfl) rfl ?_
  obtain ⟨nf, h⟩ := h
  refine w_X6_countWith_L4_w ok hZ p1 ?_ nf 0 0  M h
  · intro x6 x7  M8 h
    refine g_iload_n ok dX6_countWith_34 rfl rfl ?_
    exact g_iret ok hZ dX6_countWith_35 h
theorem dX6_isMinimalEdge_0 : decode cX6_isMinimalEdge 0 = .ok (.iconst 0, 1) := by decide +kernel
theorem dX6_isMinimalEdge_1 : decode cX6_isMinimalEdge 1 = .ok (.istore_n 3, 1) := by decide +kernel
theorem dX6_isMinimalEdge_2 : decode cX6_isMinimalEdge 2 = .ok (.iload_n 3, 1) := by decide +kernel
theorem dX6_isMinimalEdge_3 : decode cX6_isMinimalEdge 3 = .ok (.aload_n 0, 1) := by decide +kernel
theorem dX6_isMinimalEdge_4 : decode cX6_isMinimalEdge 4 = .ok (.getfield 9, 3) := by decide +kernel
theorem dX6_isMinimalEdge_7 : decode cX6_isMinimalEdge 7 = .ok (.getfield 80, 3) := by decide +kernel
theorem dX6_isMinimalEdge_10 : decode cX6_isMinimalEdge 10 = .ok (.if_icmp .ge 28, 3) := by decide +kernel
theorem dX6_isMinimalEdge_13 : decode cX6_isMinimalEdge 13 = .ok (.aload_n 0, 1) := by decide +kernel
theorem dX6_isMinimalEdge_14 : decode cX6_isMinimalEdge 14 = .ok (.getfield 9, 3) := by decide +kernel
theorem dX6_isMinimalEdge_17 : decode cX6_isMinimalEdge 17 = .ok (.getfield 83, 3) := by decide +kernel
theorem dX6_isMinimalEdge_20 : decode cX6_isMinimalEdge 20 = .ok (.iload_n 3, 1) := by decide +kernel
theorem dX6_isMinimalEdge_21 : decode cX6_isMinimalEdge 21 = .ok (.iaload, 1) := by decide +kernel
theorem dX6_isMinimalEdge_22 : decode cX6_isMinimalEdge 22 = .ok (.iload_n 1, 1) := by decide +kernel
theorem dX6_isMinimalEdge_23 : decode cX6_isMinimalEdge 23 = .ok (.if_icmp .ne 9, 3) := by decide +kernel
theorem dX6_isMinimalEdge_26 : decode cX6_isMinimalEdge 26 = .ok (.iload_n 2, 1) := by decide +kernel
theorem dX6_isMinimalEdge_27 : decode cX6_isMinimalEdge 27 = .ok (.iload_n 3, 1) := by decide +kernel
theorem dX6_isMinimalEdge_28 : decode cX6_isMinimalEdge 28 = .ok (.invokestatic 61, 3) := by decide +kernel
theorem dX6_isMinimalEdge_31 : decode cX6_isMinimalEdge 31 = .ok (.ireturn, 1) := by decide +kernel
theorem dX6_isMinimalEdge_32 : decode cX6_isMinimalEdge 32 = .ok (.iinc 3 1, 3) := by decide +kernel
theorem dX6_isMinimalEdge_35 : decode cX6_isMinimalEdge 35 = .ok (.goto (-33), 3) := by decide +kernel
theorem dX6_isMinimalEdge_38 : decode cX6_isMinimalEdge 38 = .ok (.iconst 0, 1) := by decide +kernel
theorem dX6_isMinimalEdge_39 : decode cX6_isMinimalEdge 39 = .ok (.ireturn, 1) := by decide +kernel
theorem s_X6_isMinimalEdge : gSt yX6_isMinimalEdge cX6_isMinimalEdge 4 (some .boolean) 2 := ⟨q3_171, q1_5, ⟨by decide, by decide, by decide +kernel⟩, by decide⟩
theorem sel_X6_isMinimalEdge : Cond.selects yX6_isMinimalEdge.cls yX6_isMinimalEdge yX6_isMinimalEdge ∈ gT := qs_13
theorem ins_X6_isMinimalEdge : Cond.instanceMethod yX6_isMinimalEdge ∈ gT := q3_170
def w_X6_isMinimalEdge_L2 (Q : Int32 → gM → Prop) (K38 : Int32 → gM → Prop) (K26 : Int32 → gM → Prop) (v1 : Int32) (v2 : Int32) : Nat → Int32 → gM → Prop
  | 0, _, _ => False
  | n + 1, v3, M => gbr ((v3 : Int32) < (M 1 1)) (vp_in v3 24 ∧ (gbr (((M 9 (Int32.toNatClampNeg v3)) : Int32) = v1) (K26 (v3) M) (∀ x1 : Int32, x1 = (v3 + 1) → (w_X6_isMinimalEdge_L2 Q K38 K26 v1 v2 n (x1) M)))) (K38 (v3) M)
def w_X6_isMinimalEdge (p1 : Int32) (p2 : Int32) (M : gM) (Q : Int32 → gM → Prop) : Prop := ∃ nf, w_X6_isMinimalEdge_L2 Q (fun (x2 : Int32) (M3 : gM) => Q 0 M3) (fun (x4 : Int32) (M5 : gM) => w_X8_has p2 x4 M5 (fun (r7 : Int32) (M6 : gM) => (r7 = 0 ∨ r7 = 1) ∧ Q r7 M6)) p1 p2 nf 0 M
set_option maxRecDepth 100000 in
set_option maxHeartbeats 4000000 in
theorem w_X6_isMinimalEdge_L2_w {X : gX} (ok : gOk X cX6_isMinimalEdge yX6_isMinimalEdge.cls 1 4 (some .boolean) gL) {Q : Int32 → gM → Prop} (hZ : gZi X Q) {K38 : Int32 → gM → Prop} {K26 : Int32 → gM → Prop} (v1 : Int32) (v2 : Int32) (hK38 : ∀ (v3 : Int32)  (M : gM), K38 v3 M → gW X 38 [some (.inr 4), some (.inl v1), some (.inl v2), some (.inl v3)] [] M) (hK26 : ∀ (v3 : Int32)  (M : gM), K26 v3 M → gW X 26 [some (.inr 4), some (.inl v1), some (.inl v2), some (.inl v3)] [] M) : ∀ (n : Nat) (v3 : Int32)  (M : gM), w_X6_isMinimalEdge_L2 Q K38 K26 v1 v2 n v3 M → gW X 2 [some (.inr 4), some (.inl v1), some (.inl v2), some (.inl v3)] [] M
  | 0, _, _, h => h.elim
  | n + 1, v3, M, h => by
    have ih := fun (v3 : Int32)  (M : gM) h => w_X6_isMinimalEdge_L2_w ok hZ v1 v2 hK38 hK26 n v3  M h
    rw [w_X6_isMinimalEdge_L2.eq_2] at h
    refine g_iload_n ok dX6_isMinimalEdge_2 rfl rfl ?_
    refine g_aload_n ok dX6_isMinimalEdge_3 rfl rfl ?_
    refine g_get (w := .inr 1) ok f4_4 (gLm (by decide)) q1_129 dX6_isMinimalEdge_4 rfl ?_
    refine g_get (w := .inl (M 1 1)) ok f1_1 (gLm (by decide)) q1_65 dX6_isMinimalEdge_7 rfl ?_
    refine g_icmp_ge (tgt := 38) ok dX6_isMinimalEdge_10 (by decide) (fun z => ?_) (fun z => ?_)
    · have h := h.2 z
      exact hK38 (v3) M h
    · have h := h.1 z
      refine g_aload_n ok dX6_isMinimalEdge_13 rfl rfl ?_
      refine g_get (w := .inr 1) ok f4_4 (gLm (by decide)) q1_129 dX6_isMinimalEdge_14 rfl ?_
      refine g_get (w := .inr 9) ok f1_2 (gLm (by decide)) q1_69 dX6_isMinimalEdge_17 rfl ?_
      refine g_iload_n ok dX6_isMinimalEdge_20 rfl rfl ?_
      have hb := h.1
      have h := h.2
      refine g_iald (w := (M 9 (Int32.toNatClampNeg v3))) ok a9 (gLm (by decide)) dX6_isMinimalEdge_21 hb rfl ?_
      refine g_iload_n ok dX6_isMinimalEdge_22 rfl rfl ?_
      refine g_icmp_ne (tgt := 32) ok dX6_isMinimalEdge_23 (by decide) (fun z => ?_) (fun z => ?_)
      · have h := h.2 z
        obtain ⟨x1, ex1⟩ : ∃ y : Int32, y = (v3 + 1) := ⟨_, rfl⟩
        have h := h x1 ex1
        refine g_iinc (v := x1) (lv1 := [some (.inr 4), some (.inl v1), some (.inl v2), some (.inl x1)]) ok dX6_isMinimalEdge_32 rfl (by rw [ex1]; rfl) rfl ?_
        refine g_goto (tgt := 2) ok dX6_isMinimalEdge_35 (by decide) ?_
        exact ih (x1) M h
      · have h := h.1 z
        exact hK26 (v3) M h
set_option maxRecDepth 100000 in
set_option maxHeartbeats 4000000 in
theorem k_X6_isMinimalEdge {p1 : Int32} {p2 : Int32} {M : gM} {Q : Int32 → gM → Prop} (h : w_X6_isMinimalEdge p1 p2 M Q) : gCi gL 1 yX6_isMinimalEdge cX6_isMinimalEdge 4 .boolean [.inr 4, .inl p1, .inl p2] M Q := by
  refine gCi_of (by decide) gLn (gle rfl) (fun X ok hZ => ?_)
  show gW X 0 [some (.inr 4), some (.inl p1), some (.inl p2), none] [] M
  unfold w_X6_isMinimalEdge at h
  refine g_iconst (v := 0) ok dX6_isMinimalEdge_0 (by decide) ?_
  refine g_istore_n (lv1 := [some (.inr 4), some (.inl p1), some (.inl p2), some (.inl 0)]) ok dX6_isMinimalEdge_1 rfl (glt rfl) rfl ?_
  obtain ⟨nf, h⟩ := h
  refine w_X6_isMinimalEdge_L2_w ok hZ p1 p2 ?_ ?_ nf 0  M h
  · intro x2  M3 h
    refine g_iconst (v := 0) ok dX6_isMinimalEdge_38 (by decide) ?_
    exact g_zret ok hZ dX6_isMinimalEdge_39 (by decide) h
  · intro x4  M5 h
    refine g_iload_n ok dX6_isMinimalEdge_26 rfl rfl ?_
    refine g_iload_n ok dX6_isMinimalEdge_27 rfl rfl ?_
    refine g_callNi (st := []) (as := [.inl p2, .inl x4]) ok rfl (k_X8_has h) s_X8_has rfl (by decide) stt_X8_has (gle rfl) rfl (List.mem_of_getElem? (i := 3) rfl) dX6_isMinimalEdge_28 ?_
    intro r7 M6 h
    exact g_zret ok hZ dX6_isMinimalEdge_31 (zb h.1) h.2
theorem dX6_leastDifference_0 : decode cX6_leastDifference 0 = .ok (.aload_n 0, 1) := by decide +kernel
theorem dX6_leastDifference_1 : decode cX6_leastDifference 1 = .ok (.getfield 9, 3) := by decide +kernel
theorem dX6_leastDifference_4 : decode cX6_leastDifference 4 = .ok (.invokevirtual 77, 3) := by decide +kernel
theorem dX6_leastDifference_7 : decode cX6_leastDifference 7 = .ok (.istore_n 1, 1) := by decide +kernel
theorem dX6_leastDifference_8 : decode cX6_leastDifference 8 = .ok (.sipush 16384, 3) := by decide +kernel
theorem dX6_leastDifference_11 : decode cX6_leastDifference 11 = .ok (.istore_n 2, 1) := by decide +kernel
theorem dX6_leastDifference_12 : decode cX6_leastDifference 12 = .ok (.iconst 0, 1) := by decide +kernel
theorem dX6_leastDifference_13 : decode cX6_leastDifference 13 = .ok (.istore_n 3, 1) := by decide +kernel
theorem dX6_leastDifference_14 : decode cX6_leastDifference 14 = .ok (.iload_n 3, 1) := by decide +kernel
theorem dX6_leastDifference_15 : decode cX6_leastDifference 15 = .ok (.aload_n 0, 1) := by decide +kernel
theorem dX6_leastDifference_16 : decode cX6_leastDifference 16 = .ok (.getfield 9, 3) := by decide +kernel
theorem dX6_leastDifference_19 : decode cX6_leastDifference 19 = .ok (.getfield 80, 3) := by decide +kernel
theorem dX6_leastDifference_22 : decode cX6_leastDifference 22 = .ok (.if_icmp .ge 49, 3) := by decide +kernel
theorem dX6_leastDifference_25 : decode cX6_leastDifference 25 = .ok (.aload_n 0, 1) := by decide +kernel
theorem dX6_leastDifference_26 : decode cX6_leastDifference 26 = .ok (.getfield 9, 3) := by decide +kernel
theorem dX6_leastDifference_29 : decode cX6_leastDifference 29 = .ok (.getfield 83, 3) := by decide +kernel
theorem dX6_leastDifference_32 : decode cX6_leastDifference 32 = .ok (.iload_n 3, 1) := by decide +kernel
theorem dX6_leastDifference_33 : decode cX6_leastDifference 33 = .ok (.iaload, 1) := by decide +kernel
theorem dX6_leastDifference_34 : decode cX6_leastDifference 34 = .ok (.istore 4, 2) := by decide +kernel
theorem dX6_leastDifference_36 : decode cX6_leastDifference 36 = .ok (.iload_n 1, 1) := by decide +kernel
theorem dX6_leastDifference_37 : decode cX6_leastDifference 37 = .ok (.iload_n 3, 1) := by decide +kernel
theorem dX6_leastDifference_38 : decode cX6_leastDifference 38 = .ok (.invokestatic 61, 3) := by decide +kernel
theorem dX6_leastDifference_41 : decode cX6_leastDifference 41 = .ok (.ifCond .eq 24, 3) := by decide +kernel
theorem dX6_leastDifference_44 : decode cX6_leastDifference 44 = .ok (.iload 4, 2) := by decide +kernel
theorem dX6_leastDifference_46 : decode cX6_leastDifference 46 = .ok (.iload_n 2, 1) := by decide +kernel
theorem dX6_leastDifference_47 : decode cX6_leastDifference 47 = .ok (.if_icmp .ge 18, 3) := by decide +kernel
theorem dX6_leastDifference_50 : decode cX6_leastDifference 50 = .ok (.aload_n 0, 1) := by decide +kernel
theorem dX6_leastDifference_51 : decode cX6_leastDifference 51 = .ok (.getfield 9, 3) := by decide +kernel
theorem dX6_leastDifference_54 : decode cX6_leastDifference 54 = .ok (.iload 4, 2) := by decide +kernel
theorem dX6_leastDifference_56 : decode cX6_leastDifference 56 = .ok (.invokevirtual 86, 3) := by decide +kernel
theorem dX6_leastDifference_59 : decode cX6_leastDifference 59 = .ok (.ifCond .ne 6, 3) := by decide +kernel
theorem dX6_leastDifference_62 : decode cX6_leastDifference 62 = .ok (.iload 4, 2) := by decide +kernel
theorem dX6_leastDifference_64 : decode cX6_leastDifference 64 = .ok (.istore_n 2, 1) := by decide +kernel
theorem dX6_leastDifference_65 : decode cX6_leastDifference 65 = .ok (.iinc 3 1, 3) := by decide +kernel
theorem dX6_leastDifference_68 : decode cX6_leastDifference 68 = .ok (.goto (-54), 3) := by decide +kernel
theorem dX6_leastDifference_71 : decode cX6_leastDifference 71 = .ok (.iconst 0, 1) := by decide +kernel
theorem dX6_leastDifference_72 : decode cX6_leastDifference 72 = .ok (.istore_n 3, 1) := by decide +kernel
theorem dX6_leastDifference_73 : decode cX6_leastDifference 73 = .ok (.iload_n 3, 1) := by decide +kernel
theorem dX6_leastDifference_74 : decode cX6_leastDifference 74 = .ok (.aload_n 0, 1) := by decide +kernel
theorem dX6_leastDifference_75 : decode cX6_leastDifference 75 = .ok (.getfield 29, 3) := by decide +kernel
theorem dX6_leastDifference_78 : decode cX6_leastDifference 78 = .ok (.if_icmp .ge 40, 3) := by decide +kernel
theorem dX6_leastDifference_81 : decode cX6_leastDifference 81 = .ok (.aload_n 0, 1) := by decide +kernel
theorem dX6_leastDifference_82 : decode cX6_leastDifference 82 = .ok (.getfield 15, 3) := by decide +kernel
theorem dX6_leastDifference_85 : decode cX6_leastDifference 85 = .ok (.iload_n 3, 1) := by decide +kernel
theorem dX6_leastDifference_86 : decode cX6_leastDifference 86 = .ok (.iaload, 1) := by decide +kernel
theorem dX6_leastDifference_87 : decode cX6_leastDifference 87 = .ok (.iload_n 2, 1) := by decide +kernel
theorem dX6_leastDifference_88 : decode cX6_leastDifference 88 = .ok (.if_icmp .ge 24, 3) := by decide +kernel
theorem dX6_leastDifference_91 : decode cX6_leastDifference 91 = .ok (.aload_n 0, 1) := by decide +kernel
theorem dX6_leastDifference_92 : decode cX6_leastDifference 92 = .ok (.aload_n 0, 1) := by decide +kernel
theorem dX6_leastDifference_93 : decode cX6_leastDifference 93 = .ok (.getfield 15, 3) := by decide +kernel
theorem dX6_leastDifference_96 : decode cX6_leastDifference 96 = .ok (.iload_n 3, 1) := by decide +kernel
theorem dX6_leastDifference_97 : decode cX6_leastDifference 97 = .ok (.iaload, 1) := by decide +kernel
theorem dX6_leastDifference_98 : decode cX6_leastDifference 98 = .ok (.iload_n 1, 1) := by decide +kernel
theorem dX6_leastDifference_99 : decode cX6_leastDifference 99 = .ok (.invokevirtual 90, 3) := by decide +kernel
theorem dX6_leastDifference_102 : decode cX6_leastDifference 102 = .ok (.ifCond .ne 10, 3) := by decide +kernel
theorem dX6_leastDifference_105 : decode cX6_leastDifference 105 = .ok (.aload_n 0, 1) := by decide +kernel
theorem dX6_leastDifference_106 : decode cX6_leastDifference 106 = .ok (.getfield 15, 3) := by decide +kernel
theorem dX6_leastDifference_109 : decode cX6_leastDifference 109 = .ok (.iload_n 3, 1) := by decide +kernel
theorem dX6_leastDifference_110 : decode cX6_leastDifference 110 = .ok (.iaload, 1) := by decide +kernel
theorem dX6_leastDifference_111 : decode cX6_leastDifference 111 = .ok (.istore_n 2, 1) := by decide +kernel
theorem dX6_leastDifference_112 : decode cX6_leastDifference 112 = .ok (.iinc 3 1, 3) := by decide +kernel
theorem dX6_leastDifference_115 : decode cX6_leastDifference 115 = .ok (.goto (-42), 3) := by decide +kernel
theorem dX6_leastDifference_118 : decode cX6_leastDifference 118 = .ok (.iload_n 2, 1) := by decide +kernel
theorem dX6_leastDifference_119 : decode cX6_leastDifference 119 = .ok (.sipush 16384, 3) := by decide +kernel
theorem dX6_leastDifference_122 : decode cX6_leastDifference 122 = .ok (.if_icmp .ge 7, 3) := by decide +kernel
theorem dX6_leastDifference_125 : decode cX6_leastDifference 125 = .ok (.iload_n 2, 1) := by decide +kernel
theorem dX6_leastDifference_126 : decode cX6_leastDifference 126 = .ok (.goto 5, 3) := by decide +kernel
theorem dX6_leastDifference_129 : decode cX6_leastDifference 129 = .ok (.bipush (-7), 2) := by decide +kernel
theorem dX6_leastDifference_131 : decode cX6_leastDifference 131 = .ok (.ireturn, 1) := by decide +kernel
theorem s_X6_leastDifference : gSt yX6_leastDifference cX6_leastDifference 5 (some .int) 0 := ⟨q3_165, q1_5, ⟨by decide, by decide, by decide +kernel⟩, by decide⟩
theorem sel_X6_leastDifference : Cond.selects yX6_leastDifference.cls yX6_leastDifference yX6_leastDifference ∈ gT := q3_164
theorem ins_X6_leastDifference : Cond.instanceMethod yX6_leastDifference ∈ gT := q3_163
def w_X6_leastDifference_L14 (Q : Int32 → gM → Prop) (K71 : Int32 → Int32 → gM → Prop) (v1 : Int32) : Nat → Int32 → Int32 → gM → Prop
  | 0, _, _, _ => False
  | n + 1, v2, v3, M => gbr ((v3 : Int32) < (M 1 1)) (vp_in v3 24 ∧ (∀ x3 : Int32, x3 = (M 9 (Int32.toNatClampNeg v3)) → (w_X8_has v1 v3 M (fun (r5 : Int32) (M4 : gM) => gbr ((r5 : Int32) = 0) (∀ x6 : Int32, x6 = (v3 + 1) → (w_X6_leastDifference_L14 Q K71 v1 n (v2) (x6) M4)) (gbr ((x3 : Int32) < v2) (w_X5_isAnswer x3 M4 (fun (r9 : Int32) (M8 : gM) => gbr ((r9 : Int32) = 0) (∀ x11 : Int32, x11 = (v3 + 1) → (w_X6_leastDifference_L14 Q K71 v1 n (x3) (x11) M8)) (∀ x10 : Int32, x10 = (v3 + 1) → (w_X6_leastDifference_L14 Q K71 v1 n (v2) (x10) M8)))) (∀ x7 : Int32, x7 = (v3 + 1) → (w_X6_leastDifference_L14 Q K71 v1 n (v2) (x7) M4))))))) (K71 (v2) (v3) M)
def w_X6_leastDifference_L73 (Q : Int32 → gM → Prop) (K118 : Int32 → Int32 → gM → Prop) (v1 : Int32) : Nat → Int32 → Int32 → gM → Prop
  | 0, _, _, _ => False
  | n + 1, v2, v3, M => gbr ((v3 : Int32) < (M 4 2)) (vp_in v3 4000 ∧ (gbr (((M 30 (Int32.toNatClampNeg v3)) : Int32) < v2) (vp_in v3 4000 ∧ (w_X6_isMinimalEdge (M 30 (Int32.toNatClampNeg v3)) v1 M (fun (r18 : Int32) (M17 : gM) => gbr ((r18 : Int32) = 0) (vp_in v3 4000 ∧ (∀ x20 : Int32, x20 = (M17 30 (Int32.toNatClampNeg v3)) → (∀ x21 : Int32, x21 = (v3 + 1) → (w_X6_leastDifference_L73 Q K118 v1 n (x20) (x21) M17)))) (∀ x19 : Int32, x19 = (v3 + 1) → (w_X6_leastDifference_L73 Q K118 v1 n (v2) (x19) M17))))) (∀ x16 : Int32, x16 = (v3 + 1) → (w_X6_leastDifference_L73 Q K118 v1 n (v2) (x16) M)))) (K118 (v2) (v3) M)
def w_X6_leastDifference  (M : gM) (Q : Int32 → gM → Prop) : Prop := w_X5_minimalEdges M (fun (r2 : Int32) (M1 : gM) => ∃ nf, w_X6_leastDifference_L14 Q (fun (x12 : Int32) (x13 : Int32) (M15 : gM) => ∃ nf, w_X6_leastDifference_L73 Q (fun (x22 : Int32) (x23 : Int32) (M25 : gM) => gbr ((x22 : Int32) < 16384) (Q x22 M25) (Q (-7) M25)) r2 nf x12 0 M15) r2 nf 16384 0 M1)
set_option maxRecDepth 100000 in
set_option maxHeartbeats 4000000 in
theorem w_X6_leastDifference_L14_w {X : gX} (ok : gOk X cX6_leastDifference yX6_leastDifference.cls 3 5 (some .int) gL) {Q : Int32 → gM → Prop} (hZ : gZi X Q) {K71 : Int32 → Int32 → gM → Prop} (v1 : Int32) (hK71 : ∀ (v2 : Int32) (v3 : Int32) (u4 : Option gV) (M : gM), K71 v2 v3 M → gW X 71 [some (.inr 4), some (.inl v1), some (.inl v2), some (.inl v3), u4] [] M) : ∀ (n : Nat) (v2 : Int32) (v3 : Int32) (u4 : Option gV) (M : gM), w_X6_leastDifference_L14 Q K71 v1 n v2 v3 M → gW X 14 [some (.inr 4), some (.inl v1), some (.inl v2), some (.inl v3), u4] [] M
  | 0, _, _, _, _, h => h.elim
  | n + 1, v2, v3, u4, M, h => by
    have ih := fun (v2 : Int32) (v3 : Int32) (u4 : Option gV) (M : gM) h => w_X6_leastDifference_L14_w ok hZ v1 hK71 n v2 v3 u4 M h
    rw [w_X6_leastDifference_L14.eq_2] at h
    refine g_iload_n ok dX6_leastDifference_14 rfl rfl ?_
    refine g_aload_n ok dX6_leastDifference_15 rfl rfl ?_
    refine g_get (w := .inr 1) ok f4_4 (gLm (by decide)) q1_129 dX6_leastDifference_16 rfl ?_
    refine g_get (w := .inl (M 1 1)) ok f1_1 (gLm (by decide)) q1_65 dX6_leastDifference_19 rfl ?_
    refine g_icmp_ge (tgt := 71) ok dX6_leastDifference_22 (by decide) (fun z => ?_) (fun z => ?_)
    · have h := h.2 z
      exact hK71 (v2) (v3) (u4) M h
    · have h := h.1 z
      refine g_aload_n ok dX6_leastDifference_25 rfl rfl ?_
      refine g_get (w := .inr 1) ok f4_4 (gLm (by decide)) q1_129 dX6_leastDifference_26 rfl ?_
      refine g_get (w := .inr 9) ok f1_2 (gLm (by decide)) q1_69 dX6_leastDifference_29 rfl ?_
      refine g_iload_n ok dX6_leastDifference_32 rfl rfl ?_
      have hb := h.1
      have h := h.2
      refine g_iald (w := (M 9 (Int32.toNatClampNeg v3))) ok a9 (gLm (by decide)) dX6_leastDifference_33 hb rfl ?_
      refine g_nm (fun x3 ex3 => ?_)
      have h := h x3 ex3
      refine g_istore (lv1 := [some (.inr 4), some (.inl v1), some (.inl v2), some (.inl v3), some (.inl x3)]) ok dX6_leastDifference_34 (glt rfl) rfl ?_
      refine g_iload_n ok dX6_leastDifference_36 rfl rfl ?_
      refine g_iload_n ok dX6_leastDifference_37 rfl rfl ?_
      refine g_callNi (st := []) (as := [.inl v1, .inl v3]) ok rfl (k_X8_has h) s_X8_has rfl (by decide) stt_X8_has (gle rfl) rfl (List.mem_of_getElem? (i := 3) rfl) dX6_leastDifference_38 ?_
      intro r5 M4 h
      refine g_if_eq (tgt := 65) ok dX6_leastDifference_41 (by decide) (fun z => ?_) (fun z => ?_)
      · have h := h.1 z
        obtain ⟨x6, ex6⟩ : ∃ y : Int32, y = (v3 + 1) := ⟨_, rfl⟩
        have h := h x6 ex6
        refine g_iinc (v := x6) (lv1 := [some (.inr 4), some (.inl v1), some (.inl v2), some (.inl x6), some (.inl x3)]) ok dX6_leastDifference_65 rfl (by rw [ex6]; rfl) rfl ?_
        refine g_goto (tgt := 14) ok dX6_leastDifference_68 (by decide) ?_
        exact ih (v2) (x6) (some (.inl x3)) M4 h
      · have h := h.2 z
        refine g_iload ok dX6_leastDifference_44 rfl ?_
        refine g_iload_n ok dX6_leastDifference_46 rfl rfl ?_
        refine g_icmp_ge (tgt := 65) ok dX6_leastDifference_47 (by decide) (fun z => ?_) (fun z => ?_)
        · have h := h.2 z
          obtain ⟨x7, ex7⟩ : ∃ y : Int32, y = (v3 + 1) := ⟨_, rfl⟩
          have h := h x7 ex7
          refine g_iinc (v := x7) (lv1 := [some (.inr 4), some (.inl v1), some (.inl v2), some (.inl x7), some (.inl x3)]) ok dX6_leastDifference_65 rfl (by rw [ex7]; rfl) rfl ?_
          refine g_goto (tgt := 14) ok dX6_leastDifference_68 (by decide) ?_
          exact ih (v2) (x7) (some (.inl x3)) M4 h
        · have h := h.1 z
          refine g_aload_n ok dX6_leastDifference_50 rfl rfl ?_
          refine g_get (w := .inr 1) ok f4_4 (gLm (by decide)) q1_129 dX6_leastDifference_51 rfl ?_
          refine g_iload ok dX6_leastDifference_54 rfl ?_
          refine g_callVi (st := []) (as := [.inl x3]) ok rfl (k_X5_isAnswer h) s_X5_isAnswer rfl (by decide) (gLm (by decide)) cl1 sel_X5_isAnswer ins_X5_isAnswer (gle rfl) rfl q3_167 dX6_leastDifference_56 ?_
          intro r9 M8 h
          refine g_if_ne (tgt := 65) ok dX6_leastDifference_59 (by decide) (fun z => ?_) (fun z => ?_)
          · have h := h.2 z
            obtain ⟨x10, ex10⟩ : ∃ y : Int32, y = (v3 + 1) := ⟨_, rfl⟩
            have h := h x10 ex10
            refine g_iinc (v := x10) (lv1 := [some (.inr 4), some (.inl v1), some (.inl v2), some (.inl x10), some (.inl x3)]) ok dX6_leastDifference_65 rfl (by rw [ex10]; rfl) rfl ?_
            refine g_goto (tgt := 14) ok dX6_leastDifference_68 (by decide) ?_
            exact ih (v2) (x10) (some (.inl x3)) M8 h
          · have h := h.1 z
            refine g_iload ok dX6_leastDifference_62 rfl ?_
            refine g_istore_n (lv1 := [some (.inr 4), some (.inl v1), some (.inl x3), some (.inl v3), some (.inl x3)]) ok dX6_leastDifference_64 rfl (glt rfl) rfl ?_
            obtain ⟨x11, ex11⟩ : ∃ y : Int32, y = (v3 + 1) := ⟨_, rfl⟩
            have h := h x11 ex11
            refine g_iinc (v := x11) (lv1 := [some (.inr 4), some (.inl v1), some (.inl x3), some (.inl x11), some (.inl x3)]) ok dX6_leastDifference_65 rfl (by rw [ex11]; rfl) rfl ?_
            refine g_goto (tgt := 14) ok dX6_leastDifference_68 (by decide) ?_
            exact ih (x3) (x11) (some (.inl x3)) M8 h
set_option maxRecDepth 100000 in
set_option maxHeartbeats 4000000 in
theorem w_X6_leastDifference_L73_w {X : gX} (ok : gOk X cX6_leastDifference yX6_leastDifference.cls 3 5 (some .int) gL) {Q : Int32 → gM → Prop} (hZ : gZi X Q) {K118 : Int32 → Int32 → gM → Prop} (v1 : Int32) (hK118 : ∀ (v2 : Int32) (v3 : Int32) (u4 : Option gV) (M : gM), K118 v2 v3 M → gW X 118 [some (.inr 4), some (.inl v1), some (.inl v2), some (.inl v3), u4] [] M) : ∀ (n : Nat) (v2 : Int32) (v3 : Int32) (u4 : Option gV) (M : gM), w_X6_leastDifference_L73 Q K118 v1 n v2 v3 M → gW X 73 [some (.inr 4), some (.inl v1), some (.inl v2), some (.inl v3), u4] [] M
  | 0, _, _, _, _, h => h.elim
  | n + 1, v2, v3, u4, M, h => by
    have ih := fun (v2 : Int32) (v3 : Int32) (u4 : Option gV) (M : gM) h => w_X6_leastDifference_L73_w ok hZ v1 hK118 n v2 v3 u4 M h
    rw [w_X6_leastDifference_L73.eq_2] at h
    refine g_iload_n ok dX6_leastDifference_73 rfl rfl ?_
    refine g_aload_n ok dX6_leastDifference_74 rfl rfl ?_
    refine g_get (w := .inl (M 4 2)) ok f4_2 (gLm (by decide)) q1_123 dX6_leastDifference_75 rfl ?_
    refine g_icmp_ge (tgt := 118) ok dX6_leastDifference_78 (by decide) (fun z => ?_) (fun z => ?_)
    · have h := h.2 z
      exact hK118 (v2) (v3) (u4) M h
    · have h := h.1 z
      refine g_aload_n ok dX6_leastDifference_81 rfl rfl ?_
      refine g_get (w := .inr 30) ok f4_0 (gLm (by decide)) q1_117 dX6_leastDifference_82 rfl ?_
      refine g_iload_n ok dX6_leastDifference_85 rfl rfl ?_
      have hb := h.1
      have h := h.2
      refine g_iald (w := (M 30 (Int32.toNatClampNeg v3))) ok a30 (gLm (by decide)) dX6_leastDifference_86 hb rfl ?_
      refine g_iload_n ok dX6_leastDifference_87 rfl rfl ?_
      refine g_icmp_ge (tgt := 112) ok dX6_leastDifference_88 (by decide) (fun z => ?_) (fun z => ?_)
      · have h := h.2 z
        obtain ⟨x16, ex16⟩ : ∃ y : Int32, y = (v3 + 1) := ⟨_, rfl⟩
        have h := h x16 ex16
        refine g_iinc (v := x16) (lv1 := [some (.inr 4), some (.inl v1), some (.inl v2), some (.inl x16), u4]) ok dX6_leastDifference_112 rfl (by rw [ex16]; rfl) rfl ?_
        refine g_goto (tgt := 73) ok dX6_leastDifference_115 (by decide) ?_
        exact ih (v2) (x16) (u4) M h
      · have h := h.1 z
        refine g_aload_n ok dX6_leastDifference_91 rfl rfl ?_
        refine g_aload_n ok dX6_leastDifference_92 rfl rfl ?_
        refine g_get (w := .inr 30) ok f4_0 (gLm (by decide)) q1_117 dX6_leastDifference_93 rfl ?_
        refine g_iload_n ok dX6_leastDifference_96 rfl rfl ?_
        have hb := h.1
        have h := h.2
        refine g_iald (w := (M 30 (Int32.toNatClampNeg v3))) ok a30 (gLm (by decide)) dX6_leastDifference_97 hb rfl ?_
        refine g_iload_n ok dX6_leastDifference_98 rfl rfl ?_
        refine g_callVi (st := []) (as := [.inl (M 30 (Int32.toNatClampNeg v3)), .inl v1]) ok rfl (k_X6_isMinimalEdge h) s_X6_isMinimalEdge rfl (by decide) (gLm (by decide)) cl4 sel_X6_isMinimalEdge ins_X6_isMinimalEdge (gle rfl) rfl q3_168 dX6_leastDifference_99 ?_
        intro r18 M17 h
        refine g_if_ne (tgt := 112) ok dX6_leastDifference_102 (by decide) (fun z => ?_) (fun z => ?_)
        · have h := h.2 z
          obtain ⟨x19, ex19⟩ : ∃ y : Int32, y = (v3 + 1) := ⟨_, rfl⟩
          have h := h x19 ex19
          refine g_iinc (v := x19) (lv1 := [some (.inr 4), some (.inl v1), some (.inl v2), some (.inl x19), u4]) ok dX6_leastDifference_112 rfl (by rw [ex19]; rfl) rfl ?_
          refine g_goto (tgt := 73) ok dX6_leastDifference_115 (by decide) ?_
          exact ih (v2) (x19) (u4) M17 h
        · have h := h.1 z
          refine g_aload_n ok dX6_leastDifference_105 rfl rfl ?_
          refine g_get (w := .inr 30) ok f4_0 (gLm (by decide)) q1_117 dX6_leastDifference_106 rfl ?_
          refine g_iload_n ok dX6_leastDifference_109 rfl rfl ?_
          have hb := h.1
          have h := h.2
          refine g_iald (w := (M17 30 (Int32.toNatClampNeg v3))) ok a30 (gLm (by decide)) dX6_leastDifference_110 hb rfl ?_
          refine g_nm (fun x20 ex20 => ?_)
          have h := h x20 ex20
          refine g_istore_n (lv1 := [some (.inr 4), some (.inl v1), some (.inl x20), some (.inl v3), u4]) ok dX6_leastDifference_111 rfl (glt rfl) rfl ?_
          obtain ⟨x21, ex21⟩ : ∃ y : Int32, y = (v3 + 1) := ⟨_, rfl⟩
          have h := h x21 ex21
          refine g_iinc (v := x21) (lv1 := [some (.inr 4), some (.inl v1), some (.inl x20), some (.inl x21), u4]) ok dX6_leastDifference_112 rfl (by rw [ex21]; rfl) rfl ?_
          refine g_goto (tgt := 73) ok dX6_leastDifference_115 (by decide) ?_
          exact ih (x20) (x21) (u4) M17 h
set_option maxRecDepth 100000 in
set_option maxHeartbeats 4000000 in
theorem k_X6_leastDifference  {M : gM} {Q : Int32 → gM → Prop} (h : w_X6_leastDifference  M Q) : gCi gL 3 yX6_leastDifference cX6_leastDifference 5 .int [.inr 4] M Q := by
  refine gCi_of (by decide) gLn (gle rfl) (fun X ok hZ => ?_)
  show gW X 0 [some (.inr 4), none, none, none, none] [] M
  unfold w_X6_leastDifference at h
  refine g_aload_n ok dX6_leastDifference_0 rfl rfl ?_
  refine g_get (w := .inr 1) ok f4_4 (gLm (by decide)) q1_129 dX6_leastDifference_1 rfl ?_
  refine g_callVi (st := []) (as := []) ok rfl (k_X5_minimalEdges h) s_X5_minimalEdges rfl (by decide) (gLm (by decide)) cl1 sel_X5_minimalEdges ins_X5_minimalEdges (gle rfl) rfl q3_166 dX6_leastDifference_4 ?_
  intro r2 M1 h
  refine g_istore_n (lv1 := [some (.inr 4), some (.inl r2), none, none, none]) ok dX6_leastDifference_7 rfl (glt rfl) rfl ?_
  refine g_sipush (v := 16384) ok dX6_leastDifference_8 (by decide) ?_
  refine g_istore_n (lv1 := [some (.inr 4), some (.inl r2), some (.inl 16384), none, none]) ok dX6_leastDifference_11 rfl (glt rfl) rfl ?_
  refine g_iconst (v := 0) ok dX6_leastDifference_12 (by decide) ?_
  refine g_istore_n (lv1 := [some (.inr 4), some (.inl r2), some (.inl 16384), some (.inl 0), none]) ok dX6_leastDifference_13 rfl (glt rfl) rfl ?_
  obtain ⟨nf, h⟩ := h
  refine w_X6_leastDifference_L14_w ok hZ r2 ?_ nf 16384 0 (none) M1 h
  · intro x12 x13 u14 M15 h
    refine g_iconst (v := 0) ok dX6_leastDifference_71 (by decide) ?_
    refine g_istore_n (lv1 := [some (.inr 4), some (.inl r2), some (.inl x12), some (.inl 0), u14]) ok dX6_leastDifference_72 rfl (glt rfl) rfl ?_
    obtain ⟨nf, h⟩ := h
    refine w_X6_leastDifference_L73_w ok hZ r2 ?_ nf x12 0 (u14) M15 h
    · intro x22 x23 u24 M25 h
      refine g_iload_n ok dX6_leastDifference_118 rfl rfl ?_
      refine g_sipush (v := 16384) ok dX6_leastDifference_119 (by decide) ?_
      refine g_icmp_ge (tgt := 129) ok dX6_leastDifference_122 (by decide) (fun z => ?_) (fun z => ?_)
      · have h := h.2 z
        refine g_bipush (v := (-7)) ok dX6_leastDifference_129 (by decide) ?_
        exact g_iret ok hZ dX6_leastDifference_131 h
      · have h := h.1 z
        refine g_iload_n ok dX6_leastDifference_125 rfl rfl ?_
        refine g_goto (tgt := 131) ok dX6_leastDifference_126 (by decide) ?_
        exact g_iret ok hZ dX6_leastDifference_131 h
theorem dX7_startAnew_0 : decode cX7_startAnew 0 = .ok (.iconst 0, 1) := by decide +kernel
theorem dX7_startAnew_1 : decode cX7_startAnew 1 = .ok (.istore_n 1, 1) := by decide +kernel
theorem dX7_startAnew_2 : decode cX7_startAnew 2 = .ok (.iload_n 1, 1) := by decide +kernel
theorem dX7_startAnew_3 : decode cX7_startAnew 3 = .ok (.bipush 14, 2) := by decide +kernel
theorem dX7_startAnew_5 : decode cX7_startAnew 5 = .ok (.if_icmp .ge 16, 3) := by decide +kernel
theorem dX7_startAnew_8 : decode cX7_startAnew 8 = .ok (.aload_n 0, 1) := by decide +kernel
theorem dX7_startAnew_9 : decode cX7_startAnew 9 = .ok (.getfield 9, 3) := by decide +kernel
theorem dX7_startAnew_12 : decode cX7_startAnew 12 = .ok (.iload_n 1, 1) := by decide +kernel
theorem dX7_startAnew_13 : decode cX7_startAnew 13 = .ok (.iconst 1, 1) := by decide +kernel
theorem dX7_startAnew_14 : decode cX7_startAnew 14 = .ok (.iastore, 1) := by decide +kernel
theorem dX7_startAnew_15 : decode cX7_startAnew 15 = .ok (.iinc 1 1, 3) := by decide +kernel
theorem dX7_startAnew_18 : decode cX7_startAnew 18 = .ok (.goto (-16), 3) := by decide +kernel
theorem dX7_startAnew_21 : decode cX7_startAnew 21 = .ok (.return_, 1) := by decide +kernel
theorem s_X7_startAnew : gSt yX7_startAnew cX7_startAnew 2 none 0 := ⟨q1_110, q1_4, ⟨by decide, by decide, by decide +kernel⟩, by decide⟩
theorem sel_X7_startAnew : Cond.selects yX7_startAnew.cls yX7_startAnew yX7_startAnew ∈ gT := q1_109
theorem ins_X7_startAnew : Cond.instanceMethod yX7_startAnew ∈ gT := q1_108
def w_X7_startAnew_L2 (Q : gM → Prop) (K21 : Int32 → gM → Prop) : Nat → Int32 → gM → Prop
  | 0, _, _ => False
  | n + 1, v1, M => gbr ((v1 : Int32) < 14) (vp_in v1 14 ∧ ∀ M1 : gM, M1 = gst M 32 (Int32.toNatClampNeg v1) 1 → (∀ x2 : Int32, x2 = (v1 + 1) → (w_X7_startAnew_L2 Q K21 n (x2) M1))) (K21 (v1) M)
def w_X7_startAnew  (M : gM) (Q : gM → Prop) : Prop := ∃ nf, w_X7_startAnew_L2 Q (fun (x3 : Int32) (M4 : gM) => Q M4)  nf 0 M
set_option maxRecDepth 100000 in
set_option maxHeartbeats 4000000 in
theorem w_X7_startAnew_L2_w {X : gX} {L : List Nat} (hLn : va_nd L = true) (hLm : ∀ i, i ∈ [3, 32] → i ∈ L) (ok : gOk X cX7_startAnew yX7_startAnew.cls 0 2 none L) {Q : gM → Prop} (hZ : gZv X Q) {K21 : Int32 → gM → Prop}  (hK21 : ∀ (v1 : Int32)  (M : gM), K21 v1 M → gW X 21 [some (.inr 3), some (.inl v1)] [] M) : ∀ (n : Nat) (v1 : Int32)  (M : gM), w_X7_startAnew_L2 Q K21 n v1 M → gW X 2 [some (.inr 3), some (.inl v1)] [] M
  | 0, _, _, h => h.elim
  | n + 1, v1, M, h => by
    have ih := fun (v1 : Int32)  (M : gM) h => w_X7_startAnew_L2_w hLn hLm ok hZ  hK21 n v1  M h
    rw [w_X7_startAnew_L2.eq_2] at h
    refine g_iload_n ok dX7_startAnew_2 rfl rfl ?_
    refine g_bipush (v := 14) ok dX7_startAnew_3 (by decide) ?_
    refine g_icmp_ge (tgt := 21) ok dX7_startAnew_5 (by decide) (fun z => ?_) (fun z => ?_)
    · have h := h.2 z
      exact hK21 (v1) M h
    · have h := h.1 z
      refine g_aload_n ok dX7_startAnew_8 rfl rfl ?_
      refine g_get (w := .inr 32) ok f3_0 (hLm 3 (by decide)) q1_99 dX7_startAnew_9 rfl ?_
      refine g_iload_n ok dX7_startAnew_12 rfl rfl ?_
      refine g_iconst (v := 1) ok dX7_startAnew_13 (by decide) ?_
      have hb := h.1
      have h := h.2
      refine g_iast ok a32 (hLm 32 (by decide)) dX7_startAnew_14 hb (g_mem (fun M1 eM1 => ?_))
      have h := h M1 eM1
      obtain ⟨x2, ex2⟩ : ∃ y : Int32, y = (v1 + 1) := ⟨_, rfl⟩
      have h := h x2 ex2
      refine g_iinc (v := x2) (lv1 := [some (.inr 3), some (.inl x2)]) ok dX7_startAnew_15 rfl (by rw [ex2]; rfl) rfl ?_
      refine g_goto (tgt := 2) ok dX7_startAnew_18 (by decide) ?_
      exact ih (x2) M1 h
set_option maxRecDepth 100000 in
set_option maxHeartbeats 4000000 in
theorem k_X7_startAnew {L : List Nat} (hLn : va_nd L = true) (hLm : ∀ i, i ∈ [3, 32] → i ∈ L)  {M : gM} {Q : gM → Prop} (h : w_X7_startAnew  M Q) : gCv L 0 yX7_startAnew cX7_startAnew 2 [.inr 3] M Q := by
  refine gCv_of (by decide) hLn (gle rfl) (fun X ok hZ => ?_)
  show gW X 0 [some (.inr 3), none] [] M
  unfold w_X7_startAnew at h
  refine g_iconst (v := 0) ok dX7_startAnew_0 (by decide) ?_
  refine g_istore_n (lv1 := [some (.inr 3), some (.inl 0)]) ok dX7_startAnew_1 rfl (glt rfl) rfl ?_
  obtain ⟨nf, h⟩ := h
  refine w_X7_startAnew_L2_w hLn hLm ok hZ  ?_ nf 0  M h
  · intro x3  M4 h
    exact g_vret ok hZ dX7_startAnew_21 h
