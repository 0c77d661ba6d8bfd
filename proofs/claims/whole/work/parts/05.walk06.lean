theorem dX9_noEdge_0 : decode cX9_noEdge 0 = .ok (.iload_n 1, 1) := by decide +kernel
theorem dX9_noEdge_1 : decode cX9_noEdge 1 = .ok (.iconst 0, 1) := by decide +kernel
theorem dX9_noEdge_2 : decode cX9_noEdge 2 = .ok (.aload_n 0, 1) := by decide +kernel
theorem dX9_noEdge_3 : decode cX9_noEdge 3 = .ok (.invokevirtual 80, 3) := by decide +kernel
theorem dX9_noEdge_6 : decode cX9_noEdge 6 = .ok (.iconst 1, 1) := by decide +kernel
theorem dX9_noEdge_7 : decode cX9_noEdge 7 = .ok (.isub, 1) := by decide +kernel
theorem dX9_noEdge_8 : decode cX9_noEdge 8 = .ok (.invokestatic 66, 3) := by decide +kernel
theorem dX9_noEdge_11 : decode cX9_noEdge 11 = .ok (.ifCond .ne 7, 3) := by decide +kernel
theorem dX9_noEdge_14 : decode cX9_noEdge 14 = .ok (.iconst 1, 1) := by decide +kernel
theorem dX9_noEdge_15 : decode cX9_noEdge 15 = .ok (.goto 4, 3) := by decide +kernel
theorem dX9_noEdge_18 : decode cX9_noEdge 18 = .ok (.iconst 0, 1) := by decide +kernel
theorem dX9_noEdge_19 : decode cX9_noEdge 19 = .ok (.ireturn, 1) := by decide +kernel
theorem s_X9_noEdge : gSt yX9_noEdge cX9_noEdge 2 (some .boolean) 1 := ⟨q4_129, q1_10, ⟨by decide, by decide, by decide +kernel⟩, by decide⟩
theorem sel_X9_noEdge : Cond.selects yX9_noEdge.cls yX9_noEdge yX9_noEdge ∈ gT := qs_25
theorem ins_X9_noEdge : Cond.instanceMethod yX9_noEdge ∈ gT := q4_128
def w_X9_noEdge (p1 : Int32) (M : gM) (Q : Int32 → gM → Prop) : Prop := w_X9_many M (fun (r2 : Int32) (M1 : gM) => w_X9_in p1 0 (r2 - 1) M1 (fun (r4 : Int32) (M3 : gM) => gbr ((r4 : Int32) = 0) (Q 1 M3) (Q 0 M3)))
set_option maxRecDepth 100000 in
set_option maxHeartbeats 4000000 in
theorem k_X9_noEdge {p1 : Int32} {M : gM} {Q : Int32 → gM → Prop} (h : w_X9_noEdge p1 M Q) : gCi gN 1 yX9_noEdge cX9_noEdge 2 .boolean [.inr 42, .inl p1] M Q := by
  refine gCi_of (by decide) gNn (gle rfl) (fun X ok hZ => ?_)
  show gW X 0 [some (.inr 42), some (.inl p1)] [] M
  unfold w_X9_noEdge at h
  refine g_iload_n ok dX9_noEdge_0 rfl rfl ?_
  refine g_iconst (v := 0) ok dX9_noEdge_1 (by decide) ?_
  refine g_aload_n ok dX9_noEdge_2 rfl rfl ?_
  refine g_callVi (st := [.inl 0, .inl p1]) (as := []) ok rfl (k_X9_many h) s_X9_many rfl (by decide) (gNm (by decide)) cl42 sel_X9_many ins_X9_many (gle rfl) rfl q4_110 dX9_noEdge_3 ?_
  intro r2 M1 h
  refine g_iconst (v := 1) ok dX9_noEdge_6 (by decide) ?_
  refine g_isub ok dX9_noEdge_7 ?_
  refine g_callSi (st := []) (as := [.inl p1, .inl 0, .inl (r2 - 1)]) ok rfl (k_X9_in h) s_X9_in rfl (by decide) stt_X9_in (gle rfl) rfl q4_83 dX9_noEdge_8 ?_
  intro r4 M3 h
  refine g_if_ne (tgt := 18) ok dX9_noEdge_11 (by decide) (fun z => ?_) (fun z => ?_)
  · have h := h.2 z
    refine g_iconst (v := 0) ok dX9_noEdge_18 (by decide) ?_
    exact g_zret ok hZ dX9_noEdge_19 (by decide) h
  · have h := h.1 z
    refine g_iconst (v := 1) ok dX9_noEdge_14 (by decide) ?_
    refine g_goto (tgt := 19) ok dX9_noEdge_15 (by decide) ?_
    exact g_zret ok hZ dX9_noEdge_19 (by decide) h
theorem dX9_removeEdge_0 : decode cX9_removeEdge 0 = .ok (.aload_n 0, 1) := by decide +kernel
theorem dX9_removeEdge_1 : decode cX9_removeEdge 1 = .ok (.iload_n 1, 1) := by decide +kernel
theorem dX9_removeEdge_2 : decode cX9_removeEdge 2 = .ok (.invokevirtual 98, 3) := by decide +kernel
theorem dX9_removeEdge_5 : decode cX9_removeEdge 5 = .ok (.ifCond .eq 6, 3) := by decide +kernel
theorem dX9_removeEdge_8 : decode cX9_removeEdge 8 = .ok (.bipush (-2), 2) := by decide +kernel
theorem dX9_removeEdge_10 : decode cX9_removeEdge 10 = .ok (.ireturn, 1) := by decide +kernel
theorem dX9_removeEdge_11 : decode cX9_removeEdge 11 = .ok (.aload_n 0, 1) := by decide +kernel
theorem dX9_removeEdge_12 : decode cX9_removeEdge 12 = .ok (.getfield 7, 3) := by decide +kernel
theorem dX9_removeEdge_15 : decode cX9_removeEdge 15 = .ok (.iload_n 1, 1) := by decide +kernel
theorem dX9_removeEdge_16 : decode cX9_removeEdge 16 = .ok (.iaload, 1) := by decide +kernel
theorem dX9_removeEdge_17 : decode cX9_removeEdge 17 = .ok (.istore_n 2, 1) := by decide +kernel
theorem dX9_removeEdge_18 : decode cX9_removeEdge 18 = .ok (.aload_n 0, 1) := by decide +kernel
theorem dX9_removeEdge_19 : decode cX9_removeEdge 19 = .ok (.invokevirtual 91, 3) := by decide +kernel
theorem dX9_removeEdge_22 : decode cX9_removeEdge 22 = .ok (.aload_n 0, 1) := by decide +kernel
theorem dX9_removeEdge_23 : decode cX9_removeEdge 23 = .ok (.iload_n 1, 1) := by decide +kernel
theorem dX9_removeEdge_24 : decode cX9_removeEdge 24 = .ok (.invokevirtual 101, 3) := by decide +kernel
theorem dX9_removeEdge_27 : decode cX9_removeEdge 27 = .ok (.iload_n 2, 1) := by decide +kernel
theorem dX9_removeEdge_28 : decode cX9_removeEdge 28 = .ok (.ireturn, 1) := by decide +kernel
theorem s_X9_removeEdge : gSt yX9_removeEdge cX9_removeEdge 3 (some .int) 1 := ⟨q4_125, q1_10, ⟨by decide, by decide, by decide +kernel⟩, by decide⟩
theorem sel_X9_removeEdge : Cond.selects yX9_removeEdge.cls yX9_removeEdge yX9_removeEdge ∈ gT := q4_124
theorem ins_X9_removeEdge : Cond.instanceMethod yX9_removeEdge ∈ gT := q4_123
def w_X9_removeEdge (p1 : Int32) (M : gM) (Q : Int32 → gM → Prop) : Prop := w_X9_noEdge p1 M (fun (r2 : Int32) (M1 : gM) => gbr ((r2 : Int32) = 0) (vp_in p1 25 ∧ (∀ x3 : Int32, x3 = (M1 43 (Int32.toNatClampNeg p1)) → (w_X9_keep M1 (fun (M4 : gM) => w_X9_drop p1 M4 (fun (M6 : gM) => Q x3 M6))))) (Q (-2) M1))
set_option maxRecDepth 100000 in
set_option maxHeartbeats 4000000 in
theorem k_X9_removeEdge {p1 : Int32} {M : gM} {Q : Int32 → gM → Prop} (h : w_X9_removeEdge p1 M Q) : gCi gN 2 yX9_removeEdge cX9_removeEdge 3 .int [.inr 42, .inl p1] M Q := by
  refine gCi_of (by decide) gNn (gle rfl) (fun X ok hZ => ?_)
  show gW X 0 [some (.inr 42), some (.inl p1), none] [] M
  unfold w_X9_removeEdge at h
  refine g_aload_n ok dX9_removeEdge_0 rfl rfl ?_
  refine g_iload_n ok dX9_removeEdge_1 rfl rfl ?_
  refine g_callVi (st := []) (as := [.inl p1]) ok rfl (k_X9_noEdge h) s_X9_noEdge rfl (by decide) (gNm (by decide)) cl42 sel_X9_noEdge ins_X9_noEdge (gle rfl) rfl q4_126 dX9_removeEdge_2 ?_
  intro r2 M1 h
  refine g_if_eq (tgt := 11) ok dX9_removeEdge_5 (by decide) (fun z => ?_) (fun z => ?_)
  · have h := h.1 z
    refine g_aload_n ok dX9_removeEdge_11 rfl rfl ?_
    refine g_get (w := .inr 43) ok f42_1 (gNm (by decide)) q3_235 dX9_removeEdge_12 rfl ?_
    refine g_iload_n ok dX9_removeEdge_15 rfl rfl ?_
    have hb := h.1
    have h := h.2
    refine g_iald (w := (M1 43 (Int32.toNatClampNeg p1))) ok a43 (gNm (by decide)) dX9_removeEdge_16 hb rfl ?_
    refine g_nm (fun x3 ex3 => ?_)
    have h := h x3 ex3
    refine g_istore_n (lv1 := [some (.inr 42), some (.inl p1), some (.inl x3)]) ok dX9_removeEdge_17 rfl (glt rfl) rfl ?_
    refine g_aload_n ok dX9_removeEdge_18 rfl rfl ?_
    refine g_callVv (st := []) (as := []) ok rfl (k_X9_keep h) s_X9_keep rfl (by decide) (gNm (by decide)) cl42 sel_X9_keep ins_X9_keep (gle rfl) rfl q4_114 dX9_removeEdge_19 ?_
    intro M4 h
    refine g_aload_n ok dX9_removeEdge_22 rfl rfl ?_
    refine g_iload_n ok dX9_removeEdge_23 rfl rfl ?_
    refine g_callVv (st := []) (as := [.inl p1]) ok rfl (k_X9_drop h) s_X9_drop rfl (by decide) (gNm (by decide)) cl42 sel_X9_drop ins_X9_drop (gle rfl) rfl q4_130 dX9_removeEdge_24 ?_
    intro M6 h
    refine g_iload_n ok dX9_removeEdge_27 rfl rfl ?_
    exact g_iret ok hZ dX9_removeEdge_28 h
  · have h := h.2 z
    refine g_bipush (v := (-2)) ok dX9_removeEdge_8 (by decide) ?_
    exact g_iret ok hZ dX9_removeEdge_10 h
theorem dX9_isMinimalEdge_0 : decode cX9_isMinimalEdge 0 = .ok (.iconst 1, 1) := by decide +kernel
theorem dX9_isMinimalEdge_1 : decode cX9_isMinimalEdge 1 = .ok (.istore_n 2, 1) := by decide +kernel
theorem dX9_isMinimalEdge_2 : decode cX9_isMinimalEdge 2 = .ok (.iconst 0, 1) := by decide +kernel
theorem dX9_isMinimalEdge_3 : decode cX9_isMinimalEdge 3 = .ok (.istore_n 3, 1) := by decide +kernel
theorem dX9_isMinimalEdge_4 : decode cX9_isMinimalEdge 4 = .ok (.iload_n 3, 1) := by decide +kernel
theorem dX9_isMinimalEdge_5 : decode cX9_isMinimalEdge 5 = .ok (.aload_n 0, 1) := by decide +kernel
theorem dX9_isMinimalEdge_6 : decode cX9_isMinimalEdge 6 = .ok (.invokevirtual 80, 3) := by decide +kernel
theorem dX9_isMinimalEdge_9 : decode cX9_isMinimalEdge 9 = .ok (.if_icmp .ge 42, 3) := by decide +kernel
theorem dX9_isMinimalEdge_12 : decode cX9_isMinimalEdge 12 = .ok (.iload_n 2, 1) := by decide +kernel
theorem dX9_isMinimalEdge_13 : decode cX9_isMinimalEdge 13 = .ok (.ifCond .eq 30, 3) := by decide +kernel
theorem dX9_isMinimalEdge_16 : decode cX9_isMinimalEdge 16 = .ok (.iload_n 3, 1) := by decide +kernel
theorem dX9_isMinimalEdge_17 : decode cX9_isMinimalEdge 17 = .ok (.iload_n 1, 1) := by decide +kernel
theorem dX9_isMinimalEdge_18 : decode cX9_isMinimalEdge 18 = .ok (.if_icmp .eq 21, 3) := by decide +kernel
theorem dX9_isMinimalEdge_21 : decode cX9_isMinimalEdge 21 = .ok (.aload_n 0, 1) := by decide +kernel
theorem dX9_isMinimalEdge_22 : decode cX9_isMinimalEdge 22 = .ok (.getfield 7, 3) := by decide +kernel
theorem dX9_isMinimalEdge_25 : decode cX9_isMinimalEdge 25 = .ok (.iload_n 3, 1) := by decide +kernel
theorem dX9_isMinimalEdge_26 : decode cX9_isMinimalEdge 26 = .ok (.iaload, 1) := by decide +kernel
theorem dX9_isMinimalEdge_27 : decode cX9_isMinimalEdge 27 = .ok (.aload_n 0, 1) := by decide +kernel
theorem dX9_isMinimalEdge_28 : decode cX9_isMinimalEdge 28 = .ok (.getfield 7, 3) := by decide +kernel
theorem dX9_isMinimalEdge_31 : decode cX9_isMinimalEdge 31 = .ok (.iload_n 1, 1) := by decide +kernel
theorem dX9_isMinimalEdge_32 : decode cX9_isMinimalEdge 32 = .ok (.iaload, 1) := by decide +kernel
theorem dX9_isMinimalEdge_33 : decode cX9_isMinimalEdge 33 = .ok (.iconst (-1), 1) := by decide +kernel
theorem dX9_isMinimalEdge_34 : decode cX9_isMinimalEdge 34 = .ok (.ixor, 1) := by decide +kernel
theorem dX9_isMinimalEdge_35 : decode cX9_isMinimalEdge 35 = .ok (.iand, 1) := by decide +kernel
theorem dX9_isMinimalEdge_36 : decode cX9_isMinimalEdge 36 = .ok (.ifCond .eq 7, 3) := by decide +kernel
theorem dX9_isMinimalEdge_39 : decode cX9_isMinimalEdge 39 = .ok (.iconst 1, 1) := by decide +kernel
theorem dX9_isMinimalEdge_40 : decode cX9_isMinimalEdge 40 = .ok (.goto 4, 3) := by decide +kernel
theorem dX9_isMinimalEdge_43 : decode cX9_isMinimalEdge 43 = .ok (.iconst 0, 1) := by decide +kernel
theorem dX9_isMinimalEdge_44 : decode cX9_isMinimalEdge 44 = .ok (.istore_n 2, 1) := by decide +kernel
theorem dX9_isMinimalEdge_45 : decode cX9_isMinimalEdge 45 = .ok (.iinc 3 1, 3) := by decide +kernel
theorem dX9_isMinimalEdge_48 : decode cX9_isMinimalEdge 48 = .ok (.goto (-44), 3) := by decide +kernel
theorem dX9_isMinimalEdge_51 : decode cX9_isMinimalEdge 51 = .ok (.iload_n 2, 1) := by decide +kernel
theorem dX9_isMinimalEdge_52 : decode cX9_isMinimalEdge 52 = .ok (.ireturn, 1) := by decide +kernel
theorem s_X9_isMinimalEdge : gSt yX9_isMinimalEdge cX9_isMinimalEdge 4 (some .boolean) 1 := ⟨q4_145, q1_10, ⟨by decide, by decide, by decide +kernel⟩, by decide⟩
theorem sel_X9_isMinimalEdge : Cond.selects yX9_isMinimalEdge.cls yX9_isMinimalEdge yX9_isMinimalEdge ∈ gT := qs_28
theorem ins_X9_isMinimalEdge : Cond.instanceMethod yX9_isMinimalEdge ∈ gT := q4_144
def w_X9_isMinimalEdge_L4 (Q : Int32 → gM → Prop) (K51 : Int32 → Int32 → gM → Prop) (v1 : Int32) : Nat → Int32 → Int32 → gM → Prop
  | 0, _, _, _ => False
  | n + 1, v2, v3, M => w_X9_many M (fun (r2 : Int32) (M1 : gM) => gbr ((v3 : Int32) < r2) (gbr ((v2 : Int32) = 0) (∀ x3 : Int32, x3 = (v3 + 1) → (w_X9_isMinimalEdge_L4 Q K51 v1 n (0) (x3) M1)) (gbr ((v3 : Int32) = v1) (∀ x4 : Int32, x4 = (v3 + 1) → (w_X9_isMinimalEdge_L4 Q K51 v1 n (1) (x4) M1)) (vp_in v3 25 ∧ (vp_in v1 25 ∧ (gbr ((((M1 43 (Int32.toNatClampNeg v3)) &&& ((M1 43 (Int32.toNatClampNeg v1)) ^^^ (-1))) : Int32) = 0) (∀ x5 : Int32, x5 = (v3 + 1) → (w_X9_isMinimalEdge_L4 Q K51 v1 n (0) (x5) M1)) (∀ x6 : Int32, x6 = (v3 + 1) → (w_X9_isMinimalEdge_L4 Q K51 v1 n (1) (x6) M1))))))) (K51 (v2) (v3) M1))
def w_X9_isMinimalEdge (p1 : Int32) (M : gM) (Q : Int32 → gM → Prop) : Prop := ∃ nf, w_X9_isMinimalEdge_L4 Q (fun (x7 : Int32) (x8 : Int32) (M9 : gM) => (x7 = 0 ∨ x7 = 1) ∧ Q x7 M9) p1 nf 1 0 M
set_option maxRecDepth 100000 in
set_option maxHeartbeats 4000000 in
theorem w_X9_isMinimalEdge_L4_w {X : gX} (ok : gOk X cX9_isMinimalEdge yX9_isMinimalEdge.cls 1 4 (some .boolean) gN) {Q : Int32 → gM → Prop} (hZ : gZi X Q) {K51 : Int32 → Int32 → gM → Prop} (v1 : Int32) (hK51 : ∀ (v2 : Int32) (v3 : Int32)  (M : gM), K51 v2 v3 M → gW X 51 [some (.inr 42), some (.inl v1), some (.inl v2), some (.inl v3)] [] M) : ∀ (n : Nat) (v2 : Int32) (v3 : Int32)  (M : gM), w_X9_isMinimalEdge_L4 Q K51 v1 n v2 v3 M → gW X 4 [some (.inr 42), some (.inl v1), some (.inl v2), some (.inl v3)] [] M
  | 0, _, _, _, h => h.elim
  | n + 1, v2, v3, M, h => by
    have ih := fun (v2 : Int32) (v3 : Int32)  (M : gM) h => w_X9_isMinimalEdge_L4_w ok hZ v1 hK51 n v2 v3  M h
    rw [w_X9_isMinimalEdge_L4.eq_2] at h
    refine g_iload_n ok dX9_isMinimalEdge_4 rfl rfl ?_
    refine g_aload_n ok dX9_isMinimalEdge_5 rfl rfl ?_
    refine g_callVi (st := [.inl v3]) (as := []) ok rfl (k_X9_many h) s_X9_many rfl (by decide) (gNm (by decide)) cl42 sel_X9_many ins_X9_many (gle rfl) rfl q4_110 dX9_isMinimalEdge_6 ?_
    intro r2 M1 h
    refine g_icmp_ge (tgt := 51) ok dX9_isMinimalEdge_9 (by decide) (fun z => ?_) (fun z => ?_)
    · have h := h.2 z
      exact hK51 (v2) (v3) M1 h
    · have h := h.1 z
      refine g_iload_n ok dX9_isMinimalEdge_12 rfl rfl ?_
      refine g_if_eq (tgt := 43) ok dX9_isMinimalEdge_13 (by decide) (fun z => ?_) (fun z => ?_)
      · have h := h.1 z
        refine g_iconst (v := 0) ok dX9_isMinimalEdge_43 (by decide) ?_
        refine g_istore_n (lv1 := [some (.inr 42), some (.inl v1), some (.inl 0), some (.inl v3)]) ok dX9_isMinimalEdge_44 rfl (glt rfl) rfl ?_
        obtain ⟨x3, ex3⟩ : ∃ y : Int32, y = (v3 + 1) := ⟨_, rfl⟩
        have h := h x3 ex3
        refine g_iinc (v := x3) (lv1 := [some (.inr 42), some (.inl v1), some (.inl 0), some (.inl x3)]) ok dX9_isMinimalEdge_45 rfl (by rw [ex3]; rfl) rfl ?_
        refine g_goto (tgt := 4) ok dX9_isMinimalEdge_48 (by decide) ?_
        exact ih (0) (x3) M1 h
      · have h := h.2 z
        refine g_iload_n ok dX9_isMinimalEdge_16 rfl rfl ?_
        refine g_iload_n ok dX9_isMinimalEdge_17 rfl rfl ?_
        refine g_icmp_eq (tgt := 39) ok dX9_isMinimalEdge_18 (by decide) (fun z => ?_) (fun z => ?_)
        · have h := h.1 z
          refine g_iconst (v := 1) ok dX9_isMinimalEdge_39 (by decide) ?_
          refine g_goto (tgt := 44) ok dX9_isMinimalEdge_40 (by decide) ?_
          refine g_istore_n (lv1 := [some (.inr 42), some (.inl v1), some (.inl 1), some (.inl v3)]) ok dX9_isMinimalEdge_44 rfl (glt rfl) rfl ?_
          obtain ⟨x4, ex4⟩ : ∃ y : Int32, y = (v3 + 1) := ⟨_, rfl⟩
          have h := h x4 ex4
          refine g_iinc (v := x4) (lv1 := [some (.inr 42), some (.inl v1), some (.inl 1), some (.inl x4)]) ok dX9_isMinimalEdge_45 rfl (by rw [ex4]; rfl) rfl ?_
          refine g_goto (tgt := 4) ok dX9_isMinimalEdge_48 (by decide) ?_
          exact ih (1) (x4) M1 h
        · have h := h.2 z
          refine g_aload_n ok dX9_isMinimalEdge_21 rfl rfl ?_
          refine g_get (w := .inr 43) ok f42_1 (gNm (by decide)) q3_235 dX9_isMinimalEdge_22 rfl ?_
          refine g_iload_n ok dX9_isMinimalEdge_25 rfl rfl ?_
          have hb := h.1
          have h := h.2
          refine g_iald (w := (M1 43 (Int32.toNatClampNeg v3))) ok a43 (gNm (by decide)) dX9_isMinimalEdge_26 hb rfl ?_
          refine g_aload_n ok dX9_isMinimalEdge_27 rfl rfl ?_
          refine g_get (w := .inr 43) ok f42_1 (gNm (by decide)) q3_235 dX9_isMinimalEdge_28 rfl ?_
          refine g_iload_n ok dX9_isMinimalEdge_31 rfl rfl ?_
          have hb := h.1
          have h := h.2
          refine g_iald (w := (M1 43 (Int32.toNatClampNeg v1))) ok a43 (gNm (by decide)) dX9_isMinimalEdge_32 hb rfl ?_
          refine g_iconst (v := (-1)) ok dX9_isMinimalEdge_33 (by decide) ?_
          refine g_ixor ok dX9_isMinimalEdge_34 ?_
          refine g_iand ok dX9_isMinimalEdge_35 ?_
          refine g_if_eq (tgt := 43) ok dX9_isMinimalEdge_36 (by decide) (fun z => ?_) (fun z => ?_)
          · have h := h.1 z
            refine g_iconst (v := 0) ok dX9_isMinimalEdge_43 (by decide) ?_
            refine g_istore_n (lv1 := [some (.inr 42), some (.inl v1), some (.inl 0), some (.inl v3)]) ok dX9_isMinimalEdge_44 rfl (glt rfl) rfl ?_
            obtain ⟨x5, ex5⟩ : ∃ y : Int32, y = (v3 + 1) := ⟨_, rfl⟩
            have h := h x5 ex5
            refine g_iinc (v := x5) (lv1 := [some (.inr 42), some (.inl v1), some (.inl 0), some (.inl x5)]) ok dX9_isMinimalEdge_45 rfl (by rw [ex5]; rfl) rfl ?_
            refine g_goto (tgt := 4) ok dX9_isMinimalEdge_48 (by decide) ?_
            exact ih (0) (x5) M1 h
          · have h := h.2 z
            refine g_iconst (v := 1) ok dX9_isMinimalEdge_39 (by decide) ?_
            refine g_goto (tgt := 44) ok dX9_isMinimalEdge_40 (by decide) ?_
            refine g_istore_n (lv1 := [some (.inr 42), some (.inl v1), some (.inl 1), some (.inl v3)]) ok dX9_isMinimalEdge_44 rfl (glt rfl) rfl ?_
            obtain ⟨x6, ex6⟩ : ∃ y : Int32, y = (v3 + 1) := ⟨_, rfl⟩
            have h := h x6 ex6
            refine g_iinc (v := x6) (lv1 := [some (.inr 42), some (.inl v1), some (.inl 1), some (.inl x6)]) ok dX9_isMinimalEdge_45 rfl (by rw [ex6]; rfl) rfl ?_
            refine g_goto (tgt := 4) ok dX9_isMinimalEdge_48 (by decide) ?_
            exact ih (1) (x6) M1 h
set_option maxRecDepth 100000 in
set_option maxHeartbeats 4000000 in
theorem k_X9_isMinimalEdge {p1 : Int32} {M : gM} {Q : Int32 → gM → Prop} (h : w_X9_isMinimalEdge p1 M Q) : gCi gN 1 yX9_isMinimalEdge cX9_isMinimalEdge 4 .boolean [.inr 42, .inl p1] M Q := by
  refine gCi_of (by decide) gNn (gle rfl) (fun X ok hZ => ?_)
  show gW X 0 [some (.inr 42), some (.inl p1), none, none] [] M
  unfold w_X9_isMinimalEdge at h
  refine g_iconst (v := 1) ok dX9_isMinimalEdge_0 (by decide) ?_
  refine g_istore_n (lv1 := [some (.inr 42), some (.inl p1), some (.inl 1), none]) ok dX9_isMinimalEdge_1 rfl (glt rfl) rfl ?_
  refine g_iconst (v := 0) ok dX9_isMinimalEdge_2 (by decide) ?_
  refine g_istore_n (lv1 := [some (.inr 42), some (.inl p1), some (.inl 1), some (.inl 0)]) ok dX9_isMinimalEdge_3 rfl (glt rfl) rfl ?_
  obtain ⟨nf, h⟩ := h
  refine w_X9_isMinimalEdge_L4_w ok hZ p1 ?_ nf 1 0  M h
  · intro x7 x8  M9 h
    refine g_iload_n ok dX9_isMinimalEdge_51 rfl rfl ?_
    exact g_zret ok hZ dX9_isMinimalEdge_52 (zb h.1) h.2
theorem dX9_minimalEdges_0 : decode cX9_minimalEdges 0 = .ok (.iconst 0, 1) := by decide +kernel
theorem dX9_minimalEdges_1 : decode cX9_minimalEdges 1 = .ok (.istore_n 1, 1) := by decide +kernel
theorem dX9_minimalEdges_2 : decode cX9_minimalEdges 2 = .ok (.iconst 0, 1) := by decide +kernel
theorem dX9_minimalEdges_3 : decode cX9_minimalEdges 3 = .ok (.istore_n 2, 1) := by decide +kernel
theorem dX9_minimalEdges_4 : decode cX9_minimalEdges 4 = .ok (.iload_n 2, 1) := by decide +kernel
theorem dX9_minimalEdges_5 : decode cX9_minimalEdges 5 = .ok (.aload_n 0, 1) := by decide +kernel
theorem dX9_minimalEdges_6 : decode cX9_minimalEdges 6 = .ok (.invokevirtual 80, 3) := by decide +kernel
theorem dX9_minimalEdges_9 : decode cX9_minimalEdges 9 = .ok (.if_icmp .ge 27, 3) := by decide +kernel
theorem dX9_minimalEdges_12 : decode cX9_minimalEdges 12 = .ok (.iload_n 1, 1) := by decide +kernel
theorem dX9_minimalEdges_13 : decode cX9_minimalEdges 13 = .ok (.aload_n 0, 1) := by decide +kernel
theorem dX9_minimalEdges_14 : decode cX9_minimalEdges 14 = .ok (.iload_n 2, 1) := by decide +kernel
theorem dX9_minimalEdges_15 : decode cX9_minimalEdges 15 = .ok (.invokevirtual 104, 3) := by decide +kernel
theorem dX9_minimalEdges_18 : decode cX9_minimalEdges 18 = .ok (.ifCond .eq 9, 3) := by decide +kernel
theorem dX9_minimalEdges_21 : decode cX9_minimalEdges 21 = .ok (.iconst 1, 1) := by decide +kernel
theorem dX9_minimalEdges_22 : decode cX9_minimalEdges 22 = .ok (.iload_n 2, 1) := by decide +kernel
theorem dX9_minimalEdges_23 : decode cX9_minimalEdges 23 = .ok (.ishl, 1) := by decide +kernel
theorem dX9_minimalEdges_24 : decode cX9_minimalEdges 24 = .ok (.goto 4, 3) := by decide +kernel
theorem dX9_minimalEdges_27 : decode cX9_minimalEdges 27 = .ok (.iconst 0, 1) := by decide +kernel
theorem dX9_minimalEdges_28 : decode cX9_minimalEdges 28 = .ok (.ior, 1) := by decide +kernel
theorem dX9_minimalEdges_29 : decode cX9_minimalEdges 29 = .ok (.istore_n 1, 1) := by decide +kernel
theorem dX9_minimalEdges_30 : decode cX9_minimalEdges 30 = .ok (.iinc 2 1, 3) := by decide +kernel
theorem dX9_minimalEdges_33 : decode cX9_minimalEdges 33 = .ok (.goto (-29), 3) := by decide +kernel
theorem dX9_minimalEdges_36 : decode cX9_minimalEdges 36 = .ok (.iload_n 1, 1) := by decide +kernel
theorem dX9_minimalEdges_37 : decode cX9_minimalEdges 37 = .ok (.ireturn, 1) := by decide +kernel
theorem s_X9_minimalEdges : gSt yX9_minimalEdges cX9_minimalEdges 3 (some .int) 0 := ⟨q4_141, q1_10, ⟨by decide, by decide, by decide +kernel⟩, by decide⟩
theorem sel_X9_minimalEdges : Cond.selects yX9_minimalEdges.cls yX9_minimalEdges yX9_minimalEdges ∈ gT := qs_27
theorem ins_X9_minimalEdges : Cond.instanceMethod yX9_minimalEdges ∈ gT := q4_140
def w_X9_minimalEdges_L4 (Q : Int32 → gM → Prop) (K36 : Int32 → Int32 → gM → Prop) : Nat → Int32 → Int32 → gM → Prop
  | 0, _, _, _ => False
  | n + 1, v1, v2, M => w_X9_many M (fun (r2 : Int32) (M1 : gM) => gbr ((v2 : Int32) < r2) (w_X9_isMinimalEdge v2 M1 (fun (r4 : Int32) (M3 : gM) => gbr ((r4 : Int32) = 0) (∀ x5 : Int32, x5 = (v1 ||| 0) → (∀ x6 : Int32, x6 = (v2 + 1) → (w_X9_minimalEdges_L4 Q K36 n (x5) (x6) M3))) (∀ x7 : Int32, x7 = (v1 ||| (1 <<< (v2 &&& 31))) → (∀ x8 : Int32, x8 = (v2 + 1) → (w_X9_minimalEdges_L4 Q K36 n (x7) (x8) M3))))) (K36 (v1) (v2) M1))
def w_X9_minimalEdges  (M : gM) (Q : Int32 → gM → Prop) : Prop := ∃ nf, w_X9_minimalEdges_L4 Q (fun (x9 : Int32) (x10 : Int32) (M11 : gM) => Q x9 M11)  nf 0 0 M
set_option maxRecDepth 100000 in
set_option maxHeartbeats 4000000 in
theorem w_X9_minimalEdges_L4_w {X : gX} (ok : gOk X cX9_minimalEdges yX9_minimalEdges.cls 2 3 (some .int) gN) {Q : Int32 → gM → Prop} (hZ : gZi X Q) {K36 : Int32 → Int32 → gM → Prop}  (hK36 : ∀ (v1 : Int32) (v2 : Int32)  (M : gM), K36 v1 v2 M → gW X 36 [some (.inr 42), some (.inl v1), some (.inl v2)] [] M) : ∀ (n : Nat) (v1 : Int32) (v2 : Int32)  (M : gM), w_X9_minimalEdges_L4 Q K36 n v1 v2 M → gW X 4 [some (.inr 42), some (.inl v1), some (.inl v2)] [] M
  | 0, _, _, _, h => h.elim
  | n + 1, v1, v2, M, h => by
    have ih := fun (v1 : Int32) (v2 : Int32)  (M : gM) h => w_X9_minimalEdges_L4_w ok hZ  hK36 n v1 v2  M h
    rw [w_X9_minimalEdges_L4.eq_2] at h
    refine g_iload_n ok dX9_minimalEdges_4 rfl rfl ?_
    refine g_aload_n ok dX9_minimalEdges_5 rfl rfl ?_
    refine g_callVi (st := [.inl v2]) (as := []) ok rfl (k_X9_many h) s_X9_many rfl (by decide) (gNm (by decide)) cl42 sel_X9_many ins_X9_many (gle rfl) rfl q4_110 dX9_minimalEdges_6 ?_
    intro r2 M1 h
    refine g_icmp_ge (tgt := 36) ok dX9_minimalEdges_9 (by decide) (fun z => ?_) (fun z => ?_)
    · have h := h.2 z
      exact hK36 (v1) (v2) M1 h
    · have h := h.1 z
      refine g_iload_n ok dX9_minimalEdges_12 rfl rfl ?_
      refine g_aload_n ok dX9_minimalEdges_13 rfl rfl ?_
      refine g_iload_n ok dX9_minimalEdges_14 rfl rfl ?_
      refine g_callVi (st := [.inl v1]) (as := [.inl v2]) ok rfl (k_X9_isMinimalEdge h) s_X9_isMinimalEdge rfl (by decide) (gNm (by decide)) cl42 sel_X9_isMinimalEdge ins_X9_isMinimalEdge (gle rfl) rfl q4_142 dX9_minimalEdges_15 ?_
      intro r4 M3 h
      refine g_if_eq (tgt := 27) ok dX9_minimalEdges_18 (by decide) (fun z => ?_) (fun z => ?_)
      · have h := h.1 z
        refine g_iconst (v := 0) ok dX9_minimalEdges_27 (by decide) ?_
        refine g_ior ok dX9_minimalEdges_28 ?_
        refine g_nm (fun x5 ex5 => ?_)
        have h := h x5 ex5
        refine g_istore_n (lv1 := [some (.inr 42), some (.inl x5), some (.inl v2)]) ok dX9_minimalEdges_29 rfl (glt rfl) rfl ?_
        obtain ⟨x6, ex6⟩ : ∃ y : Int32, y = (v2 + 1) := ⟨_, rfl⟩
        have h := h x6 ex6
        refine g_iinc (v := x6) (lv1 := [some (.inr 42), some (.inl x5), some (.inl x6)]) ok dX9_minimalEdges_30 rfl (by rw [ex6]; rfl) rfl ?_
        refine g_goto (tgt := 4) ok dX9_minimalEdges_33 (by decide) ?_
        exact ih (x5) (x6) M3 h
      · have h := h.2 z
        refine g_iconst (v := 1) ok dX9_minimalEdges_21 (by decide) ?_
        refine g_iload_n ok dX9_minimalEdges_22 rfl rfl ?_
        refine g_ishl ok dX9_minimalEdges_23 ?_
        refine g_goto (tgt := 28) ok dX9_minimalEdges_24 (by decide) ?_
        refine g_ior ok dX9_minimalEdges_28 ?_
        refine g_nm (fun x7 ex7 => ?_)
        have h := h x7 ex7
        refine g_istore_n (lv1 := [some (.inr 42), some (.inl x7), some (.inl v2)]) ok dX9_minimalEdges_29 rfl (glt rfl) rfl ?_
        obtain ⟨x8, ex8⟩ : ∃ y : Int32, y = (v2 + 1) := ⟨_, rfl⟩
        have h := h x8 ex8
        refine g_iinc (v := x8) (lv1 := [some (.inr 42), some (.inl x7), some (.inl x8)]) ok dX9_minimalEdges_30 rfl (by rw [ex8]; rfl) rfl ?_
        refine g_goto (tgt := 4) ok dX9_minimalEdges_33 (by decide) ?_
        exact ih (x7) (x8) M3 h
set_option maxRecDepth 100000 in
set_option maxHeartbeats 4000000 in
theorem k_X9_minimalEdges  {M : gM} {Q : Int32 → gM → Prop} (h : w_X9_minimalEdges  M Q) : gCi gN 2 yX9_minimalEdges cX9_minimalEdges 3 .int [.inr 42] M Q := by
  refine gCi_of (by decide) gNn (gle rfl) (fun X ok hZ => ?_)
  show gW X 0 [some (.inr 42), none, none] [] M
  unfold w_X9_minimalEdges at h
  refine g_iconst (v := 0) ok dX9_minimalEdges_0 (by decide) ?_
  refine g_istore_n (lv1 := [some (.inr 42), some (.inl 0), none]) ok dX9_minimalEdges_1 rfl (glt rfl) rfl ?_
  refine g_iconst (v := 0) ok dX9_minimalEdges_2 (by decide) ?_
  refine g_istore_n (lv1 := [some (.inr 42), some (.inl 0), some (.inl 0)]) ok dX9_minimalEdges_3 rfl (glt rfl) rfl ?_
  obtain ⟨nf, h⟩ := h
  refine w_X9_minimalEdges_L4_w ok hZ  ?_ nf 0 0  M h
  · intro x9 x10  M11 h
    refine g_iload_n ok dX9_minimalEdges_36 rfl rfl ?_
    exact g_iret ok hZ dX9_minimalEdges_37 h
theorem dX9_keepOnly_0 : decode cX9_keepOnly 0 = .ok (.iconst 0, 1) := by decide +kernel
theorem dX9_keepOnly_1 : decode cX9_keepOnly 1 = .ok (.istore_n 2, 1) := by decide +kernel
theorem dX9_keepOnly_2 : decode cX9_keepOnly 2 = .ok (.aload_n 0, 1) := by decide +kernel
theorem dX9_keepOnly_3 : decode cX9_keepOnly 3 = .ok (.invokevirtual 80, 3) := by decide +kernel
theorem dX9_keepOnly_6 : decode cX9_keepOnly 6 = .ok (.iconst 1, 1) := by decide +kernel
theorem dX9_keepOnly_7 : decode cX9_keepOnly 7 = .ok (.isub, 1) := by decide +kernel
theorem dX9_keepOnly_8 : decode cX9_keepOnly 8 = .ok (.istore_n 3, 1) := by decide +kernel
theorem dX9_keepOnly_9 : decode cX9_keepOnly 9 = .ok (.iload_n 3, 1) := by decide +kernel
theorem dX9_keepOnly_10 : decode cX9_keepOnly 10 = .ok (.ifCond .lt 25, 3) := by decide +kernel
theorem dX9_keepOnly_13 : decode cX9_keepOnly 13 = .ok (.iload_n 1, 1) := by decide +kernel
theorem dX9_keepOnly_14 : decode cX9_keepOnly 14 = .ok (.iload_n 3, 1) := by decide +kernel
theorem dX9_keepOnly_15 : decode cX9_keepOnly 15 = .ok (.ishr, 1) := by decide +kernel
theorem dX9_keepOnly_16 : decode cX9_keepOnly 16 = .ok (.iconst 1, 1) := by decide +kernel
theorem dX9_keepOnly_17 : decode cX9_keepOnly 17 = .ok (.iand, 1) := by decide +kernel
theorem dX9_keepOnly_18 : decode cX9_keepOnly 18 = .ok (.ifCond .ne 11, 3) := by decide +kernel
theorem dX9_keepOnly_21 : decode cX9_keepOnly 21 = .ok (.aload_n 0, 1) := by decide +kernel
theorem dX9_keepOnly_22 : decode cX9_keepOnly 22 = .ok (.iload_n 3, 1) := by decide +kernel
theorem dX9_keepOnly_23 : decode cX9_keepOnly 23 = .ok (.invokevirtual 101, 3) := by decide +kernel
theorem dX9_keepOnly_26 : decode cX9_keepOnly 26 = .ok (.iinc 2 1, 3) := by decide +kernel
theorem dX9_keepOnly_29 : decode cX9_keepOnly 29 = .ok (.iinc 3 (-1), 3) := by decide +kernel
theorem dX9_keepOnly_32 : decode cX9_keepOnly 32 = .ok (.goto (-23), 3) := by decide +kernel
theorem dX9_keepOnly_35 : decode cX9_keepOnly 35 = .ok (.iload_n 2, 1) := by decide +kernel
theorem dX9_keepOnly_36 : decode cX9_keepOnly 36 = .ok (.ireturn, 1) := by decide +kernel
theorem s_X9_keepOnly : gSt yX9_keepOnly cX9_keepOnly 4 (some .int) 1 := ⟨q4_149, q1_10, ⟨by decide, by decide, by decide +kernel⟩, by decide⟩
theorem sel_X9_keepOnly : Cond.selects yX9_keepOnly.cls yX9_keepOnly yX9_keepOnly ∈ gT := qs_29
theorem ins_X9_keepOnly : Cond.instanceMethod yX9_keepOnly ∈ gT := q4_148
def w_X9_keepOnly_L9 (Q : Int32 → gM → Prop) (K35 : Int32 → Int32 → gM → Prop) (v1 : Int32) : Nat → Int32 → Int32 → gM → Prop
  | 0, _, _, _ => False
  | n + 1, v2, v3, M => gbr ((v3 : Int32) < 0) (K35 (v2) (v3) M) (gbr ((((v1 >>> (v3 &&& 31)) &&& 1) : Int32) = 0) (w_X9_drop v3 M (fun (M5 : gM) => ∀ x7 : Int32, x7 = (v2 + 1) → (∀ x8 : Int32, x8 = (v3 + (-1)) → (w_X9_keepOnly_L9 Q K35 v1 n (x7) (x8) M5)))) (∀ x4 : Int32, x4 = (v3 + (-1)) → (w_X9_keepOnly_L9 Q K35 v1 n (v2) (x4) M)))
def w_X9_keepOnly (p1 : Int32) (M : gM) (Q : Int32 → gM → Prop) : Prop := w_X9_many M (fun (r2 : Int32) (M1 : gM) => ∀ x3 : Int32, x3 = (r2 - 1) → (∃ nf, w_X9_keepOnly_L9 Q (fun (x9 : Int32) (x10 : Int32) (M11 : gM) => Q x9 M11) p1 nf 0 x3 M1))
set_option maxRecDepth 100000 in
set_option maxHeartbeats 4000000 in
theorem w_X9_keepOnly_L9_w {X : gX} (ok : gOk X cX9_keepOnly yX9_keepOnly.cls 2 4 (some .int) gN) {Q : Int32 → gM → Prop} (hZ : gZi X Q) {K35 : Int32 → Int32 → gM → Prop} (v1 : Int32) (hK35 : ∀ (v2 : Int32) (v3 : Int32)  (M : gM), K35 v2 v3 M → gW X 35 [some (.inr 42), some (.inl v1), some (.inl v2), some (.inl v3)] [] M) : ∀ (n : Nat) (v2 : Int32) (v3 : Int32)  (M : gM), w_X9_keepOnly_L9 Q K35 v1 n v2 v3 M → gW X 9 [some (.inr 42), some (.inl v1), some (.inl v2), some (.inl v3)] [] M
  | 0, _, _, _, h => h.elim
  | n + 1, v2, v3, M, h => by
    have ih := fun (v2 : Int32) (v3 : Int32)  (M : gM) h => w_X9_keepOnly_L9_w ok hZ v1 hK35 n v2 v3  M h
    rw [w_X9_keepOnly_L9.eq_2] at h
    refine g_iload_n ok dX9_keepOnly_9 rfl rfl ?_
    refine g_if_lt (tgt := 35) ok dX9_keepOnly_10 (by decide) (fun z => ?_) (fun z => ?_)
    · have h := h.1 z
      exact hK35 (v2) (v3) M h
    · have h := h.2 z
      refine g_iload_n ok dX9_keepOnly_13 rfl rfl ?_
      refine g_iload_n ok dX9_keepOnly_14 rfl rfl ?_
      refine g_ishr ok dX9_keepOnly_15 ?_
      refine g_iconst (v := 1) ok dX9_keepOnly_16 (by decide) ?_
      refine g_iand ok dX9_keepOnly_17 ?_
      refine g_if_ne (tgt := 29) ok dX9_keepOnly_18 (by decide) (fun z => ?_) (fun z => ?_)
      · have h := h.2 z
        obtain ⟨x4, ex4⟩ : ∃ y : Int32, y = (v3 + (-1)) := ⟨_, rfl⟩
        have h := h x4 ex4
        refine g_iinc (v := x4) (lv1 := [some (.inr 42), some (.inl v1), some (.inl v2), some (.inl x4)]) ok dX9_keepOnly_29 rfl (by rw [ex4]; rfl) rfl ?_
        refine g_goto (tgt := 9) ok dX9_keepOnly_32 (by decide) ?_
        exact ih (v2) (x4) M h
      · have h := h.1 z
        refine g_aload_n ok dX9_keepOnly_21 rfl rfl ?_
        refine g_iload_n ok dX9_keepOnly_22 rfl rfl ?_
        refine g_callVv (st := []) (as := [.inl v3]) ok rfl (k_X9_drop h) s_X9_drop rfl (by decide) (gNm (by decide)) cl42 sel_X9_drop ins_X9_drop (gle rfl) rfl q4_130 dX9_keepOnly_23 ?_
        intro M5 h
        obtain ⟨x7, ex7⟩ : ∃ y : Int32, y = (v2 + 1) := ⟨_, rfl⟩
        have h := h x7 ex7
        refine g_iinc (v := x7) (lv1 := [some (.inr 42), some (.inl v1), some (.inl x7), some (.inl v3)]) ok dX9_keepOnly_26 rfl (by rw [ex7]; rfl) rfl ?_
        obtain ⟨x8, ex8⟩ : ∃ y : Int32, y = (v3 + (-1)) := ⟨_, rfl⟩
        have h := h x8 ex8
        refine g_iinc (v := x8) (lv1 := [some (.inr 42), some (.inl v1), some (.inl x7), some (.inl x8)]) ok dX9_keepOnly_29 rfl (by rw [ex8]; rfl) rfl ?_
        refine g_goto (tgt := 9) ok dX9_keepOnly_32 (by decide) ?_
        exact ih (x7) (x8) M5 h
set_option maxRecDepth 100000 in
set_option maxHeartbeats 4000000 in
theorem k_X9_keepOnly {p1 : Int32} {M : gM} {Q : Int32 → gM → Prop} (h : w_X9_keepOnly p1 M Q) : gCi gN 2 yX9_keepOnly cX9_keepOnly 4 .int [.inr 42, .inl p1] M Q := by
  refine gCi_of (by decide) gNn (gle rfl) (fun X ok hZ => ?_)
  show gW X 0 [some (.inr 42), some (.inl p1), none, none] [] M
  unfold w_X9_keepOnly at h
  refine g_iconst (v := 0) ok dX9_keepOnly_0 (by decide) ?_
  refine g_istore_n (lv1 := [some (.inr 42), some (.inl p1), some (.inl 0), none]) ok dX9_keepOnly_1 rfl (glt rfl) rfl ?_
  refine g_aload_n ok dX9_keepOnly_2 rfl rfl ?_
  refine g_callVi (st := []) (as := []) ok rfl (k_X9_many h) s_X9_many rfl (by decide) (gNm (by decide)) cl42 sel_X9_many ins_X9_many (gle rfl) rfl q4_110 dX9_keepOnly_3 ?_
  intro r2 M1 h
  refine g_iconst (v := 1) ok dX9_keepOnly_6 (by decide) ?_
  refine g_isub ok dX9_keepOnly_7 ?_
  refine g_nm (fun x3 ex3 => ?_)
  have h := h x3 ex3
  refine g_istore_n (lv1 := [some (.inr 42), some (.inl p1), some (.inl 0), some (.inl x3)]) ok dX9_keepOnly_8 rfl (glt rfl) rfl ?_
  obtain ⟨nf, h⟩ := h
  refine w_X9_keepOnly_L9_w ok hZ p1 ?_ nf 0 x3  M1 h
  · intro x9 x10  M11 h
    refine g_iload_n ok dX9_keepOnly_35 rfl rfl ?_
    exact g_iret ok hZ dX9_keepOnly_36 h
theorem dX9_minimize_0 : decode cX9_minimize 0 = .ok (.aload_n 0, 1) := by decide +kernel
theorem dX9_minimize_1 : decode cX9_minimize 1 = .ok (.invokevirtual 91, 3) := by decide +kernel
theorem dX9_minimize_4 : decode cX9_minimize 4 = .ok (.aload_n 0, 1) := by decide +kernel
theorem dX9_minimize_5 : decode cX9_minimize 5 = .ok (.aload_n 0, 1) := by decide +kernel
theorem dX9_minimize_6 : decode cX9_minimize 6 = .ok (.invokevirtual 107, 3) := by decide +kernel
theorem dX9_minimize_9 : decode cX9_minimize 9 = .ok (.invokevirtual 110, 3) := by decide +kernel
theorem dX9_minimize_12 : decode cX9_minimize 12 = .ok (.ireturn, 1) := by decide +kernel
theorem s_X9_minimize : gSt yX9_minimize cX9_minimize 1 (some .int) 0 := ⟨q4_137, q1_10, ⟨by decide, by decide, by decide +kernel⟩, by decide⟩
theorem sel_X9_minimize : Cond.selects yX9_minimize.cls yX9_minimize yX9_minimize ∈ gT := q4_136
theorem ins_X9_minimize : Cond.instanceMethod yX9_minimize ∈ gT := q4_135
def w_X9_minimize  (M : gM) (Q : Int32 → gM → Prop) : Prop := w_X9_keep M (fun (M1 : gM) => w_X9_minimalEdges M1 (fun (r4 : Int32) (M3 : gM) => w_X9_keepOnly r4 M3 (fun (r6 : Int32) (M5 : gM) => Q r6 M5)))
set_option maxRecDepth 100000 in
set_option maxHeartbeats 4000000 in
theorem k_X9_minimize  {M : gM} {Q : Int32 → gM → Prop} (h : w_X9_minimize  M Q) : gCi gN 3 yX9_minimize cX9_minimize 1 .int [.inr 42] M Q := by
  refine gCi_of (by decide) gNn (gle rfl) (fun X ok hZ => ?_)
  show gW X 0 [some (.inr 42)] [] M
  unfold w_X9_minimize at h
  refine g_aload_n ok dX9_minimize_0 rfl rfl ?_
  refine g_callVv (st := []) (as := []) ok rfl (k_X9_keep h) s_X9_keep rfl (by decide) (gNm (by decide)) cl42 sel_X9_keep ins_X9_keep (gle rfl) rfl q4_114 dX9_minimize_1 ?_
  intro M1 h
  refine g_aload_n ok dX9_minimize_4 rfl rfl ?_
  refine g_aload_n ok dX9_minimize_5 rfl rfl ?_
  refine g_callVi (st := [.inr 42]) (as := []) ok rfl (k_X9_minimalEdges h) s_X9_minimalEdges rfl (by decide) (gNm (by decide)) cl42 sel_X9_minimalEdges ins_X9_minimalEdges (gle rfl) rfl q4_138 dX9_minimize_6 ?_
  intro r4 M3 h
  refine g_callVi (st := []) (as := [.inl r4]) ok rfl (k_X9_keepOnly h) s_X9_keepOnly rfl (by decide) (gNm (by decide)) cl42 sel_X9_keepOnly ins_X9_keepOnly (gle rfl) rfl q4_146 dX9_minimize_9 ?_
  intro r6 M5 h
  exact g_iret ok hZ dX9_minimize_12 h
theorem dX9_edgesWith_0 : decode cX9_edgesWith 0 = .ok (.iconst 0, 1) := by decide +kernel
theorem dX9_edgesWith_1 : decode cX9_edgesWith 1 = .ok (.istore_n 2, 1) := by decide +kernel
theorem dX9_edgesWith_2 : decode cX9_edgesWith 2 = .ok (.iconst 0, 1) := by decide +kernel
theorem dX9_edgesWith_3 : decode cX9_edgesWith 3 = .ok (.istore_n 3, 1) := by decide +kernel
theorem dX9_edgesWith_4 : decode cX9_edgesWith 4 = .ok (.iload_n 3, 1) := by decide +kernel
theorem dX9_edgesWith_5 : decode cX9_edgesWith 5 = .ok (.aload_n 0, 1) := by decide +kernel
theorem dX9_edgesWith_6 : decode cX9_edgesWith 6 = .ok (.invokevirtual 80, 3) := by decide +kernel
theorem dX9_edgesWith_9 : decode cX9_edgesWith 9 = .ok (.if_icmp .ge 24, 3) := by decide +kernel
theorem dX9_edgesWith_12 : decode cX9_edgesWith 12 = .ok (.iload_n 2, 1) := by decide +kernel
theorem dX9_edgesWith_13 : decode cX9_edgesWith 13 = .ok (.aload_n 0, 1) := by decide +kernel
theorem dX9_edgesWith_14 : decode cX9_edgesWith 14 = .ok (.getfield 7, 3) := by decide +kernel
theorem dX9_edgesWith_17 : decode cX9_edgesWith 17 = .ok (.iload_n 3, 1) := by decide +kernel
theorem dX9_edgesWith_18 : decode cX9_edgesWith 18 = .ok (.iaload, 1) := by decide +kernel
theorem dX9_edgesWith_19 : decode cX9_edgesWith 19 = .ok (.iload_n 1, 1) := by decide +kernel
theorem dX9_edgesWith_20 : decode cX9_edgesWith 20 = .ok (.ishr, 1) := by decide +kernel
theorem dX9_edgesWith_21 : decode cX9_edgesWith 21 = .ok (.iconst 1, 1) := by decide +kernel
theorem dX9_edgesWith_22 : decode cX9_edgesWith 22 = .ok (.iand, 1) := by decide +kernel
theorem dX9_edgesWith_23 : decode cX9_edgesWith 23 = .ok (.iload_n 3, 1) := by decide +kernel
theorem dX9_edgesWith_24 : decode cX9_edgesWith 24 = .ok (.ishl, 1) := by decide +kernel
theorem dX9_edgesWith_25 : decode cX9_edgesWith 25 = .ok (.ior, 1) := by decide +kernel
theorem dX9_edgesWith_26 : decode cX9_edgesWith 26 = .ok (.istore_n 2, 1) := by decide +kernel
theorem dX9_edgesWith_27 : decode cX9_edgesWith 27 = .ok (.iinc 3 1, 3) := by decide +kernel
theorem dX9_edgesWith_30 : decode cX9_edgesWith 30 = .ok (.goto (-26), 3) := by decide +kernel
theorem dX9_edgesWith_33 : decode cX9_edgesWith 33 = .ok (.iload_n 2, 1) := by decide +kernel
theorem dX9_edgesWith_34 : decode cX9_edgesWith 34 = .ok (.ireturn, 1) := by decide +kernel
theorem s_X9_edgesWith : gSt yX9_edgesWith cX9_edgesWith 4 (some .int) 1 := ⟨q4_161, q1_10, ⟨by decide, by decide, by decide +kernel⟩, by decide⟩
theorem sel_X9_edgesWith : Cond.selects yX9_edgesWith.cls yX9_edgesWith yX9_edgesWith ∈ gT := qs_31
theorem ins_X9_edgesWith : Cond.instanceMethod yX9_edgesWith ∈ gT := q4_160
def w_X9_edgesWith_L4 (Q : Int32 → gM → Prop) (K33 : Int32 → Int32 → gM → Prop) (v1 : Int32) : Nat → Int32 → Int32 → gM → Prop
  | 0, _, _, _ => False
  | n + 1, v2, v3, M => w_X9_many M (fun (r2 : Int32) (M1 : gM) => gbr ((v3 : Int32) < r2) (vp_in v3 25 ∧ (∀ x3 : Int32, x3 = (v2 ||| ((((M1 43 (Int32.toNatClampNeg v3)) >>> (v1 &&& 31)) &&& 1) <<< (v3 &&& 31))) → (∀ x4 : Int32, x4 = (v3 + 1) → (w_X9_edgesWith_L4 Q K33 v1 n (x3) (x4) M1)))) (K33 (v2) (v3) M1))
def w_X9_edgesWith (p1 : Int32) (M : gM) (Q : Int32 → gM → Prop) : Prop := ∃ nf, w_X9_edgesWith_L4 Q (fun (x5 : Int32) (x6 : Int32) (M7 : gM) => Q x5 M7) p1 nf 0 0 M
set_option maxRecDepth 100000 in
set_option maxHeartbeats 4000000 in
theorem w_X9_edgesWith_L4_w {X : gX} (ok : gOk X cX9_edgesWith yX9_edgesWith.cls 1 4 (some .int) gN) {Q : Int32 → gM → Prop} (hZ : gZi X Q) {K33 : Int32 → Int32 → gM → Prop} (v1 : Int32) (hK33 : ∀ (v2 : Int32) (v3 : Int32)  (M : gM), K33 v2 v3 M → gW X 33 [some (.inr 42), some (.inl v1), some (.inl v2), some (.inl v3)] [] M) : ∀ (n : Nat) (v2 : Int32) (v3 : Int32)  (M : gM), w_X9_edgesWith_L4 Q K33 v1 n v2 v3 M → gW X 4 [some (.inr 42), some (.inl v1), some (.inl v2), some (.inl v3)] [] M
  | 0, _, _, _, h => h.elim
  | n + 1, v2, v3, M, h => by
    have ih := fun (v2 : Int32) (v3 : Int32)  (M : gM) h => w_X9_edgesWith_L4_w ok hZ v1 hK33 n v2 v3  M h
    rw [w_X9_edgesWith_L4.eq_2] at h
    refine g_iload_n ok dX9_edgesWith_4 rfl rfl ?_
    refine g_aload_n ok dX9_edgesWith_5 rfl rfl ?_
    refine g_callVi (st := [.inl v3]) (as := []) ok rfl (k_X9_many h) s_X9_many rfl (by decide) (gNm (by decide)) cl42 sel_X9_many ins_X9_many (gle rfl) rfl q4_110 dX9_edgesWith_6 ?_
    intro r2 M1 h
    refine g_icmp_ge (tgt := 33) ok dX9_edgesWith_9 (by decide) (fun z => ?_) (fun z => ?_)
    · have h := h.2 z
      exact hK33 (v2) (v3) M1 h
    · have h := h.1 z
      refine g_iload_n ok dX9_edgesWith_12 rfl rfl ?_
      refine g_aload_n ok dX9_edgesWith_13 rfl rfl ?_
      refine g_get (w := .inr 43) ok f42_1 (gNm (by decide)) q3_235 dX9_edgesWith_14 rfl ?_
      refine g_iload_n ok dX9_edgesWith_17 rfl rfl ?_
      have hb := h.1
      have h := h.2
      refine g_iald (w := (M1 43 (Int32.toNatClampNeg v3))) ok a43 (gNm (by decide)) dX9_edgesWith_18 hb rfl ?_
      refine g_iload_n ok dX9_edgesWith_19 rfl rfl ?_
      refine g_ishr ok dX9_edgesWith_20 ?_
      refine g_iconst (v := 1) ok dX9_edgesWith_21 (by decide) ?_
      refine g_iand ok dX9_edgesWith_22 ?_
      refine g_iload_n ok dX9_edgesWith_23 rfl rfl ?_
      refine g_ishl ok dX9_edgesWith_24 ?_
      refine g_ior ok dX9_edgesWith_25 ?_
      refine g_nm (fun x3 ex3 => ?_)
      have h := h x3 ex3
      refine g_istore_n (lv1 := [some (.inr 42), some (.inl v1), some (.inl x3), some (.inl v3)]) ok dX9_edgesWith_26 rfl (glt rfl) rfl ?_
      obtain ⟨x4, ex4⟩ : ∃ y : Int32, y = (v3 + 1) := ⟨_, rfl⟩
      have h := h x4 ex4
      refine g_iinc (v := x4) (lv1 := [some (.inr 42), some (.inl v1), some (.inl x3), some (.inl x4)]) ok dX9_edgesWith_27 rfl (by rw [ex4]; rfl) rfl ?_
      refine g_goto (tgt := 4) ok dX9_edgesWith_30 (by decide) ?_
      exact ih (x3) (x4) M1 h
set_option maxRecDepth 100000 in
set_option maxHeartbeats 4000000 in
theorem k_X9_edgesWith {p1 : Int32} {M : gM} {Q : Int32 → gM → Prop} (h : w_X9_edgesWith p1 M Q) : gCi gN 1 yX9_edgesWith cX9_edgesWith 4 .int [.inr 42, .inl p1] M Q := by
  refine gCi_of (by decide) gNn (gle rfl) (fun X ok hZ => ?_)
  show gW X 0 [some (.inr 42), some (.inl p1), none, none] [] M
  unfold w_X9_edgesWith at h
  refine g_iconst (v := 0) ok dX9_edgesWith_0 (by decide) ?_
  refine g_istore_n (lv1 := [some (.inr 42), some (.inl p1), some (.inl 0), none]) ok dX9_edgesWith_1 rfl (glt rfl) rfl ?_
  refine g_iconst (v := 0) ok dX9_edgesWith_2 (by decide) ?_
  refine g_istore_n (lv1 := [some (.inr 42), some (.inl p1), some (.inl 0), some (.inl 0)]) ok dX9_edgesWith_3 rfl (glt rfl) rfl ?_
  obtain ⟨nf, h⟩ := h
  refine w_X9_edgesWith_L4_w ok hZ p1 ?_ nf 0 0  M h
  · intro x5 x6  M7 h
    refine g_iload_n ok dX9_edgesWith_33 rfl rfl ?_
    exact g_iret ok hZ dX9_edgesWith_34 h
theorem dX9_contract_0 : decode cX9_contract 0 = .ok (.aload_n 0, 1) := by decide +kernel
theorem dX9_contract_1 : decode cX9_contract 1 = .ok (.iload_n 1, 1) := by decide +kernel
theorem dX9_contract_2 : decode cX9_contract 2 = .ok (.invokevirtual 113, 3) := by decide +kernel
theorem dX9_contract_5 : decode cX9_contract 5 = .ok (.ifCond .eq 5, 3) := by decide +kernel
theorem dX9_contract_8 : decode cX9_contract 8 = .ok (.iconst (-1), 1) := by decide +kernel
theorem dX9_contract_9 : decode cX9_contract 9 = .ok (.ireturn, 1) := by decide +kernel
theorem dX9_contract_10 : decode cX9_contract 10 = .ok (.aload_n 0, 1) := by decide +kernel
theorem dX9_contract_11 : decode cX9_contract 11 = .ok (.iload_n 1, 1) := by decide +kernel
theorem dX9_contract_12 : decode cX9_contract 12 = .ok (.invokevirtual 116, 3) := by decide +kernel
theorem dX9_contract_15 : decode cX9_contract 15 = .ok (.istore_n 2, 1) := by decide +kernel
theorem dX9_contract_16 : decode cX9_contract 16 = .ok (.aload_n 0, 1) := by decide +kernel
theorem dX9_contract_17 : decode cX9_contract 17 = .ok (.invokevirtual 91, 3) := by decide +kernel
theorem dX9_contract_20 : decode cX9_contract 20 = .ok (.iconst 0, 1) := by decide +kernel
theorem dX9_contract_21 : decode cX9_contract 21 = .ok (.istore_n 3, 1) := by decide +kernel
theorem dX9_contract_22 : decode cX9_contract 22 = .ok (.iload_n 3, 1) := by decide +kernel
theorem dX9_contract_23 : decode cX9_contract 23 = .ok (.aload_n 0, 1) := by decide +kernel
theorem dX9_contract_24 : decode cX9_contract 24 = .ok (.invokevirtual 80, 3) := by decide +kernel
theorem dX9_contract_27 : decode cX9_contract 27 = .ok (.if_icmp .ge 23, 3) := by decide +kernel
theorem dX9_contract_30 : decode cX9_contract 30 = .ok (.aload_n 0, 1) := by decide +kernel
theorem dX9_contract_31 : decode cX9_contract 31 = .ok (.getfield 7, 3) := by decide +kernel
theorem dX9_contract_34 : decode cX9_contract 34 = .ok (.iload_n 3, 1) := by decide +kernel
theorem dX9_contract_35 : decode cX9_contract 35 = .ok (.dup2, 1) := by decide +kernel
theorem dX9_contract_36 : decode cX9_contract 36 = .ok (.iaload, 1) := by decide +kernel
theorem dX9_contract_37 : decode cX9_contract 37 = .ok (.iconst 1, 1) := by decide +kernel
theorem dX9_contract_38 : decode cX9_contract 38 = .ok (.iload_n 1, 1) := by decide +kernel
theorem dX9_contract_39 : decode cX9_contract 39 = .ok (.ishl, 1) := by decide +kernel
theorem dX9_contract_40 : decode cX9_contract 40 = .ok (.iconst (-1), 1) := by decide +kernel
theorem dX9_contract_41 : decode cX9_contract 41 = .ok (.ixor, 1) := by decide +kernel
theorem dX9_contract_42 : decode cX9_contract 42 = .ok (.iand, 1) := by decide +kernel
theorem dX9_contract_43 : decode cX9_contract 43 = .ok (.iastore, 1) := by decide +kernel
theorem dX9_contract_44 : decode cX9_contract 44 = .ok (.iinc 3 1, 3) := by decide +kernel
theorem dX9_contract_47 : decode cX9_contract 47 = .ok (.goto (-25), 3) := by decide +kernel
theorem dX9_contract_50 : decode cX9_contract 50 = .ok (.iconst 0, 1) := by decide +kernel
theorem dX9_contract_51 : decode cX9_contract 51 = .ok (.istore_n 3, 1) := by decide +kernel
theorem dX9_contract_52 : decode cX9_contract 52 = .ok (.iconst 0, 1) := by decide +kernel
theorem dX9_contract_53 : decode cX9_contract 53 = .ok (.istore 4, 2) := by decide +kernel
theorem dX9_contract_55 : decode cX9_contract 55 = .ok (.iload 4, 2) := by decide +kernel
theorem dX9_contract_57 : decode cX9_contract 57 = .ok (.aload_n 0, 1) := by decide +kernel
theorem dX9_contract_58 : decode cX9_contract 58 = .ok (.invokevirtual 80, 3) := by decide +kernel
theorem dX9_contract_61 : decode cX9_contract 61 = .ok (.if_icmp .ge 46, 3) := by decide +kernel
theorem dX9_contract_64 : decode cX9_contract 64 = .ok (.iload_n 3, 1) := by decide +kernel
theorem dX9_contract_65 : decode cX9_contract 65 = .ok (.aload_n 0, 1) := by decide +kernel
theorem dX9_contract_66 : decode cX9_contract 66 = .ok (.getfield 7, 3) := by decide +kernel
theorem dX9_contract_69 : decode cX9_contract 69 = .ok (.iload 4, 2) := by decide +kernel
theorem dX9_contract_71 : decode cX9_contract 71 = .ok (.iaload, 1) := by decide +kernel
theorem dX9_contract_72 : decode cX9_contract 72 = .ok (.ifCond .eq 26, 3) := by decide +kernel
theorem dX9_contract_75 : decode cX9_contract 75 = .ok (.aload_n 0, 1) := by decide +kernel
theorem dX9_contract_76 : decode cX9_contract 76 = .ok (.aload_n 0, 1) := by decide +kernel
theorem dX9_contract_77 : decode cX9_contract 77 = .ok (.getfield 7, 3) := by decide +kernel
theorem dX9_contract_80 : decode cX9_contract 80 = .ok (.iload 4, 2) := by decide +kernel
theorem dX9_contract_82 : decode cX9_contract 82 = .ok (.iaload, 1) := by decide +kernel
theorem dX9_contract_83 : decode cX9_contract 83 = .ok (.invokevirtual 87, 3) := by decide +kernel
theorem dX9_contract_86 : decode cX9_contract 86 = .ok (.iload 4, 2) := by decide +kernel
theorem dX9_contract_88 : decode cX9_contract 88 = .ok (.if_icmp .ne 10, 3) := by decide +kernel
theorem dX9_contract_91 : decode cX9_contract 91 = .ok (.iconst 1, 1) := by decide +kernel
theorem dX9_contract_92 : decode cX9_contract 92 = .ok (.iload 4, 2) := by decide +kernel
theorem dX9_contract_94 : decode cX9_contract 94 = .ok (.ishl, 1) := by decide +kernel
theorem dX9_contract_95 : decode cX9_contract 95 = .ok (.goto 4, 3) := by decide +kernel
theorem dX9_contract_98 : decode cX9_contract 98 = .ok (.iconst 0, 1) := by decide +kernel
theorem dX9_contract_99 : decode cX9_contract 99 = .ok (.ior, 1) := by decide +kernel
theorem dX9_contract_100 : decode cX9_contract 100 = .ok (.istore_n 3, 1) := by decide +kernel
theorem dX9_contract_101 : decode cX9_contract 101 = .ok (.iinc 4 1, 3) := by decide +kernel
theorem dX9_contract_104 : decode cX9_contract 104 = .ok (.goto (-49), 3) := by decide +kernel
theorem dX9_contract_107 : decode cX9_contract 107 = .ok (.aload_n 0, 1) := by decide +kernel
theorem dX9_contract_108 : decode cX9_contract 108 = .ok (.iload_n 3, 1) := by decide +kernel
theorem dX9_contract_109 : decode cX9_contract 109 = .ok (.invokevirtual 110, 3) := by decide +kernel
theorem dX9_contract_112 : decode cX9_contract 112 = .ok (.pop, 1) := by decide +kernel
theorem dX9_contract_113 : decode cX9_contract 113 = .ok (.iload_n 2, 1) := by decide +kernel
theorem dX9_contract_114 : decode cX9_contract 114 = .ok (.invokestatic 119, 3) := by decide +kernel
theorem dX9_contract_117 : decode cX9_contract 117 = .ok (.ireturn, 1) := by decide +kernel
theorem s_X9_contract : gSt yX9_contract cX9_contract 5 (some .int) 1 := ⟨q4_153, q1_10, ⟨by decide, by decide, by decide +kernel⟩, by decide⟩
theorem sel_X9_contract : Cond.selects yX9_contract.cls yX9_contract yX9_contract ∈ gT := q4_152
theorem ins_X9_contract : Cond.instanceMethod yX9_contract ∈ gT := q4_151
def w_X9_contract_L22 (Q : Int32 → gM → Prop) (K50 : Int32 → gM → Prop) (v1 : Int32) (v2 : Int32) : Nat → Int32 → gM → Prop
  | 0, _, _ => False
  | n + 1, v3, M => w_X9_many M (fun (r8 : Int32) (M7 : gM) => gbr ((v3 : Int32) < r8) (vp_in v3 25 ∧ (vp_in v3 25 ∧ ∀ M9 : gM, M9 = gst M7 43 (Int32.toNatClampNeg v3) ((M7 43 (Int32.toNatClampNeg v3)) &&& ((1 <<< (v1 &&& 31)) ^^^ (-1))) → (∀ x10 : Int32, x10 = (v3 + 1) → (w_X9_contract_L22 Q K50 v1 v2 n (x10) M9)))) (K50 (v3) M7))
def w_X9_contract_L55 (Q : Int32 → gM → Prop) (K107 : Int32 → Int32 → gM → Prop) (v1 : Int32) (v2 : Int32) : Nat → Int32 → Int32 → gM → Prop
  | 0, _, _, _ => False
  | n + 1, v3, v4, M => w_X9_many M (fun (r15 : Int32) (M14 : gM) => gbr ((v4 : Int32) < r15) (vp_in v4 25 ∧ (gbr (((M14 43 (Int32.toNatClampNeg v4)) : Int32) = 0) (∀ x16 : Int32, x16 = (v3 ||| 0) → (∀ x17 : Int32, x17 = (v4 + 1) → (w_X9_contract_L55 Q K107 v1 v2 n (x16) (x17) M14))) (vp_in v4 25 ∧ (w_X9_placeOf (M14 43 (Int32.toNatClampNeg v4)) M14 (fun (r19 : Int32) (M18 : gM) => gbr ((r19 : Int32) = v4) (∀ x22 : Int32, x22 = (v3 ||| (1 <<< (v4 &&& 31))) → (∀ x23 : Int32, x23 = (v4 + 1) → (w_X9_contract_L55 Q K107 v1 v2 n (x22) (x23) M18))) (∀ x20 : Int32, x20 = (v3 ||| 0) → (∀ x21 : Int32, x21 = (v4 + 1) → (w_X9_contract_L55 Q K107 v1 v2 n (x20) (x21) M18)))))))) (K107 (v3) (v4) M14))
def w_X9_contract (p1 : Int32) (M : gM) (Q : Int32 → gM → Prop) : Prop := w_X9_noVertex p1 M (fun (r2 : Int32) (M1 : gM) => gbr ((r2 : Int32) = 0) (w_X9_edgesWith p1 M1 (fun (r4 : Int32) (M3 : gM) => w_X9_keep M3 (fun (M5 : gM) => ∃ nf, w_X9_contract_L22 Q (fun (x11 : Int32) (M13 : gM) => ∃ nf, w_X9_contract_L55 Q (fun (x24 : Int32) (x25 : Int32) (M26 : gM) => w_X9_keepOnly x24 M26 (fun (r28 : Int32) (M27 : gM) => w_X9_bits r4 M27 (fun (r30 : Int32) (M29 : gM) => Q r30 M29))) p1 r4 nf 0 0 M13) p1 r4 nf 0 M5))) (Q (-1) M1))
set_option maxRecDepth 100000 in
set_option maxHeartbeats 4000000 in
theorem w_X9_contract_L22_w {X : gX} (ok : gOk X cX9_contract yX9_contract.cls 3 5 (some .int) gN) {Q : Int32 → gM → Prop} (hZ : gZi X Q) {K50 : Int32 → gM → Prop} (v1 : Int32) (v2 : Int32) (hK50 : ∀ (v3 : Int32) (u4 : Option gV) (M : gM), K50 v3 M → gW X 50 [some (.inr 42), some (.inl v1), some (.inl v2), some (.inl v3), u4] [] M) : ∀ (n : Nat) (v3 : Int32) (u4 : Option gV) (M : gM), w_X9_contract_L22 Q K50 v1 v2 n v3 M → gW X 22 [some (.inr 42), some (.inl v1), some (.inl v2), some (.inl v3), u4] [] M
  | 0, _, _, _, h => h.elim
  | n + 1, v3, u4, M, h => by
    have ih := fun (v3 : Int32) (u4 : Option gV) (M : gM) h => w_X9_contract_L22_w ok hZ v1 v2 hK50 n v3 u4 M h
    rw [w_X9_contract_L22.eq_2] at h
    refine g_iload_n ok dX9_contract_22 rfl rfl ?_
    refine g_aload_n ok dX9_contract_23 rfl rfl ?_
    refine g_callVi (st := [.inl v3]) (as := []) ok rfl (k_X9_many h) s_X9_many rfl (by decide) (gNm (by decide)) cl42 sel_X9_many ins_X9_many (gle rfl) rfl q4_110 dX9_contract_24 ?_
    intro r8 M7 h
    refine g_icmp_ge (tgt := 50) ok dX9_contract_27 (by decide) (fun z => ?_) (fun z => ?_)
    · have h := h.2 z
      exact hK50 (v3) (u4) M7 h
    · have h := h.1 z
      refine g_aload_n ok dX9_contract_30 rfl rfl ?_
      refine g_get (w := .inr 43) ok f42_1 (gNm (by decide)) q3_235 dX9_contract_31 rfl ?_
      refine g_iload_n ok dX9_contract_34 rfl rfl ?_
      refine g_dup2 ok dX9_contract_35 ?_
      have hb := h.1
      have h := h.2
      refine g_iald (w := (M7 43 (Int32.toNatClampNeg v3))) ok a43 (gNm (by decide)) dX9_contract_36 hb rfl ?_
      refine g_iconst (v := 1) ok dX9_contract_37 (by decide) ?_
      refine g_iload_n ok dX9_contract_38 rfl rfl ?_
      refine g_ishl ok dX9_contract_39 ?_
      refine g_iconst (v := (-1)) ok dX9_contract_40 (by decide) ?_
      refine g_ixor ok dX9_contract_41 ?_
      refine g_iand ok dX9_contract_42 ?_
      have hb := h.1
      have h := h.2
      refine g_iast ok a43 (gNm (by decide)) dX9_contract_43 hb (g_mem (fun M9 eM9 => ?_))
      have h := h M9 eM9
      obtain ⟨x10, ex10⟩ : ∃ y : Int32, y = (v3 + 1) := ⟨_, rfl⟩
      have h := h x10 ex10
      refine g_iinc (v := x10) (lv1 := [some (.inr 42), some (.inl v1), some (.inl v2), some (.inl x10), u4]) ok dX9_contract_44 rfl (by rw [ex10]; rfl) rfl ?_
      refine g_goto (tgt := 22) ok dX9_contract_47 (by decide) ?_
      exact ih (x10) (u4) M9 h
set_option maxRecDepth 100000 in
set_option maxHeartbeats 4000000 in
theorem w_X9_contract_L55_w {X : gX} (ok : gOk X cX9_contract yX9_contract.cls 3 5 (some .int) gN) {Q : Int32 → gM → Prop} (hZ : gZi X Q) {K107 : Int32 → Int32 → gM → Prop} (v1 : Int32) (v2 : Int32) (hK107 : ∀ (v3 : Int32) (v4 : Int32)  (M : gM), K107 v3 v4 M → gW X 107 [some (.inr 42), some (.inl v1), some (.inl v2), some (.inl v3), some (.inl v4)] [] M) : ∀ (n : Nat) (v3 : Int32) (v4 : Int32)  (M : gM), w_X9_contract_L55 Q K107 v1 v2 n v3 v4 M → gW X 55 [some (.inr 42), some (.inl v1), some (.inl v2), some (.inl v3), some (.inl v4)] [] M
  | 0, _, _, _, h => h.elim
  | n + 1, v3, v4, M, h => by
    have ih := fun (v3 : Int32) (v4 : Int32)  (M : gM) h => w_X9_contract_L55_w ok hZ v1 v2 hK107 n v3 v4  M h
    rw [w_X9_contract_L55.eq_2] at h
    refine g_iload ok dX9_contract_55 rfl ?_
    refine g_aload_n ok dX9_contract_57 rfl rfl ?_
    refine g_callVi (st := [.inl v4]) (as := []) ok rfl (k_X9_many h) s_X9_many rfl (by decide) (gNm (by decide)) cl42 sel_X9_many ins_X9_many (gle rfl) rfl q4_110 dX9_contract_58 ?_
    intro r15 M14 h
    refine g_icmp_ge (tgt := 107) ok dX9_contract_61 (by decide) (fun z => ?_) (fun z => ?_)
    · have h := h.2 z
      exact hK107 (v3) (v4) M14 h
    · have h := h.1 z
      refine g_iload_n ok dX9_contract_64 rfl rfl ?_
      refine g_aload_n ok dX9_contract_65 rfl rfl ?_
      refine g_get (w := .inr 43) ok f42_1 (gNm (by decide)) q3_235 dX9_contract_66 rfl ?_
      refine g_iload ok dX9_contract_69 rfl ?_
      have hb := h.1
      have h := h.2
      refine g_iald (w := (M14 43 (Int32.toNatClampNeg v4))) ok a43 (gNm (by decide)) dX9_contract_71 hb rfl ?_
      refine g_if_eq (tgt := 98) ok dX9_contract_72 (by decide) (fun z => ?_) (fun z => ?_)
      · have h := h.1 z
        refine g_iconst (v := 0) ok dX9_contract_98 (by decide) ?_
        refine g_ior ok dX9_contract_99 ?_
        refine g_nm (fun x16 ex16 => ?_)
        have h := h x16 ex16
        refine g_istore_n (lv1 := [some (.inr 42), some (.inl v1), some (.inl v2), some (.inl x16), some (.inl v4)]) ok dX9_contract_100 rfl (glt rfl) rfl ?_
        obtain ⟨x17, ex17⟩ : ∃ y : Int32, y = (v4 + 1) := ⟨_, rfl⟩
        have h := h x17 ex17
        refine g_iinc (v := x17) (lv1 := [some (.inr 42), some (.inl v1), some (.inl v2), some (.inl x16), some (.inl x17)]) ok dX9_contract_101 rfl (by rw [ex17]; rfl) rfl ?_
        refine g_goto (tgt := 55) ok dX9_contract_104 (by decide) ?_
        exact ih (x16) (x17) M14 h
      · have h := h.2 z
        refine g_aload_n ok dX9_contract_75 rfl rfl ?_
        refine g_aload_n ok dX9_contract_76 rfl rfl ?_
        refine g_get (w := .inr 43) ok f42_1 (gNm (by decide)) q3_235 dX9_contract_77 rfl ?_
        refine g_iload ok dX9_contract_80 rfl ?_
        have hb := h.1
        have h := h.2
        refine g_iald (w := (M14 43 (Int32.toNatClampNeg v4))) ok a43 (gNm (by decide)) dX9_contract_82 hb rfl ?_
        refine g_callVi (st := [.inl v3]) (as := [.inl (M14 43 (Int32.toNatClampNeg v4))]) ok rfl (k_X9_placeOf h) s_X9_placeOf rfl (by decide) (gNm (by decide)) cl42 sel_X9_placeOf ins_X9_placeOf (gle rfl) rfl q4_106 dX9_contract_83 ?_
        intro r19 M18 h
        refine g_iload ok dX9_contract_86 rfl ?_
        refine g_icmp_ne (tgt := 98) ok dX9_contract_88 (by decide) (fun z => ?_) (fun z => ?_)
        · have h := h.2 z
          refine g_iconst (v := 0) ok dX9_contract_98 (by decide) ?_
          refine g_ior ok dX9_contract_99 ?_
          refine g_nm (fun x20 ex20 => ?_)
          have h := h x20 ex20
          refine g_istore_n (lv1 := [some (.inr 42), some (.inl v1), some (.inl v2), some (.inl x20), some (.inl v4)]) ok dX9_contract_100 rfl (glt rfl) rfl ?_
          obtain ⟨x21, ex21⟩ : ∃ y : Int32, y = (v4 + 1) := ⟨_, rfl⟩
          have h := h x21 ex21
          refine g_iinc (v := x21) (lv1 := [some (.inr 42), some (.inl v1), some (.inl v2), some (.inl x20), some (.inl x21)]) ok dX9_contract_101 rfl (by rw [ex21]; rfl) rfl ?_
          refine g_goto (tgt := 55) ok dX9_contract_104 (by decide) ?_
          exact ih (x20) (x21) M18 h
        · have h := h.1 z
          refine g_iconst (v := 1) ok dX9_contract_91 (by decide) ?_
          refine g_iload ok dX9_contract_92 rfl ?_
          refine g_ishl ok dX9_contract_94 ?_
          refine g_goto (tgt := 99) ok dX9_contract_95 (by decide) ?_
          refine g_ior ok dX9_contract_99 ?_
          refine g_nm (fun x22 ex22 => ?_)
          have h := h x22 ex22
          refine g_istore_n (lv1 := [some (.inr 42), some (.inl v1), some (.inl v2), some (.inl x22), some (.inl v4)]) ok dX9_contract_100 rfl (glt rfl) rfl ?_
          obtain ⟨x23, ex23⟩ : ∃ y : Int32, y = (v4 + 1) := ⟨_, rfl⟩
          have h := h x23 ex23
          refine g_iinc (v := x23) (lv1 := [some (.inr 42), some (.inl v1), some (.inl v2), some (.inl x22), some (.inl x23)]) ok dX9_contract_101 rfl (by rw [ex23]; rfl) rfl ?_
          refine g_goto (tgt := 55) ok dX9_contract_104 (by decide) ?_
          exact ih (x22) (x23) M18 h
set_option maxRecDepth 100000 in
set_option maxHeartbeats 4000000 in
theorem k_X9_contract {p1 : Int32} {M : gM} {Q : Int32 → gM → Prop} (h : w_X9_contract p1 M Q) : gCi gN 3 yX9_contract cX9_contract 5 .int [.inr 42, .inl p1] M Q := by
  refine gCi_of (by decide) gNn (gle rfl) (fun X ok hZ => ?_)
  show gW X 0 [some (.inr 42), some (.inl p1), none, none, none] [] M
  unfold w_X9_contract at h
  refine g_aload_n ok dX9_contract_0 rfl rfl ?_
  refine g_iload_n ok dX9_contract_1 rfl rfl ?_
  refine g_callVi (st := []) (as := [.inl p1]) ok rfl (k_X9_noVertex h) s_X9_noVertex rfl (by decide) (gNm (by decide)) cl42 sel_X9_noVertex ins_X9_noVertex (gle rfl) rfl q4_154 dX9_contract_2 ?_
  intro r2 M1 h
  refine g_if_eq (tgt := 10) ok dX9_contract_5 (by decide) (fun z => ?_) (fun z => ?_)
  · have h := h.1 z
    refine g_aload_n ok dX9_contract_10 rfl rfl ?_
    refine g_iload_n ok dX9_contract_11 rfl rfl ?_
    refine g_callVi (st := []) (as := [.inl p1]) ok rfl (k_X9_edgesWith h) s_X9_edgesWith rfl (by decide) (gNm (by decide)) cl42 sel_X9_edgesWith ins_X9_edgesWith (gle rfl) rfl q4_158 dX9_contract_12 ?_
    intro r4 M3 h
    refine g_istore_n (lv1 := [some (.inr 42), some (.inl p1), some (.inl r4), none, none]) ok dX9_contract_15 rfl (glt rfl) rfl ?_
    refine g_aload_n ok dX9_contract_16 rfl rfl ?_
    refine g_callVv (st := []) (as := []) ok rfl (k_X9_keep h) s_X9_keep rfl (by decide) (gNm (by decide)) cl42 sel_X9_keep ins_X9_keep (gle rfl) rfl q4_114 dX9_contract_17 ?_
    intro M5 h
    refine g_iconst (v := 0) ok dX9_contract_20 (by decide) ?_
    refine g_istore_n (lv1 := [some (.inr 42), some (.inl p1), some (.inl r4), some (.inl 0), none]) ok dX9_contract_21 rfl (glt rfl) rfl ?_
    obtain ⟨nf, h⟩ := h
    refine w_X9_contract_L22_w ok hZ p1 r4 ?_ nf 0 (none) M5 h
    · intro x11 u12 M13 h
      refine g_iconst (v := 0) ok dX9_contract_50 (by decide) ?_
      refine g_istore_n (lv1 := [some (.inr 42), some (.inl p1), some (.inl r4), some (.inl 0), u12]) ok dX9_contract_51 rfl (glt rfl) rfl ?_
      refine g_iconst (v := 0) ok dX9_contract_52 (by decide) ?_
      refine g_istore (lv1 := [some (.inr 42), some (.inl p1), some (.inl r4), some (.inl 0), some (.inl 0)]) ok dX9_contract_53 (glt rfl) rfl ?_
      obtain ⟨nf, h⟩ := h
      refine w_X9_contract_L55_w ok hZ p1 r4 ?_ nf 0 0  M13 h
      · intro x24 x25  M26 h
        refine g_aload_n ok dX9_contract_107 rfl rfl ?_
        refine g_iload_n ok dX9_contract_108 rfl rfl ?_
        refine g_callVi (st := []) (as := [.inl x24]) ok rfl (k_X9_keepOnly h) s_X9_keepOnly rfl (by decide) (gNm (by decide)) cl42 sel_X9_keepOnly ins_X9_keepOnly (gle rfl) rfl q4_146 dX9_contract_109 ?_
        intro r28 M27 h
        refine g_pop ok dX9_contract_112 ?_
        refine g_iload_n ok dX9_contract_113 rfl rfl ?_
        refine g_callSi (st := []) (as := [.inl r4]) ok rfl (k_X9_bits h) s_X9_bits rfl (by decide) stt_X9_bits (gle rfl) rfl q4_162 dX9_contract_114 ?_
        intro r30 M29 h
        exact g_iret ok hZ dX9_contract_117 h
  · have h := h.2 z
    refine g_iconst (v := (-1)) ok dX9_contract_8 (by decide) ?_
    exact g_iret ok hZ dX9_contract_9 h
theorem dX9_delete_0 : decode cX9_delete 0 = .ok (.aload_n 0, 1) := by decide +kernel
theorem dX9_delete_1 : decode cX9_delete 1 = .ok (.iload_n 1, 1) := by decide +kernel
theorem dX9_delete_2 : decode cX9_delete 2 = .ok (.invokevirtual 113, 3) := by decide +kernel
theorem dX9_delete_5 : decode cX9_delete 5 = .ok (.ifCond .eq 5, 3) := by decide +kernel
theorem dX9_delete_8 : decode cX9_delete 8 = .ok (.iconst (-1), 1) := by decide +kernel
theorem dX9_delete_9 : decode cX9_delete 9 = .ok (.ireturn, 1) := by decide +kernel
theorem dX9_delete_10 : decode cX9_delete 10 = .ok (.aload_n 0, 1) := by decide +kernel
theorem dX9_delete_11 : decode cX9_delete 11 = .ok (.iload_n 1, 1) := by decide +kernel
theorem dX9_delete_12 : decode cX9_delete 12 = .ok (.invokevirtual 116, 3) := by decide +kernel
theorem dX9_delete_15 : decode cX9_delete 15 = .ok (.istore_n 2, 1) := by decide +kernel
theorem dX9_delete_16 : decode cX9_delete 16 = .ok (.aload_n 0, 1) := by decide +kernel
theorem dX9_delete_17 : decode cX9_delete 17 = .ok (.invokevirtual 91, 3) := by decide +kernel
theorem dX9_delete_20 : decode cX9_delete 20 = .ok (.aload_n 0, 1) := by decide +kernel
theorem dX9_delete_21 : decode cX9_delete 21 = .ok (.iload_n 2, 1) := by decide +kernel
theorem dX9_delete_22 : decode cX9_delete 22 = .ok (.iconst (-1), 1) := by decide +kernel
theorem dX9_delete_23 : decode cX9_delete 23 = .ok (.ixor, 1) := by decide +kernel
theorem dX9_delete_24 : decode cX9_delete 24 = .ok (.invokevirtual 110, 3) := by decide +kernel
theorem dX9_delete_27 : decode cX9_delete 27 = .ok (.ireturn, 1) := by decide +kernel
theorem s_X9_delete : gSt yX9_delete cX9_delete 3 (some .int) 1 := ⟨q4_168, q1_10, ⟨by decide, by decide, by decide +kernel⟩, by decide⟩
theorem sel_X9_delete : Cond.selects yX9_delete.cls yX9_delete yX9_delete ∈ gT := q4_167
theorem ins_X9_delete : Cond.instanceMethod yX9_delete ∈ gT := q4_166
def w_X9_delete (p1 : Int32) (M : gM) (Q : Int32 → gM → Prop) : Prop := w_X9_noVertex p1 M (fun (r2 : Int32) (M1 : gM) => gbr ((r2 : Int32) = 0) (w_X9_edgesWith p1 M1 (fun (r4 : Int32) (M3 : gM) => w_X9_keep M3 (fun (M5 : gM) => w_X9_keepOnly (r4 ^^^ (-1)) M5 (fun (r8 : Int32) (M7 : gM) => Q r8 M7)))) (Q (-1) M1))
set_option maxRecDepth 100000 in
set_option maxHeartbeats 4000000 in
theorem k_X9_delete {p1 : Int32} {M : gM} {Q : Int32 → gM → Prop} (h : w_X9_delete p1 M Q) : gCi gN 3 yX9_delete cX9_delete 3 .int [.inr 42, .inl p1] M Q := by
  refine gCi_of (by decide) gNn (gle rfl) (fun X ok hZ => ?_)
  show gW X 0 [some (.inr 42), some (.inl p1), none] [] M
  unfold w_X9_delete at h
  refine g_aload_n ok dX9_delete_0 rfl rfl ?_
  refine g_iload_n ok dX9_delete_1 rfl rfl ?_
  refine g_callVi (st := []) (as := [.inl p1]) ok rfl (k_X9_noVertex h) s_X9_noVertex rfl (by decide) (gNm (by decide)) cl42 sel_X9_noVertex ins_X9_noVertex (gle rfl) rfl q4_154 dX9_delete_2 ?_
  intro r2 M1 h
  refine g_if_eq (tgt := 10) ok dX9_delete_5 (by decide) (fun z => ?_) (fun z => ?_)
  · have h := h.1 z
    refine g_aload_n ok dX9_delete_10 rfl rfl ?_
    refine g_iload_n ok dX9_delete_11 rfl rfl ?_
    refine g_callVi (st := []) (as := [.inl p1]) ok rfl (k_X9_edgesWith h) s_X9_edgesWith rfl (by decide) (gNm (by decide)) cl42 sel_X9_edgesWith ins_X9_edgesWith (gle rfl) rfl q4_158 dX9_delete_12 ?_
    intro r4 M3 h
    refine g_istore_n (lv1 := [some (.inr 42), some (.inl p1), some (.inl r4)]) ok dX9_delete_15 rfl (glt rfl) rfl ?_
    refine g_aload_n ok dX9_delete_16 rfl rfl ?_
    refine g_callVv (st := []) (as := []) ok rfl (k_X9_keep h) s_X9_keep rfl (by decide) (gNm (by decide)) cl42 sel_X9_keep ins_X9_keep (gle rfl) rfl q4_114 dX9_delete_17 ?_
    intro M5 h
    refine g_aload_n ok dX9_delete_20 rfl rfl ?_
    refine g_iload_n ok dX9_delete_21 rfl rfl ?_
    refine g_iconst (v := (-1)) ok dX9_delete_22 (by decide) ?_
    refine g_ixor ok dX9_delete_23 ?_
    refine g_callVi (st := []) (as := [.inl (r4 ^^^ (-1))]) ok rfl (k_X9_keepOnly h) s_X9_keepOnly rfl (by decide) (gNm (by decide)) cl42 sel_X9_keepOnly ins_X9_keepOnly (gle rfl) rfl q4_146 dX9_delete_24 ?_
    intro r8 M7 h
    exact g_iret ok hZ dX9_delete_27 h
  · have h := h.2 z
    refine g_iconst (v := (-1)) ok dX9_delete_8 (by decide) ?_
    exact g_iret ok hZ dX9_delete_9 h
theorem dX9_edge_0 : decode cX9_edge 0 = .ok (.aload_n 0, 1) := by decide +kernel
theorem dX9_edge_1 : decode cX9_edge 1 = .ok (.iload_n 1, 1) := by decide +kernel
theorem dX9_edge_2 : decode cX9_edge 2 = .ok (.invokevirtual 98, 3) := by decide +kernel
theorem dX9_edge_5 : decode cX9_edge 5 = .ok (.ifCond .eq 8, 3) := by decide +kernel
theorem dX9_edge_8 : decode cX9_edge 8 = .ok (.bipush (-2), 2) := by decide +kernel
theorem dX9_edge_10 : decode cX9_edge 10 = .ok (.goto 9, 3) := by decide +kernel
theorem dX9_edge_13 : decode cX9_edge 13 = .ok (.aload_n 0, 1) := by decide +kernel
theorem dX9_edge_14 : decode cX9_edge 14 = .ok (.getfield 7, 3) := by decide +kernel
theorem dX9_edge_17 : decode cX9_edge 17 = .ok (.iload_n 1, 1) := by decide +kernel
theorem dX9_edge_18 : decode cX9_edge 18 = .ok (.iaload, 1) := by decide +kernel
theorem dX9_edge_19 : decode cX9_edge 19 = .ok (.ireturn, 1) := by decide +kernel
theorem s_X9_edge : gSt yX9_edge cX9_edge 2 (some .int) 1 := ⟨q4_172, q1_10, ⟨by decide, by decide, by decide +kernel⟩, by decide⟩
theorem sel_X9_edge : Cond.selects yX9_edge.cls yX9_edge yX9_edge ∈ gT := q4_171
theorem ins_X9_edge : Cond.instanceMethod yX9_edge ∈ gT := q4_170
def w_X9_edge (p1 : Int32) (M : gM) (Q : Int32 → gM → Prop) : Prop := w_X9_noEdge p1 M (fun (r2 : Int32) (M1 : gM) => gbr ((r2 : Int32) = 0) (vp_in p1 25 ∧ (Q (M1 43 (Int32.toNatClampNeg p1)) M1)) (Q (-2) M1))
set_option maxRecDepth 100000 in
set_option maxHeartbeats 4000000 in
theorem k_X9_edge {p1 : Int32} {M : gM} {Q : Int32 → gM → Prop} (h : w_X9_edge p1 M Q) : gCi gN 2 yX9_edge cX9_edge 2 .int [.inr 42, .inl p1] M Q := by
  refine gCi_of (by decide) gNn (gle rfl) (fun X ok hZ => ?_)
  show gW X 0 [some (.inr 42), some (.inl p1)] [] M
  unfold w_X9_edge at h
  refine g_aload_n ok dX9_edge_0 rfl rfl ?_
  refine g_iload_n ok dX9_edge_1 rfl rfl ?_
  refine g_callVi (st := []) (as := [.inl p1]) ok rfl (k_X9_noEdge h) s_X9_noEdge rfl (by decide) (gNm (by decide)) cl42 sel_X9_noEdge ins_X9_noEdge (gle rfl) rfl q4_126 dX9_edge_2 ?_
  intro r2 M1 h
  refine g_if_eq (tgt := 13) ok dX9_edge_5 (by decide) (fun z => ?_) (fun z => ?_)
  · have h := h.1 z
    refine g_aload_n ok dX9_edge_13 rfl rfl ?_
    refine g_get (w := .inr 43) ok f42_1 (gNm (by decide)) q3_235 dX9_edge_14 rfl ?_
    refine g_iload_n ok dX9_edge_17 rfl rfl ?_
    have hb := h.1
    have h := h.2
    refine g_iald (w := (M1 43 (Int32.toNatClampNeg p1))) ok a43 (gNm (by decide)) dX9_edge_18 hb rfl ?_
    exact g_iret ok hZ dX9_edge_19 h
  · have h := h.2 z
    refine g_bipush (v := (-2)) ok dX9_edge_8 (by decide) ?_
    refine g_goto (tgt := 19) ok dX9_edge_10 (by decide) ?_
    exact g_iret ok hZ dX9_edge_19 h
theorem dX9_value_0 : decode cX9_value 0 = .ok (.aload_n 0, 1) := by decide +kernel
theorem dX9_value_1 : decode cX9_value 1 = .ok (.invokevirtual 107, 3) := by decide +kernel
theorem dX9_value_4 : decode cX9_value 4 = .ok (.istore_n 2, 1) := by decide +kernel
theorem dX9_value_5 : decode cX9_value 5 = .ok (.aload_n 0, 1) := by decide +kernel
theorem dX9_value_6 : decode cX9_value 6 = .ok (.invokevirtual 80, 3) := by decide +kernel
theorem dX9_value_9 : decode cX9_value 9 = .ok (.ifCond .ne 7, 3) := by decide +kernel
theorem dX9_value_12 : decode cX9_value 12 = .ok (.iconst 0, 1) := by decide +kernel
theorem dX9_value_13 : decode cX9_value 13 = .ok (.goto 5, 3) := by decide +kernel
theorem dX9_value_16 : decode cX9_value 16 = .ok (.bipush 99, 2) := by decide +kernel
theorem dX9_value_18 : decode cX9_value 18 = .ok (.istore_n 3, 1) := by decide +kernel
theorem dX9_value_19 : decode cX9_value 19 = .ok (.iconst 0, 1) := by decide +kernel
theorem dX9_value_20 : decode cX9_value 20 = .ok (.istore 4, 2) := by decide +kernel
theorem dX9_value_22 : decode cX9_value 22 = .ok (.iconst 0, 1) := by decide +kernel
theorem dX9_value_23 : decode cX9_value 23 = .ok (.istore 5, 2) := by decide +kernel
theorem dX9_value_25 : decode cX9_value 25 = .ok (.iload 5, 2) := by decide +kernel
theorem dX9_value_27 : decode cX9_value 27 = .ok (.aload_n 0, 1) := by decide +kernel
theorem dX9_value_28 : decode cX9_value 28 = .ok (.invokevirtual 80, 3) := by decide +kernel
theorem dX9_value_31 : decode cX9_value 31 = .ok (.if_icmp .ge 64, 3) := by decide +kernel
theorem dX9_value_34 : decode cX9_value 34 = .ok (.aload_n 0, 1) := by decide +kernel
theorem dX9_value_35 : decode cX9_value 35 = .ok (.getfield 7, 3) := by decide +kernel
theorem dX9_value_38 : decode cX9_value 38 = .ok (.iload 5, 2) := by decide +kernel
theorem dX9_value_40 : decode cX9_value 40 = .ok (.iaload, 1) := by decide +kernel
theorem dX9_value_41 : decode cX9_value 41 = .ok (.invokestatic 119, 3) := by decide +kernel
theorem dX9_value_44 : decode cX9_value 44 = .ok (.iload_n 3, 1) := by decide +kernel
theorem dX9_value_45 : decode cX9_value 45 = .ok (.if_icmp .ge 16, 3) := by decide +kernel
theorem dX9_value_48 : decode cX9_value 48 = .ok (.aload_n 0, 1) := by decide +kernel
theorem dX9_value_49 : decode cX9_value 49 = .ok (.getfield 7, 3) := by decide +kernel
theorem dX9_value_52 : decode cX9_value 52 = .ok (.iload 5, 2) := by decide +kernel
theorem dX9_value_54 : decode cX9_value 54 = .ok (.iaload, 1) := by decide +kernel
theorem dX9_value_55 : decode cX9_value 55 = .ok (.invokestatic 119, 3) := by decide +kernel
theorem dX9_value_58 : decode cX9_value 58 = .ok (.goto 4, 3) := by decide +kernel
theorem dX9_value_61 : decode cX9_value 61 = .ok (.iload_n 3, 1) := by decide +kernel
theorem dX9_value_62 : decode cX9_value 62 = .ok (.istore_n 3, 1) := by decide +kernel
theorem dX9_value_63 : decode cX9_value 63 = .ok (.iload 4, 2) := by decide +kernel
theorem dX9_value_65 : decode cX9_value 65 = .ok (.iload_n 2, 1) := by decide +kernel
theorem dX9_value_66 : decode cX9_value 66 = .ok (.iload 5, 2) := by decide +kernel
theorem dX9_value_68 : decode cX9_value 68 = .ok (.ishr, 1) := by decide +kernel
theorem dX9_value_69 : decode cX9_value 69 = .ok (.iconst 1, 1) := by decide +kernel
theorem dX9_value_70 : decode cX9_value 70 = .ok (.iand, 1) := by decide +kernel
theorem dX9_value_71 : decode cX9_value 71 = .ok (.iconst 1, 1) := by decide +kernel
theorem dX9_value_72 : decode cX9_value 72 = .ok (.if_icmp .ne 13, 3) := by decide +kernel
theorem dX9_value_75 : decode cX9_value 75 = .ok (.aload_n 0, 1) := by decide +kernel
theorem dX9_value_76 : decode cX9_value 76 = .ok (.getfield 7, 3) := by decide +kernel
theorem dX9_value_79 : decode cX9_value 79 = .ok (.iload 5, 2) := by decide +kernel
theorem dX9_value_81 : decode cX9_value 81 = .ok (.iaload, 1) := by decide +kernel
theorem dX9_value_82 : decode cX9_value 82 = .ok (.goto 4, 3) := by decide +kernel
theorem dX9_value_85 : decode cX9_value 85 = .ok (.iconst 0, 1) := by decide +kernel
theorem dX9_value_86 : decode cX9_value 86 = .ok (.ior, 1) := by decide +kernel
theorem dX9_value_87 : decode cX9_value 87 = .ok (.istore 4, 2) := by decide +kernel
theorem dX9_value_89 : decode cX9_value 89 = .ok (.iinc 5 1, 3) := by decide +kernel
theorem dX9_value_92 : decode cX9_value 92 = .ok (.goto (-67), 3) := by decide +kernel
theorem dX9_value_95 : decode cX9_value 95 = .ok (.iload_n 1, 1) := by decide +kernel
theorem dX9_value_96 : decode cX9_value 96 = .ok (.tableswitch 65 0 5 #[40, 45, 50, 55, 60, 62], 40) := by decide +kernel
theorem dX9_value_136 : decode cX9_value 136 = .ok (.aload_n 0, 1) := by decide +kernel
theorem dX9_value_137 : decode cX9_value 137 = .ok (.getfield 59, 3) := by decide +kernel
theorem dX9_value_140 : decode cX9_value 140 = .ok (.ireturn, 1) := by decide +kernel
theorem dX9_value_141 : decode cX9_value 141 = .ok (.aload_n 0, 1) := by decide +kernel
theorem dX9_value_142 : decode cX9_value 142 = .ok (.invokevirtual 80, 3) := by decide +kernel
theorem dX9_value_145 : decode cX9_value 145 = .ok (.ireturn, 1) := by decide +kernel
theorem dX9_value_146 : decode cX9_value 146 = .ok (.iload_n 2, 1) := by decide +kernel
theorem dX9_value_147 : decode cX9_value 147 = .ok (.invokestatic 119, 3) := by decide +kernel
theorem dX9_value_150 : decode cX9_value 150 = .ok (.ireturn, 1) := by decide +kernel
theorem dX9_value_151 : decode cX9_value 151 = .ok (.aload_n 0, 1) := by decide +kernel
theorem dX9_value_152 : decode cX9_value 152 = .ok (.getfield 74, 3) := by decide +kernel
theorem dX9_value_155 : decode cX9_value 155 = .ok (.ireturn, 1) := by decide +kernel
theorem dX9_value_156 : decode cX9_value 156 = .ok (.iload_n 3, 1) := by decide +kernel
theorem dX9_value_157 : decode cX9_value 157 = .ok (.ireturn, 1) := by decide +kernel
theorem dX9_value_158 : decode cX9_value 158 = .ok (.iload 4, 2) := by decide +kernel
theorem dX9_value_160 : decode cX9_value 160 = .ok (.ireturn, 1) := by decide +kernel
theorem dX9_value_161 : decode cX9_value 161 = .ok (.bipush (-3), 2) := by decide +kernel
theorem dX9_value_163 : decode cX9_value 163 = .ok (.ireturn, 1) := by decide +kernel
theorem s_X9_value : gSt yX9_value cX9_value 6 (some .int) 1 := ⟨q4_176, q1_10, ⟨by decide, by decide, by decide +kernel⟩, by decide⟩
theorem sel_X9_value : Cond.selects yX9_value.cls yX9_value yX9_value ∈ gT := q4_175
theorem ins_X9_value : Cond.instanceMethod yX9_value ∈ gT := q4_174
def w_X9_value_L25 (Q : Int32 → gM → Prop) (K95 : Int32 → Int32 → Int32 → gM → Prop) (v1 : Int32) (v2 : Int32) : Nat → Int32 → Int32 → Int32 → gM → Prop
  | 0, _, _, _, _ => False
  | n + 1, v3, v4, v5, M => w_X9_many M (fun (r6 : Int32) (M5 : gM) => gbr ((v5 : Int32) < r6) (vp_in v5 25 ∧ (w_X9_bits (M5 43 (Int32.toNatClampNeg v5)) M5 (fun (r8 : Int32) (M7 : gM) => gbr ((r8 : Int32) < v3) (vp_in v5 25 ∧ (w_X9_bits (M7 43 (Int32.toNatClampNeg v5)) M7 (fun (r14 : Int32) (M13 : gM) => gbr ((((v2 >>> (v5 &&& 31)) &&& 1) : Int32) = 1) (vp_in v5 25 ∧ (∀ x17 : Int32, x17 = (v4 ||| (M13 43 (Int32.toNatClampNeg v5))) → (∀ x18 : Int32, x18 = (v5 + 1) → (w_X9_value_L25 Q K95 v1 v2 n (r14) (x17) (x18) M13)))) (∀ x15 : Int32, x15 = (v4 ||| 0) → (∀ x16 : Int32, x16 = (v5 + 1) → (w_X9_value_L25 Q K95 v1 v2 n (r14) (x15) (x16) M13)))))) (gbr ((((v2 >>> (v5 &&& 31)) &&& 1) : Int32) = 1) (vp_in v5 25 ∧ (∀ x11 : Int32, x11 = (v4 ||| (M7 43 (Int32.toNatClampNeg v5))) → (∀ x12 : Int32, x12 = (v5 + 1) → (w_X9_value_L25 Q K95 v1 v2 n (v3) (x11) (x12) M7)))) (∀ x9 : Int32, x9 = (v4 ||| 0) → (∀ x10 : Int32, x10 = (v5 + 1) → (w_X9_value_L25 Q K95 v1 v2 n (v3) (x9) (x10) M7))))))) (K95 (v3) (v4) (v5) M5))
def w_X9_value (p1 : Int32) (M : gM) (Q : Int32 → gM → Prop) : Prop := w_X9_minimalEdges M (fun (r2 : Int32) (M1 : gM) => w_X9_many M1 (fun (r4 : Int32) (M3 : gM) => gbr ((r4 : Int32) = 0) (∃ nf, w_X9_value_L25 Q (fun (x27 : Int32) (x28 : Int32) (x29 : Int32) (M30 : gM) => gbr ((p1 : Int32) = 0) (Q (M30 42 0) M30) (gbr ((p1 : Int32) = 1) (w_X9_many M30 (fun (r32 : Int32) (M31 : gM) => Q r32 M31)) (gbr ((p1 : Int32) = 2) (w_X9_bits r2 M30 (fun (r34 : Int32) (M33 : gM) => Q r34 M33)) (gbr ((p1 : Int32) = 3) (Q (M30 42 5) M30) (gbr ((p1 : Int32) = 4) (Q x27 M30) (gbr ((p1 : Int32) = 5) (Q x28 M30) (Q (-3) M30))))))) p1 r2 nf 0 0 0 M3) (∃ nf, w_X9_value_L25 Q (fun (x19 : Int32) (x20 : Int32) (x21 : Int32) (M22 : gM) => gbr ((p1 : Int32) = 0) (Q (M22 42 0) M22) (gbr ((p1 : Int32) = 1) (w_X9_many M22 (fun (r24 : Int32) (M23 : gM) => Q r24 M23)) (gbr ((p1 : Int32) = 2) (w_X9_bits r2 M22 (fun (r26 : Int32) (M25 : gM) => Q r26 M25)) (gbr ((p1 : Int32) = 3) (Q (M22 42 5) M22) (gbr ((p1 : Int32) = 4) (Q x19 M22) (gbr ((p1 : Int32) = 5) (Q x20 M22) (Q (-3) M22))))))) p1 r2 nf 99 0 0 M3)))
set_option maxRecDepth 100000 in
set_option maxHeartbeats 4000000 in
theorem w_X9_value_L25_w {X : gX} (ok : gOk X cX9_value yX9_value.cls 3 6 (some .int) gN) {Q : Int32 → gM → Prop} (hZ : gZi X Q) {K95 : Int32 → Int32 → Int32 → gM → Prop} (v1 : Int32) (v2 : Int32) (hK95 : ∀ (v3 : Int32) (v4 : Int32) (v5 : Int32)  (M : gM), K95 v3 v4 v5 M → gW X 95 [some (.inr 42), some (.inl v1), some (.inl v2), some (.inl v3), some (.inl v4), some (.inl v5)] [] M) : ∀ (n : Nat) (v3 : Int32) (v4 : Int32) (v5 : Int32)  (M : gM), w_X9_value_L25 Q K95 v1 v2 n v3 v4 v5 M → gW X 25 [some (.inr 42), some (.inl v1), some (.inl v2), some (.inl v3), some (.inl v4), some (.inl v5)] [] M
  | 0, _, _, _, _, h => h.elim
  | n + 1, v3, v4, v5, M, h => by
    have ih := fun (v3 : Int32) (v4 : Int32) (v5 : Int32)  (M : gM) h => w_X9_value_L25_w ok hZ v1 v2 hK95 n v3 v4 v5  M h
    rw [w_X9_value_L25.eq_2] at h
    refine g_iload ok dX9_value_25 rfl ?_
    refine g_aload_n ok dX9_value_27 rfl rfl ?_
    refine g_callVi (st := [.inl v5]) (as := []) ok rfl (k_X9_many h) s_X9_many rfl (by decide) (gNm (by decide)) cl42 sel_X9_many ins_X9_many (gle rfl) rfl q4_110 dX9_value_28 ?_
    intro r6 M5 h
    refine g_icmp_ge (tgt := 95) ok dX9_value_31 (by decide) (fun z => ?_) (fun z => ?_)
    · have h := h.2 z
      exact hK95 (v3) (v4) (v5) M5 h
    · have h := h.1 z
      refine g_aload_n ok dX9_value_34 rfl rfl ?_
      refine g_get (w := .inr 43) ok f42_1 (gNm (by decide)) q3_235 dX9_value_35 rfl ?_
      refine g_iload ok dX9_value_38 rfl ?_
      have hb := h.1
      have h := h.2
      refine g_iald (w := (M5 43 (Int32.toNatClampNeg v5))) ok a43 (gNm (by decide)) dX9_value_40 hb rfl ?_
      refine g_callSi (st := []) (as := [.inl (M5 43 (Int32.toNatClampNeg v5))]) ok rfl (k_X9_bits h) s_X9_bits rfl (by decide) stt_X9_bits (gle rfl) rfl q4_162 dX9_value_41 ?_
      intro r8 M7 h
      refine g_iload_n ok dX9_value_44 rfl rfl ?_
      refine g_icmp_ge (tgt := 61) ok dX9_value_45 (by decide) (fun z => ?_) (fun z => ?_)
      · have h := h.2 z
        refine g_iload_n ok dX9_value_61 rfl rfl ?_
        refine g_istore_n (lv1 := [some (.inr 42), some (.inl v1), some (.inl v2), some (.inl v3), some (.inl v4), some (.inl v5)]) ok dX9_value_62 rfl (glt rfl) rfl ?_
        refine g_iload ok dX9_value_63 rfl ?_
        refine g_iload_n ok dX9_value_65 rfl rfl ?_
        refine g_iload ok dX9_value_66 rfl ?_
        refine g_ishr ok dX9_value_68 ?_
        refine g_iconst (v := 1) ok dX9_value_69 (by decide) ?_
        refine g_iand ok dX9_value_70 ?_
        refine g_iconst (v := 1) ok dX9_value_71 (by decide) ?_
        refine g_icmp_ne (tgt := 85) ok dX9_value_72 (by decide) (fun z => ?_) (fun z => ?_)
        · have h := h.2 z
          refine g_iconst (v := 0) ok dX9_value_85 (by decide) ?_
          refine g_ior ok dX9_value_86 ?_
          refine g_nm (fun x9 ex9 => ?_)
          have h := h x9 ex9
          refine g_istore (lv1 := [some (.inr 42), some (.inl v1), some (.inl v2), some (.inl v3), some (.inl x9), some (.inl v5)]) ok dX9_value_87 (glt rfl) rfl ?_
          obtain ⟨x10, ex10⟩ : ∃ y : Int32, y = (v5 + 1) := ⟨_, rfl⟩
          have h := h x10 ex10
          refine g_iinc (v := x10) (lv1 := [some (.inr 42), some (.inl v1), some (.inl v2), some (.inl v3), some (.inl x9), some (.inl x10)]) ok dX9_value_89 rfl (by rw [ex10]; rfl) rfl ?_
          refine g_goto (tgt := 25) ok dX9_value_92 (by decide) ?_
          exact ih (v3) (x9) (x10) M7 h
        · have h := h.1 z
          refine g_aload_n ok dX9_value_75 rfl rfl ?_
          refine g_get (w := .inr 43) ok f42_1 (gNm (by decide)) q3_235 dX9_value_76 rfl ?_
          refine g_iload ok dX9_value_79 rfl ?_
          have hb := h.1
          have h := h.2
          refine g_iald (w := (M7 43 (Int32.toNatClampNeg v5))) ok a43 (gNm (by decide)) dX9_value_81 hb rfl ?_
          refine g_goto (tgt := 86) ok dX9_value_82 (by decide) ?_
          refine g_ior ok dX9_value_86 ?_
          refine g_nm (fun x11 ex11 => ?_)
          have h := h x11 ex11
          refine g_istore (lv1 := [some (.inr 42), some (.inl v1), some (.inl v2), some (.inl v3), some (.inl x11), some (.inl v5)]) ok dX9_value_87 (glt rfl) rfl ?_
          obtain ⟨x12, ex12⟩ : ∃ y : Int32, y = (v5 + 1) := ⟨_, rfl⟩
          have h := h x12 ex12
          refine g_iinc (v := x12) (lv1 := [some (.inr 42), some (.inl v1), some (.inl v2), some (.inl v3), some (.inl x11), some (.inl x12)]) ok dX9_value_89 rfl (by rw [ex12]; rfl) rfl ?_
          refine g_goto (tgt := 25) ok dX9_value_92 (by decide) ?_
          exact ih (v3) (x11) (x12) M7 h
      · have h := h.1 z
        refine g_aload_n ok dX9_value_48 rfl rfl ?_
        refine g_get (w := .inr 43) ok f42_1 (gNm (by decide)) q3_235 dX9_value_49 rfl ?_
        refine g_iload ok dX9_value_52 rfl ?_
        have hb := h.1
        have h := h.2
        refine g_iald (w := (M7 43 (Int32.toNatClampNeg v5))) ok a43 (gNm (by decide)) dX9_value_54 hb rfl ?_
        refine g_callSi (st := []) (as := [.inl (M7 43 (Int32.toNatClampNeg v5))]) ok rfl (k_X9_bits h) s_X9_bits rfl (by decide) stt_X9_bits (gle rfl) rfl q4_162 dX9_value_55 ?_
        intro r14 M13 h
        refine g_goto (tgt := 62) ok dX9_value_58 (by decide) ?_
        refine g_istore_n (lv1 := [some (.inr 42), some (.inl v1), some (.inl v2), some (.inl r14), some (.inl v4), some (.inl v5)]) ok dX9_value_62 rfl (glt rfl) rfl ?_
        refine g_iload ok dX9_value_63 rfl ?_
        refine g_iload_n ok dX9_value_65 rfl rfl ?_
        refine g_iload ok dX9_value_66 rfl ?_
        refine g_ishr ok dX9_value_68 ?_
        refine g_iconst (v := 1) ok dX9_value_69 (by decide) ?_
        refine g_iand ok dX9_value_70 ?_
        refine g_iconst (v := 1) ok dX9_value_71 (by decide) ?_
        refine g_icmp_ne (tgt := 85) ok dX9_value_72 (by decide) (fun z => ?_) (fun z => ?_)
        · have h := h.2 z
          refine g_iconst (v := 0) ok dX9_value_85 (by decide) ?_
          refine g_ior ok dX9_value_86 ?_
          refine g_nm (fun x15 ex15 => ?_)
          have h := h x15 ex15
          refine g_istore (lv1 := [some (.inr 42), some (.inl v1), some (.inl v2), some (.inl r14), some (.inl x15), some (.inl v5)]) ok dX9_value_87 (glt rfl) rfl ?_
          obtain ⟨x16, ex16⟩ : ∃ y : Int32, y = (v5 + 1) := ⟨_, rfl⟩
          have h := h x16 ex16
          refine g_iinc (v := x16) (lv1 := [some (.inr 42), some (.inl v1), some (.inl v2), some (.inl r14), some (.inl x15), some (.inl x16)]) ok dX9_value_89 rfl (by rw [ex16]; rfl) rfl ?_
          refine g_goto (tgt := 25) ok dX9_value_92 (by decide) ?_
          exact ih (r14) (x15) (x16) M13 h
        · have h := h.1 z
          refine g_aload_n ok dX9_value_75 rfl rfl ?_
          refine g_get (w := .inr 43) ok f42_1 (gNm (by decide)) q3_235 dX9_value_76 rfl ?_
          refine g_iload ok dX9_value_79 rfl ?_
          have hb := h.1
          have h := h.2
          refine g_iald (w := (M13 43 (Int32.toNatClampNeg v5))) ok a43 (gNm (by decide)) dX9_value_81 hb rfl ?_
          refine g_goto (tgt := 86) ok dX9_value_82 (by decide) ?_
          refine g_ior ok dX9_value_86 ?_
          refine g_nm (fun x17 ex17 => ?_)
          have h := h x17 ex17
          refine g_istore (lv1 := [some (.inr 42), some (.inl v1), some (.inl v2), some (.inl r14), some (.inl x17), some (.inl v5)]) ok dX9_value_87 (glt rfl) rfl ?_
          obtain ⟨x18, ex18⟩ : ∃ y : Int32, y = (v5 + 1) := ⟨_, rfl⟩
          have h := h x18 ex18
          refine g_iinc (v := x18) (lv1 := [some (.inr 42), some (.inl v1), some (.inl v2), some (.inl r14), some (.inl x17), some (.inl x18)]) ok dX9_value_89 rfl (by rw [ex18]; rfl) rfl ?_
          refine g_goto (tgt := 25) ok dX9_value_92 (by decide) ?_
          exact ih (r14) (x17) (x18) M13 h
set_option maxRecDepth 100000 in
set_option maxHeartbeats 4000000 in
theorem k_X9_value {p1 : Int32} {M : gM} {Q : Int32 → gM → Prop} (h : w_X9_value p1 M Q) : gCi gN 3 yX9_value cX9_value 6 .int [.inr 42, .inl p1] M Q := by
  refine gCi_of (by decide) gNn (gle rfl) (fun X ok hZ => ?_)
  show gW X 0 [some (.inr 42), some (.inl p1), none, none, none, none] [] M
  unfold w_X9_value at h
  refine g_aload_n ok dX9_value_0 rfl rfl ?_
  refine g_callVi (st := []) (as := []) ok rfl (k_X9_minimalEdges h) s_X9_minimalEdges rfl (by decide) (gNm (by decide)) cl42 sel_X9_minimalEdges ins_X9_minimalEdges (gle rfl) rfl q4_138 dX9_value_1 ?_
  intro r2 M1 h
  refine g_istore_n (lv1 := [some (.inr 42), some (.inl p1), some (.inl r2), none, none, none]) ok dX9_value_4 rfl (glt rfl) rfl ?_
  refine g_aload_n ok dX9_value_5 rfl rfl ?_
  refine g_callVi (st := []) (as := []) ok rfl (k_X9_many h) s_X9_many rfl (by decide) (gNm (by decide)) cl42 sel_X9_many ins_X9_many (gle rfl) rfl q4_110 dX9_value_6 ?_
  intro r4 M3 h
  refine g_if_ne (tgt := 16) ok dX9_value_9 (by decide) (fun z => ?_) (fun z => ?_)
  · have h := h.2 z
    refine g_bipush (v := 99) ok dX9_value_16 (by decide) ?_
    refine g_istore_n (lv1 := [some (.inr 42), some (.inl p1), some (.inl r2), some (.inl 99), none, none]) ok dX9_value_18 rfl (glt rfl) rfl ?_
    refine g_iconst (v := 0) ok dX9_value_19 (by decide) ?_
    refine g_istore (lv1 := [some (.inr 42), some (.inl p1), some (.inl r2), some (.inl 99), some (.inl 0), none]) ok dX9_value_20 (glt rfl) rfl ?_
    refine g_iconst (v := 0) ok dX9_value_22 (by decide) ?_
    refine g_istore (lv1 := [some (.inr 42), some (.inl p1), some (.inl r2), some (.inl 99), some (.inl 0), some (.inl 0)]) ok dX9_value_23 (glt rfl) rfl ?_
    obtain ⟨nf, h⟩ := h
    refine w_X9_value_L25_w ok hZ p1 r2 ?_ nf 99 0 0  M3 h
    · intro x19 x20 x21  M22 h
      refine g_iload_n ok dX9_value_95 rfl rfl ?_
      by_cases z0 : (p1 : Int32) = 0
      · have h := h.1 z0
        refine g_tableIn (tgt := 136) ok 0 (by rw [z0]; rfl) dX9_value_96 (by decide) (by decide) rfl (by decide) ?_
        refine g_aload_n ok dX9_value_136 rfl rfl ?_
        refine g_get (w := .inl (M22 42 0)) ok f42_0 (gNm (by decide)) q3_234 dX9_value_137 rfl ?_
        exact g_iret ok hZ dX9_value_140 h
      have h := h.2 z0
      by_cases z1 : (p1 : Int32) = 1
      · have h := h.1 z1
        refine g_tableIn (tgt := 141) ok 1 (by rw [z1]; rfl) dX9_value_96 (by decide) (by decide) rfl (by decide) ?_
        refine g_aload_n ok dX9_value_141 rfl rfl ?_
        refine g_callVi (st := []) (as := []) ok rfl (k_X9_many h) s_X9_many rfl (by decide) (gNm (by decide)) cl42 sel_X9_many ins_X9_many (gle rfl) rfl q4_110 dX9_value_142 ?_
        intro r24 M23 h
        exact g_iret ok hZ dX9_value_145 h
      have h := h.2 z1
      by_cases z2 : (p1 : Int32) = 2
      · have h := h.1 z2
        refine g_tableIn (tgt := 146) ok 2 (by rw [z2]; rfl) dX9_value_96 (by decide) (by decide) rfl (by decide) ?_
        refine g_iload_n ok dX9_value_146 rfl rfl ?_
        refine g_callSi (st := []) (as := [.inl r2]) ok rfl (k_X9_bits h) s_X9_bits rfl (by decide) stt_X9_bits (gle rfl) rfl q4_162 dX9_value_147 ?_
        intro r26 M25 h
        exact g_iret ok hZ dX9_value_150 h
      have h := h.2 z2
      by_cases z3 : (p1 : Int32) = 3
      · have h := h.1 z3
        refine g_tableIn (tgt := 151) ok 3 (by rw [z3]; rfl) dX9_value_96 (by decide) (by decide) rfl (by decide) ?_
        refine g_aload_n ok dX9_value_151 rfl rfl ?_
        refine g_get (w := .inl (M22 42 5)) ok f42_5 (gNm (by decide)) q3_239 dX9_value_152 rfl ?_
        exact g_iret ok hZ dX9_value_155 h
      have h := h.2 z3
      by_cases z4 : (p1 : Int32) = 4
      · have h := h.1 z4
        refine g_tableIn (tgt := 156) ok 4 (by rw [z4]; rfl) dX9_value_96 (by decide) (by decide) rfl (by decide) ?_
        refine g_iload_n ok dX9_value_156 rfl rfl ?_
        exact g_iret ok hZ dX9_value_157 h
      have h := h.2 z4
      by_cases z5 : (p1 : Int32) = 5
      · have h := h.1 z5
        refine g_tableIn (tgt := 158) ok 5 (by rw [z5]; rfl) dX9_value_96 (by decide) (by decide) rfl (by decide) ?_
        refine g_iload ok dX9_value_158 rfl ?_
        exact g_iret ok hZ dX9_value_160 h
      have h := h.2 z5
      refine g_tableOut (tgt := 161) ok dX9_value_96 (sw_out 6 (by decide) (fun k hk => match k, hk with | 0, _ => z0 | 1, _ => z1 | 2, _ => z2 | 3, _ => z3 | 4, _ => z4 | 5, _ => z5 | k + 6, hk => absurd hk (by omega))) (by decide) ?_
      refine g_bipush (v := (-3)) ok dX9_value_161 (by decide) ?_
      exact g_iret ok hZ dX9_value_163 h
  · have h := h.1 z
    refine g_iconst (v := 0) ok dX9_value_12 (by decide) ?_
    refine g_goto (tgt := 18) ok dX9_value_13 (by decide) ?_
    refine g_istore_n (lv1 := [some (.inr 42), some (.inl p1), some (.inl r2), some (.inl 0), none, none]) ok dX9_value_18 rfl (glt rfl) rfl ?_
    refine g_iconst (v := 0) ok dX9_value_19 (by decide) ?_
    refine g_istore (lv1 := [some (.inr 42), some (.inl p1), some (.inl r2), some (.inl 0), some (.inl 0), none]) ok dX9_value_20 (glt rfl) rfl ?_
    refine g_iconst (v := 0) ok dX9_value_22 (by decide) ?_
    refine g_istore (lv1 := [some (.inr 42), some (.inl p1), some (.inl r2), some (.inl 0), some (.inl 0), some (.inl 0)]) ok dX9_value_23 (glt rfl) rfl ?_
    obtain ⟨nf, h⟩ := h
    refine w_X9_value_L25_w ok hZ p1 r2 ?_ nf 0 0 0  M3 h
    · intro x27 x28 x29  M30 h
      refine g_iload_n ok dX9_value_95 rfl rfl ?_
      by_cases z0 : (p1 : Int32) = 0
      · have h := h.1 z0
        refine g_tableIn (tgt := 136) ok 0 (by rw [z0]; rfl) dX9_value_96 (by decide) (by decide) rfl (by decide) ?_
        refine g_aload_n ok dX9_value_136 rfl rfl ?_
        refine g_get (w := .inl (M30 42 0)) ok f42_0 (gNm (by decide)) q3_234 dX9_value_137 rfl ?_
        exact g_iret ok hZ dX9_value_140 h
      have h := h.2 z0
      by_cases z1 : (p1 : Int32) = 1
      · have h := h.1 z1
        refine g_tableIn (tgt := 141) ok 1 (by rw [z1]; rfl) dX9_value_96 (by decide) (by decide) rfl (by decide) ?_
        refine g_aload_n ok dX9_value_141 rfl rfl ?_
        refine g_callVi (st := []) (as := []) ok rfl (k_X9_many h) s_X9_many rfl (by decide) (gNm (by decide)) cl42 sel_X9_many ins_X9_many (gle rfl) rfl q4_110 dX9_value_142 ?_
        intro r32 M31 h
        exact g_iret ok hZ dX9_value_145 h
      have h := h.2 z1
      by_cases z2 : (p1 : Int32) = 2
      · have h := h.1 z2
        refine g_tableIn (tgt := 146) ok 2 (by rw [z2]; rfl) dX9_value_96 (by decide) (by decide) rfl (by decide) ?_
        refine g_iload_n ok dX9_value_146 rfl rfl ?_
        refine g_callSi (st := []) (as := [.inl r2]) ok rfl (k_X9_bits h) s_X9_bits rfl (by decide) stt_X9_bits (gle rfl) rfl q4_162 dX9_value_147 ?_
        intro r34 M33 h
        exact g_iret ok hZ dX9_value_150 h
      have h := h.2 z2
      by_cases z3 : (p1 : Int32) = 3
      · have h := h.1 z3
        refine g_tableIn (tgt := 151) ok 3 (by rw [z3]; rfl) dX9_value_96 (by decide) (by decide) rfl (by decide) ?_
        refine g_aload_n ok dX9_value_151 rfl rfl ?_
        refine g_get (w := .inl (M30 42 5)) ok f42_5 (gNm (by decide)) q3_239 dX9_value_152 rfl ?_
        exact g_iret ok hZ dX9_value_155 h
      have h := h.2 z3
      by_cases z4 : (p1 : Int32) = 4
      · have h := h.1 z4
        refine g_tableIn (tgt := 156) ok 4 (by rw [z4]; rfl) dX9_value_96 (by decide) (by decide) rfl (by decide) ?_
        refine g_iload_n ok dX9_value_156 rfl rfl ?_
        exact g_iret ok hZ dX9_value_157 h
      have h := h.2 z4
      by_cases z5 : (p1 : Int32) = 5
      · have h := h.1 z5
        refine g_tableIn (tgt := 158) ok 5 (by rw [z5]; rfl) dX9_value_96 (by decide) (by decide) rfl (by decide) ?_
        refine g_iload ok dX9_value_158 rfl ?_
        exact g_iret ok hZ dX9_value_160 h
      have h := h.2 z5
      refine g_tableOut (tgt := 161) ok dX9_value_96 (sw_out 6 (by decide) (fun k hk => match k, hk with | 0, _ => z0 | 1, _ => z1 | 2, _ => z2 | 3, _ => z3 | 4, _ => z4 | 5, _ => z5 | k + 6, hk => absurd hk (by omega))) (by decide) ?_
      refine g_bipush (v := (-3)) ok dX9_value_161 (by decide) ?_
      exact g_iret ok hZ dX9_value_163 h
theorem dX9_edgesOf_0 : decode cX9_edgesOf 0 = .ok (.aload_n 0, 1) := by decide +kernel
theorem dX9_edgesOf_1 : decode cX9_edgesOf 1 = .ok (.iload_n 1, 1) := by decide +kernel
theorem dX9_edgesOf_2 : decode cX9_edgesOf 2 = .ok (.invokevirtual 113, 3) := by decide +kernel
theorem dX9_edgesOf_5 : decode cX9_edgesOf 5 = .ok (.ifCond .eq 7, 3) := by decide +kernel
theorem dX9_edgesOf_8 : decode cX9_edgesOf 8 = .ok (.iconst (-1), 1) := by decide +kernel
theorem dX9_edgesOf_9 : decode cX9_edgesOf 9 = .ok (.goto 8, 3) := by decide +kernel
theorem dX9_edgesOf_12 : decode cX9_edgesOf 12 = .ok (.aload_n 0, 1) := by decide +kernel
theorem dX9_edgesOf_13 : decode cX9_edgesOf 13 = .ok (.iload_n 1, 1) := by decide +kernel
theorem dX9_edgesOf_14 : decode cX9_edgesOf 14 = .ok (.invokevirtual 116, 3) := by decide +kernel
theorem dX9_edgesOf_17 : decode cX9_edgesOf 17 = .ok (.ireturn, 1) := by decide +kernel
theorem s_X9_edgesOf : gSt yX9_edgesOf cX9_edgesOf 2 (some .int) 1 := ⟨q4_180, q1_10, ⟨by decide, by decide, by decide +kernel⟩, by decide⟩
theorem sel_X9_edgesOf : Cond.selects yX9_edgesOf.cls yX9_edgesOf yX9_edgesOf ∈ gT := q4_179
theorem ins_X9_edgesOf : Cond.instanceMethod yX9_edgesOf ∈ gT := q4_178
def w_X9_edgesOf (p1 : Int32) (M : gM) (Q : Int32 → gM → Prop) : Prop := w_X9_noVertex p1 M (fun (r2 : Int32) (M1 : gM) => gbr ((r2 : Int32) = 0) (w_X9_edgesWith p1 M1 (fun (r4 : Int32) (M3 : gM) => Q r4 M3)) (Q (-1) M1))
set_option maxRecDepth 100000 in
set_option maxHeartbeats 4000000 in
theorem k_X9_edgesOf {p1 : Int32} {M : gM} {Q : Int32 → gM → Prop} (h : w_X9_edgesOf p1 M Q) : gCi gN 2 yX9_edgesOf cX9_edgesOf 2 .int [.inr 42, .inl p1] M Q := by
  refine gCi_of (by decide) gNn (gle rfl) (fun X ok hZ => ?_)
  show gW X 0 [some (.inr 42), some (.inl p1)] [] M
  unfold w_X9_edgesOf at h
  refine g_aload_n ok dX9_edgesOf_0 rfl rfl ?_
  refine g_iload_n ok dX9_edgesOf_1 rfl rfl ?_
  refine g_callVi (st := []) (as := [.inl p1]) ok rfl (k_X9_noVertex h) s_X9_noVertex rfl (by decide) (gNm (by decide)) cl42 sel_X9_noVertex ins_X9_noVertex (gle rfl) rfl q4_154 dX9_edgesOf_2 ?_
  intro r2 M1 h
  refine g_if_eq (tgt := 12) ok dX9_edgesOf_5 (by decide) (fun z => ?_) (fun z => ?_)
  · have h := h.1 z
    refine g_aload_n ok dX9_edgesOf_12 rfl rfl ?_
    refine g_iload_n ok dX9_edgesOf_13 rfl rfl ?_
    refine g_callVi (st := []) (as := [.inl p1]) ok rfl (k_X9_edgesWith h) s_X9_edgesWith rfl (by decide) (gNm (by decide)) cl42 sel_X9_edgesWith ins_X9_edgesWith (gle rfl) rfl q4_158 dX9_edgesOf_14 ?_
    intro r4 M3 h
    exact g_iret ok hZ dX9_edgesOf_17 h
  · have h := h.2 z
    refine g_iconst (v := (-1)) ok dX9_edgesOf_8 (by decide) ?_
    refine g_goto (tgt := 17) ok dX9_edgesOf_9 (by decide) ?_
    exact g_iret ok hZ dX9_edgesOf_17 h
theorem dX9_setWeight_0 : decode cX9_setWeight 0 = .ok (.aload_n 0, 1) := by decide +kernel
theorem dX9_setWeight_1 : decode cX9_setWeight 1 = .ok (.iload_n 1, 1) := by decide +kernel
theorem dX9_setWeight_2 : decode cX9_setWeight 2 = .ok (.invokevirtual 113, 3) := by decide +kernel
theorem dX9_setWeight_5 : decode cX9_setWeight 5 = .ok (.ifCond .eq 5, 3) := by decide +kernel
theorem dX9_setWeight_8 : decode cX9_setWeight 8 = .ok (.iconst (-1), 1) := by decide +kernel
theorem dX9_setWeight_9 : decode cX9_setWeight 9 = .ok (.ireturn, 1) := by decide +kernel
theorem dX9_setWeight_10 : decode cX9_setWeight 10 = .ok (.iload_n 2, 1) := by decide +kernel
theorem dX9_setWeight_11 : decode cX9_setWeight 11 = .ok (.iconst 0, 1) := by decide +kernel
theorem dX9_setWeight_12 : decode cX9_setWeight 12 = .ok (.bipush 99, 2) := by decide +kernel
theorem dX9_setWeight_14 : decode cX9_setWeight 14 = .ok (.invokestatic 66, 3) := by decide +kernel
theorem dX9_setWeight_17 : decode cX9_setWeight 17 = .ok (.ifCond .ne 6, 3) := by decide +kernel
theorem dX9_setWeight_20 : decode cX9_setWeight 20 = .ok (.bipush (-3), 2) := by decide +kernel
theorem dX9_setWeight_22 : decode cX9_setWeight 22 = .ok (.ireturn, 1) := by decide +kernel
theorem dX9_setWeight_23 : decode cX9_setWeight 23 = .ok (.aload_n 0, 1) := by decide +kernel
theorem dX9_setWeight_24 : decode cX9_setWeight 24 = .ok (.getfield 13, 3) := by decide +kernel
theorem dX9_setWeight_27 : decode cX9_setWeight 27 = .ok (.iload_n 1, 1) := by decide +kernel
theorem dX9_setWeight_28 : decode cX9_setWeight 28 = .ok (.iaload, 1) := by decide +kernel
theorem dX9_setWeight_29 : decode cX9_setWeight 29 = .ok (.istore_n 3, 1) := by decide +kernel
theorem dX9_setWeight_30 : decode cX9_setWeight 30 = .ok (.aload_n 0, 1) := by decide +kernel
theorem dX9_setWeight_31 : decode cX9_setWeight 31 = .ok (.getfield 13, 3) := by decide +kernel
theorem dX9_setWeight_34 : decode cX9_setWeight 34 = .ok (.iload_n 1, 1) := by decide +kernel
theorem dX9_setWeight_35 : decode cX9_setWeight 35 = .ok (.iload_n 2, 1) := by decide +kernel
theorem dX9_setWeight_36 : decode cX9_setWeight 36 = .ok (.iastore, 1) := by decide +kernel
theorem dX9_setWeight_37 : decode cX9_setWeight 37 = .ok (.iload_n 3, 1) := by decide +kernel
theorem dX9_setWeight_38 : decode cX9_setWeight 38 = .ok (.ireturn, 1) := by decide +kernel
theorem s_X9_setWeight : gSt yX9_setWeight cX9_setWeight 4 (some .int) 2 := ⟨q4_184, q1_10, ⟨by decide, by decide, by decide +kernel⟩, by decide⟩
theorem sel_X9_setWeight : Cond.selects yX9_setWeight.cls yX9_setWeight yX9_setWeight ∈ gT := q4_183
theorem ins_X9_setWeight : Cond.instanceMethod yX9_setWeight ∈ gT := q4_182
def w_X9_setWeight (p1 : Int32) (p2 : Int32) (M : gM) (Q : Int32 → gM → Prop) : Prop := w_X9_noVertex p1 M (fun (r2 : Int32) (M1 : gM) => gbr ((r2 : Int32) = 0) (w_X9_in p2 0 99 M1 (fun (r4 : Int32) (M3 : gM) => gbr ((r4 : Int32) = 0) (Q (-3) M3) (vp_in p1 14 ∧ (∀ x5 : Int32, x5 = (M3 44 (Int32.toNatClampNeg p1)) → (vp_in p1 14 ∧ ∀ M6 : gM, M6 = gst M3 44 (Int32.toNatClampNeg p1) p2 → (Q x5 M6)))))) (Q (-1) M1))
set_option maxRecDepth 100000 in
set_option maxHeartbeats 4000000 in
theorem k_X9_setWeight {p1 : Int32} {p2 : Int32} {M : gM} {Q : Int32 → gM → Prop} (h : w_X9_setWeight p1 p2 M Q) : gCi gN 2 yX9_setWeight cX9_setWeight 4 .int [.inr 42, .inl p1, .inl p2] M Q := by
  refine gCi_of (by decide) gNn (gle rfl) (fun X ok hZ => ?_)
  show gW X 0 [some (.inr 42), some (.inl p1), some (.inl p2), none] [] M
  unfold w_X9_setWeight at h
  refine g_aload_n ok dX9_setWeight_0 rfl rfl ?_
  refine g_iload_n ok dX9_setWeight_1 rfl rfl ?_
  refine g_callVi (st := []) (as := [.inl p1]) ok rfl (k_X9_noVertex h) s_X9_noVertex rfl (by decide) (gNm (by decide)) cl42 sel_X9_noVertex ins_X9_noVertex (gle rfl) rfl q4_154 dX9_setWeight_2 ?_
  intro r2 M1 h
  refine g_if_eq (tgt := 10) ok dX9_setWeight_5 (by decide) (fun z => ?_) (fun z => ?_)
  · have h := h.1 z
    refine g_iload_n ok dX9_setWeight_10 rfl rfl ?_
    refine g_iconst (v := 0) ok dX9_setWeight_11 (by decide) ?_
    refine g_bipush (v := 99) ok dX9_setWeight_12 (by decide) ?_
    refine g_callSi (st := []) (as := [.inl p2, .inl 0, .inl 99]) ok rfl (k_X9_in h) s_X9_in rfl (by decide) stt_X9_in (gle rfl) rfl q4_83 dX9_setWeight_14 ?_
    intro r4 M3 h
    refine g_if_ne (tgt := 23) ok dX9_setWeight_17 (by decide) (fun z => ?_) (fun z => ?_)
    · have h := h.2 z
      refine g_aload_n ok dX9_setWeight_23 rfl rfl ?_
      refine g_get (w := .inr 44) ok f42_2 (gNm (by decide)) q3_236 dX9_setWeight_24 rfl ?_
      refine g_iload_n ok dX9_setWeight_27 rfl rfl ?_
      have hb := h.1
      have h := h.2
      refine g_iald (w := (M3 44 (Int32.toNatClampNeg p1))) ok a44 (gNm (by decide)) dX9_setWeight_28 hb rfl ?_
      refine g_nm (fun x5 ex5 => ?_)
      have h := h x5 ex5
      refine g_istore_n (lv1 := [some (.inr 42), some (.inl p1), some (.inl p2), some (.inl x5)]) ok dX9_setWeight_29 rfl (glt rfl) rfl ?_
      refine g_aload_n ok dX9_setWeight_30 rfl rfl ?_
      refine g_get (w := .inr 44) ok f42_2 (gNm (by decide)) q3_236 dX9_setWeight_31 rfl ?_
      refine g_iload_n ok dX9_setWeight_34 rfl rfl ?_
      refine g_iload_n ok dX9_setWeight_35 rfl rfl ?_
      have hb := h.1
      have h := h.2
      refine g_iast ok a44 (gNm (by decide)) dX9_setWeight_36 hb (g_mem (fun M6 eM6 => ?_))
      have h := h M6 eM6
      refine g_iload_n ok dX9_setWeight_37 rfl rfl ?_
      exact g_iret ok hZ dX9_setWeight_38 h
    · have h := h.1 z
      refine g_bipush (v := (-3)) ok dX9_setWeight_20 (by decide) ?_
      exact g_iret ok hZ dX9_setWeight_22 h
  · have h := h.2 z
    refine g_iconst (v := (-1)) ok dX9_setWeight_8 (by decide) ?_
    exact g_iret ok hZ dX9_setWeight_9 h
theorem dX9_missedBy_0 : decode cX9_missedBy 0 = .ok (.iconst 0, 1) := by decide +kernel
theorem dX9_missedBy_1 : decode cX9_missedBy 1 = .ok (.istore_n 2, 1) := by decide +kernel
theorem dX9_missedBy_2 : decode cX9_missedBy 2 = .ok (.iconst 0, 1) := by decide +kernel
theorem dX9_missedBy_3 : decode cX9_missedBy 3 = .ok (.istore_n 3, 1) := by decide +kernel
theorem dX9_missedBy_4 : decode cX9_missedBy 4 = .ok (.iload_n 3, 1) := by decide +kernel
theorem dX9_missedBy_5 : decode cX9_missedBy 5 = .ok (.aload_n 0, 1) := by decide +kernel
theorem dX9_missedBy_6 : decode cX9_missedBy 6 = .ok (.invokevirtual 80, 3) := by decide +kernel
theorem dX9_missedBy_9 : decode cX9_missedBy 9 = .ok (.if_icmp .ge 30, 3) := by decide +kernel
theorem dX9_missedBy_12 : decode cX9_missedBy 12 = .ok (.iload_n 2, 1) := by decide +kernel
theorem dX9_missedBy_13 : decode cX9_missedBy 13 = .ok (.aload_n 0, 1) := by decide +kernel
theorem dX9_missedBy_14 : decode cX9_missedBy 14 = .ok (.getfield 7, 3) := by decide +kernel
theorem dX9_missedBy_17 : decode cX9_missedBy 17 = .ok (.iload_n 3, 1) := by decide +kernel
theorem dX9_missedBy_18 : decode cX9_missedBy 18 = .ok (.iaload, 1) := by decide +kernel
theorem dX9_missedBy_19 : decode cX9_missedBy 19 = .ok (.iload_n 1, 1) := by decide +kernel
theorem dX9_missedBy_20 : decode cX9_missedBy 20 = .ok (.iand, 1) := by decide +kernel
theorem dX9_missedBy_21 : decode cX9_missedBy 21 = .ok (.ifCond .ne 9, 3) := by decide +kernel
theorem dX9_missedBy_24 : decode cX9_missedBy 24 = .ok (.iconst 1, 1) := by decide +kernel
theorem dX9_missedBy_25 : decode cX9_missedBy 25 = .ok (.iload_n 3, 1) := by decide +kernel
theorem dX9_missedBy_26 : decode cX9_missedBy 26 = .ok (.ishl, 1) := by decide +kernel
theorem dX9_missedBy_27 : decode cX9_missedBy 27 = .ok (.goto 4, 3) := by decide +kernel
theorem dX9_missedBy_30 : decode cX9_missedBy 30 = .ok (.iconst 0, 1) := by decide +kernel
theorem dX9_missedBy_31 : decode cX9_missedBy 31 = .ok (.ior, 1) := by decide +kernel
theorem dX9_missedBy_32 : decode cX9_missedBy 32 = .ok (.istore_n 2, 1) := by decide +kernel
theorem dX9_missedBy_33 : decode cX9_missedBy 33 = .ok (.iinc 3 1, 3) := by decide +kernel
theorem dX9_missedBy_36 : decode cX9_missedBy 36 = .ok (.goto (-32), 3) := by decide +kernel
theorem dX9_missedBy_39 : decode cX9_missedBy 39 = .ok (.iload_n 2, 1) := by decide +kernel
theorem dX9_missedBy_40 : decode cX9_missedBy 40 = .ok (.ireturn, 1) := by decide +kernel
theorem s_X9_missedBy : gSt yX9_missedBy cX9_missedBy 4 (some .int) 1 := ⟨q4_192, q1_10, ⟨by decide, by decide, by decide +kernel⟩, by decide⟩
theorem sel_X9_missedBy : Cond.selects yX9_missedBy.cls yX9_missedBy yX9_missedBy ∈ gT := qs_32
theorem ins_X9_missedBy : Cond.instanceMethod yX9_missedBy ∈ gT := q4_191
def w_X9_missedBy_L4 (Q : Int32 → gM → Prop) (K39 : Int32 → Int32 → gM → Prop) (v1 : Int32) : Nat → Int32 → Int32 → gM → Prop
  | 0, _, _, _ => False
  | n + 1, v2, v3, M => w_X9_many M (fun (r2 : Int32) (M1 : gM) => gbr ((v3 : Int32) < r2) (vp_in v3 25 ∧ (gbr ((((M1 43 (Int32.toNatClampNeg v3)) &&& v1) : Int32) = 0) (∀ x5 : Int32, x5 = (v2 ||| (1 <<< (v3 &&& 31))) → (∀ x6 : Int32, x6 = (v3 + 1) → (w_X9_missedBy_L4 Q K39 v1 n (x5) (x6) M1))) (∀ x3 : Int32, x3 = (v2 ||| 0) → (∀ x4 : Int32, x4 = (v3 + 1) → (w_X9_missedBy_L4 Q K39 v1 n (x3) (x4) M1))))) (K39 (v2) (v3) M1))
def w_X9_missedBy (p1 : Int32) (M : gM) (Q : Int32 → gM → Prop) : Prop := ∃ nf, w_X9_missedBy_L4 Q (fun (x7 : Int32) (x8 : Int32) (M9 : gM) => Q x7 M9) p1 nf 0 0 M
set_option maxRecDepth 100000 in
set_option maxHeartbeats 4000000 in
theorem w_X9_missedBy_L4_w {X : gX} (ok : gOk X cX9_missedBy yX9_missedBy.cls 1 4 (some .int) gN) {Q : Int32 → gM → Prop} (hZ : gZi X Q) {K39 : Int32 → Int32 → gM → Prop} (v1 : Int32) (hK39 : ∀ (v2 : Int32) (v3 : Int32)  (M : gM), K39 v2 v3 M → gW X 39 [some (.inr 42), some (.inl v1), some (.inl v2), some (.inl v3)] [] M) : ∀ (n : Nat) (v2 : Int32) (v3 : Int32)  (M : gM), w_X9_missedBy_L4 Q K39 v1 n v2 v3 M → gW X 4 [some (.inr 42), some (.inl v1), some (.inl v2), some (.inl v3)] [] M
  | 0, _, _, _, h => h.elim
  | n + 1, v2, v3, M, h => by
    have ih := fun (v2 : Int32) (v3 : Int32)  (M : gM) h => w_X9_missedBy_L4_w ok hZ v1 hK39 n v2 v3  M h
    rw [w_X9_missedBy_L4.eq_2] at h
    refine g_iload_n ok dX9_missedBy_4 rfl rfl ?_
    refine g_aload_n ok dX9_missedBy_5 rfl rfl ?_
    refine g_callVi (st := [.inl v3]) (as := []) ok rfl (k_X9_many h) s_X9_many rfl (by decide) (gNm (by decide)) cl42 sel_X9_many ins_X9_many (gle rfl) rfl q4_110 dX9_missedBy_6 ?_
    intro r2 M1 h
    refine g_icmp_ge (tgt := 39) ok dX9_missedBy_9 (by decide) (fun z => ?_) (fun z => ?_)
    · have h := h.2 z
      exact hK39 (v2) (v3) M1 h
    · have h := h.1 z
      refine g_iload_n ok dX9_missedBy_12 rfl rfl ?_
      refine g_aload_n ok dX9_missedBy_13 rfl rfl ?_
      refine g_get (w := .inr 43) ok f42_1 (gNm (by decide)) q3_235 dX9_missedBy_14 rfl ?_
      refine g_iload_n ok dX9_missedBy_17 rfl rfl ?_
      have hb := h.1
      have h := h.2
      refine g_iald (w := (M1 43 (Int32.toNatClampNeg v3))) ok a43 (gNm (by decide)) dX9_missedBy_18 hb rfl ?_
      refine g_iload_n ok dX9_missedBy_19 rfl rfl ?_
      refine g_iand ok dX9_missedBy_20 ?_
      refine g_if_ne (tgt := 30) ok dX9_missedBy_21 (by decide) (fun z => ?_) (fun z => ?_)
      · have h := h.2 z
        refine g_iconst (v := 0) ok dX9_missedBy_30 (by decide) ?_
        refine g_ior ok dX9_missedBy_31 ?_
        refine g_nm (fun x3 ex3 => ?_)
        have h := h x3 ex3
        refine g_istore_n (lv1 := [some (.inr 42), some (.inl v1), some (.inl x3), some (.inl v3)]) ok dX9_missedBy_32 rfl (glt rfl) rfl ?_
        obtain ⟨x4, ex4⟩ : ∃ y : Int32, y = (v3 + 1) := ⟨_, rfl⟩
        have h := h x4 ex4
        refine g_iinc (v := x4) (lv1 := [some (.inr 42), some (.inl v1), some (.inl x3), some (.inl x4)]) ok dX9_missedBy_33 rfl (by rw [ex4]; rfl) rfl ?_
        refine g_goto (tgt := 4) ok dX9_missedBy_36 (by decide) ?_
        exact ih (x3) (x4) M1 h
      · have h := h.1 z
        refine g_iconst (v := 1) ok dX9_missedBy_24 (by decide) ?_
        refine g_iload_n ok dX9_missedBy_25 rfl rfl ?_
        refine g_ishl ok dX9_missedBy_26 ?_
        refine g_goto (tgt := 31) ok dX9_missedBy_27 (by decide) ?_
        refine g_ior ok dX9_missedBy_31 ?_
        refine g_nm (fun x5 ex5 => ?_)
        have h := h x5 ex5
        refine g_istore_n (lv1 := [some (.inr 42), some (.inl v1), some (.inl x5), some (.inl v3)]) ok dX9_missedBy_32 rfl (glt rfl) rfl ?_
        obtain ⟨x6, ex6⟩ : ∃ y : Int32, y = (v3 + 1) := ⟨_, rfl⟩
        have h := h x6 ex6
        refine g_iinc (v := x6) (lv1 := [some (.inr 42), some (.inl v1), some (.inl x5), some (.inl x6)]) ok dX9_missedBy_33 rfl (by rw [ex6]; rfl) rfl ?_
        refine g_goto (tgt := 4) ok dX9_missedBy_36 (by decide) ?_
        exact ih (x5) (x6) M1 h
set_option maxRecDepth 100000 in
set_option maxHeartbeats 4000000 in
theorem k_X9_missedBy {p1 : Int32} {M : gM} {Q : Int32 → gM → Prop} (h : w_X9_missedBy p1 M Q) : gCi gN 1 yX9_missedBy cX9_missedBy 4 .int [.inr 42, .inl p1] M Q := by
  refine gCi_of (by decide) gNn (gle rfl) (fun X ok hZ => ?_)
  show gW X 0 [some (.inr 42), some (.inl p1), none, none] [] M
  unfold w_X9_missedBy at h
  refine g_iconst (v := 0) ok dX9_missedBy_0 (by decide) ?_
  refine g_istore_n (lv1 := [some (.inr 42), some (.inl p1), some (.inl 0), none]) ok dX9_missedBy_1 rfl (glt rfl) rfl ?_
  refine g_iconst (v := 0) ok dX9_missedBy_2 (by decide) ?_
  refine g_istore_n (lv1 := [some (.inr 42), some (.inl p1), some (.inl 0), some (.inl 0)]) ok dX9_missedBy_3 rfl (glt rfl) rfl ?_
  obtain ⟨nf, h⟩ := h
  refine w_X9_missedBy_L4_w ok hZ p1 ?_ nf 0 0  M h
  · intro x7 x8  M9 h
    refine g_iload_n ok dX9_missedBy_39 rfl rfl ?_
    exact g_iret ok hZ dX9_missedBy_40 h
theorem dX9_privateTo_0 : decode cX9_privateTo 0 = .ok (.iconst 0, 1) := by decide +kernel
theorem dX9_privateTo_1 : decode cX9_privateTo 1 = .ok (.istore_n 3, 1) := by decide +kernel
theorem dX9_privateTo_2 : decode cX9_privateTo 2 = .ok (.iconst 0, 1) := by decide +kernel
theorem dX9_privateTo_3 : decode cX9_privateTo 3 = .ok (.istore 4, 2) := by decide +kernel
theorem dX9_privateTo_5 : decode cX9_privateTo 5 = .ok (.iload 4, 2) := by decide +kernel
theorem dX9_privateTo_7 : decode cX9_privateTo 7 = .ok (.aload_n 0, 1) := by decide +kernel
theorem dX9_privateTo_8 : decode cX9_privateTo 8 = .ok (.invokevirtual 80, 3) := by decide +kernel
theorem dX9_privateTo_11 : decode cX9_privateTo 11 = .ok (.if_icmp .ge 35, 3) := by decide +kernel
theorem dX9_privateTo_14 : decode cX9_privateTo 14 = .ok (.iload_n 3, 1) := by decide +kernel
theorem dX9_privateTo_15 : decode cX9_privateTo 15 = .ok (.aload_n 0, 1) := by decide +kernel
theorem dX9_privateTo_16 : decode cX9_privateTo 16 = .ok (.getfield 7, 3) := by decide +kernel
theorem dX9_privateTo_19 : decode cX9_privateTo 19 = .ok (.iload 4, 2) := by decide +kernel
theorem dX9_privateTo_21 : decode cX9_privateTo 21 = .ok (.iaload, 1) := by decide +kernel
theorem dX9_privateTo_22 : decode cX9_privateTo 22 = .ok (.iload_n 1, 1) := by decide +kernel
theorem dX9_privateTo_23 : decode cX9_privateTo 23 = .ok (.iand, 1) := by decide +kernel
theorem dX9_privateTo_24 : decode cX9_privateTo 24 = .ok (.iconst 1, 1) := by decide +kernel
theorem dX9_privateTo_25 : decode cX9_privateTo 25 = .ok (.iload_n 2, 1) := by decide +kernel
theorem dX9_privateTo_26 : decode cX9_privateTo 26 = .ok (.ishl, 1) := by decide +kernel
theorem dX9_privateTo_27 : decode cX9_privateTo 27 = .ok (.if_icmp .ne 10, 3) := by decide +kernel
theorem dX9_privateTo_30 : decode cX9_privateTo 30 = .ok (.iconst 1, 1) := by decide +kernel
theorem dX9_privateTo_31 : decode cX9_privateTo 31 = .ok (.iload 4, 2) := by decide +kernel
theorem dX9_privateTo_33 : decode cX9_privateTo 33 = .ok (.ishl, 1) := by decide +kernel
theorem dX9_privateTo_34 : decode cX9_privateTo 34 = .ok (.goto 4, 3) := by decide +kernel
theorem dX9_privateTo_37 : decode cX9_privateTo 37 = .ok (.iconst 0, 1) := by decide +kernel
theorem dX9_privateTo_38 : decode cX9_privateTo 38 = .ok (.ior, 1) := by decide +kernel
theorem dX9_privateTo_39 : decode cX9_privateTo 39 = .ok (.istore_n 3, 1) := by decide +kernel
theorem dX9_privateTo_40 : decode cX9_privateTo 40 = .ok (.iinc 4 1, 3) := by decide +kernel
theorem dX9_privateTo_43 : decode cX9_privateTo 43 = .ok (.goto (-38), 3) := by decide +kernel
theorem dX9_privateTo_46 : decode cX9_privateTo 46 = .ok (.iload_n 3, 1) := by decide +kernel
theorem dX9_privateTo_47 : decode cX9_privateTo 47 = .ok (.ireturn, 1) := by decide +kernel
theorem s_X9_privateTo : gSt yX9_privateTo cX9_privateTo 5 (some .int) 2 := ⟨q4_200, q1_10, ⟨by decide, by decide, by decide +kernel⟩, by decide⟩
theorem sel_X9_privateTo : Cond.selects yX9_privateTo.cls yX9_privateTo yX9_privateTo ∈ gT := qs_33
theorem ins_X9_privateTo : Cond.instanceMethod yX9_privateTo ∈ gT := q4_199
def w_X9_privateTo_L5 (Q : Int32 → gM → Prop) (K46 : Int32 → Int32 → gM → Prop) (v1 : Int32) (v2 : Int32) : Nat → Int32 → Int32 → gM → Prop
  | 0, _, _, _ => False
  | n + 1, v3, v4, M => w_X9_many M (fun (r2 : Int32) (M1 : gM) => gbr ((v4 : Int32) < r2) (vp_in v4 25 ∧ (gbr ((((M1 43 (Int32.toNatClampNeg v4)) &&& v1) : Int32) = (1 <<< (v2 &&& 31))) (∀ x5 : Int32, x5 = (v3 ||| (1 <<< (v4 &&& 31))) → (∀ x6 : Int32, x6 = (v4 + 1) → (w_X9_privateTo_L5 Q K46 v1 v2 n (x5) (x6) M1))) (∀ x3 : Int32, x3 = (v3 ||| 0) → (∀ x4 : Int32, x4 = (v4 + 1) → (w_X9_privateTo_L5 Q K46 v1 v2 n (x3) (x4) M1))))) (K46 (v3) (v4) M1))
def w_X9_privateTo (p1 : Int32) (p2 : Int32) (M : gM) (Q : Int32 → gM → Prop) : Prop := ∃ nf, w_X9_privateTo_L5 Q (fun (x7 : Int32) (x8 : Int32) (M9 : gM) => Q x7 M9) p1 p2 nf 0 0 M
set_option maxRecDepth 100000 in
set_option maxHeartbeats 4000000 in
theorem w_X9_privateTo_L5_w {X : gX} (ok : gOk X cX9_privateTo yX9_privateTo.cls 1 5 (some .int) gN) {Q : Int32 → gM → Prop} (hZ : gZi X Q) {K46 : Int32 → Int32 → gM → Prop} (v1 : Int32) (v2 : Int32) (hK46 : ∀ (v3 : Int32) (v4 : Int32)  (M : gM), K46 v3 v4 M → gW X 46 [some (.inr 42), some (.inl v1), some (.inl v2), some (.inl v3), some (.inl v4)] [] M) : ∀ (n : Nat) (v3 : Int32) (v4 : Int32)  (M : gM), w_X9_privateTo_L5 Q K46 v1 v2 n v3 v4 M → gW X 5 [some (.inr 42), some (.inl v1), some (.inl v2), some (.inl v3), some (.inl v4)] [] M
  | 0, _, _, _, h => h.elim
  | n + 1, v3, v4, M, h => by
    have ih := fun (v3 : Int32) (v4 : Int32)  (M : gM) h => w_X9_privateTo_L5_w ok hZ v1 v2 hK46 n v3 v4  M h
    rw [w_X9_privateTo_L5.eq_2] at h
    refine g_iload ok dX9_privateTo_5 rfl ?_
    refine g_aload_n ok dX9_privateTo_7 rfl rfl ?_
    refine g_callVi (st := [.inl v4]) (as := []) ok rfl (k_X9_many h) s_X9_many rfl (by decide) (gNm (by decide)) cl42 sel_X9_many ins_X9_many (gle rfl) rfl q4_110 dX9_privateTo_8 ?_
    intro r2 M1 h
    refine g_icmp_ge (tgt := 46) ok dX9_privateTo_11 (by decide) (fun z => ?_) (fun z => ?_)
    · have h := h.2 z
      exact hK46 (v3) (v4) M1 h
    · have h := h.1 z
      refine g_iload_n ok dX9_privateTo_14 rfl rfl ?_
      refine g_aload_n ok dX9_privateTo_15 rfl rfl ?_
      refine g_get (w := .inr 43) ok f42_1 (gNm (by decide)) q3_235 dX9_privateTo_16 rfl ?_
      refine g_iload ok dX9_privateTo_19 rfl ?_
      have hb := h.1
      have h := h.2
      refine g_iald (w := (M1 43 (Int32.toNatClampNeg v4))) ok a43 (gNm (by decide)) dX9_privateTo_21 hb rfl ?_
      refine g_iload_n ok dX9_privateTo_22 rfl rfl ?_
      refine g_iand ok dX9_privateTo_23 ?_
      refine g_iconst (v := 1) ok dX9_privateTo_24 (by decide) ?_
      refine g_iload_n ok dX9_privateTo_25 rfl rfl ?_
      refine g_ishl ok dX9_privateTo_26 ?_
      refine g_icmp_ne (tgt := 37) ok dX9_privateTo_27 (by decide) (fun z => ?_) (fun z => ?_)
      · have h := h.2 z
        refine g_iconst (v := 0) ok dX9_privateTo_37 (by decide) ?_
        refine g_ior ok dX9_privateTo_38 ?_
        refine g_nm (fun x3 ex3 => ?_)
        have h := h x3 ex3
        refine g_istore_n (lv1 := [some (.inr 42), some (.inl v1), some (.inl v2), some (.inl x3), some (.inl v4)]) ok dX9_privateTo_39 rfl (glt rfl) rfl ?_
        obtain ⟨x4, ex4⟩ : ∃ y : Int32, y = (v4 + 1) := ⟨_, rfl⟩
        have h := h x4 ex4
        refine g_iinc (v := x4) (lv1 := [some (.inr 42), some (.inl v1), some (.inl v2), some (.inl x3), some (.inl x4)]) ok dX9_privateTo_40 rfl (by rw [ex4]; rfl) rfl ?_
        refine g_goto (tgt := 5) ok dX9_privateTo_43 (by decide) ?_
        exact ih (x3) (x4) M1 h
      · have h := h.1 z
        refine g_iconst (v := 1) ok dX9_privateTo_30 (by decide) ?_
        refine g_iload ok dX9_privateTo_31 rfl ?_
        refine g_ishl ok dX9_privateTo_33 ?_
        refine g_goto (tgt := 38) ok dX9_privateTo_34 (by decide) ?_
        refine g_ior ok dX9_privateTo_38 ?_
        refine g_nm (fun x5 ex5 => ?_)
        have h := h x5 ex5
        refine g_istore_n (lv1 := [some (.inr 42), some (.inl v1), some (.inl v2), some (.inl x5), some (.inl v4)]) ok dX9_privateTo_39 rfl (glt rfl) rfl ?_
        obtain ⟨x6, ex6⟩ : ∃ y : Int32, y = (v4 + 1) := ⟨_, rfl⟩
        have h := h x6 ex6
        refine g_iinc (v := x6) (lv1 := [some (.inr 42), some (.inl v1), some (.inl v2), some (.inl x5), some (.inl x6)]) ok dX9_privateTo_40 rfl (by rw [ex6]; rfl) rfl ?_
        refine g_goto (tgt := 5) ok dX9_privateTo_43 (by decide) ?_
        exact ih (x5) (x6) M1 h
set_option maxRecDepth 100000 in
set_option maxHeartbeats 4000000 in
theorem k_X9_privateTo {p1 : Int32} {p2 : Int32} {M : gM} {Q : Int32 → gM → Prop} (h : w_X9_privateTo p1 p2 M Q) : gCi gN 1 yX9_privateTo cX9_privateTo 5 .int [.inr 42, .inl p1, .inl p2] M Q := by
  refine gCi_of (by decide) gNn (gle rfl) (fun X ok hZ => ?_)
  show gW X 0 [some (.inr 42), some (.inl p1), some (.inl p2), none, none] [] M
  unfold w_X9_privateTo at h
  refine g_iconst (v := 0) ok dX9_privateTo_0 (by decide) ?_
  refine g_istore_n (lv1 := [some (.inr 42), some (.inl p1), some (.inl p2), some (.inl 0), none]) ok dX9_privateTo_1 rfl (glt rfl) rfl ?_
  refine g_iconst (v := 0) ok dX9_privateTo_2 (by decide) ?_
  refine g_istore (lv1 := [some (.inr 42), some (.inl p1), some (.inl p2), some (.inl 0), some (.inl 0)]) ok dX9_privateTo_3 (glt rfl) rfl ?_
  obtain ⟨nf, h⟩ := h
  refine w_X9_privateTo_L5_w ok hZ p1 p2 ?_ nf 0 0  M h
  · intro x7 x8  M9 h
    refine g_iload_n ok dX9_privateTo_46 rfl rfl ?_
    exact g_iret ok hZ dX9_privateTo_47 h
theorem dX9_haveAllPrivate_0 : decode cX9_haveAllPrivate 0 = .ok (.iconst 1, 1) := by decide +kernel
theorem dX9_haveAllPrivate_1 : decode cX9_haveAllPrivate 1 = .ok (.istore_n 2, 1) := by decide +kernel
theorem dX9_haveAllPrivate_2 : decode cX9_haveAllPrivate 2 = .ok (.iconst 0, 1) := by decide +kernel
theorem dX9_haveAllPrivate_3 : decode cX9_haveAllPrivate 3 = .ok (.istore_n 3, 1) := by decide +kernel
theorem dX9_haveAllPrivate_4 : decode cX9_haveAllPrivate 4 = .ok (.iload_n 3, 1) := by decide +kernel
theorem dX9_haveAllPrivate_5 : decode cX9_haveAllPrivate 5 = .ok (.aload_n 0, 1) := by decide +kernel
theorem dX9_haveAllPrivate_6 : decode cX9_haveAllPrivate 6 = .ok (.getfield 59, 3) := by decide +kernel
theorem dX9_haveAllPrivate_9 : decode cX9_haveAllPrivate 9 = .ok (.if_icmp .ge 36, 3) := by decide +kernel
theorem dX9_haveAllPrivate_12 : decode cX9_haveAllPrivate 12 = .ok (.iload_n 2, 1) := by decide +kernel
theorem dX9_haveAllPrivate_13 : decode cX9_haveAllPrivate 13 = .ok (.ifCond .eq 24, 3) := by decide +kernel
theorem dX9_haveAllPrivate_16 : decode cX9_haveAllPrivate 16 = .ok (.iload_n 1, 1) := by decide +kernel
theorem dX9_haveAllPrivate_17 : decode cX9_haveAllPrivate 17 = .ok (.iload_n 3, 1) := by decide +kernel
theorem dX9_haveAllPrivate_18 : decode cX9_haveAllPrivate 18 = .ok (.ishr, 1) := by decide +kernel
theorem dX9_haveAllPrivate_19 : decode cX9_haveAllPrivate 19 = .ok (.iconst 1, 1) := by decide +kernel
theorem dX9_haveAllPrivate_20 : decode cX9_haveAllPrivate 20 = .ok (.iand, 1) := by decide +kernel
theorem dX9_haveAllPrivate_21 : decode cX9_haveAllPrivate 21 = .ok (.ifCond .eq 12, 3) := by decide +kernel
theorem dX9_haveAllPrivate_24 : decode cX9_haveAllPrivate 24 = .ok (.aload_n 0, 1) := by decide +kernel
theorem dX9_haveAllPrivate_25 : decode cX9_haveAllPrivate 25 = .ok (.iload_n 1, 1) := by decide +kernel
theorem dX9_haveAllPrivate_26 : decode cX9_haveAllPrivate 26 = .ok (.iload_n 3, 1) := by decide +kernel
theorem dX9_haveAllPrivate_27 : decode cX9_haveAllPrivate 27 = .ok (.invokevirtual 122, 3) := by decide +kernel
theorem dX9_haveAllPrivate_30 : decode cX9_haveAllPrivate 30 = .ok (.ifCond .eq 7, 3) := by decide +kernel
theorem dX9_haveAllPrivate_33 : decode cX9_haveAllPrivate 33 = .ok (.iconst 1, 1) := by decide +kernel
theorem dX9_haveAllPrivate_34 : decode cX9_haveAllPrivate 34 = .ok (.goto 4, 3) := by decide +kernel
theorem dX9_haveAllPrivate_37 : decode cX9_haveAllPrivate 37 = .ok (.iconst 0, 1) := by decide +kernel
theorem dX9_haveAllPrivate_38 : decode cX9_haveAllPrivate 38 = .ok (.istore_n 2, 1) := by decide +kernel
theorem dX9_haveAllPrivate_39 : decode cX9_haveAllPrivate 39 = .ok (.iinc 3 1, 3) := by decide +kernel
theorem dX9_haveAllPrivate_42 : decode cX9_haveAllPrivate 42 = .ok (.goto (-38), 3) := by decide +kernel
theorem dX9_haveAllPrivate_45 : decode cX9_haveAllPrivate 45 = .ok (.iload_n 2, 1) := by decide +kernel
theorem dX9_haveAllPrivate_46 : decode cX9_haveAllPrivate 46 = .ok (.ireturn, 1) := by decide +kernel
theorem s_X9_haveAllPrivate : gSt yX9_haveAllPrivate cX9_haveAllPrivate 4 (some .boolean) 1 := ⟨q4_208, q1_10, ⟨by decide, by decide, by decide +kernel⟩, by decide⟩
theorem sel_X9_haveAllPrivate : Cond.selects yX9_haveAllPrivate.cls yX9_haveAllPrivate yX9_haveAllPrivate ∈ gT := qs_34
theorem ins_X9_haveAllPrivate : Cond.instanceMethod yX9_haveAllPrivate ∈ gT := q4_207
def w_X9_haveAllPrivate_L4 (Q : Int32 → gM → Prop) (K45 : Int32 → Int32 → gM → Prop) (v1 : Int32) : Nat → Int32 → Int32 → gM → Prop
  | 0, _, _, _ => False
  | n + 1, v2, v3, M => gbr ((v3 : Int32) < (M 42 0)) (gbr ((v2 : Int32) = 0) (∀ x1 : Int32, x1 = (v3 + 1) → (w_X9_haveAllPrivate_L4 Q K45 v1 n (0) (x1) M)) (gbr ((((v1 >>> (v3 &&& 31)) &&& 1) : Int32) = 0) (∀ x2 : Int32, x2 = (v3 + 1) → (w_X9_haveAllPrivate_L4 Q K45 v1 n (1) (x2) M)) (w_X9_privateTo v1 v3 M (fun (r4 : Int32) (M3 : gM) => gbr ((r4 : Int32) = 0) (∀ x5 : Int32, x5 = (v3 + 1) → (w_X9_haveAllPrivate_L4 Q K45 v1 n (0) (x5) M3)) (∀ x6 : Int32, x6 = (v3 + 1) → (w_X9_haveAllPrivate_L4 Q K45 v1 n (1) (x6) M3)))))) (K45 (v2) (v3) M)
def w_X9_haveAllPrivate (p1 : Int32) (M : gM) (Q : Int32 → gM → Prop) : Prop := ∃ nf, w_X9_haveAllPrivate_L4 Q (fun (x7 : Int32) (x8 : Int32) (M9 : gM) => (x7 = 0 ∨ x7 = 1) ∧ Q x7 M9) p1 nf 1 0 M
set_option maxRecDepth 100000 in
set_option maxHeartbeats 4000000 in
theorem w_X9_haveAllPrivate_L4_w {X : gX} (ok : gOk X cX9_haveAllPrivate yX9_haveAllPrivate.cls 2 4 (some .boolean) gN) {Q : Int32 → gM → Prop} (hZ : gZi X Q) {K45 : Int32 → Int32 → gM → Prop} (v1 : Int32) (hK45 : ∀ (v2 : Int32) (v3 : Int32)  (M : gM), K45 v2 v3 M → gW X 45 [some (.inr 42), some (.inl v1), some (.inl v2), some (.inl v3)] [] M) : ∀ (n : Nat) (v2 : Int32) (v3 : Int32)  (M : gM), w_X9_haveAllPrivate_L4 Q K45 v1 n v2 v3 M → gW X 4 [some (.inr 42), some (.inl v1), some (.inl v2), some (.inl v3)] [] M
  | 0, _, _, _, h => h.elim
  | n + 1, v2, v3, M, h => by
    have ih := fun (v2 : Int32) (v3 : Int32)  (M : gM) h => w_X9_haveAllPrivate_L4_w ok hZ v1 hK45 n v2 v3  M h
    rw [w_X9_haveAllPrivate_L4.eq_2] at h
    refine g_iload_n ok dX9_haveAllPrivate_4 rfl rfl ?_
    refine g_aload_n ok dX9_haveAllPrivate_5 rfl rfl ?_
    refine g_get (w := .inl (M 42 0)) ok f42_0 (gNm (by decide)) q3_234 dX9_haveAllPrivate_6 rfl ?_
    refine g_icmp_ge (tgt := 45) ok dX9_haveAllPrivate_9 (by decide) (fun z => ?_) (fun z => ?_)
    · have h := h.2 z
      exact hK45 (v2) (v3) M h
    · have h := h.1 z
      refine g_iload_n ok dX9_haveAllPrivate_12 rfl rfl ?_
      refine g_if_eq (tgt := 37) ok dX9_haveAllPrivate_13 (by decide) (fun z => ?_) (fun z => ?_)
      · have h := h.1 z
        refine g_iconst (v := 0) ok dX9_haveAllPrivate_37 (by decide) ?_
        refine g_istore_n (lv1 := [some (.inr 42), some (.inl v1), some (.inl 0), some (.inl v3)]) ok dX9_haveAllPrivate_38 rfl (glt rfl) rfl ?_
        obtain ⟨x1, ex1⟩ : ∃ y : Int32, y = (v3 + 1) := ⟨_, rfl⟩
        have h := h x1 ex1
        refine g_iinc (v := x1) (lv1 := [some (.inr 42), some (.inl v1), some (.inl 0), some (.inl x1)]) ok dX9_haveAllPrivate_39 rfl (by rw [ex1]; rfl) rfl ?_
        refine g_goto (tgt := 4) ok dX9_haveAllPrivate_42 (by decide) ?_
        exact ih (0) (x1) M h
      · have h := h.2 z
        refine g_iload_n ok dX9_haveAllPrivate_16 rfl rfl ?_
        refine g_iload_n ok dX9_haveAllPrivate_17 rfl rfl ?_
        refine g_ishr ok dX9_haveAllPrivate_18 ?_
        refine g_iconst (v := 1) ok dX9_haveAllPrivate_19 (by decide) ?_
        refine g_iand ok dX9_haveAllPrivate_20 ?_
        refine g_if_eq (tgt := 33) ok dX9_haveAllPrivate_21 (by decide) (fun z => ?_) (fun z => ?_)
        · have h := h.1 z
          refine g_iconst (v := 1) ok dX9_haveAllPrivate_33 (by decide) ?_
          refine g_goto (tgt := 38) ok dX9_haveAllPrivate_34 (by decide) ?_
          refine g_istore_n (lv1 := [some (.inr 42), some (.inl v1), some (.inl 1), some (.inl v3)]) ok dX9_haveAllPrivate_38 rfl (glt rfl) rfl ?_
          obtain ⟨x2, ex2⟩ : ∃ y : Int32, y = (v3 + 1) := ⟨_, rfl⟩
          have h := h x2 ex2
          refine g_iinc (v := x2) (lv1 := [some (.inr 42), some (.inl v1), some (.inl 1), some (.inl x2)]) ok dX9_haveAllPrivate_39 rfl (by rw [ex2]; rfl) rfl ?_
          refine g_goto (tgt := 4) ok dX9_haveAllPrivate_42 (by decide) ?_
          exact ih (1) (x2) M h
        · have h := h.2 z
          refine g_aload_n ok dX9_haveAllPrivate_24 rfl rfl ?_
          refine g_iload_n ok dX9_haveAllPrivate_25 rfl rfl ?_
          refine g_iload_n ok dX9_haveAllPrivate_26 rfl rfl ?_
          refine g_callVi (st := []) (as := [.inl v1, .inl v3]) ok rfl (k_X9_privateTo h) s_X9_privateTo rfl (by decide) (gNm (by decide)) cl42 sel_X9_privateTo ins_X9_privateTo (gle rfl) rfl q4_197 dX9_haveAllPrivate_27 ?_
          intro r4 M3 h
          refine g_if_eq (tgt := 37) ok dX9_haveAllPrivate_30 (by decide) (fun z => ?_) (fun z => ?_)
          · have h := h.1 z
            refine g_iconst (v := 0) ok dX9_haveAllPrivate_37 (by decide) ?_
            refine g_istore_n (lv1 := [some (.inr 42), some (.inl v1), some (.inl 0), some (.inl v3)]) ok dX9_haveAllPrivate_38 rfl (glt rfl) rfl ?_
            obtain ⟨x5, ex5⟩ : ∃ y : Int32, y = (v3 + 1) := ⟨_, rfl⟩
            have h := h x5 ex5
            refine g_iinc (v := x5) (lv1 := [some (.inr 42), some (.inl v1), some (.inl 0), some (.inl x5)]) ok dX9_haveAllPrivate_39 rfl (by rw [ex5]; rfl) rfl ?_
            refine g_goto (tgt := 4) ok dX9_haveAllPrivate_42 (by decide) ?_
            exact ih (0) (x5) M3 h
          · have h := h.2 z
            refine g_iconst (v := 1) ok dX9_haveAllPrivate_33 (by decide) ?_
            refine g_goto (tgt := 38) ok dX9_haveAllPrivate_34 (by decide) ?_
            refine g_istore_n (lv1 := [some (.inr 42), some (.inl v1), some (.inl 1), some (.inl v3)]) ok dX9_haveAllPrivate_38 rfl (glt rfl) rfl ?_
            obtain ⟨x6, ex6⟩ : ∃ y : Int32, y = (v3 + 1) := ⟨_, rfl⟩
            have h := h x6 ex6
            refine g_iinc (v := x6) (lv1 := [some (.inr 42), some (.inl v1), some (.inl 1), some (.inl x6)]) ok dX9_haveAllPrivate_39 rfl (by rw [ex6]; rfl) rfl ?_
            refine g_goto (tgt := 4) ok dX9_haveAllPrivate_42 (by decide) ?_
            exact ih (1) (x6) M3 h
set_option maxRecDepth 100000 in
set_option maxHeartbeats 4000000 in
theorem k_X9_haveAllPrivate {p1 : Int32} {M : gM} {Q : Int32 → gM → Prop} (h : w_X9_haveAllPrivate p1 M Q) : gCi gN 2 yX9_haveAllPrivate cX9_haveAllPrivate 4 .boolean [.inr 42, .inl p1] M Q := by
  refine gCi_of (by decide) gNn (gle rfl) (fun X ok hZ => ?_)
  show gW X 0 [some (.inr 42), some (.inl p1), none, none] [] M
  unfold w_X9_haveAllPrivate at h
  refine g_iconst (v := 1) ok dX9_haveAllPrivate_0 (by decide) ?_
  refine g_istore_n (lv1 := [some (.inr 42), some (.inl p1), some (.inl 1), none]) ok dX9_haveAllPrivate_1 rfl (glt rfl) rfl ?_
  refine g_iconst (v := 0) ok dX9_haveAllPrivate_2 (by decide) ?_
  refine g_istore_n (lv1 := [some (.inr 42), some (.inl p1), some (.inl 1), some (.inl 0)]) ok dX9_haveAllPrivate_3 rfl (glt rfl) rfl ?_
  obtain ⟨nf, h⟩ := h
  refine w_X9_haveAllPrivate_L4_w ok hZ p1 ?_ nf 1 0  M h
  · intro x7 x8  M9 h
    refine g_iload_n ok dX9_haveAllPrivate_45 rfl rfl ?_
    exact g_zret ok hZ dX9_haveAllPrivate_46 (zb h.1) h.2
theorem dX9_missed_0 : decode cX9_missed 0 = .ok (.aload_n 0, 1) := by decide +kernel
theorem dX9_missed_1 : decode cX9_missed 1 = .ok (.iload_n 1, 1) := by decide +kernel
theorem dX9_missed_2 : decode cX9_missed 2 = .ok (.invokevirtual 83, 3) := by decide +kernel
theorem dX9_missed_5 : decode cX9_missed 5 = .ok (.ifCond .eq 8, 3) := by decide +kernel
theorem dX9_missed_8 : decode cX9_missed 8 = .ok (.bipush (-3), 2) := by decide +kernel
theorem dX9_missed_10 : decode cX9_missed 10 = .ok (.goto 8, 3) := by decide +kernel
theorem dX9_missed_13 : decode cX9_missed 13 = .ok (.aload_n 0, 1) := by decide +kernel
theorem dX9_missed_14 : decode cX9_missed 14 = .ok (.iload_n 1, 1) := by decide +kernel
theorem dX9_missed_15 : decode cX9_missed 15 = .ok (.invokevirtual 126, 3) := by decide +kernel
theorem dX9_missed_18 : decode cX9_missed 18 = .ok (.ireturn, 1) := by decide +kernel
theorem s_X9_missed : gSt yX9_missed cX9_missed 2 (some .int) 1 := ⟨q4_188, q1_10, ⟨by decide, by decide, by decide +kernel⟩, by decide⟩
theorem sel_X9_missed : Cond.selects yX9_missed.cls yX9_missed yX9_missed ∈ gT := q4_187
theorem ins_X9_missed : Cond.instanceMethod yX9_missed ∈ gT := q4_186
def w_X9_missed (p1 : Int32) (M : gM) (Q : Int32 → gM → Prop) : Prop := w_X9_noSet p1 M (fun (r2 : Int32) (M1 : gM) => gbr ((r2 : Int32) = 0) (w_X9_missedBy p1 M1 (fun (r4 : Int32) (M3 : gM) => Q r4 M3)) (Q (-3) M1))
set_option maxRecDepth 100000 in
set_option maxHeartbeats 4000000 in
theorem k_X9_missed {p1 : Int32} {M : gM} {Q : Int32 → gM → Prop} (h : w_X9_missed p1 M Q) : gCi gN 2 yX9_missed cX9_missed 2 .int [.inr 42, .inl p1] M Q := by
  refine gCi_of (by decide) gNn (gle rfl) (fun X ok hZ => ?_)
  show gW X 0 [some (.inr 42), some (.inl p1)] [] M
  unfold w_X9_missed at h
  refine g_aload_n ok dX9_missed_0 rfl rfl ?_
  refine g_iload_n ok dX9_missed_1 rfl rfl ?_
  refine g_callVi (st := []) (as := [.inl p1]) ok rfl (k_X9_noSet h) s_X9_noSet rfl (by decide) (gNm (by decide)) cl42 sel_X9_noSet ins_X9_noSet (gle rfl) rfl q4_98 dX9_missed_2 ?_
  intro r2 M1 h
  refine g_if_eq (tgt := 13) ok dX9_missed_5 (by decide) (fun z => ?_) (fun z => ?_)
  · have h := h.1 z
    refine g_aload_n ok dX9_missed_13 rfl rfl ?_
    refine g_iload_n ok dX9_missed_14 rfl rfl ?_
    refine g_callVi (st := []) (as := [.inl p1]) ok rfl (k_X9_missedBy h) s_X9_missedBy rfl (by decide) (gNm (by decide)) cl42 sel_X9_missedBy ins_X9_missedBy (gle rfl) rfl q4_189 dX9_missed_15 ?_
    intro r4 M3 h
    exact g_iret ok hZ dX9_missed_18 h
  · have h := h.2 z
    refine g_bipush (v := (-3)) ok dX9_missed_8 (by decide) ?_
    refine g_goto (tgt := 18) ok dX9_missed_10 (by decide) ?_
    exact g_iret ok hZ dX9_missed_18 h
theorem dX9_privateEdges_0 : decode cX9_privateEdges 0 = .ok (.aload_n 0, 1) := by decide +kernel
theorem dX9_privateEdges_1 : decode cX9_privateEdges 1 = .ok (.iload_n 1, 1) := by decide +kernel
theorem dX9_privateEdges_2 : decode cX9_privateEdges 2 = .ok (.invokevirtual 83, 3) := by decide +kernel
theorem dX9_privateEdges_5 : decode cX9_privateEdges 5 = .ok (.ifCond .eq 6, 3) := by decide +kernel
theorem dX9_privateEdges_8 : decode cX9_privateEdges 8 = .ok (.bipush (-3), 2) := by decide +kernel
theorem dX9_privateEdges_10 : decode cX9_privateEdges 10 = .ok (.ireturn, 1) := by decide +kernel
theorem dX9_privateEdges_11 : decode cX9_privateEdges 11 = .ok (.aload_n 0, 1) := by decide +kernel
theorem dX9_privateEdges_12 : decode cX9_privateEdges 12 = .ok (.iload_n 2, 1) := by decide +kernel
theorem dX9_privateEdges_13 : decode cX9_privateEdges 13 = .ok (.invokevirtual 113, 3) := by decide +kernel
theorem dX9_privateEdges_16 : decode cX9_privateEdges 16 = .ok (.ifCond .eq 5, 3) := by decide +kernel
theorem dX9_privateEdges_19 : decode cX9_privateEdges 19 = .ok (.iconst (-1), 1) := by decide +kernel
theorem dX9_privateEdges_20 : decode cX9_privateEdges 20 = .ok (.ireturn, 1) := by decide +kernel
theorem dX9_privateEdges_21 : decode cX9_privateEdges 21 = .ok (.iload_n 1, 1) := by decide +kernel
theorem dX9_privateEdges_22 : decode cX9_privateEdges 22 = .ok (.iload_n 2, 1) := by decide +kernel
theorem dX9_privateEdges_23 : decode cX9_privateEdges 23 = .ok (.ishr, 1) := by decide +kernel
theorem dX9_privateEdges_24 : decode cX9_privateEdges 24 = .ok (.iconst 1, 1) := by decide +kernel
theorem dX9_privateEdges_25 : decode cX9_privateEdges 25 = .ok (.iand, 1) := by decide +kernel
theorem dX9_privateEdges_26 : decode cX9_privateEdges 26 = .ok (.ifCond .ne 8, 3) := by decide +kernel
theorem dX9_privateEdges_29 : decode cX9_privateEdges 29 = .ok (.bipush (-7), 2) := by decide +kernel
theorem dX9_privateEdges_31 : decode cX9_privateEdges 31 = .ok (.goto 9, 3) := by decide +kernel
theorem dX9_privateEdges_34 : decode cX9_privateEdges 34 = .ok (.aload_n 0, 1) := by decide +kernel
theorem dX9_privateEdges_35 : decode cX9_privateEdges 35 = .ok (.iload_n 1, 1) := by decide +kernel
theorem dX9_privateEdges_36 : decode cX9_privateEdges 36 = .ok (.iload_n 2, 1) := by decide +kernel
theorem dX9_privateEdges_37 : decode cX9_privateEdges 37 = .ok (.invokevirtual 122, 3) := by decide +kernel
theorem dX9_privateEdges_40 : decode cX9_privateEdges 40 = .ok (.ireturn, 1) := by decide +kernel
theorem s_X9_privateEdges : gSt yX9_privateEdges cX9_privateEdges 3 (some .int) 2 := ⟨q4_196, q1_10, ⟨by decide, by decide, by decide +kernel⟩, by decide⟩
theorem sel_X9_privateEdges : Cond.selects yX9_privateEdges.cls yX9_privateEdges yX9_privateEdges ∈ gT := q4_195
theorem ins_X9_privateEdges : Cond.instanceMethod yX9_privateEdges ∈ gT := q4_194
def w_X9_privateEdges (p1 : Int32) (p2 : Int32) (M : gM) (Q : Int32 → gM → Prop) : Prop := w_X9_noSet p1 M (fun (r2 : Int32) (M1 : gM) => gbr ((r2 : Int32) = 0) (w_X9_noVertex p2 M1 (fun (r4 : Int32) (M3 : gM) => gbr ((r4 : Int32) = 0) (gbr ((((p1 >>> (p2 &&& 31)) &&& 1) : Int32) = 0) (Q (-7) M3) (w_X9_privateTo p1 p2 M3 (fun (r6 : Int32) (M5 : gM) => Q r6 M5))) (Q (-1) M3))) (Q (-3) M1))
set_option maxRecDepth 100000 in
set_option maxHeartbeats 4000000 in
theorem k_X9_privateEdges {p1 : Int32} {p2 : Int32} {M : gM} {Q : Int32 → gM → Prop} (h : w_X9_privateEdges p1 p2 M Q) : gCi gN 2 yX9_privateEdges cX9_privateEdges 3 .int [.inr 42, .inl p1, .inl p2] M Q := by
  refine gCi_of (by decide) gNn (gle rfl) (fun X ok hZ => ?_)
  show gW X 0 [some (.inr 42), some (.inl p1), some (.inl p2)] [] M
  unfold w_X9_privateEdges at h
  refine g_aload_n ok dX9_privateEdges_0 rfl rfl ?_
  refine g_iload_n ok dX9_privateEdges_1 rfl rfl ?_
  refine g_callVi (st := []) (as := [.inl p1]) ok rfl (k_X9_noSet h) s_X9_noSet rfl (by decide) (gNm (by decide)) cl42 sel_X9_noSet ins_X9_noSet (gle rfl) rfl q4_98 dX9_privateEdges_2 ?_
  intro r2 M1 h
  refine g_if_eq (tgt := 11) ok dX9_privateEdges_5 (by decide) (fun z => ?_) (fun z => ?_)
  · have h := h.1 z
    refine g_aload_n ok dX9_privateEdges_11 rfl rfl ?_
    refine g_iload_n ok dX9_privateEdges_12 rfl rfl ?_
    refine g_callVi (st := []) (as := [.inl p2]) ok rfl (k_X9_noVertex h) s_X9_noVertex rfl (by decide) (gNm (by decide)) cl42 sel_X9_noVertex ins_X9_noVertex (gle rfl) rfl q4_154 dX9_privateEdges_13 ?_
    intro r4 M3 h
    refine g_if_eq (tgt := 21) ok dX9_privateEdges_16 (by decide) (fun z => ?_) (fun z => ?_)
    · have h := h.1 z
      refine g_iload_n ok dX9_privateEdges_21 rfl rfl ?_
      refine g_iload_n ok dX9_privateEdges_22 rfl rfl ?_
      refine g_ishr ok dX9_privateEdges_23 ?_
      refine g_iconst (v := 1) ok dX9_privateEdges_24 (by decide) ?_
      refine g_iand ok dX9_privateEdges_25 ?_
      refine g_if_ne (tgt := 34) ok dX9_privateEdges_26 (by decide) (fun z => ?_) (fun z => ?_)
      · have h := h.2 z
        refine g_aload_n ok dX9_privateEdges_34 rfl rfl ?_
        refine g_iload_n ok dX9_privateEdges_35 rfl rfl ?_
        refine g_iload_n ok dX9_privateEdges_36 rfl rfl ?_
        refine g_callVi (st := []) (as := [.inl p1, .inl p2]) ok rfl (k_X9_privateTo h) s_X9_privateTo rfl (by decide) (gNm (by decide)) cl42 sel_X9_privateTo ins_X9_privateTo (gle rfl) rfl q4_197 dX9_privateEdges_37 ?_
        intro r6 M5 h
        exact g_iret ok hZ dX9_privateEdges_40 h
      · have h := h.1 z
        refine g_bipush (v := (-7)) ok dX9_privateEdges_29 (by decide) ?_
        refine g_goto (tgt := 40) ok dX9_privateEdges_31 (by decide) ?_
        exact g_iret ok hZ dX9_privateEdges_40 h
    · have h := h.2 z
      refine g_iconst (v := (-1)) ok dX9_privateEdges_19 (by decide) ?_
      exact g_iret ok hZ dX9_privateEdges_20 h
  · have h := h.2 z
    refine g_bipush (v := (-3)) ok dX9_privateEdges_8 (by decide) ?_
    exact g_iret ok hZ dX9_privateEdges_10 h
theorem dX9_kindOf_0 : decode cX9_kindOf 0 = .ok (.aload_n 0, 1) := by decide +kernel
theorem dX9_kindOf_1 : decode cX9_kindOf 1 = .ok (.iload_n 1, 1) := by decide +kernel
theorem dX9_kindOf_2 : decode cX9_kindOf 2 = .ok (.invokevirtual 83, 3) := by decide +kernel
theorem dX9_kindOf_5 : decode cX9_kindOf 5 = .ok (.ifCond .eq 6, 3) := by decide +kernel
theorem dX9_kindOf_8 : decode cX9_kindOf 8 = .ok (.bipush (-3), 2) := by decide +kernel
theorem dX9_kindOf_10 : decode cX9_kindOf 10 = .ok (.ireturn, 1) := by decide +kernel
theorem dX9_kindOf_11 : decode cX9_kindOf 11 = .ok (.aload_n 0, 1) := by decide +kernel
theorem dX9_kindOf_12 : decode cX9_kindOf 12 = .ok (.iload_n 1, 1) := by decide +kernel
theorem dX9_kindOf_13 : decode cX9_kindOf 13 = .ok (.invokevirtual 126, 3) := by decide +kernel
theorem dX9_kindOf_16 : decode cX9_kindOf 16 = .ok (.ifCond .eq 7, 3) := by decide +kernel
theorem dX9_kindOf_19 : decode cX9_kindOf 19 = .ok (.iconst 0, 1) := by decide +kernel
theorem dX9_kindOf_20 : decode cX9_kindOf 20 = .ok (.goto 16, 3) := by decide +kernel
theorem dX9_kindOf_23 : decode cX9_kindOf 23 = .ok (.aload_n 0, 1) := by decide +kernel
theorem dX9_kindOf_24 : decode cX9_kindOf 24 = .ok (.iload_n 1, 1) := by decide +kernel
theorem dX9_kindOf_25 : decode cX9_kindOf 25 = .ok (.invokevirtual 129, 3) := by decide +kernel
theorem dX9_kindOf_28 : decode cX9_kindOf 28 = .ok (.ifCond .eq 7, 3) := by decide +kernel
theorem dX9_kindOf_31 : decode cX9_kindOf 31 = .ok (.iconst 1, 1) := by decide +kernel
theorem dX9_kindOf_32 : decode cX9_kindOf 32 = .ok (.goto 4, 3) := by decide +kernel
theorem dX9_kindOf_35 : decode cX9_kindOf 35 = .ok (.iconst 2, 1) := by decide +kernel
theorem dX9_kindOf_36 : decode cX9_kindOf 36 = .ok (.ireturn, 1) := by decide +kernel
theorem s_X9_kindOf : gSt yX9_kindOf cX9_kindOf 2 (some .int) 1 := ⟨q4_204, q1_10, ⟨by decide, by decide, by decide +kernel⟩, by decide⟩
theorem sel_X9_kindOf : Cond.selects yX9_kindOf.cls yX9_kindOf yX9_kindOf ∈ gT := q4_203
theorem ins_X9_kindOf : Cond.instanceMethod yX9_kindOf ∈ gT := q4_202
def w_X9_kindOf (p1 : Int32) (M : gM) (Q : Int32 → gM → Prop) : Prop := w_X9_noSet p1 M (fun (r2 : Int32) (M1 : gM) => gbr ((r2 : Int32) = 0) (w_X9_missedBy p1 M1 (fun (r4 : Int32) (M3 : gM) => gbr ((r4 : Int32) = 0) (w_X9_haveAllPrivate p1 M3 (fun (r6 : Int32) (M5 : gM) => gbr ((r6 : Int32) = 0) (Q 2 M5) (Q 1 M5))) (Q 0 M3))) (Q (-3) M1))
set_option maxRecDepth 100000 in
set_option maxHeartbeats 4000000 in
theorem k_X9_kindOf {p1 : Int32} {M : gM} {Q : Int32 → gM → Prop} (h : w_X9_kindOf p1 M Q) : gCi gN 3 yX9_kindOf cX9_kindOf 2 .int [.inr 42, .inl p1] M Q := by
  refine gCi_of (by decide) gNn (gle rfl) (fun X ok hZ => ?_)
  show gW X 0 [some (.inr 42), some (.inl p1)] [] M
  unfold w_X9_kindOf at h
  refine g_aload_n ok dX9_kindOf_0 rfl rfl ?_
  refine g_iload_n ok dX9_kindOf_1 rfl rfl ?_
  refine g_callVi (st := []) (as := [.inl p1]) ok rfl (k_X9_noSet h) s_X9_noSet rfl (by decide) (gNm (by decide)) cl42 sel_X9_noSet ins_X9_noSet (gle rfl) rfl q4_98 dX9_kindOf_2 ?_
  intro r2 M1 h
  refine g_if_eq (tgt := 11) ok dX9_kindOf_5 (by decide) (fun z => ?_) (fun z => ?_)
  · have h := h.1 z
    refine g_aload_n ok dX9_kindOf_11 rfl rfl ?_
    refine g_iload_n ok dX9_kindOf_12 rfl rfl ?_
    refine g_callVi (st := []) (as := [.inl p1]) ok rfl (k_X9_missedBy h) s_X9_missedBy rfl (by decide) (gNm (by decide)) cl42 sel_X9_missedBy ins_X9_missedBy (gle rfl) rfl q4_189 dX9_kindOf_13 ?_
    intro r4 M3 h
    refine g_if_eq (tgt := 23) ok dX9_kindOf_16 (by decide) (fun z => ?_) (fun z => ?_)
    · have h := h.1 z
      refine g_aload_n ok dX9_kindOf_23 rfl rfl ?_
      refine g_iload_n ok dX9_kindOf_24 rfl rfl ?_
      refine g_callVi (st := []) (as := [.inl p1]) ok rfl (k_X9_haveAllPrivate h) s_X9_haveAllPrivate rfl (by decide) (gNm (by decide)) cl42 sel_X9_haveAllPrivate ins_X9_haveAllPrivate (gle rfl) rfl q4_205 dX9_kindOf_25 ?_
      intro r6 M5 h
      refine g_if_eq (tgt := 35) ok dX9_kindOf_28 (by decide) (fun z => ?_) (fun z => ?_)
      · have h := h.1 z
        refine g_iconst (v := 2) ok dX9_kindOf_35 (by decide) ?_
        exact g_iret ok hZ dX9_kindOf_36 h
      · have h := h.2 z
        refine g_iconst (v := 1) ok dX9_kindOf_31 (by decide) ?_
        refine g_goto (tgt := 36) ok dX9_kindOf_32 (by decide) ?_
        exact g_iret ok hZ dX9_kindOf_36 h
    · have h := h.2 z
      refine g_iconst (v := 0) ok dX9_kindOf_19 (by decide) ?_
      refine g_goto (tgt := 36) ok dX9_kindOf_20 (by decide) ?_
      exact g_iret ok hZ dX9_kindOf_36 h
  · have h := h.2 z
    refine g_bipush (v := (-3)) ok dX9_kindOf_8 (by decide) ?_
    exact g_iret ok hZ dX9_kindOf_10 h
theorem dX9_shrink_0 : decode cX9_shrink 0 = .ok (.aload_n 0, 1) := by decide +kernel
theorem dX9_shrink_1 : decode cX9_shrink 1 = .ok (.iload_n 1, 1) := by decide +kernel
theorem dX9_shrink_2 : decode cX9_shrink 2 = .ok (.invokevirtual 83, 3) := by decide +kernel
theorem dX9_shrink_5 : decode cX9_shrink 5 = .ok (.ifCond .eq 6, 3) := by decide +kernel
theorem dX9_shrink_8 : decode cX9_shrink 8 = .ok (.bipush (-3), 2) := by decide +kernel
theorem dX9_shrink_10 : decode cX9_shrink 10 = .ok (.ireturn, 1) := by decide +kernel
theorem dX9_shrink_11 : decode cX9_shrink 11 = .ok (.aload_n 0, 1) := by decide +kernel
theorem dX9_shrink_12 : decode cX9_shrink 12 = .ok (.iload_n 1, 1) := by decide +kernel
theorem dX9_shrink_13 : decode cX9_shrink 13 = .ok (.invokevirtual 126, 3) := by decide +kernel
theorem dX9_shrink_16 : decode cX9_shrink 16 = .ok (.ifCond .eq 6, 3) := by decide +kernel
theorem dX9_shrink_19 : decode cX9_shrink 19 = .ok (.bipush (-7), 2) := by decide +kernel
theorem dX9_shrink_21 : decode cX9_shrink 21 = .ok (.ireturn, 1) := by decide +kernel
theorem dX9_shrink_22 : decode cX9_shrink 22 = .ok (.iload_n 1, 1) := by decide +kernel
theorem dX9_shrink_23 : decode cX9_shrink 23 = .ok (.istore_n 2, 1) := by decide +kernel
theorem dX9_shrink_24 : decode cX9_shrink 24 = .ok (.iconst 0, 1) := by decide +kernel
theorem dX9_shrink_25 : decode cX9_shrink 25 = .ok (.istore_n 3, 1) := by decide +kernel
theorem dX9_shrink_26 : decode cX9_shrink 26 = .ok (.iload_n 3, 1) := by decide +kernel
theorem dX9_shrink_27 : decode cX9_shrink 27 = .ok (.aload_n 0, 1) := by decide +kernel
theorem dX9_shrink_28 : decode cX9_shrink 28 = .ok (.getfield 59, 3) := by decide +kernel
theorem dX9_shrink_31 : decode cX9_shrink 31 = .ok (.if_icmp .ge 35, 3) := by decide +kernel
theorem dX9_shrink_34 : decode cX9_shrink 34 = .ok (.aload_n 0, 1) := by decide +kernel
theorem dX9_shrink_35 : decode cX9_shrink 35 = .ok (.iload_n 2, 1) := by decide +kernel
theorem dX9_shrink_36 : decode cX9_shrink 36 = .ok (.iconst 1, 1) := by decide +kernel
theorem dX9_shrink_37 : decode cX9_shrink 37 = .ok (.iload_n 3, 1) := by decide +kernel
theorem dX9_shrink_38 : decode cX9_shrink 38 = .ok (.ishl, 1) := by decide +kernel
theorem dX9_shrink_39 : decode cX9_shrink 39 = .ok (.iconst (-1), 1) := by decide +kernel
theorem dX9_shrink_40 : decode cX9_shrink 40 = .ok (.ixor, 1) := by decide +kernel
theorem dX9_shrink_41 : decode cX9_shrink 41 = .ok (.iand, 1) := by decide +kernel
theorem dX9_shrink_42 : decode cX9_shrink 42 = .ok (.invokevirtual 126, 3) := by decide +kernel
theorem dX9_shrink_45 : decode cX9_shrink 45 = .ok (.ifCond .ne 13, 3) := by decide +kernel
theorem dX9_shrink_48 : decode cX9_shrink 48 = .ok (.iload_n 2, 1) := by decide +kernel
theorem dX9_shrink_49 : decode cX9_shrink 49 = .ok (.iconst 1, 1) := by decide +kernel
theorem dX9_shrink_50 : decode cX9_shrink 50 = .ok (.iload_n 3, 1) := by decide +kernel
theorem dX9_shrink_51 : decode cX9_shrink 51 = .ok (.ishl, 1) := by decide +kernel
theorem dX9_shrink_52 : decode cX9_shrink 52 = .ok (.iconst (-1), 1) := by decide +kernel
theorem dX9_shrink_53 : decode cX9_shrink 53 = .ok (.ixor, 1) := by decide +kernel
theorem dX9_shrink_54 : decode cX9_shrink 54 = .ok (.iand, 1) := by decide +kernel
theorem dX9_shrink_55 : decode cX9_shrink 55 = .ok (.goto 4, 3) := by decide +kernel
theorem dX9_shrink_58 : decode cX9_shrink 58 = .ok (.iload_n 2, 1) := by decide +kernel
theorem dX9_shrink_59 : decode cX9_shrink 59 = .ok (.istore_n 2, 1) := by decide +kernel
theorem dX9_shrink_60 : decode cX9_shrink 60 = .ok (.iinc 3 1, 3) := by decide +kernel
theorem dX9_shrink_63 : decode cX9_shrink 63 = .ok (.goto (-37), 3) := by decide +kernel
theorem dX9_shrink_66 : decode cX9_shrink 66 = .ok (.iload_n 2, 1) := by decide +kernel
theorem dX9_shrink_67 : decode cX9_shrink 67 = .ok (.ireturn, 1) := by decide +kernel
theorem s_X9_shrink : gSt yX9_shrink cX9_shrink 4 (some .int) 1 := ⟨q4_212, q1_10, ⟨by decide, by decide, by decide +kernel⟩, by decide⟩
theorem sel_X9_shrink : Cond.selects yX9_shrink.cls yX9_shrink yX9_shrink ∈ gT := q4_211
theorem ins_X9_shrink : Cond.instanceMethod yX9_shrink ∈ gT := q4_210
def w_X9_shrink_L26 (Q : Int32 → gM → Prop) (K66 : Int32 → Int32 → gM → Prop) (v1 : Int32) : Nat → Int32 → Int32 → gM → Prop
  | 0, _, _, _ => False
  | n + 1, v2, v3, M => gbr ((v3 : Int32) < (M 42 0)) (w_X9_missedBy (v2 &&& ((1 <<< (v3 &&& 31)) ^^^ (-1))) M (fun (r6 : Int32) (M5 : gM) => gbr ((r6 : Int32) = 0) (∀ x8 : Int32, x8 = (v2 &&& ((1 <<< (v3 &&& 31)) ^^^ (-1))) → (∀ x9 : Int32, x9 = (v3 + 1) → (w_X9_shrink_L26 Q K66 v1 n (x8) (x9) M5))) (∀ x7 : Int32, x7 = (v3 + 1) → (w_X9_shrink_L26 Q K66 v1 n (v2) (x7) M5)))) (K66 (v2) (v3) M)
def w_X9_shrink (p1 : Int32) (M : gM) (Q : Int32 → gM → Prop) : Prop := w_X9_noSet p1 M (fun (r2 : Int32) (M1 : gM) => gbr ((r2 : Int32) = 0) (w_X9_missedBy p1 M1 (fun (r4 : Int32) (M3 : gM) => gbr ((r4 : Int32) = 0) (∃ nf, w_X9_shrink_L26 Q (fun (x10 : Int32) (x11 : Int32) (M12 : gM) => Q x10 M12) p1 nf p1 0 M3) (Q (-7) M3))) (Q (-3) M1))
set_option maxRecDepth 100000 in
set_option maxHeartbeats 4000000 in
theorem w_X9_shrink_L26_w {X : gX} (ok : gOk X cX9_shrink yX9_shrink.cls 2 4 (some .int) gN) {Q : Int32 → gM → Prop} (hZ : gZi X Q) {K66 : Int32 → Int32 → gM → Prop} (v1 : Int32) (hK66 : ∀ (v2 : Int32) (v3 : Int32)  (M : gM), K66 v2 v3 M → gW X 66 [some (.inr 42), some (.inl v1), some (.inl v2), some (.inl v3)] [] M) : ∀ (n : Nat) (v2 : Int32) (v3 : Int32)  (M : gM), w_X9_shrink_L26 Q K66 v1 n v2 v3 M → gW X 26 [some (.inr 42), some (.inl v1), some (.inl v2), some (.inl v3)] [] M
  | 0, _, _, _, h => h.elim
  | n + 1, v2, v3, M, h => by
    have ih := fun (v2 : Int32) (v3 : Int32)  (M : gM) h => w_X9_shrink_L26_w ok hZ v1 hK66 n v2 v3  M h
    rw [w_X9_shrink_L26.eq_2] at h
    refine g_iload_n ok dX9_shrink_26 rfl rfl ?_
    refine g_aload_n ok dX9_shrink_27 rfl rfl ?_
    refine g_get (w := .inl (M 42 0)) ok f42_0 (gNm (by decide)) q3_234 dX9_shrink_28 rfl ?_
    refine g_icmp_ge (tgt := 66) ok dX9_shrink_31 (by decide) (fun z => ?_) (fun z => ?_)
    · have h := h.2 z
      exact hK66 (v2) (v3) M h
    · have h := h.1 z
      refine g_aload_n ok dX9_shrink_34 rfl rfl ?_
      refine g_iload_n ok dX9_shrink_35 rfl rfl ?_
      refine g_iconst (v := 1) ok dX9_shrink_36 (by decide) ?_
      refine g_iload_n ok dX9_shrink_37 rfl rfl ?_
      refine g_ishl ok dX9_shrink_38 ?_
      refine g_iconst (v := (-1)) ok dX9_shrink_39 (by decide) ?_
      refine g_ixor ok dX9_shrink_40 ?_
      refine g_iand ok dX9_shrink_41 ?_
      refine g_callVi (st := []) (as := [.inl (v2 &&& ((1 <<< (v3 &&& 31)) ^^^ (-1)))]) ok rfl (k_X9_missedBy h) s_X9_missedBy rfl (by decide) (gNm (by decide)) cl42 sel_X9_missedBy ins_X9_missedBy (gle rfl) rfl q4_189 dX9_shrink_42 ?_
      intro r6 M5 h
      refine g_if_ne (tgt := 58) ok dX9_shrink_45 (by decide) (fun z => ?_) (fun z => ?_)
      · have h := h.2 z
        refine g_iload_n ok dX9_shrink_58 rfl rfl ?_
        refine g_istore_n (lv1 := [some (.inr 42), some (.inl v1), some (.inl v2), some (.inl v3)]) ok dX9_shrink_59 rfl (glt rfl) rfl ?_
        obtain ⟨x7, ex7⟩ : ∃ y : Int32, y = (v3 + 1) := ⟨_, rfl⟩
        have h := h x7 ex7
        refine g_iinc (v := x7) (lv1 := [some (.inr 42), some (.inl v1), some (.inl v2), some (.inl x7)]) ok dX9_shrink_60 rfl (by rw [ex7]; rfl) rfl ?_
        refine g_goto (tgt := 26) ok dX9_shrink_63 (by decide) ?_
        exact ih (v2) (x7) M5 h
      · have h := h.1 z
        refine g_iload_n ok dX9_shrink_48 rfl rfl ?_
        refine g_iconst (v := 1) ok dX9_shrink_49 (by decide) ?_
        refine g_iload_n ok dX9_shrink_50 rfl rfl ?_
        refine g_ishl ok dX9_shrink_51 ?_
        refine g_iconst (v := (-1)) ok dX9_shrink_52 (by decide) ?_
        refine g_ixor ok dX9_shrink_53 ?_
        refine g_iand ok dX9_shrink_54 ?_
        refine g_goto (tgt := 59) ok dX9_shrink_55 (by decide) ?_
        refine g_nm (fun x8 ex8 => ?_)
        have h := h x8 ex8
        refine g_istore_n (lv1 := [some (.inr 42), some (.inl v1), some (.inl x8), some (.inl v3)]) ok dX9_shrink_59 rfl (glt rfl) rfl ?_
        obtain ⟨x9, ex9⟩ : ∃ y : Int32, y = (v3 + 1) := ⟨_, rfl⟩
        have h := h x9 ex9
        refine g_iinc (v := x9) (lv1 := [some (.inr 42), some (.inl v1), some (.inl x8), some (.inl x9)]) ok dX9_shrink_60 rfl (by rw [ex9]; rfl) rfl ?_
        refine g_goto (tgt := 26) ok dX9_shrink_63 (by decide) ?_
        exact ih (x8) (x9) M5 h
set_option maxRecDepth 100000 in
set_option maxHeartbeats 4000000 in
theorem k_X9_shrink {p1 : Int32} {M : gM} {Q : Int32 → gM → Prop} (h : w_X9_shrink p1 M Q) : gCi gN 2 yX9_shrink cX9_shrink 4 .int [.inr 42, .inl p1] M Q := by
  refine gCi_of (by decide) gNn (gle rfl) (fun X ok hZ => ?_)
  show gW X 0 [some (.inr 42), some (.inl p1), none, none] [] M
  unfold w_X9_shrink at h
  refine g_aload_n ok dX9_shrink_0 rfl rfl ?_
  refine g_iload_n ok dX9_shrink_1 rfl rfl ?_
  refine g_callVi (st := []) (as := [.inl p1]) ok rfl (k_X9_noSet h) s_X9_noSet rfl (by decide) (gNm (by decide)) cl42 sel_X9_noSet ins_X9_noSet (gle rfl) rfl q4_98 dX9_shrink_2 ?_
  intro r2 M1 h
  refine g_if_eq (tgt := 11) ok dX9_shrink_5 (by decide) (fun z => ?_) (fun z => ?_)
  · have h := h.1 z
    refine g_aload_n ok dX9_shrink_11 rfl rfl ?_
    refine g_iload_n ok dX9_shrink_12 rfl rfl ?_
    refine g_callVi (st := []) (as := [.inl p1]) ok rfl (k_X9_missedBy h) s_X9_missedBy rfl (by decide) (gNm (by decide)) cl42 sel_X9_missedBy ins_X9_missedBy (gle rfl) rfl q4_189 dX9_shrink_13 ?_
    intro r4 M3 h
    refine g_if_eq (tgt := 22) ok dX9_shrink_16 (by decide) (fun z => ?_) (fun z => ?_)
    · have h := h.1 z
      refine g_iload_n ok dX9_shrink_22 rfl rfl ?_
      refine g_istore_n (lv1 := [some (.inr 42), some (.inl p1), some (.inl p1), none]) ok dX9_shrink_23 rfl (glt rfl) rfl ?_
      refine g_iconst (v := 0) ok dX9_shrink_24 (by decide) ?_
      refine g_istore_n (lv1 := [some (.inr 42), some (.inl p1), some (.inl p1), some (.inl 0)]) ok dX9_shrink_25 rfl (glt rfl) rfl ?_
      obtain ⟨nf, h⟩ := h
      refine w_X9_shrink_L26_w ok hZ p1 ?_ nf p1 0  M3 h
      · intro x10 x11  M12 h
        refine g_iload_n ok dX9_shrink_66 rfl rfl ?_
        exact g_iret ok hZ dX9_shrink_67 h
    · have h := h.2 z
      refine g_bipush (v := (-7)) ok dX9_shrink_19 (by decide) ?_
      exact g_iret ok hZ dX9_shrink_21 h
  · have h := h.2 z
    refine g_bipush (v := (-3)) ok dX9_shrink_8 (by decide) ?_
    exact g_iret ok hZ dX9_shrink_10 h
