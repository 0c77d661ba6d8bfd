theorem dX8_visits_0 : decode cX8_visits 0 = .ok (.aload_n 0, 1) := by decide +kernel
theorem dX8_visits_1 : decode cX8_visits 1 = .ok (.getfield 31, 3) := by decide +kernel
theorem dX8_visits_4 : decode cX8_visits 4 = .ok (.invokevirtual 122, 3) := by decide +kernel
theorem dX8_visits_7 : decode cX8_visits 7 = .ok (.ifCond .eq 13, 3) := by decide +kernel
theorem dX8_visits_10 : decode cX8_visits 10 = .ok (.aload_n 0, 1) := by decide +kernel
theorem dX8_visits_11 : decode cX8_visits 11 = .ok (.getfield 31, 3) := by decide +kernel
theorem dX8_visits_14 : decode cX8_visits 14 = .ok (.getfield 183, 3) := by decide +kernel
theorem dX8_visits_17 : decode cX8_visits 17 = .ok (.goto 5, 3) := by decide +kernel
theorem dX8_visits_20 : decode cX8_visits 20 = .ok (.bipush (-6), 2) := by decide +kernel
theorem dX8_visits_22 : decode cX8_visits 22 = .ok (.ireturn, 1) := by decide +kernel
theorem s_X8_visits : gSt yX8_visits cX8_visits 1 (some .int) 0 := ⟨q3_43, q1_1, ⟨by decide, by decide, by decide +kernel⟩, by decide⟩
theorem sel_X8_visits : Cond.selects yX8_visits.cls yX8_visits yX8_visits ∈ gT := q3_42
theorem ins_X8_visits : Cond.instanceMethod yX8_visits ∈ gT := q3_41
def w_X8_visits  (M : gM) (Q : Int32 → gM → Prop) : Prop := w_X6_succeeds M (fun (r2 : Int32) (M1 : gM) => gbr ((r2 : Int32) = 0) (Q (-6) M1) (Q (M1 4 3) M1))
set_option maxRecDepth 100000 in
set_option maxHeartbeats 4000000 in
theorem k_X8_visits  {M : gM} {Q : Int32 → gM → Prop} (h : w_X8_visits  M Q) : gCi gL 21 yX8_visits cX8_visits 1 .int [.inr 0] M Q := by
  refine gCi_of (by decide) gLn (gle rfl) (fun X ok hZ => ?_)
  show gW X 0 [some (.inr 0)] [] M
  unfold w_X8_visits at h
  refine g_aload_n ok dX8_visits_0 rfl rfl ?_
  refine g_get (w := .inr 4) ok f0_2 (gLm (by decide)) q2_10 dX8_visits_1 rfl ?_
  refine g_callVi (st := []) (as := []) ok rfl (k_X6_succeeds h) s_X6_succeeds rfl (by decide) (gLm (by decide)) cl4 sel_X6_succeeds ins_X6_succeeds (gle rfl) rfl q2_140 dX8_visits_4 ?_
  intro r2 M1 h
  refine g_if_eq (tgt := 20) ok dX8_visits_7 (by decide) (fun z => ?_) (fun z => ?_)
  · have h := h.1 z
    refine g_bipush (v := (-6)) ok dX8_visits_20 (by decide) ?_
    exact g_iret ok hZ dX8_visits_22 h
  · have h := h.2 z
    refine g_aload_n ok dX8_visits_10 rfl rfl ?_
    refine g_get (w := .inr 4) ok f0_2 (gLm (by decide)) q2_10 dX8_visits_11 rfl ?_
    refine g_get (w := .inl (M1 4 3)) ok f4_3 (gLm (by decide)) q1_128 dX8_visits_14 rfl ?_
    refine g_goto (tgt := 22) ok dX8_visits_17 (by decide) ?_
    exact g_iret ok hZ dX8_visits_22 h
theorem dX8_next_0 : decode cX8_next 0 = .ok (.iload_n 1, 1) := by decide +kernel
theorem dX8_next_1 : decode cX8_next 1 = .ok (.iconst (-1), 1) := by decide +kernel
theorem dX8_next_2 : decode cX8_next 2 = .ok (.if_icmp .eq 17, 3) := by decide +kernel
theorem dX8_next_5 : decode cX8_next 5 = .ok (.aload_n 0, 1) := by decide +kernel
theorem dX8_next_6 : decode cX8_next 6 = .ok (.getfield 12, 3) := by decide +kernel
theorem dX8_next_9 : decode cX8_next 9 = .ok (.iload_n 1, 1) := by decide +kernel
theorem dX8_next_10 : decode cX8_next 10 = .ok (.invokevirtual 70, 3) := by decide +kernel
theorem dX8_next_13 : decode cX8_next 13 = .ok (.ifCond .ne 6, 3) := by decide +kernel
theorem dX8_next_16 : decode cX8_next 16 = .ok (.bipush (-3), 2) := by decide +kernel
theorem dX8_next_18 : decode cX8_next 18 = .ok (.ireturn, 1) := by decide +kernel
theorem dX8_next_19 : decode cX8_next 19 = .ok (.aload_n 0, 1) := by decide +kernel
theorem dX8_next_20 : decode cX8_next 20 = .ok (.getfield 31, 3) := by decide +kernel
theorem dX8_next_23 : decode cX8_next 23 = .ok (.invokevirtual 122, 3) := by decide +kernel
theorem dX8_next_26 : decode cX8_next 26 = .ok (.ifCond .ne 6, 3) := by decide +kernel
theorem dX8_next_29 : decode cX8_next 29 = .ok (.bipush (-6), 2) := by decide +kernel
theorem dX8_next_31 : decode cX8_next 31 = .ok (.ireturn, 1) := by decide +kernel
theorem dX8_next_32 : decode cX8_next 32 = .ok (.aload_n 0, 1) := by decide +kernel
theorem dX8_next_33 : decode cX8_next 33 = .ok (.getfield 31, 3) := by decide +kernel
theorem dX8_next_36 : decode cX8_next 36 = .ok (.iload_n 1, 1) := by decide +kernel
theorem dX8_next_37 : decode cX8_next 37 = .ok (.invokevirtual 128, 3) := by decide +kernel
theorem dX8_next_40 : decode cX8_next 40 = .ok (.ireturn, 1) := by decide +kernel
theorem s_X8_next : gSt yX8_next cX8_next 2 (some .int) 1 := ⟨q3_47, q1_1, ⟨by decide, by decide, by decide +kernel⟩, by decide⟩
theorem sel_X8_next : Cond.selects yX8_next.cls yX8_next yX8_next ∈ gT := q3_46
theorem ins_X8_next : Cond.instanceMethod yX8_next ∈ gT := q3_45
def w_X8_next (p1 : Int32) (M : gM) (Q : Int32 → gM → Prop) : Prop := gbr ((p1 : Int32) = (-1)) (w_X6_succeeds M (fun (r2 : Int32) (M1 : gM) => gbr ((r2 : Int32) = 0) (Q (-6) M1) (w_X6_leastAbove p1 M1 (fun (r4 : Int32) (M3 : gM) => Q r4 M3)))) (w_X5_isSet p1 M (fun (r6 : Int32) (M5 : gM) => gbr ((r6 : Int32) = 0) (Q (-3) M5) (w_X6_succeeds M5 (fun (r8 : Int32) (M7 : gM) => gbr ((r8 : Int32) = 0) (Q (-6) M7) (w_X6_leastAbove p1 M7 (fun (r10 : Int32) (M9 : gM) => Q r10 M9))))))
set_option maxRecDepth 100000 in
set_option maxHeartbeats 4000000 in
theorem k_X8_next {p1 : Int32} {M : gM} {Q : Int32 → gM → Prop} (h : w_X8_next p1 M Q) : gCi gL 21 yX8_next cX8_next 2 .int [.inr 0, .inl p1] M Q := by
  refine gCi_of (by decide) gLn (gle rfl) (fun X ok hZ => ?_)
  show gW X 0 [some (.inr 0), some (.inl p1)] [] M
  unfold w_X8_next at h
  refine g_iload_n ok dX8_next_0 rfl rfl ?_
  refine g_iconst (v := (-1)) ok dX8_next_1 (by decide) ?_
  refine g_icmp_eq (tgt := 19) ok dX8_next_2 (by decide) (fun z => ?_) (fun z => ?_)
  · have h := h.1 z
    refine g_aload_n ok dX8_next_19 rfl rfl ?_
    refine g_get (w := .inr 4) ok f0_2 (gLm (by decide)) q2_10 dX8_next_20 rfl ?_
    refine g_callVi (st := []) (as := []) ok rfl (k_X6_succeeds h) s_X6_succeeds rfl (by decide) (gLm (by decide)) cl4 sel_X6_succeeds ins_X6_succeeds (gle rfl) rfl q2_140 dX8_next_23 ?_
    intro r2 M1 h
    refine g_if_ne (tgt := 32) ok dX8_next_26 (by decide) (fun z => ?_) (fun z => ?_)
    · have h := h.2 z
      refine g_aload_n ok dX8_next_32 rfl rfl ?_
      refine g_get (w := .inr 4) ok f0_2 (gLm (by decide)) q2_10 dX8_next_33 rfl ?_
      refine g_iload_n ok dX8_next_36 rfl rfl ?_
      refine g_callVi (st := []) (as := [.inl p1]) ok rfl (k_X6_leastAbove h) s_X6_leastAbove rfl (by decide) (gLm (by decide)) cl4 sel_X6_leastAbove ins_X6_leastAbove (gle rfl) rfl q2_162 dX8_next_37 ?_
      intro r4 M3 h
      exact g_iret ok hZ dX8_next_40 h
    · have h := h.1 z
      refine g_bipush (v := (-6)) ok dX8_next_29 (by decide) ?_
      exact g_iret ok hZ dX8_next_31 h
  · have h := h.2 z
    refine g_aload_n ok dX8_next_5 rfl rfl ?_
    refine g_get (w := .inr 1) ok f0_0 (gLm (by decide)) q2_8 dX8_next_6 rfl ?_
    refine g_iload_n ok dX8_next_9 rfl rfl ?_
    refine g_callVi (st := []) (as := [.inl p1]) ok rfl (k_X5_isSet h) s_X5_isSet rfl (by decide) (gLm (by decide)) cl1 sel_X5_isSet ins_X5_isSet (gle rfl) rfl q2_50 dX8_next_10 ?_
    intro r6 M5 h
    refine g_if_ne (tgt := 19) ok dX8_next_13 (by decide) (fun z => ?_) (fun z => ?_)
    · have h := h.2 z
      refine g_aload_n ok dX8_next_19 rfl rfl ?_
      refine g_get (w := .inr 4) ok f0_2 (gLm (by decide)) q2_10 dX8_next_20 rfl ?_
      refine g_callVi (st := []) (as := []) ok rfl (k_X6_succeeds h) s_X6_succeeds rfl (by decide) (gLm (by decide)) cl4 sel_X6_succeeds ins_X6_succeeds (gle rfl) rfl q2_140 dX8_next_23 ?_
      intro r8 M7 h
      refine g_if_ne (tgt := 32) ok dX8_next_26 (by decide) (fun z => ?_) (fun z => ?_)
      · have h := h.2 z
        refine g_aload_n ok dX8_next_32 rfl rfl ?_
        refine g_get (w := .inr 4) ok f0_2 (gLm (by decide)) q2_10 dX8_next_33 rfl ?_
        refine g_iload_n ok dX8_next_36 rfl rfl ?_
        refine g_callVi (st := []) (as := [.inl p1]) ok rfl (k_X6_leastAbove h) s_X6_leastAbove rfl (by decide) (gLm (by decide)) cl4 sel_X6_leastAbove ins_X6_leastAbove (gle rfl) rfl q2_162 dX8_next_37 ?_
        intro r10 M9 h
        exact g_iret ok hZ dX8_next_40 h
      · have h := h.1 z
        refine g_bipush (v := (-6)) ok dX8_next_29 (by decide) ?_
        exact g_iret ok hZ dX8_next_31 h
    · have h := h.1 z
      refine g_bipush (v := (-3)) ok dX8_next_16 (by decide) ?_
      exact g_iret ok hZ dX8_next_18 h
theorem dX8_answersOfSize_0 : decode cX8_answersOfSize 0 = .ok (.iload_n 1, 1) := by decide +kernel
theorem dX8_answersOfSize_1 : decode cX8_answersOfSize 1 = .ok (.ifCond .lt 14, 3) := by decide +kernel
theorem dX8_answersOfSize_4 : decode cX8_answersOfSize 4 = .ok (.iload_n 1, 1) := by decide +kernel
theorem dX8_answersOfSize_5 : decode cX8_answersOfSize 5 = .ok (.aload_n 0, 1) := by decide +kernel
theorem dX8_answersOfSize_6 : decode cX8_answersOfSize 6 = .ok (.getfield 12, 3) := by decide +kernel
theorem dX8_answersOfSize_9 : decode cX8_answersOfSize 9 = .ok (.getfield 63, 3) := by decide +kernel
theorem dX8_answersOfSize_12 : decode cX8_answersOfSize 12 = .ok (.if_icmp .le 6, 3) := by decide +kernel
theorem dX8_answersOfSize_15 : decode cX8_answersOfSize 15 = .ok (.bipush (-3), 2) := by decide +kernel
theorem dX8_answersOfSize_17 : decode cX8_answersOfSize 17 = .ok (.ireturn, 1) := by decide +kernel
theorem dX8_answersOfSize_18 : decode cX8_answersOfSize 18 = .ok (.aload_n 0, 1) := by decide +kernel
theorem dX8_answersOfSize_19 : decode cX8_answersOfSize 19 = .ok (.getfield 31, 3) := by decide +kernel
theorem dX8_answersOfSize_22 : decode cX8_answersOfSize 22 = .ok (.invokevirtual 122, 3) := by decide +kernel
theorem dX8_answersOfSize_25 : decode cX8_answersOfSize 25 = .ok (.ifCond .eq 14, 3) := by decide +kernel
theorem dX8_answersOfSize_28 : decode cX8_answersOfSize 28 = .ok (.aload_n 0, 1) := by decide +kernel
theorem dX8_answersOfSize_29 : decode cX8_answersOfSize 29 = .ok (.getfield 31, 3) := by decide +kernel
theorem dX8_answersOfSize_32 : decode cX8_answersOfSize 32 = .ok (.iload_n 1, 1) := by decide +kernel
theorem dX8_answersOfSize_33 : decode cX8_answersOfSize 33 = .ok (.invokevirtual 186, 3) := by decide +kernel
theorem dX8_answersOfSize_36 : decode cX8_answersOfSize 36 = .ok (.goto 5, 3) := by decide +kernel
theorem dX8_answersOfSize_39 : decode cX8_answersOfSize 39 = .ok (.bipush (-6), 2) := by decide +kernel
theorem dX8_answersOfSize_41 : decode cX8_answersOfSize 41 = .ok (.ireturn, 1) := by decide +kernel
theorem s_X8_answersOfSize : gSt yX8_answersOfSize cX8_answersOfSize 2 (some .int) 1 := ⟨q3_51, q1_1, ⟨by decide, by decide, by decide +kernel⟩, by decide⟩
theorem sel_X8_answersOfSize : Cond.selects yX8_answersOfSize.cls yX8_answersOfSize yX8_answersOfSize ∈ gT := q3_50
theorem ins_X8_answersOfSize : Cond.instanceMethod yX8_answersOfSize ∈ gT := q3_49
def w_X8_answersOfSize (p1 : Int32) (M : gM) (Q : Int32 → gM → Prop) : Prop := gbr ((p1 : Int32) < 0) (Q (-3) M) (gbr (((M 1 0) : Int32) < p1) (Q (-3) M) (w_X6_succeeds M (fun (r2 : Int32) (M1 : gM) => gbr ((r2 : Int32) = 0) (Q (-6) M1) (w_X6_countOfSize p1 M1 (fun (r4 : Int32) (M3 : gM) => Q r4 M3)))))
set_option maxRecDepth 100000 in
set_option maxHeartbeats 4000000 in
theorem k_X8_answersOfSize {p1 : Int32} {M : gM} {Q : Int32 → gM → Prop} (h : w_X8_answersOfSize p1 M Q) : gCi gL 21 yX8_answersOfSize cX8_answersOfSize 2 .int [.inr 0, .inl p1] M Q := by
  refine gCi_of (by decide) gLn (gle rfl) (fun X ok hZ => ?_)
  show gW X 0 [some (.inr 0), some (.inl p1)] [] M
  unfold w_X8_answersOfSize at h
  refine g_iload_n ok dX8_answersOfSize_0 rfl rfl ?_
  refine g_if_lt (tgt := 15) ok dX8_answersOfSize_1 (by decide) (fun z => ?_) (fun z => ?_)
  · have h := h.1 z
    refine g_bipush (v := (-3)) ok dX8_answersOfSize_15 (by decide) ?_
    exact g_iret ok hZ dX8_answersOfSize_17 h
  · have h := h.2 z
    refine g_iload_n ok dX8_answersOfSize_4 rfl rfl ?_
    refine g_aload_n ok dX8_answersOfSize_5 rfl rfl ?_
    refine g_get (w := .inr 1) ok f0_0 (gLm (by decide)) q2_8 dX8_answersOfSize_6 rfl ?_
    refine g_get (w := .inl (M 1 0)) ok f1_0 (gLm (by decide)) q1_56 dX8_answersOfSize_9 rfl ?_
    refine g_icmp_le (tgt := 18) ok dX8_answersOfSize_12 (by decide) (fun z => ?_) (fun z => ?_)
    · have h := h.2 z
      refine g_aload_n ok dX8_answersOfSize_18 rfl rfl ?_
      refine g_get (w := .inr 4) ok f0_2 (gLm (by decide)) q2_10 dX8_answersOfSize_19 rfl ?_
      refine g_callVi (st := []) (as := []) ok rfl (k_X6_succeeds h) s_X6_succeeds rfl (by decide) (gLm (by decide)) cl4 sel_X6_succeeds ins_X6_succeeds (gle rfl) rfl q2_140 dX8_answersOfSize_22 ?_
      intro r2 M1 h
      refine g_if_eq (tgt := 39) ok dX8_answersOfSize_25 (by decide) (fun z => ?_) (fun z => ?_)
      · have h := h.1 z
        refine g_bipush (v := (-6)) ok dX8_answersOfSize_39 (by decide) ?_
        exact g_iret ok hZ dX8_answersOfSize_41 h
      · have h := h.2 z
        refine g_aload_n ok dX8_answersOfSize_28 rfl rfl ?_
        refine g_get (w := .inr 4) ok f0_2 (gLm (by decide)) q2_10 dX8_answersOfSize_29 rfl ?_
        refine g_iload_n ok dX8_answersOfSize_32 rfl rfl ?_
        refine g_callVi (st := []) (as := [.inl p1]) ok rfl (k_X6_countOfSize h) s_X6_countOfSize rfl (by decide) (gLm (by decide)) cl4 sel_X6_countOfSize ins_X6_countOfSize (gle rfl) rfl q3_52 dX8_answersOfSize_33 ?_
        intro r4 M3 h
        refine g_goto (tgt := 41) ok dX8_answersOfSize_36 (by decide) ?_
        exact g_iret ok hZ dX8_answersOfSize_41 h
    · have h := h.1 z
      refine g_bipush (v := (-3)) ok dX8_answersOfSize_15 (by decide) ?_
      exact g_iret ok hZ dX8_answersOfSize_17 h
theorem dX8_answersWith_0 : decode cX8_answersWith 0 = .ok (.aload_n 0, 1) := by decide +kernel
theorem dX8_answersWith_1 : decode cX8_answersWith 1 = .ok (.getfield 12, 3) := by decide +kernel
theorem dX8_answersWith_4 : decode cX8_answersWith 4 = .ok (.iload_n 1, 1) := by decide +kernel
theorem dX8_answersWith_5 : decode cX8_answersWith 5 = .ok (.invokevirtual 107, 3) := by decide +kernel
theorem dX8_answersWith_8 : decode cX8_answersWith 8 = .ok (.ifCond .ne 5, 3) := by decide +kernel
theorem dX8_answersWith_11 : decode cX8_answersWith 11 = .ok (.iconst (-1), 1) := by decide +kernel
theorem dX8_answersWith_12 : decode cX8_answersWith 12 = .ok (.ireturn, 1) := by decide +kernel
theorem dX8_answersWith_13 : decode cX8_answersWith 13 = .ok (.aload_n 0, 1) := by decide +kernel
theorem dX8_answersWith_14 : decode cX8_answersWith 14 = .ok (.getfield 31, 3) := by decide +kernel
theorem dX8_answersWith_17 : decode cX8_answersWith 17 = .ok (.invokevirtual 122, 3) := by decide +kernel
theorem dX8_answersWith_20 : decode cX8_answersWith 20 = .ok (.ifCond .eq 14, 3) := by decide +kernel
theorem dX8_answersWith_23 : decode cX8_answersWith 23 = .ok (.aload_n 0, 1) := by decide +kernel
theorem dX8_answersWith_24 : decode cX8_answersWith 24 = .ok (.getfield 31, 3) := by decide +kernel
theorem dX8_answersWith_27 : decode cX8_answersWith 27 = .ok (.iload_n 1, 1) := by decide +kernel
theorem dX8_answersWith_28 : decode cX8_answersWith 28 = .ok (.invokevirtual 189, 3) := by decide +kernel
theorem dX8_answersWith_31 : decode cX8_answersWith 31 = .ok (.goto 5, 3) := by decide +kernel
theorem dX8_answersWith_34 : decode cX8_answersWith 34 = .ok (.bipush (-6), 2) := by decide +kernel
theorem dX8_answersWith_36 : decode cX8_answersWith 36 = .ok (.ireturn, 1) := by decide +kernel
theorem s_X8_answersWith : gSt yX8_answersWith cX8_answersWith 2 (some .int) 1 := ⟨q3_60, q1_1, ⟨by decide, by decide, by decide +kernel⟩, by decide⟩
theorem sel_X8_answersWith : Cond.selects yX8_answersWith.cls yX8_answersWith yX8_answersWith ∈ gT := q3_59
theorem ins_X8_answersWith : Cond.instanceMethod yX8_answersWith ∈ gT := q3_58
def w_X8_answersWith (p1 : Int32) (M : gM) (Q : Int32 → gM → Prop) : Prop := w_X5_isVertex p1 M (fun (r2 : Int32) (M1 : gM) => gbr ((r2 : Int32) = 0) (Q (-1) M1) (w_X6_succeeds M1 (fun (r4 : Int32) (M3 : gM) => gbr ((r4 : Int32) = 0) (Q (-6) M3) (w_X6_countWith p1 M3 (fun (r6 : Int32) (M5 : gM) => Q r6 M5)))))
set_option maxRecDepth 100000 in
set_option maxHeartbeats 4000000 in
theorem k_X8_answersWith {p1 : Int32} {M : gM} {Q : Int32 → gM → Prop} (h : w_X8_answersWith p1 M Q) : gCi gL 21 yX8_answersWith cX8_answersWith 2 .int [.inr 0, .inl p1] M Q := by
  refine gCi_of (by decide) gLn (gle rfl) (fun X ok hZ => ?_)
  show gW X 0 [some (.inr 0), some (.inl p1)] [] M
  unfold w_X8_answersWith at h
  refine g_aload_n ok dX8_answersWith_0 rfl rfl ?_
  refine g_get (w := .inr 1) ok f0_0 (gLm (by decide)) q2_8 dX8_answersWith_1 rfl ?_
  refine g_iload_n ok dX8_answersWith_4 rfl rfl ?_
  refine g_callVi (st := []) (as := [.inl p1]) ok rfl (k_X5_isVertex h) s_X5_isVertex rfl (by decide) (gLm (by decide)) cl1 sel_X5_isVertex ins_X5_isVertex (gle rfl) rfl q2_117 dX8_answersWith_5 ?_
  intro r2 M1 h
  refine g_if_ne (tgt := 13) ok dX8_answersWith_8 (by decide) (fun z => ?_) (fun z => ?_)
  · have h := h.2 z
    refine g_aload_n ok dX8_answersWith_13 rfl rfl ?_
    refine g_get (w := .inr 4) ok f0_2 (gLm (by decide)) q2_10 dX8_answersWith_14 rfl ?_
    refine g_callVi (st := []) (as := []) ok rfl (k_X6_succeeds h) s_X6_succeeds rfl (by decide) (gLm (by decide)) cl4 sel_X6_succeeds ins_X6_succeeds (gle rfl) rfl q2_140 dX8_answersWith_17 ?_
    intro r4 M3 h
    refine g_if_eq (tgt := 34) ok dX8_answersWith_20 (by decide) (fun z => ?_) (fun z => ?_)
    · have h := h.1 z
      refine g_bipush (v := (-6)) ok dX8_answersWith_34 (by decide) ?_
      exact g_iret ok hZ dX8_answersWith_36 h
    · have h := h.2 z
      refine g_aload_n ok dX8_answersWith_23 rfl rfl ?_
      refine g_get (w := .inr 4) ok f0_2 (gLm (by decide)) q2_10 dX8_answersWith_24 rfl ?_
      refine g_iload_n ok dX8_answersWith_27 rfl rfl ?_
      refine g_callVi (st := []) (as := [.inl p1]) ok rfl (k_X6_countWith h) s_X6_countWith rfl (by decide) (gLm (by decide)) cl4 sel_X6_countWith ins_X6_countWith (gle rfl) rfl q3_61 dX8_answersWith_28 ?_
      intro r6 M5 h
      refine g_goto (tgt := 36) ok dX8_answersWith_31 (by decide) ?_
      exact g_iret ok hZ dX8_answersWith_36 h
  · have h := h.1 z
    refine g_iconst (v := (-1)) ok dX8_answersWith_11 (by decide) ?_
    exact g_iret ok hZ dX8_answersWith_12 h
theorem dX8_lightest_0 : decode cX8_lightest 0 = .ok (.aload_n 0, 1) := by decide +kernel
theorem dX8_lightest_1 : decode cX8_lightest 1 = .ok (.iload_n 1, 1) := by decide +kernel
theorem dX8_lightest_2 : decode cX8_lightest 2 = .ok (.invokevirtual 174, 3) := by decide +kernel
theorem dX8_lightest_5 : decode cX8_lightest 5 = .ok (.istore_n 2, 1) := by decide +kernel
theorem dX8_lightest_6 : decode cX8_lightest 6 = .ok (.iload_n 2, 1) := by decide +kernel
theorem dX8_lightest_7 : decode cX8_lightest 7 = .ok (.ifCond .eq 7, 3) := by decide +kernel
theorem dX8_lightest_10 : decode cX8_lightest 10 = .ok (.iload_n 2, 1) := by decide +kernel
theorem dX8_lightest_11 : decode cX8_lightest 11 = .ok (.goto 15, 3) := by decide +kernel
theorem dX8_lightest_14 : decode cX8_lightest 14 = .ok (.aload_n 0, 1) := by decide +kernel
theorem dX8_lightest_15 : decode cX8_lightest 15 = .ok (.getfield 19, 3) := by decide +kernel
theorem dX8_lightest_18 : decode cX8_lightest 18 = .ok (.aload_n 0, 1) := by decide +kernel
theorem dX8_lightest_19 : decode cX8_lightest 19 = .ok (.getfield 31, 3) := by decide +kernel
theorem dX8_lightest_22 : decode cX8_lightest 22 = .ok (.iload_n 1, 1) := by decide +kernel
theorem dX8_lightest_23 : decode cX8_lightest 23 = .ok (.invokevirtual 192, 3) := by decide +kernel
theorem dX8_lightest_26 : decode cX8_lightest 26 = .ok (.ireturn, 1) := by decide +kernel
theorem s_X8_lightest : gSt yX8_lightest cX8_lightest 3 (some .int) 1 := ⟨q3_68, q1_1, ⟨by decide, by decide, by decide +kernel⟩, by decide⟩
theorem sel_X8_lightest : Cond.selects yX8_lightest.cls yX8_lightest yX8_lightest ∈ gT := q3_67
theorem ins_X8_lightest : Cond.instanceMethod yX8_lightest ∈ gT := q3_66
def w_X8_lightest (p1 : Int32) (M : gM) (Q : Int32 → gM → Prop) : Prop := w_X8_problemWithPlace p1 M (fun (r2 : Int32) (M1 : gM) => gbr ((r2 : Int32) = 0) (w_X7_lightestOf p1 M1 (fun (r4 : Int32) (M3 : gM) => Q r4 M3)) (Q r2 M1))
set_option maxRecDepth 100000 in
set_option maxHeartbeats 4000000 in
theorem k_X8_lightest {p1 : Int32} {M : gM} {Q : Int32 → gM → Prop} (h : w_X8_lightest p1 M Q) : gCi gL 22 yX8_lightest cX8_lightest 3 .int [.inr 0, .inl p1] M Q := by
  refine gCi_of (by decide) gLn (gle rfl) (fun X ok hZ => ?_)
  show gW X 0 [some (.inr 0), some (.inl p1), none] [] M
  unfold w_X8_lightest at h
  refine g_aload_n ok dX8_lightest_0 rfl rfl ?_
  refine g_iload_n ok dX8_lightest_1 rfl rfl ?_
  refine g_callVi (st := []) (as := [.inl p1]) ok rfl (k_X8_problemWithPlace h) s_X8_problemWithPlace rfl (by decide) (gLm (by decide)) cl0 sel_X8_problemWithPlace ins_X8_problemWithPlace (gle rfl) rfl q3_32 dX8_lightest_2 ?_
  intro r2 M1 h
  refine g_istore_n (lv1 := [some (.inr 0), some (.inl p1), some (.inl r2)]) ok dX8_lightest_5 rfl (glt rfl) rfl ?_
  refine g_iload_n ok dX8_lightest_6 rfl rfl ?_
  refine g_if_eq (tgt := 14) ok dX8_lightest_7 (by decide) (fun z => ?_) (fun z => ?_)
  · have h := h.1 z
    refine g_aload_n ok dX8_lightest_14 rfl rfl ?_
    refine g_get (w := .inr 3) ok f0_1 (gLm (by decide)) q2_9 dX8_lightest_15 rfl ?_
    refine g_aload_n ok dX8_lightest_18 rfl rfl ?_
    refine g_get (w := .inr 4) ok f0_2 (gLm (by decide)) q2_10 dX8_lightest_19 rfl ?_
    refine g_iload_n ok dX8_lightest_22 rfl rfl ?_
    refine g_callVi (st := []) (as := [.inr 4, .inl p1]) ok rfl (k_X7_lightestOf h) s_X7_lightestOf rfl (by decide) (gLm (by decide)) cl3 sel_X7_lightestOf ins_X7_lightestOf (gle rfl) rfl q3_69 dX8_lightest_23 ?_
    intro r4 M3 h
    exact g_iret ok hZ dX8_lightest_26 h
  · have h := h.2 z
    refine g_iload_n ok dX8_lightest_10 rfl rfl ?_
    refine g_goto (tgt := 26) ok dX8_lightest_11 (by decide) ?_
    exact g_iret ok hZ dX8_lightest_26 h
theorem dX8_weightOf_0 : decode cX8_weightOf 0 = .ok (.aload_n 0, 1) := by decide +kernel
theorem dX8_weightOf_1 : decode cX8_weightOf 1 = .ok (.getfield 12, 3) := by decide +kernel
theorem dX8_weightOf_4 : decode cX8_weightOf 4 = .ok (.iload_n 1, 1) := by decide +kernel
theorem dX8_weightOf_5 : decode cX8_weightOf 5 = .ok (.invokevirtual 70, 3) := by decide +kernel
theorem dX8_weightOf_8 : decode cX8_weightOf 8 = .ok (.ifCond .eq 14, 3) := by decide +kernel
theorem dX8_weightOf_11 : decode cX8_weightOf 11 = .ok (.aload_n 0, 1) := by decide +kernel
theorem dX8_weightOf_12 : decode cX8_weightOf 12 = .ok (.getfield 19, 3) := by decide +kernel
theorem dX8_weightOf_15 : decode cX8_weightOf 15 = .ok (.iload_n 1, 1) := by decide +kernel
theorem dX8_weightOf_16 : decode cX8_weightOf 16 = .ok (.invokevirtual 196, 3) := by decide +kernel
theorem dX8_weightOf_19 : decode cX8_weightOf 19 = .ok (.goto 5, 3) := by decide +kernel
theorem dX8_weightOf_22 : decode cX8_weightOf 22 = .ok (.bipush (-3), 2) := by decide +kernel
theorem dX8_weightOf_24 : decode cX8_weightOf 24 = .ok (.ireturn, 1) := by decide +kernel
theorem s_X8_weightOf : gSt yX8_weightOf cX8_weightOf 2 (some .int) 1 := ⟨q3_86, q1_1, ⟨by decide, by decide, by decide +kernel⟩, by decide⟩
theorem sel_X8_weightOf : Cond.selects yX8_weightOf.cls yX8_weightOf yX8_weightOf ∈ gT := q3_85
theorem ins_X8_weightOf : Cond.instanceMethod yX8_weightOf ∈ gT := q3_84
def w_X8_weightOf (p1 : Int32) (M : gM) (Q : Int32 → gM → Prop) : Prop := w_X5_isSet p1 M (fun (r2 : Int32) (M1 : gM) => gbr ((r2 : Int32) = 0) (Q (-3) M1) (w_X7_sumOf p1 M1 (fun (r4 : Int32) (M3 : gM) => Q r4 M3)))
set_option maxRecDepth 100000 in
set_option maxHeartbeats 4000000 in
theorem k_X8_weightOf {p1 : Int32} {M : gM} {Q : Int32 → gM → Prop} (h : w_X8_weightOf p1 M Q) : gCi gL 2 yX8_weightOf cX8_weightOf 2 .int [.inr 0, .inl p1] M Q := by
  refine gCi_of (by decide) gLn (gle rfl) (fun X ok hZ => ?_)
  show gW X 0 [some (.inr 0), some (.inl p1)] [] M
  unfold w_X8_weightOf at h
  refine g_aload_n ok dX8_weightOf_0 rfl rfl ?_
  refine g_get (w := .inr 1) ok f0_0 (gLm (by decide)) q2_8 dX8_weightOf_1 rfl ?_
  refine g_iload_n ok dX8_weightOf_4 rfl rfl ?_
  refine g_callVi (st := []) (as := [.inl p1]) ok rfl (k_X5_isSet h) s_X5_isSet rfl (by decide) (gLm (by decide)) cl1 sel_X5_isSet ins_X5_isSet (gle rfl) rfl q2_50 dX8_weightOf_5 ?_
  intro r2 M1 h
  refine g_if_eq (tgt := 22) ok dX8_weightOf_8 (by decide) (fun z => ?_) (fun z => ?_)
  · have h := h.1 z
    refine g_bipush (v := (-3)) ok dX8_weightOf_22 (by decide) ?_
    exact g_iret ok hZ dX8_weightOf_24 h
  · have h := h.2 z
    refine g_aload_n ok dX8_weightOf_11 rfl rfl ?_
    refine g_get (w := .inr 3) ok f0_1 (gLm (by decide)) q2_9 dX8_weightOf_12 rfl ?_
    refine g_iload_n ok dX8_weightOf_15 rfl rfl ?_
    refine g_callVi (st := []) (as := [.inl p1]) ok rfl (k_X7_sumOf h) s_X7_sumOf rfl (by decide) (gLm (by decide)) cl3 sel_X7_sumOf ins_X7_sumOf (gle rfl) rfl q3_87 dX8_weightOf_16 ?_
    intro r4 M3 h
    refine g_goto (tgt := 24) ok dX8_weightOf_19 (by decide) ?_
    exact g_iret ok hZ dX8_weightOf_24 h
theorem dX8_hittingSets_0 : decode cX8_hittingSets 0 = .ok (.iload_n 1, 1) := by decide +kernel
theorem dX8_hittingSets_1 : decode cX8_hittingSets 1 = .ok (.iconst (-1), 1) := by decide +kernel
theorem dX8_hittingSets_2 : decode cX8_hittingSets 2 = .ok (.if_icmp .lt 14, 3) := by decide +kernel
theorem dX8_hittingSets_5 : decode cX8_hittingSets 5 = .ok (.iload_n 1, 1) := by decide +kernel
theorem dX8_hittingSets_6 : decode cX8_hittingSets 6 = .ok (.aload_n 0, 1) := by decide +kernel
theorem dX8_hittingSets_7 : decode cX8_hittingSets 7 = .ok (.getfield 12, 3) := by decide +kernel
theorem dX8_hittingSets_10 : decode cX8_hittingSets 10 = .ok (.getfield 63, 3) := by decide +kernel
theorem dX8_hittingSets_13 : decode cX8_hittingSets 13 = .ok (.if_icmp .le 6, 3) := by decide +kernel
theorem dX8_hittingSets_16 : decode cX8_hittingSets 16 = .ok (.bipush (-3), 2) := by decide +kernel
theorem dX8_hittingSets_18 : decode cX8_hittingSets 18 = .ok (.ireturn, 1) := by decide +kernel
theorem dX8_hittingSets_19 : decode cX8_hittingSets 19 = .ok (.iload_n 1, 1) := by decide +kernel
theorem dX8_hittingSets_20 : decode cX8_hittingSets 20 = .ok (.iconst (-1), 1) := by decide +kernel
theorem dX8_hittingSets_21 : decode cX8_hittingSets 21 = .ok (.if_icmp .ne 13, 3) := by decide +kernel
theorem dX8_hittingSets_24 : decode cX8_hittingSets 24 = .ok (.aload_n 0, 1) := by decide +kernel
theorem dX8_hittingSets_25 : decode cX8_hittingSets 25 = .ok (.getfield 45, 3) := by decide +kernel
theorem dX8_hittingSets_28 : decode cX8_hittingSets 28 = .ok (.invokevirtual 199, 3) := by decide +kernel
theorem dX8_hittingSets_31 : decode cX8_hittingSets 31 = .ok (.goto 11, 3) := by decide +kernel
theorem dX8_hittingSets_34 : decode cX8_hittingSets 34 = .ok (.aload_n 0, 1) := by decide +kernel
theorem dX8_hittingSets_35 : decode cX8_hittingSets 35 = .ok (.getfield 45, 3) := by decide +kernel
theorem dX8_hittingSets_38 : decode cX8_hittingSets 38 = .ok (.iload_n 1, 1) := by decide +kernel
theorem dX8_hittingSets_39 : decode cX8_hittingSets 39 = .ok (.invokevirtual 202, 3) := by decide +kernel
theorem dX8_hittingSets_42 : decode cX8_hittingSets 42 = .ok (.ireturn, 1) := by decide +kernel
theorem s_X8_hittingSets : gSt yX8_hittingSets cX8_hittingSets 2 (some .int) 1 := ⟨q3_91, q1_1, ⟨by decide, by decide, by decide +kernel⟩, by decide⟩
theorem sel_X8_hittingSets : Cond.selects yX8_hittingSets.cls yX8_hittingSets yX8_hittingSets ∈ gT := q3_90
theorem ins_X8_hittingSets : Cond.instanceMethod yX8_hittingSets ∈ gT := q3_89
def w_X8_hittingSets (p1 : Int32) (M : gM) (Q : Int32 → gM → Prop) : Prop := gbr ((p1 : Int32) < (-1)) (Q (-3) M) (gbr (((M 1 0) : Int32) < p1) (Q (-3) M) (gbr ((p1 : Int32) = (-1)) (w_X4_countOfAll M (fun (r4 : Int32) (M3 : gM) => Q r4 M3)) (w_X4_countOfSize p1 M (fun (r2 : Int32) (M1 : gM) => Q r2 M1))))
set_option maxRecDepth 100000 in
set_option maxHeartbeats 4000000 in
theorem k_X8_hittingSets {p1 : Int32} {M : gM} {Q : Int32 → gM → Prop} (h : w_X8_hittingSets p1 M Q) : gCi gL 5 yX8_hittingSets cX8_hittingSets 2 .int [.inr 0, .inl p1] M Q := by
  refine gCi_of (by decide) gLn (gle rfl) (fun X ok hZ => ?_)
  show gW X 0 [some (.inr 0), some (.inl p1)] [] M
  unfold w_X8_hittingSets at h
  refine g_iload_n ok dX8_hittingSets_0 rfl rfl ?_
  refine g_iconst (v := (-1)) ok dX8_hittingSets_1 (by decide) ?_
  refine g_icmp_lt (tgt := 16) ok dX8_hittingSets_2 (by decide) (fun z => ?_) (fun z => ?_)
  · have h := h.1 z
    refine g_bipush (v := (-3)) ok dX8_hittingSets_16 (by decide) ?_
    exact g_iret ok hZ dX8_hittingSets_18 h
  · have h := h.2 z
    refine g_iload_n ok dX8_hittingSets_5 rfl rfl ?_
    refine g_aload_n ok dX8_hittingSets_6 rfl rfl ?_
    refine g_get (w := .inr 1) ok f0_0 (gLm (by decide)) q2_8 dX8_hittingSets_7 rfl ?_
    refine g_get (w := .inl (M 1 0)) ok f1_0 (gLm (by decide)) q1_56 dX8_hittingSets_10 rfl ?_
    refine g_icmp_le (tgt := 19) ok dX8_hittingSets_13 (by decide) (fun z => ?_) (fun z => ?_)
    · have h := h.2 z
      refine g_iload_n ok dX8_hittingSets_19 rfl rfl ?_
      refine g_iconst (v := (-1)) ok dX8_hittingSets_20 (by decide) ?_
      refine g_icmp_ne (tgt := 34) ok dX8_hittingSets_21 (by decide) (fun z => ?_) (fun z => ?_)
      · have h := h.2 z
        refine g_aload_n ok dX8_hittingSets_34 rfl rfl ?_
        refine g_get (w := .inr 6) ok f0_3 (gLm (by decide)) q2_11 dX8_hittingSets_35 rfl ?_
        refine g_iload_n ok dX8_hittingSets_38 rfl rfl ?_
        refine g_callVi (st := []) (as := [.inl p1]) ok rfl (k_X4_countOfSize h) s_X4_countOfSize rfl (by decide) (gLm (by decide)) cl6 sel_X4_countOfSize ins_X4_countOfSize (gle rfl) rfl q3_114 dX8_hittingSets_39 ?_
        intro r2 M1 h
        exact g_iret ok hZ dX8_hittingSets_42 h
      · have h := h.1 z
        refine g_aload_n ok dX8_hittingSets_24 rfl rfl ?_
        refine g_get (w := .inr 6) ok f0_3 (gLm (by decide)) q2_11 dX8_hittingSets_25 rfl ?_
        refine g_callVi (st := []) (as := []) ok rfl (k_X4_countOfAll h) s_X4_countOfAll rfl (by decide) (gLm (by decide)) cl6 sel_X4_countOfAll ins_X4_countOfAll (gle rfl) rfl q3_92 dX8_hittingSets_28 ?_
        intro r4 M3 h
        refine g_goto (tgt := 42) ok dX8_hittingSets_31 (by decide) ?_
        exact g_iret ok hZ dX8_hittingSets_42 h
    · have h := h.1 z
      refine g_bipush (v := (-3)) ok dX8_hittingSets_16 (by decide) ?_
      exact g_iret ok hZ dX8_hittingSets_18 h
theorem dX8_isFamily_0 : decode cX8_isFamily 0 = .ok (.iload_n 0, 1) := by decide +kernel
theorem dX8_isFamily_1 : decode cX8_isFamily 1 = .ok (.ifCond .eq 13, 3) := by decide +kernel
theorem dX8_isFamily_4 : decode cX8_isFamily 4 = .ok (.iload_n 0, 1) := by decide +kernel
theorem dX8_isFamily_5 : decode cX8_isFamily 5 = .ok (.iconst 1, 1) := by decide +kernel
theorem dX8_isFamily_6 : decode cX8_isFamily 6 = .ok (.if_icmp .eq 8, 3) := by decide +kernel
theorem dX8_isFamily_9 : decode cX8_isFamily 9 = .ok (.iload_n 0, 1) := by decide +kernel
theorem dX8_isFamily_10 : decode cX8_isFamily 10 = .ok (.iconst 2, 1) := by decide +kernel
theorem dX8_isFamily_11 : decode cX8_isFamily 11 = .ok (.if_icmp .ne 7, 3) := by decide +kernel
theorem dX8_isFamily_14 : decode cX8_isFamily 14 = .ok (.iconst 1, 1) := by decide +kernel
theorem dX8_isFamily_15 : decode cX8_isFamily 15 = .ok (.goto 4, 3) := by decide +kernel
theorem dX8_isFamily_18 : decode cX8_isFamily 18 = .ok (.iconst 0, 1) := by decide +kernel
theorem dX8_isFamily_19 : decode cX8_isFamily 19 = .ok (.ireturn, 1) := by decide +kernel
theorem s_X8_isFamily : gSt yX8_isFamily cX8_isFamily 1 (some .boolean) 1 := ⟨q3_128, q1_1, ⟨by decide, by decide, by decide +kernel⟩, by decide⟩
theorem stt_X8_isFamily : Cond.static yX8_isFamily ∈ gT := q3_127
def w_X8_isFamily (p0 : Int32) (M : gM) (Q : Int32 → gM → Prop) : Prop := gbr ((p0 : Int32) = 0) (Q 1 M) (gbr ((p0 : Int32) = 1) (Q 1 M) (gbr ((p0 : Int32) = 2) (Q 1 M) (Q 0 M)))
set_option maxRecDepth 100000 in
set_option maxHeartbeats 4000000 in
theorem k_X8_isFamily {p0 : Int32} {M : gM} {Q : Int32 → gM → Prop} (h : w_X8_isFamily p0 M Q) : gCi gL 0 yX8_isFamily cX8_isFamily 1 .boolean [.inl p0] M Q := by
  refine gCi_of (by decide) gLn (gle rfl) (fun X ok hZ => ?_)
  show gW X 0 [some (.inl p0)] [] M
  unfold w_X8_isFamily at h
  refine g_iload_n ok dX8_isFamily_0 rfl rfl ?_
  refine g_if_eq (tgt := 14) ok dX8_isFamily_1 (by decide) (fun z => ?_) (fun z => ?_)
  · have h := h.1 z
    refine g_iconst (v := 1) ok dX8_isFamily_14 (by decide) ?_
    refine g_goto (tgt := 19) ok dX8_isFamily_15 (by decide) ?_
    exact g_zret ok hZ dX8_isFamily_19 (by decide) h
  · have h := h.2 z
    refine g_iload_n ok dX8_isFamily_4 rfl rfl ?_
    refine g_iconst (v := 1) ok dX8_isFamily_5 (by decide) ?_
    refine g_icmp_eq (tgt := 14) ok dX8_isFamily_6 (by decide) (fun z => ?_) (fun z => ?_)
    · have h := h.1 z
      refine g_iconst (v := 1) ok dX8_isFamily_14 (by decide) ?_
      refine g_goto (tgt := 19) ok dX8_isFamily_15 (by decide) ?_
      exact g_zret ok hZ dX8_isFamily_19 (by decide) h
    · have h := h.2 z
      refine g_iload_n ok dX8_isFamily_9 rfl rfl ?_
      refine g_iconst (v := 2) ok dX8_isFamily_10 (by decide) ?_
      refine g_icmp_ne (tgt := 18) ok dX8_isFamily_11 (by decide) (fun z => ?_) (fun z => ?_)
      · have h := h.2 z
        refine g_iconst (v := 0) ok dX8_isFamily_18 (by decide) ?_
        exact g_zret ok hZ dX8_isFamily_19 (by decide) h
      · have h := h.1 z
        refine g_iconst (v := 1) ok dX8_isFamily_14 (by decide) ?_
        refine g_goto (tgt := 19) ok dX8_isFamily_15 (by decide) ?_
        exact g_zret ok hZ dX8_isFamily_19 (by decide) h
theorem dX8_canBeDrawn_0 : decode cX8_canBeDrawn 0 = .ok (.iload_n 1, 1) := by decide +kernel
theorem dX8_canBeDrawn_1 : decode cX8_canBeDrawn 1 = .ok (.iconst 1, 1) := by decide +kernel
theorem dX8_canBeDrawn_2 : decode cX8_canBeDrawn 2 = .ok (.if_icmp .ne 13, 3) := by decide +kernel
theorem dX8_canBeDrawn_5 : decode cX8_canBeDrawn 5 = .ok (.aload_n 0, 1) := by decide +kernel
theorem dX8_canBeDrawn_6 : decode cX8_canBeDrawn 6 = .ok (.getfield 31, 3) := by decide +kernel
theorem dX8_canBeDrawn_9 : decode cX8_canBeDrawn 9 = .ok (.invokevirtual 122, 3) := by decide +kernel
theorem dX8_canBeDrawn_12 : decode cX8_canBeDrawn 12 = .ok (.ifCond .eq 7, 3) := by decide +kernel
theorem dX8_canBeDrawn_15 : decode cX8_canBeDrawn 15 = .ok (.iconst 1, 1) := by decide +kernel
theorem dX8_canBeDrawn_16 : decode cX8_canBeDrawn 16 = .ok (.goto 4, 3) := by decide +kernel
theorem dX8_canBeDrawn_19 : decode cX8_canBeDrawn 19 = .ok (.iconst 0, 1) := by decide +kernel
theorem dX8_canBeDrawn_20 : decode cX8_canBeDrawn 20 = .ok (.ireturn, 1) := by decide +kernel
theorem s_X8_canBeDrawn : gSt yX8_canBeDrawn cX8_canBeDrawn 2 (some .boolean) 1 := ⟨q3_132, q1_1, ⟨by decide, by decide, by decide +kernel⟩, by decide⟩
theorem sel_X8_canBeDrawn : Cond.selects yX8_canBeDrawn.cls yX8_canBeDrawn yX8_canBeDrawn ∈ gT := qs_9
theorem ins_X8_canBeDrawn : Cond.instanceMethod yX8_canBeDrawn ∈ gT := q3_131
def w_X8_canBeDrawn (p1 : Int32) (M : gM) (Q : Int32 → gM → Prop) : Prop := gbr ((p1 : Int32) = 1) (w_X6_succeeds M (fun (r2 : Int32) (M1 : gM) => gbr ((r2 : Int32) = 0) (Q 0 M1) (Q 1 M1))) (Q 1 M)
set_option maxRecDepth 100000 in
set_option maxHeartbeats 4000000 in
theorem k_X8_canBeDrawn {p1 : Int32} {M : gM} {Q : Int32 → gM → Prop} (h : w_X8_canBeDrawn p1 M Q) : gCi gL 21 yX8_canBeDrawn cX8_canBeDrawn 2 .boolean [.inr 0, .inl p1] M Q := by
  refine gCi_of (by decide) gLn (gle rfl) (fun X ok hZ => ?_)
  show gW X 0 [some (.inr 0), some (.inl p1)] [] M
  unfold w_X8_canBeDrawn at h
  refine g_iload_n ok dX8_canBeDrawn_0 rfl rfl ?_
  refine g_iconst (v := 1) ok dX8_canBeDrawn_1 (by decide) ?_
  refine g_icmp_ne (tgt := 15) ok dX8_canBeDrawn_2 (by decide) (fun z => ?_) (fun z => ?_)
  · have h := h.2 z
    refine g_iconst (v := 1) ok dX8_canBeDrawn_15 (by decide) ?_
    refine g_goto (tgt := 20) ok dX8_canBeDrawn_16 (by decide) ?_
    exact g_zret ok hZ dX8_canBeDrawn_20 (by decide) h
  · have h := h.1 z
    refine g_aload_n ok dX8_canBeDrawn_5 rfl rfl ?_
    refine g_get (w := .inr 4) ok f0_2 (gLm (by decide)) q2_10 dX8_canBeDrawn_6 rfl ?_
    refine g_callVi (st := []) (as := []) ok rfl (k_X6_succeeds h) s_X6_succeeds rfl (by decide) (gLm (by decide)) cl4 sel_X6_succeeds ins_X6_succeeds (gle rfl) rfl q2_140 dX8_canBeDrawn_9 ?_
    intro r2 M1 h
    refine g_if_eq (tgt := 19) ok dX8_canBeDrawn_12 (by decide) (fun z => ?_) (fun z => ?_)
    · have h := h.1 z
      refine g_iconst (v := 0) ok dX8_canBeDrawn_19 (by decide) ?_
      exact g_zret ok hZ dX8_canBeDrawn_20 (by decide) h
    · have h := h.2 z
      refine g_iconst (v := 1) ok dX8_canBeDrawn_15 (by decide) ?_
      refine g_goto (tgt := 20) ok dX8_canBeDrawn_16 (by decide) ?_
      exact g_zret ok hZ dX8_canBeDrawn_20 (by decide) h
theorem dX8_diagramSize_0 : decode cX8_diagramSize 0 = .ok (.iload_n 1, 1) := by decide +kernel
theorem dX8_diagramSize_1 : decode cX8_diagramSize 1 = .ok (.invokestatic 203, 3) := by decide +kernel
theorem dX8_diagramSize_4 : decode cX8_diagramSize 4 = .ok (.ifCond .ne 6, 3) := by decide +kernel
theorem dX8_diagramSize_7 : decode cX8_diagramSize 7 = .ok (.bipush (-3), 2) := by decide +kernel
theorem dX8_diagramSize_9 : decode cX8_diagramSize 9 = .ok (.ireturn, 1) := by decide +kernel
theorem dX8_diagramSize_10 : decode cX8_diagramSize 10 = .ok (.aload_n 0, 1) := by decide +kernel
theorem dX8_diagramSize_11 : decode cX8_diagramSize 11 = .ok (.iload_n 1, 1) := by decide +kernel
theorem dX8_diagramSize_12 : decode cX8_diagramSize 12 = .ok (.invokevirtual 206, 3) := by decide +kernel
theorem dX8_diagramSize_15 : decode cX8_diagramSize 15 = .ok (.ifCond .eq 14, 3) := by decide +kernel
theorem dX8_diagramSize_18 : decode cX8_diagramSize 18 = .ok (.aload_n 0, 1) := by decide +kernel
theorem dX8_diagramSize_19 : decode cX8_diagramSize 19 = .ok (.getfield 52, 3) := by decide +kernel
theorem dX8_diagramSize_22 : decode cX8_diagramSize 22 = .ok (.iload_n 1, 1) := by decide +kernel
theorem dX8_diagramSize_23 : decode cX8_diagramSize 23 = .ok (.invokevirtual 209, 3) := by decide +kernel
theorem dX8_diagramSize_26 : decode cX8_diagramSize 26 = .ok (.goto 5, 3) := by decide +kernel
theorem dX8_diagramSize_29 : decode cX8_diagramSize 29 = .ok (.bipush (-6), 2) := by decide +kernel
theorem dX8_diagramSize_31 : decode cX8_diagramSize 31 = .ok (.ireturn, 1) := by decide +kernel
theorem s_X8_diagramSize : gSt yX8_diagramSize cX8_diagramSize 2 (some .int) 1 := ⟨q3_125, q1_1, ⟨by decide, by decide, by decide +kernel⟩, by decide⟩
theorem sel_X8_diagramSize : Cond.selects yX8_diagramSize.cls yX8_diagramSize yX8_diagramSize ∈ gT := q3_124
theorem ins_X8_diagramSize : Cond.instanceMethod yX8_diagramSize ∈ gT := q3_123
def w_X8_diagramSize (p1 : Int32) (M : gM) (Q : Int32 → gM → Prop) : Prop := w_X8_isFamily p1 M (fun (r2 : Int32) (M1 : gM) => gbr ((r2 : Int32) = 0) (Q (-3) M1) (w_X8_canBeDrawn p1 M1 (fun (r4 : Int32) (M3 : gM) => gbr ((r4 : Int32) = 0) (Q (-6) M3) (w_X0_sizeOf p1 M3 (fun (r6 : Int32) (M5 : gM) => Q r6 M5)))))
set_option maxRecDepth 100000 in
set_option maxHeartbeats 4000000 in
theorem k_X8_diagramSize {p1 : Int32} {M : gM} {Q : Int32 → gM → Prop} (h : w_X8_diagramSize p1 M Q) : gCi gL 22 yX8_diagramSize cX8_diagramSize 2 .int [.inr 0, .inl p1] M Q := by
  refine gCi_of (by decide) gLn (gle rfl) (fun X ok hZ => ?_)
  show gW X 0 [some (.inr 0), some (.inl p1)] [] M
  unfold w_X8_diagramSize at h
  refine g_iload_n ok dX8_diagramSize_0 rfl rfl ?_
  refine g_callSi (st := []) (as := [.inl p1]) ok rfl (k_X8_isFamily h) s_X8_isFamily rfl (by decide) stt_X8_isFamily (gle rfl) rfl q3_126 dX8_diagramSize_1 ?_
  intro r2 M1 h
  refine g_if_ne (tgt := 10) ok dX8_diagramSize_4 (by decide) (fun z => ?_) (fun z => ?_)
  · have h := h.2 z
    refine g_aload_n ok dX8_diagramSize_10 rfl rfl ?_
    refine g_iload_n ok dX8_diagramSize_11 rfl rfl ?_
    refine g_callVi (st := []) (as := [.inl p1]) ok rfl (k_X8_canBeDrawn h) s_X8_canBeDrawn rfl (by decide) (gLm (by decide)) cl0 sel_X8_canBeDrawn ins_X8_canBeDrawn (gle rfl) rfl q3_129 dX8_diagramSize_12 ?_
    intro r4 M3 h
    refine g_if_eq (tgt := 29) ok dX8_diagramSize_15 (by decide) (fun z => ?_) (fun z => ?_)
    · have h := h.1 z
      refine g_bipush (v := (-6)) ok dX8_diagramSize_29 (by decide) ?_
      exact g_iret ok hZ dX8_diagramSize_31 h
    · have h := h.2 z
      refine g_aload_n ok dX8_diagramSize_18 rfl rfl ?_
      refine g_get (w := .inr 7) ok f0_4 (gLm (by decide)) q2_12 dX8_diagramSize_19 rfl ?_
      refine g_iload_n ok dX8_diagramSize_22 rfl rfl ?_
      refine g_callVi (st := []) (as := [.inl p1]) ok rfl (k_X0_sizeOf h) s_X0_sizeOf rfl (by decide) (gLm (by decide)) cl7 sel_X0_sizeOf ins_X0_sizeOf (gle rfl) rfl q3_133 dX8_diagramSize_23 ?_
      intro r6 M5 h
      refine g_goto (tgt := 31) ok dX8_diagramSize_26 (by decide) ?_
      exact g_iret ok hZ dX8_diagramSize_31 h
  · have h := h.1 z
    refine g_bipush (v := (-3)) ok dX8_diagramSize_7 (by decide) ?_
    exact g_iret ok hZ dX8_diagramSize_9 h
theorem dX8_nodesAt_0 : decode cX8_nodesAt 0 = .ok (.iload_n 1, 1) := by decide +kernel
theorem dX8_nodesAt_1 : decode cX8_nodesAt 1 = .ok (.invokestatic 203, 3) := by decide +kernel
theorem dX8_nodesAt_4 : decode cX8_nodesAt 4 = .ok (.ifCond .ne 6, 3) := by decide +kernel
theorem dX8_nodesAt_7 : decode cX8_nodesAt 7 = .ok (.bipush (-3), 2) := by decide +kernel
theorem dX8_nodesAt_9 : decode cX8_nodesAt 9 = .ok (.ireturn, 1) := by decide +kernel
theorem dX8_nodesAt_10 : decode cX8_nodesAt 10 = .ok (.aload_n 0, 1) := by decide +kernel
theorem dX8_nodesAt_11 : decode cX8_nodesAt 11 = .ok (.getfield 12, 3) := by decide +kernel
theorem dX8_nodesAt_14 : decode cX8_nodesAt 14 = .ok (.iload_n 2, 1) := by decide +kernel
theorem dX8_nodesAt_15 : decode cX8_nodesAt 15 = .ok (.invokevirtual 107, 3) := by decide +kernel
theorem dX8_nodesAt_18 : decode cX8_nodesAt 18 = .ok (.ifCond .ne 5, 3) := by decide +kernel
theorem dX8_nodesAt_21 : decode cX8_nodesAt 21 = .ok (.iconst (-1), 1) := by decide +kernel
theorem dX8_nodesAt_22 : decode cX8_nodesAt 22 = .ok (.ireturn, 1) := by decide +kernel
theorem dX8_nodesAt_23 : decode cX8_nodesAt 23 = .ok (.aload_n 0, 1) := by decide +kernel
theorem dX8_nodesAt_24 : decode cX8_nodesAt 24 = .ok (.iload_n 1, 1) := by decide +kernel
theorem dX8_nodesAt_25 : decode cX8_nodesAt 25 = .ok (.invokevirtual 206, 3) := by decide +kernel
theorem dX8_nodesAt_28 : decode cX8_nodesAt 28 = .ok (.ifCond .eq 15, 3) := by decide +kernel
theorem dX8_nodesAt_31 : decode cX8_nodesAt 31 = .ok (.aload_n 0, 1) := by decide +kernel
theorem dX8_nodesAt_32 : decode cX8_nodesAt 32 = .ok (.getfield 52, 3) := by decide +kernel
theorem dX8_nodesAt_35 : decode cX8_nodesAt 35 = .ok (.iload_n 1, 1) := by decide +kernel
theorem dX8_nodesAt_36 : decode cX8_nodesAt 36 = .ok (.iload_n 2, 1) := by decide +kernel
theorem dX8_nodesAt_37 : decode cX8_nodesAt 37 = .ok (.invokevirtual 212, 3) := by decide +kernel
theorem dX8_nodesAt_40 : decode cX8_nodesAt 40 = .ok (.goto 5, 3) := by decide +kernel
theorem dX8_nodesAt_43 : decode cX8_nodesAt 43 = .ok (.bipush (-6), 2) := by decide +kernel
theorem dX8_nodesAt_45 : decode cX8_nodesAt 45 = .ok (.ireturn, 1) := by decide +kernel
theorem s_X8_nodesAt : gSt yX8_nodesAt cX8_nodesAt 3 (some .int) 2 := ⟨q3_153, q1_1, ⟨by decide, by decide, by decide +kernel⟩, by decide⟩
theorem sel_X8_nodesAt : Cond.selects yX8_nodesAt.cls yX8_nodesAt yX8_nodesAt ∈ gT := q3_152
theorem ins_X8_nodesAt : Cond.instanceMethod yX8_nodesAt ∈ gT := q3_151
def w_X8_nodesAt (p1 : Int32) (p2 : Int32) (M : gM) (Q : Int32 → gM → Prop) : Prop := w_X8_isFamily p1 M (fun (r2 : Int32) (M1 : gM) => gbr ((r2 : Int32) = 0) (Q (-3) M1) (w_X5_isVertex p2 M1 (fun (r4 : Int32) (M3 : gM) => gbr ((r4 : Int32) = 0) (Q (-1) M3) (w_X8_canBeDrawn p1 M3 (fun (r6 : Int32) (M5 : gM) => gbr ((r6 : Int32) = 0) (Q (-6) M5) (w_X0_countAt p1 p2 M5 (fun (r8 : Int32) (M7 : gM) => Q r8 M7)))))))
set_option maxRecDepth 100000 in
set_option maxHeartbeats 4000000 in
theorem k_X8_nodesAt {p1 : Int32} {p2 : Int32} {M : gM} {Q : Int32 → gM → Prop} (h : w_X8_nodesAt p1 p2 M Q) : gCi gL 22 yX8_nodesAt cX8_nodesAt 3 .int [.inr 0, .inl p1, .inl p2] M Q := by
  refine gCi_of (by decide) gLn (gle rfl) (fun X ok hZ => ?_)
  show gW X 0 [some (.inr 0), some (.inl p1), some (.inl p2)] [] M
  unfold w_X8_nodesAt at h
  refine g_iload_n ok dX8_nodesAt_0 rfl rfl ?_
  refine g_callSi (st := []) (as := [.inl p1]) ok rfl (k_X8_isFamily h) s_X8_isFamily rfl (by decide) stt_X8_isFamily (gle rfl) rfl q3_126 dX8_nodesAt_1 ?_
  intro r2 M1 h
  refine g_if_ne (tgt := 10) ok dX8_nodesAt_4 (by decide) (fun z => ?_) (fun z => ?_)
  · have h := h.2 z
    refine g_aload_n ok dX8_nodesAt_10 rfl rfl ?_
    refine g_get (w := .inr 1) ok f0_0 (gLm (by decide)) q2_8 dX8_nodesAt_11 rfl ?_
    refine g_iload_n ok dX8_nodesAt_14 rfl rfl ?_
    refine g_callVi (st := []) (as := [.inl p2]) ok rfl (k_X5_isVertex h) s_X5_isVertex rfl (by decide) (gLm (by decide)) cl1 sel_X5_isVertex ins_X5_isVertex (gle rfl) rfl q2_117 dX8_nodesAt_15 ?_
    intro r4 M3 h
    refine g_if_ne (tgt := 23) ok dX8_nodesAt_18 (by decide) (fun z => ?_) (fun z => ?_)
    · have h := h.2 z
      refine g_aload_n ok dX8_nodesAt_23 rfl rfl ?_
      refine g_iload_n ok dX8_nodesAt_24 rfl rfl ?_
      refine g_callVi (st := []) (as := [.inl p1]) ok rfl (k_X8_canBeDrawn h) s_X8_canBeDrawn rfl (by decide) (gLm (by decide)) cl0 sel_X8_canBeDrawn ins_X8_canBeDrawn (gle rfl) rfl q3_129 dX8_nodesAt_25 ?_
      intro r6 M5 h
      refine g_if_eq (tgt := 43) ok dX8_nodesAt_28 (by decide) (fun z => ?_) (fun z => ?_)
      · have h := h.1 z
        refine g_bipush (v := (-6)) ok dX8_nodesAt_43 (by decide) ?_
        exact g_iret ok hZ dX8_nodesAt_45 h
      · have h := h.2 z
        refine g_aload_n ok dX8_nodesAt_31 rfl rfl ?_
        refine g_get (w := .inr 7) ok f0_4 (gLm (by decide)) q2_12 dX8_nodesAt_32 rfl ?_
        refine g_iload_n ok dX8_nodesAt_35 rfl rfl ?_
        refine g_iload_n ok dX8_nodesAt_36 rfl rfl ?_
        refine g_callVi (st := []) (as := [.inl p1, .inl p2]) ok rfl (k_X0_countAt h) s_X0_countAt rfl (by decide) (gLm (by decide)) cl7 sel_X0_countAt ins_X0_countAt (gle rfl) rfl q3_154 dX8_nodesAt_37 ?_
        intro r8 M7 h
        refine g_goto (tgt := 45) ok dX8_nodesAt_40 (by decide) ?_
        exact g_iret ok hZ dX8_nodesAt_45 h
    · have h := h.1 z
      refine g_iconst (v := (-1)) ok dX8_nodesAt_21 (by decide) ?_
      exact g_iret ok hZ dX8_nodesAt_22 h
  · have h := h.1 z
    refine g_bipush (v := (-3)) ok dX8_nodesAt_7 (by decide) ?_
    exact g_iret ok hZ dX8_nodesAt_9 h
theorem dX8_isSelfDual_0 : decode cX8_isSelfDual 0 = .ok (.aload_n 0, 1) := by decide +kernel
theorem dX8_isSelfDual_1 : decode cX8_isSelfDual 1 = .ok (.getfield 31, 3) := by decide +kernel
theorem dX8_isSelfDual_4 : decode cX8_isSelfDual 4 = .ok (.invokevirtual 122, 3) := by decide +kernel
theorem dX8_isSelfDual_7 : decode cX8_isSelfDual 7 = .ok (.ifCond .ne 6, 3) := by decide +kernel
theorem dX8_isSelfDual_10 : decode cX8_isSelfDual 10 = .ok (.bipush (-6), 2) := by decide +kernel
theorem dX8_isSelfDual_12 : decode cX8_isSelfDual 12 = .ok (.ireturn, 1) := by decide +kernel
theorem dX8_isSelfDual_13 : decode cX8_isSelfDual 13 = .ok (.aload_n 0, 1) := by decide +kernel
theorem dX8_isSelfDual_14 : decode cX8_isSelfDual 14 = .ok (.getfield 31, 3) := by decide +kernel
theorem dX8_isSelfDual_17 : decode cX8_isSelfDual 17 = .ok (.invokevirtual 216, 3) := by decide +kernel
theorem dX8_isSelfDual_20 : decode cX8_isSelfDual 20 = .ok (.bipush (-7), 2) := by decide +kernel
theorem dX8_isSelfDual_22 : decode cX8_isSelfDual 22 = .ok (.if_icmp .ne 7, 3) := by decide +kernel
theorem dX8_isSelfDual_25 : decode cX8_isSelfDual 25 = .ok (.iconst 1, 1) := by decide +kernel
theorem dX8_isSelfDual_26 : decode cX8_isSelfDual 26 = .ok (.goto 4, 3) := by decide +kernel
theorem dX8_isSelfDual_29 : decode cX8_isSelfDual 29 = .ok (.iconst 0, 1) := by decide +kernel
theorem dX8_isSelfDual_30 : decode cX8_isSelfDual 30 = .ok (.ireturn, 1) := by decide +kernel
theorem s_X8_isSelfDual : gSt yX8_isSelfDual cX8_isSelfDual 1 (some .int) 0 := ⟨q3_161, q1_1, ⟨by decide, by decide, by decide +kernel⟩, by decide⟩
theorem sel_X8_isSelfDual : Cond.selects yX8_isSelfDual.cls yX8_isSelfDual yX8_isSelfDual ∈ gT := q3_160
theorem ins_X8_isSelfDual : Cond.instanceMethod yX8_isSelfDual ∈ gT := q3_159
def w_X8_isSelfDual  (M : gM) (Q : Int32 → gM → Prop) : Prop := w_X6_succeeds M (fun (r2 : Int32) (M1 : gM) => gbr ((r2 : Int32) = 0) (Q (-6) M1) (w_X6_leastDifference M1 (fun (r4 : Int32) (M3 : gM) => gbr ((r4 : Int32) = (-7)) (Q 1 M3) (Q 0 M3))))
set_option maxRecDepth 100000 in
set_option maxHeartbeats 4000000 in
theorem k_X8_isSelfDual  {M : gM} {Q : Int32 → gM → Prop} (h : w_X8_isSelfDual  M Q) : gCi gL 21 yX8_isSelfDual cX8_isSelfDual 1 .int [.inr 0] M Q := by
  refine gCi_of (by decide) gLn (gle rfl) (fun X ok hZ => ?_)
  show gW X 0 [some (.inr 0)] [] M
  unfold w_X8_isSelfDual at h
  refine g_aload_n ok dX8_isSelfDual_0 rfl rfl ?_
  refine g_get (w := .inr 4) ok f0_2 (gLm (by decide)) q2_10 dX8_isSelfDual_1 rfl ?_
  refine g_callVi (st := []) (as := []) ok rfl (k_X6_succeeds h) s_X6_succeeds rfl (by decide) (gLm (by decide)) cl4 sel_X6_succeeds ins_X6_succeeds (gle rfl) rfl q2_140 dX8_isSelfDual_4 ?_
  intro r2 M1 h
  refine g_if_ne (tgt := 13) ok dX8_isSelfDual_7 (by decide) (fun z => ?_) (fun z => ?_)
  · have h := h.2 z
    refine g_aload_n ok dX8_isSelfDual_13 rfl rfl ?_
    refine g_get (w := .inr 4) ok f0_2 (gLm (by decide)) q2_10 dX8_isSelfDual_14 rfl ?_
    refine g_callVi (st := []) (as := []) ok rfl (k_X6_leastDifference h) s_X6_leastDifference rfl (by decide) (gLm (by decide)) cl4 sel_X6_leastDifference ins_X6_leastDifference (gle rfl) rfl q3_162 dX8_isSelfDual_17 ?_
    intro r4 M3 h
    refine g_bipush (v := (-7)) ok dX8_isSelfDual_20 (by decide) ?_
    refine g_icmp_ne (tgt := 29) ok dX8_isSelfDual_22 (by decide) (fun z => ?_) (fun z => ?_)
    · have h := h.2 z
      refine g_iconst (v := 0) ok dX8_isSelfDual_29 (by decide) ?_
      exact g_iret ok hZ dX8_isSelfDual_30 h
    · have h := h.1 z
      refine g_iconst (v := 1) ok dX8_isSelfDual_25 (by decide) ?_
      refine g_goto (tgt := 30) ok dX8_isSelfDual_26 (by decide) ?_
      exact g_iret ok hZ dX8_isSelfDual_30 h
  · have h := h.1 z
    refine g_bipush (v := (-6)) ok dX8_isSelfDual_10 (by decide) ?_
    exact g_iret ok hZ dX8_isSelfDual_12 h
theorem dX8_difference_0 : decode cX8_difference 0 = .ok (.aload_n 0, 1) := by decide +kernel
theorem dX8_difference_1 : decode cX8_difference 1 = .ok (.getfield 31, 3) := by decide +kernel
theorem dX8_difference_4 : decode cX8_difference 4 = .ok (.invokevirtual 122, 3) := by decide +kernel
theorem dX8_difference_7 : decode cX8_difference 7 = .ok (.ifCond .eq 13, 3) := by decide +kernel
theorem dX8_difference_10 : decode cX8_difference 10 = .ok (.aload_n 0, 1) := by decide +kernel
theorem dX8_difference_11 : decode cX8_difference 11 = .ok (.getfield 31, 3) := by decide +kernel
theorem dX8_difference_14 : decode cX8_difference 14 = .ok (.invokevirtual 216, 3) := by decide +kernel
theorem dX8_difference_17 : decode cX8_difference 17 = .ok (.goto 5, 3) := by decide +kernel
theorem dX8_difference_20 : decode cX8_difference 20 = .ok (.bipush (-6), 2) := by decide +kernel
theorem dX8_difference_22 : decode cX8_difference 22 = .ok (.ireturn, 1) := by decide +kernel
theorem s_X8_difference : gSt yX8_difference cX8_difference 1 (some .int) 0 := ⟨q3_175, q1_1, ⟨by decide, by decide, by decide +kernel⟩, by decide⟩
theorem sel_X8_difference : Cond.selects yX8_difference.cls yX8_difference yX8_difference ∈ gT := q3_174
theorem ins_X8_difference : Cond.instanceMethod yX8_difference ∈ gT := q3_173
def w_X8_difference  (M : gM) (Q : Int32 → gM → Prop) : Prop := w_X6_succeeds M (fun (r2 : Int32) (M1 : gM) => gbr ((r2 : Int32) = 0) (Q (-6) M1) (w_X6_leastDifference M1 (fun (r4 : Int32) (M3 : gM) => Q r4 M3)))
set_option maxRecDepth 100000 in
set_option maxHeartbeats 4000000 in
theorem k_X8_difference  {M : gM} {Q : Int32 → gM → Prop} (h : w_X8_difference  M Q) : gCi gL 21 yX8_difference cX8_difference 1 .int [.inr 0] M Q := by
  refine gCi_of (by decide) gLn (gle rfl) (fun X ok hZ => ?_)
  show gW X 0 [some (.inr 0)] [] M
  unfold w_X8_difference at h
  refine g_aload_n ok dX8_difference_0 rfl rfl ?_
  refine g_get (w := .inr 4) ok f0_2 (gLm (by decide)) q2_10 dX8_difference_1 rfl ?_
  refine g_callVi (st := []) (as := []) ok rfl (k_X6_succeeds h) s_X6_succeeds rfl (by decide) (gLm (by decide)) cl4 sel_X6_succeeds ins_X6_succeeds (gle rfl) rfl q2_140 dX8_difference_4 ?_
  intro r2 M1 h
  refine g_if_eq (tgt := 20) ok dX8_difference_7 (by decide) (fun z => ?_) (fun z => ?_)
  · have h := h.1 z
    refine g_bipush (v := (-6)) ok dX8_difference_20 (by decide) ?_
    exact g_iret ok hZ dX8_difference_22 h
  · have h := h.2 z
    refine g_aload_n ok dX8_difference_10 rfl rfl ?_
    refine g_get (w := .inr 4) ok f0_2 (gLm (by decide)) q2_10 dX8_difference_11 rfl ?_
    refine g_callVi (st := []) (as := []) ok rfl (k_X6_leastDifference h) s_X6_leastDifference rfl (by decide) (gLm (by decide)) cl4 sel_X6_leastDifference ins_X6_leastDifference (gle rfl) rfl q3_162 dX8_difference_14 ?_
    intro r4 M3 h
    refine g_goto (tgt := 22) ok dX8_difference_17 (by decide) ?_
    exact g_iret ok hZ dX8_difference_22 h
theorem dX8_isIntersecting_0 : decode cX8_isIntersecting 0 = .ok (.aload_n 0, 1) := by decide +kernel
theorem dX8_isIntersecting_1 : decode cX8_isIntersecting 1 = .ok (.getfield 12, 3) := by decide +kernel
theorem dX8_isIntersecting_4 : decode cX8_isIntersecting 4 = .ok (.invokevirtual 219, 3) := by decide +kernel
theorem dX8_isIntersecting_7 : decode cX8_isIntersecting 7 = .ok (.ifCond .eq 7, 3) := by decide +kernel
theorem dX8_isIntersecting_10 : decode cX8_isIntersecting 10 = .ok (.iconst 1, 1) := by decide +kernel
theorem dX8_isIntersecting_11 : decode cX8_isIntersecting 11 = .ok (.goto 4, 3) := by decide +kernel
theorem dX8_isIntersecting_14 : decode cX8_isIntersecting 14 = .ok (.iconst 0, 1) := by decide +kernel
theorem dX8_isIntersecting_15 : decode cX8_isIntersecting 15 = .ok (.ireturn, 1) := by decide +kernel
theorem s_X8_isIntersecting : gSt yX8_isIntersecting cX8_isIntersecting 1 (some .int) 0 := ⟨q3_179, q1_1, ⟨by decide, by decide, by decide +kernel⟩, by decide⟩
theorem sel_X8_isIntersecting : Cond.selects yX8_isIntersecting.cls yX8_isIntersecting yX8_isIntersecting ∈ gT := q3_178
theorem ins_X8_isIntersecting : Cond.instanceMethod yX8_isIntersecting ∈ gT := q3_177
def w_X8_isIntersecting  (M : gM) (Q : Int32 → gM → Prop) : Prop := w_X5_eachTwoMeet M (fun (r2 : Int32) (M1 : gM) => gbr ((r2 : Int32) = 0) (Q 0 M1) (Q 1 M1))
set_option maxRecDepth 100000 in
set_option maxHeartbeats 4000000 in
theorem k_X8_isIntersecting  {M : gM} {Q : Int32 → gM → Prop} (h : w_X8_isIntersecting  M Q) : gCi gL 1 yX8_isIntersecting cX8_isIntersecting 1 .int [.inr 0] M Q := by
  refine gCi_of (by decide) gLn (gle rfl) (fun X ok hZ => ?_)
  show gW X 0 [some (.inr 0)] [] M
  unfold w_X8_isIntersecting at h
  refine g_aload_n ok dX8_isIntersecting_0 rfl rfl ?_
  refine g_get (w := .inr 1) ok f0_0 (gLm (by decide)) q2_8 dX8_isIntersecting_1 rfl ?_
  refine g_callVi (st := []) (as := []) ok rfl (k_X5_eachTwoMeet h) s_X5_eachTwoMeet rfl (by decide) (gLm (by decide)) cl1 sel_X5_eachTwoMeet ins_X5_eachTwoMeet (gle rfl) rfl q3_180 dX8_isIntersecting_4 ?_
  intro r2 M1 h
  refine g_if_eq (tgt := 14) ok dX8_isIntersecting_7 (by decide) (fun z => ?_) (fun z => ?_)
  · have h := h.1 z
    refine g_iconst (v := 0) ok dX8_isIntersecting_14 (by decide) ?_
    exact g_iret ok hZ dX8_isIntersecting_15 h
  · have h := h.2 z
    refine g_iconst (v := 1) ok dX8_isIntersecting_10 (by decide) ?_
    refine g_goto (tgt := 15) ok dX8_isIntersecting_11 (by decide) ?_
    exact g_iret ok hZ dX8_isIntersecting_15 h
theorem dX8_type_0 : decode cX8_type 0 = .ok (.aload_n 0, 1) := by decide +kernel
theorem dX8_type_1 : decode cX8_type 1 = .ok (.getfield 59, 3) := by decide +kernel
theorem dX8_type_4 : decode cX8_type 4 = .ok (.iload_n 1, 1) := by decide +kernel
theorem dX8_type_5 : decode cX8_type 5 = .ok (.invokevirtual 222, 3) := by decide +kernel
theorem dX8_type_8 : decode cX8_type 8 = .ok (.ifCond .eq 13, 3) := by decide +kernel
theorem dX8_type_11 : decode cX8_type 11 = .ok (.aload_n 0, 1) := by decide +kernel
theorem dX8_type_12 : decode cX8_type 12 = .ok (.getfield 59, 3) := by decide +kernel
theorem dX8_type_15 : decode cX8_type 15 = .ok (.getfield 225, 3) := by decide +kernel
theorem dX8_type_18 : decode cX8_type 18 = .ok (.goto 5, 3) := by decide +kernel
theorem dX8_type_21 : decode cX8_type 21 = .ok (.bipush (-5), 2) := by decide +kernel
theorem dX8_type_23 : decode cX8_type 23 = .ok (.ireturn, 1) := by decide +kernel
theorem s_X8_type : gSt yX8_type cX8_type 2 (some .int) 1 := ⟨q3_187, q1_1, ⟨by decide, by decide, by decide +kernel⟩, by decide⟩
theorem sel_X8_type : Cond.selects yX8_type.cls yX8_type yX8_type ∈ gT := q3_186
theorem ins_X8_type : Cond.instanceMethod yX8_type ∈ gT := q3_185
def w_X8_type (p1 : Int32) (M : gM) (Q : Int32 → gM → Prop) : Prop := w_X1_append p1 M (fun (r2 : Int32) (M1 : gM) => gbr ((r2 : Int32) = 0) (Q (-5) M1) (Q (M1 8 0) M1))
set_option maxRecDepth 100000 in
set_option maxHeartbeats 4000000 in
theorem k_X8_type {p1 : Int32} {M : gM} {Q : Int32 → gM → Prop} (h : w_X8_type p1 M Q) : gCi gL 1 yX8_type cX8_type 2 .int [.inr 0, .inl p1] M Q := by
  refine gCi_of (by decide) gLn (gle rfl) (fun X ok hZ => ?_)
  show gW X 0 [some (.inr 0), some (.inl p1)] [] M
  unfold w_X8_type at h
  refine g_aload_n ok dX8_type_0 rfl rfl ?_
  refine g_get (w := .inr 8) ok f0_5 (gLm (by decide)) q2_13 dX8_type_1 rfl ?_
  refine g_iload_n ok dX8_type_4 rfl rfl ?_
  refine g_callVi (st := []) (as := [.inl p1]) ok rfl (k_X1_append h) s_X1_append rfl (by decide) (gLm (by decide)) cl8 sel_X1_append ins_X1_append (gle rfl) rfl q3_188 dX8_type_5 ?_
  intro r2 M1 h
  refine g_if_eq (tgt := 21) ok dX8_type_8 (by decide) (fun z => ?_) (fun z => ?_)
  · have h := h.1 z
    refine g_bipush (v := (-5)) ok dX8_type_21 (by decide) ?_
    exact g_iret ok hZ dX8_type_23 h
  · have h := h.2 z
    refine g_aload_n ok dX8_type_11 rfl rfl ?_
    refine g_get (w := .inr 8) ok f0_5 (gLm (by decide)) q2_13 dX8_type_12 rfl ?_
    refine g_get (w := .inl (M1 8 0)) ok f8_0 (gLm (by decide)) q1_234 dX8_type_15 rfl ?_
    refine g_goto (tgt := 23) ok dX8_type_18 (by decide) ?_
    exact g_iret ok hZ dX8_type_23 h
theorem dX8_clearText_0 : decode cX8_clearText 0 = .ok (.aload_n 0, 1) := by decide +kernel
theorem dX8_clearText_1 : decode cX8_clearText 1 = .ok (.getfield 59, 3) := by decide +kernel
theorem dX8_clearText_4 : decode cX8_clearText 4 = .ok (.getfield 225, 3) := by decide +kernel
theorem dX8_clearText_7 : decode cX8_clearText 7 = .ok (.istore_n 1, 1) := by decide +kernel
theorem dX8_clearText_8 : decode cX8_clearText 8 = .ok (.aload_n 0, 1) := by decide +kernel
theorem dX8_clearText_9 : decode cX8_clearText 9 = .ok (.getfield 59, 3) := by decide +kernel
theorem dX8_clearText_12 : decode cX8_clearText 12 = .ok (.iconst 0, 1) := by decide +kernel
theorem dX8_clearText_13 : decode cX8_clearText 13 = .ok (.putfield 225, 3) := by decide +kernel
theorem dX8_clearText_16 : decode cX8_clearText 16 = .ok (.iload_n 1, 1) := by decide +kernel
theorem dX8_clearText_17 : decode cX8_clearText 17 = .ok (.ireturn, 1) := by decide +kernel
theorem s_X8_clearText : gSt yX8_clearText cX8_clearText 2 (some .int) 0 := ⟨q3_195, q1_1, ⟨by decide, by decide, by decide +kernel⟩, by decide⟩
theorem sel_X8_clearText : Cond.selects yX8_clearText.cls yX8_clearText yX8_clearText ∈ gT := q3_194
theorem ins_X8_clearText : Cond.instanceMethod yX8_clearText ∈ gT := q3_193
def w_X8_clearText  (M : gM) (Q : Int32 → gM → Prop) : Prop := ∀ x1 : Int32, x1 = (M 8 0) → (∀ M2 : gM, M2 = gst M 8 0 0 → (Q x1 M2))
set_option maxRecDepth 100000 in
set_option maxHeartbeats 4000000 in
theorem k_X8_clearText  {M : gM} {Q : Int32 → gM → Prop} (h : w_X8_clearText  M Q) : gCi gL 0 yX8_clearText cX8_clearText 2 .int [.inr 0] M Q := by
  refine gCi_of (by decide) gLn (gle rfl) (fun X ok hZ => ?_)
  show gW X 0 [some (.inr 0), none] [] M
  unfold w_X8_clearText at h
  refine g_aload_n ok dX8_clearText_0 rfl rfl ?_
  refine g_get (w := .inr 8) ok f0_5 (gLm (by decide)) q2_13 dX8_clearText_1 rfl ?_
  refine g_get (w := .inl (M 8 0)) ok f8_0 (gLm (by decide)) q1_234 dX8_clearText_4 rfl ?_
  refine g_nm (fun x1 ex1 => ?_)
  have h := h x1 ex1
  refine g_istore_n (lv1 := [some (.inr 0), some (.inl x1)]) ok dX8_clearText_7 rfl (glt rfl) rfl ?_
  refine g_aload_n ok dX8_clearText_8 rfl rfl ?_
  refine g_get (w := .inr 8) ok f0_5 (gLm (by decide)) q2_13 dX8_clearText_9 rfl ?_
  refine g_iconst (v := 0) ok dX8_clearText_12 (by decide) ?_
  refine g_put ok f8_0p (gLm (by decide)) q1_234 dX8_clearText_13 rfl rfl (g_mem (fun M2 eM2 => ?_))
  have h := h M2 eM2
  refine g_iload_n ok dX8_clearText_16 rfl rfl ?_
  exact g_iret ok hZ dX8_clearText_17 h
theorem dX8_readEdges_0 : decode cX8_readEdges 0 = .ok (.aload_n 0, 1) := by decide +kernel
theorem dX8_readEdges_1 : decode cX8_readEdges 1 = .ok (.getfield 12, 3) := by decide +kernel
theorem dX8_readEdges_4 : decode cX8_readEdges 4 = .ok (.getfield 87, 3) := by decide +kernel
theorem dX8_readEdges_7 : decode cX8_readEdges 7 = .ok (.istore_n 1, 1) := by decide +kernel
theorem dX8_readEdges_8 : decode cX8_readEdges 8 = .ok (.aload_n 0, 1) := by decide +kernel
theorem dX8_readEdges_9 : decode cX8_readEdges 9 = .ok (.getfield 59, 3) := by decide +kernel
theorem dX8_readEdges_12 : decode cX8_readEdges 12 = .ok (.aload_n 0, 1) := by decide +kernel
theorem dX8_readEdges_13 : decode cX8_readEdges 13 = .ok (.getfield 12, 3) := by decide +kernel
theorem dX8_readEdges_16 : decode cX8_readEdges 16 = .ok (.invokevirtual 228, 3) := by decide +kernel
theorem dX8_readEdges_19 : decode cX8_readEdges 19 = .ok (.istore_n 2, 1) := by decide +kernel
theorem dX8_readEdges_20 : decode cX8_readEdges 20 = .ok (.iload_n 2, 1) := by decide +kernel
theorem dX8_readEdges_21 : decode cX8_readEdges 21 = .ok (.iconst (-1), 1) := by decide +kernel
theorem dX8_readEdges_22 : decode cX8_readEdges 22 = .ok (.if_icmp .eq 16, 3) := by decide +kernel
theorem dX8_readEdges_25 : decode cX8_readEdges 25 = .ok (.aload_n 0, 1) := by decide +kernel
theorem dX8_readEdges_26 : decode cX8_readEdges 26 = .ok (.getfield 12, 3) := by decide +kernel
theorem dX8_readEdges_29 : decode cX8_readEdges 29 = .ok (.iload_n 1, 1) := by decide +kernel
theorem dX8_readEdges_30 : decode cX8_readEdges 30 = .ok (.putfield 87, 3) := by decide +kernel
theorem dX8_readEdges_33 : decode cX8_readEdges 33 = .ok (.bipush (-100), 2) := by decide +kernel
theorem dX8_readEdges_35 : decode cX8_readEdges 35 = .ok (.iload_n 2, 1) := by decide +kernel
theorem dX8_readEdges_36 : decode cX8_readEdges 36 = .ok (.isub, 1) := by decide +kernel
theorem dX8_readEdges_37 : decode cX8_readEdges 37 = .ok (.ireturn, 1) := by decide +kernel
theorem dX8_readEdges_38 : decode cX8_readEdges 38 = .ok (.aload_n 0, 1) := by decide +kernel
theorem dX8_readEdges_39 : decode cX8_readEdges 39 = .ok (.getfield 12, 3) := by decide +kernel
theorem dX8_readEdges_42 : decode cX8_readEdges 42 = .ok (.invokevirtual 84, 3) := by decide +kernel
theorem dX8_readEdges_45 : decode cX8_readEdges 45 = .ok (.aload_n 0, 1) := by decide +kernel
theorem dX8_readEdges_46 : decode cX8_readEdges 46 = .ok (.getfield 12, 3) := by decide +kernel
theorem dX8_readEdges_49 : decode cX8_readEdges 49 = .ok (.getfield 87, 3) := by decide +kernel
theorem dX8_readEdges_52 : decode cX8_readEdges 52 = .ok (.iload_n 1, 1) := by decide +kernel
theorem dX8_readEdges_53 : decode cX8_readEdges 53 = .ok (.isub, 1) := by decide +kernel
theorem dX8_readEdges_54 : decode cX8_readEdges 54 = .ok (.ireturn, 1) := by decide +kernel
theorem s_X8_readEdges : gSt yX8_readEdges cX8_readEdges 3 (some .int) 0 := ⟨q3_199, q1_1, ⟨by decide, by decide, by decide +kernel⟩, by decide⟩
theorem sel_X8_readEdges : Cond.selects yX8_readEdges.cls yX8_readEdges yX8_readEdges ∈ gT := q3_198
theorem ins_X8_readEdges : Cond.instanceMethod yX8_readEdges ∈ gT := q3_197
def w_X8_readEdges  (M : gM) (Q : Int32 → gM → Prop) : Prop := ∀ x1 : Int32, x1 = (M 1 1) → (w_X1_readInto M (fun (r3 : Int32) (M2 : gM) => gbr ((r3 : Int32) = (-1)) (w_X5_endEdit M2 (fun (M4 : gM) => Q ((M4 1 1) - x1) M4)) (∀ M6 : gM, M6 = gst M2 1 1 x1 → (Q ((-100) - r3) M6))))
set_option maxRecDepth 100000 in
set_option maxHeartbeats 4000000 in
theorem k_X8_readEdges  {M : gM} {Q : Int32 → gM → Prop} (h : w_X8_readEdges  M Q) : gCi gL 4 yX8_readEdges cX8_readEdges 3 .int [.inr 0] M Q := by
  refine gCi_of (by decide) gLn (gle rfl) (fun X ok hZ => ?_)
  show gW X 0 [some (.inr 0), none, none] [] M
  unfold w_X8_readEdges at h
  refine g_aload_n ok dX8_readEdges_0 rfl rfl ?_
  refine g_get (w := .inr 1) ok f0_0 (gLm (by decide)) q2_8 dX8_readEdges_1 rfl ?_
  refine g_get (w := .inl (M 1 1)) ok f1_1 (gLm (by decide)) q1_64 dX8_readEdges_4 rfl ?_
  refine g_nm (fun x1 ex1 => ?_)
  have h := h x1 ex1
  refine g_istore_n (lv1 := [some (.inr 0), some (.inl x1), none]) ok dX8_readEdges_7 rfl (glt rfl) rfl ?_
  refine g_aload_n ok dX8_readEdges_8 rfl rfl ?_
  refine g_get (w := .inr 8) ok f0_5 (gLm (by decide)) q2_13 dX8_readEdges_9 rfl ?_
  refine g_aload_n ok dX8_readEdges_12 rfl rfl ?_
  refine g_get (w := .inr 1) ok f0_0 (gLm (by decide)) q2_8 dX8_readEdges_13 rfl ?_
  refine g_callVi (st := []) (as := [.inr 1]) ok rfl (k_X1_readInto h) s_X1_readInto rfl (by decide) (gLm (by decide)) cl8 sel_X1_readInto ins_X1_readInto (gle rfl) rfl q3_200 dX8_readEdges_16 ?_
  intro r3 M2 h
  refine g_istore_n (lv1 := [some (.inr 0), some (.inl x1), some (.inl r3)]) ok dX8_readEdges_19 rfl (glt rfl) rfl ?_
  refine g_iload_n ok dX8_readEdges_20 rfl rfl ?_
  refine g_iconst (v := (-1)) ok dX8_readEdges_21 (by decide) ?_
  refine g_icmp_eq (tgt := 38) ok dX8_readEdges_22 (by decide) (fun z => ?_) (fun z => ?_)
  · have h := h.1 z
    refine g_aload_n ok dX8_readEdges_38 rfl rfl ?_
    refine g_get (w := .inr 1) ok f0_0 (gLm (by decide)) q2_8 dX8_readEdges_39 rfl ?_
    refine g_callVv (st := []) (as := []) ok rfl (k_X5_endEdit h) s_X5_endEdit rfl (by decide) (gLm (by decide)) cl1 sel_X5_endEdit ins_X5_endEdit (gle rfl) rfl q2_67 dX8_readEdges_42 ?_
    intro M4 h
    refine g_aload_n ok dX8_readEdges_45 rfl rfl ?_
    refine g_get (w := .inr 1) ok f0_0 (gLm (by decide)) q2_8 dX8_readEdges_46 rfl ?_
    refine g_get (w := .inl (M4 1 1)) ok f1_1 (gLm (by decide)) q1_64 dX8_readEdges_49 rfl ?_
    refine g_iload_n ok dX8_readEdges_52 rfl rfl ?_
    refine g_isub ok dX8_readEdges_53 ?_
    exact g_iret ok hZ dX8_readEdges_54 h
  · have h := h.2 z
    refine g_aload_n ok dX8_readEdges_25 rfl rfl ?_
    refine g_get (w := .inr 1) ok f0_0 (gLm (by decide)) q2_8 dX8_readEdges_26 rfl ?_
    refine g_iload_n ok dX8_readEdges_29 rfl rfl ?_
    refine g_put ok f1_1p (gLm (by decide)) q1_64 dX8_readEdges_30 rfl rfl (g_mem (fun M6 eM6 => ?_))
    have h := h M6 eM6
    refine g_bipush (v := (-100)) ok dX8_readEdges_33 (by decide) ?_
    refine g_iload_n ok dX8_readEdges_35 rfl rfl ?_
    refine g_isub ok dX8_readEdges_36 ?_
    exact g_iret ok hZ dX8_readEdges_37 h
theorem dX9_in_0 : decode cX9_in 0 = .ok (.iload_n 0, 1) := by decide +kernel
theorem dX9_in_1 : decode cX9_in 1 = .ok (.iload_n 1, 1) := by decide +kernel
theorem dX9_in_2 : decode cX9_in 2 = .ok (.if_icmp .lt 12, 3) := by decide +kernel
theorem dX9_in_5 : decode cX9_in 5 = .ok (.iload_n 0, 1) := by decide +kernel
theorem dX9_in_6 : decode cX9_in 6 = .ok (.iload_n 2, 1) := by decide +kernel
theorem dX9_in_7 : decode cX9_in 7 = .ok (.if_icmp .gt 7, 3) := by decide +kernel
theorem dX9_in_10 : decode cX9_in 10 = .ok (.iconst 1, 1) := by decide +kernel
theorem dX9_in_11 : decode cX9_in 11 = .ok (.goto 4, 3) := by decide +kernel
theorem dX9_in_14 : decode cX9_in 14 = .ok (.iconst 0, 1) := by decide +kernel
theorem dX9_in_15 : decode cX9_in 15 = .ok (.ireturn, 1) := by decide +kernel
theorem s_X9_in : gSt yX9_in cX9_in 3 (some .boolean) 3 := ⟨q4_85, q1_10, ⟨by decide, by decide, by decide +kernel⟩, by decide⟩
theorem stt_X9_in : Cond.static yX9_in ∈ gT := q4_84
def w_X9_in (p0 : Int32) (p1 : Int32) (p2 : Int32) (M : gM) (Q : Int32 → gM → Prop) : Prop := gbr ((p0 : Int32) < p1) (Q 0 M) (gbr ((p2 : Int32) < p0) (Q 0 M) (Q 1 M))
set_option maxRecDepth 100000 in
set_option maxHeartbeats 4000000 in
theorem k_X9_in {p0 : Int32} {p1 : Int32} {p2 : Int32} {M : gM} {Q : Int32 → gM → Prop} (h : w_X9_in p0 p1 p2 M Q) : gCi gN 0 yX9_in cX9_in 3 .boolean [.inl p0, .inl p1, .inl p2] M Q := by
  refine gCi_of (by decide) gNn (gle rfl) (fun X ok hZ => ?_)
  show gW X 0 [some (.inl p0), some (.inl p1), some (.inl p2)] [] M
  unfold w_X9_in at h
  refine g_iload_n ok dX9_in_0 rfl rfl ?_
  refine g_iload_n ok dX9_in_1 rfl rfl ?_
  refine g_icmp_lt (tgt := 14) ok dX9_in_2 (by decide) (fun z => ?_) (fun z => ?_)
  · have h := h.1 z
    refine g_iconst (v := 0) ok dX9_in_14 (by decide) ?_
    exact g_zret ok hZ dX9_in_15 (by decide) h
  · have h := h.2 z
    refine g_iload_n ok dX9_in_5 rfl rfl ?_
    refine g_iload_n ok dX9_in_6 rfl rfl ?_
    refine g_icmp_gt (tgt := 14) ok dX9_in_7 (by decide) (fun z => ?_) (fun z => ?_)
    · have h := h.1 z
      refine g_iconst (v := 0) ok dX9_in_14 (by decide) ?_
      exact g_zret ok hZ dX9_in_15 (by decide) h
    · have h := h.2 z
      refine g_iconst (v := 1) ok dX9_in_10 (by decide) ?_
      refine g_goto (tgt := 15) ok dX9_in_11 (by decide) ?_
      exact g_zret ok hZ dX9_in_15 (by decide) h
theorem dX9_bits_0 : decode cX9_bits 0 = .ok (.iconst 0, 1) := by decide +kernel
theorem dX9_bits_1 : decode cX9_bits 1 = .ok (.istore_n 1, 1) := by decide +kernel
theorem dX9_bits_2 : decode cX9_bits 2 = .ok (.iload_n 0, 1) := by decide +kernel
theorem dX9_bits_3 : decode cX9_bits 3 = .ok (.istore_n 2, 1) := by decide +kernel
theorem dX9_bits_4 : decode cX9_bits 4 = .ok (.iload_n 2, 1) := by decide +kernel
theorem dX9_bits_5 : decode cX9_bits 5 = .ok (.ifCond .eq 15, 3) := by decide +kernel
theorem dX9_bits_8 : decode cX9_bits 8 = .ok (.iinc 1 1, 3) := by decide +kernel
theorem dX9_bits_11 : decode cX9_bits 11 = .ok (.iload_n 2, 1) := by decide +kernel
theorem dX9_bits_12 : decode cX9_bits 12 = .ok (.iload_n 2, 1) := by decide +kernel
theorem dX9_bits_13 : decode cX9_bits 13 = .ok (.iconst 1, 1) := by decide +kernel
theorem dX9_bits_14 : decode cX9_bits 14 = .ok (.isub, 1) := by decide +kernel
theorem dX9_bits_15 : decode cX9_bits 15 = .ok (.iand, 1) := by decide +kernel
theorem dX9_bits_16 : decode cX9_bits 16 = .ok (.istore_n 2, 1) := by decide +kernel
theorem dX9_bits_17 : decode cX9_bits 17 = .ok (.goto (-13), 3) := by decide +kernel
theorem dX9_bits_20 : decode cX9_bits 20 = .ok (.iload_n 1, 1) := by decide +kernel
theorem dX9_bits_21 : decode cX9_bits 21 = .ok (.ireturn, 1) := by decide +kernel
theorem s_X9_bits : gSt yX9_bits cX9_bits 3 (some .int) 1 := ⟨q4_164, q1_10, ⟨by decide, by decide, by decide +kernel⟩, by decide⟩
theorem stt_X9_bits : Cond.static yX9_bits ∈ gT := q4_163
def w_X9_bits_L4 (Q : Int32 → gM → Prop) (K20 : Int32 → Int32 → gM → Prop) (v0 : Int32) : Nat → Int32 → Int32 → gM → Prop
  | 0, _, _, _ => False
  | n + 1, v1, v2, M => gbr ((v2 : Int32) = 0) (K20 (v1) (v2) M) (∀ x1 : Int32, x1 = (v1 + 1) → (∀ x2 : Int32, x2 = (v2 &&& (v2 - 1)) → (w_X9_bits_L4 Q K20 v0 n (x1) (x2) M)))
def w_X9_bits (p0 : Int32) (M : gM) (Q : Int32 → gM → Prop) : Prop := ∃ nf, w_X9_bits_L4 Q (fun (x3 : Int32) (x4 : Int32) (M5 : gM) => Q x3 M5) p0 nf 0 p0 M
set_option maxRecDepth 100000 in
set_option maxHeartbeats 4000000 in
theorem w_X9_bits_L4_w {X : gX} (ok : gOk X cX9_bits yX9_bits.cls 0 3 (some .int) gN) {Q : Int32 → gM → Prop} (hZ : gZi X Q) {K20 : Int32 → Int32 → gM → Prop} (v0 : Int32) (hK20 : ∀ (v1 : Int32) (v2 : Int32)  (M : gM), K20 v1 v2 M → gW X 20 [some (.inl v0), some (.inl v1), some (.inl v2)] [] M) : ∀ (n : Nat) (v1 : Int32) (v2 : Int32)  (M : gM), w_X9_bits_L4 Q K20 v0 n v1 v2 M → gW X 4 [some (.inl v0), some (.inl v1), some (.inl v2)] [] M
  | 0, _, _, _, h => h.elim
  | n + 1, v1, v2, M, h => by
    have ih := fun (v1 : Int32) (v2 : Int32)  (M : gM) h => w_X9_bits_L4_w ok hZ v0 hK20 n v1 v2  M h
    rw [w_X9_bits_L4.eq_2] at h
    refine g_iload_n ok dX9_bits_4 rfl rfl ?_
    refine g_if_eq (tgt := 20) ok dX9_bits_5 (by decide) (fun z => ?_) (fun z => ?_)
    · have h := h.1 z
      exact hK20 (v1) (v2) M h
    · have h := h.2 z
      obtain ⟨x1, ex1⟩ : ∃ y : Int32, y = (v1 + 1) := ⟨_, rfl⟩
      have h := h x1 ex1
      refine g_iinc (v := x1) (lv1 := [some (.inl v0), some (.inl x1), some (.inl v2)]) ok dX9_bits_8 rfl (by rw [ex1]; rfl) rfl ?_
      refine g_iload_n ok dX9_bits_11 rfl rfl ?_
      refine g_iload_n ok dX9_bits_12 rfl rfl ?_
      refine g_iconst (v := 1) ok dX9_bits_13 (by decide) ?_
      refine g_isub ok dX9_bits_14 ?_
      refine g_iand ok dX9_bits_15 ?_
      refine g_nm (fun x2 ex2 => ?_)
      have h := h x2 ex2
      refine g_istore_n (lv1 := [some (.inl v0), some (.inl x1), some (.inl x2)]) ok dX9_bits_16 rfl (glt rfl) rfl ?_
      refine g_goto (tgt := 4) ok dX9_bits_17 (by decide) ?_
      exact ih (x1) (x2) M h
set_option maxRecDepth 100000 in
set_option maxHeartbeats 4000000 in
theorem k_X9_bits {p0 : Int32} {M : gM} {Q : Int32 → gM → Prop} (h : w_X9_bits p0 M Q) : gCi gN 0 yX9_bits cX9_bits 3 .int [.inl p0] M Q := by
  refine gCi_of (by decide) gNn (gle rfl) (fun X ok hZ => ?_)
  show gW X 0 [some (.inl p0), none, none] [] M
  unfold w_X9_bits at h
  refine g_iconst (v := 0) ok dX9_bits_0 (by decide) ?_
  refine g_istore_n (lv1 := [some (.inl p0), some (.inl 0), none]) ok dX9_bits_1 rfl (glt rfl) rfl ?_
  refine g_iload_n ok dX9_bits_2 rfl rfl ?_
  refine g_istore_n (lv1 := [some (.inl p0), some (.inl 0), some (.inl p0)]) ok dX9_bits_3 rfl (glt rfl) rfl ?_
  obtain ⟨nf, h⟩ := h
  refine w_X9_bits_L4_w ok hZ p0 ?_ nf 0 p0  M h
  · intro x3 x4  M5 h
    refine g_iload_n ok dX9_bits_20 rfl rfl ?_
    exact g_iret ok hZ dX9_bits_21 h
theorem dX9_restWeights_0 : decode cX9_restWeights 0 = .ok (.iconst 0, 1) := by decide +kernel
theorem dX9_restWeights_1 : decode cX9_restWeights 1 = .ok (.istore_n 1, 1) := by decide +kernel
theorem dX9_restWeights_2 : decode cX9_restWeights 2 = .ok (.iload_n 1, 1) := by decide +kernel
theorem dX9_restWeights_3 : decode cX9_restWeights 3 = .ok (.bipush 14, 2) := by decide +kernel
theorem dX9_restWeights_5 : decode cX9_restWeights 5 = .ok (.if_icmp .ge 16, 3) := by decide +kernel
theorem dX9_restWeights_8 : decode cX9_restWeights 8 = .ok (.aload_n 0, 1) := by decide +kernel
theorem dX9_restWeights_9 : decode cX9_restWeights 9 = .ok (.getfield 13, 3) := by decide +kernel
theorem dX9_restWeights_12 : decode cX9_restWeights 12 = .ok (.iload_n 1, 1) := by decide +kernel
theorem dX9_restWeights_13 : decode cX9_restWeights 13 = .ok (.iconst 1, 1) := by decide +kernel
theorem dX9_restWeights_14 : decode cX9_restWeights 14 = .ok (.iastore, 1) := by decide +kernel
theorem dX9_restWeights_15 : decode cX9_restWeights 15 = .ok (.iinc 1 1, 3) := by decide +kernel
theorem dX9_restWeights_18 : decode cX9_restWeights 18 = .ok (.goto (-16), 3) := by decide +kernel
theorem dX9_restWeights_21 : decode cX9_restWeights 21 = .ok (.return_, 1) := by decide +kernel
theorem s_X9_restWeights : gSt yX9_restWeights cX9_restWeights 2 none 0 := ⟨q3_233, q1_10, ⟨by decide, by decide, by decide +kernel⟩, by decide⟩
theorem sel_X9_restWeights : Cond.selects yX9_restWeights.cls yX9_restWeights yX9_restWeights ∈ gT := qs_18
theorem ins_X9_restWeights : Cond.instanceMethod yX9_restWeights ∈ gT := q3_232
def w_X9_restWeights_L2 (Q : gM → Prop) (K21 : Int32 → gM → Prop) : Nat → Int32 → gM → Prop
  | 0, _, _ => False
  | n + 1, v1, M => gbr ((v1 : Int32) < 14) (vp_in v1 14 ∧ ∀ M1 : gM, M1 = gst M 44 (Int32.toNatClampNeg v1) 1 → (∀ x2 : Int32, x2 = (v1 + 1) → (w_X9_restWeights_L2 Q K21 n (x2) M1))) (K21 (v1) M)
def w_X9_restWeights  (M : gM) (Q : gM → Prop) : Prop := ∃ nf, w_X9_restWeights_L2 Q (fun (x3 : Int32) (M4 : gM) => Q M4)  nf 0 M
set_option maxRecDepth 100000 in
set_option maxHeartbeats 4000000 in
theorem w_X9_restWeights_L2_w {X : gX} (ok : gOk X cX9_restWeights yX9_restWeights.cls 0 2 none gN) {Q : gM → Prop} (hZ : gZv X Q) {K21 : Int32 → gM → Prop}  (hK21 : ∀ (v1 : Int32)  (M : gM), K21 v1 M → gW X 21 [some (.inr 42), some (.inl v1)] [] M) : ∀ (n : Nat) (v1 : Int32)  (M : gM), w_X9_restWeights_L2 Q K21 n v1 M → gW X 2 [some (.inr 42), some (.inl v1)] [] M
  | 0, _, _, h => h.elim
  | n + 1, v1, M, h => by
    have ih := fun (v1 : Int32)  (M : gM) h => w_X9_restWeights_L2_w ok hZ  hK21 n v1  M h
    rw [w_X9_restWeights_L2.eq_2] at h
    refine g_iload_n ok dX9_restWeights_2 rfl rfl ?_
    refine g_bipush (v := 14) ok dX9_restWeights_3 (by decide) ?_
    refine g_icmp_ge (tgt := 21) ok dX9_restWeights_5 (by decide) (fun z => ?_) (fun z => ?_)
    · have h := h.2 z
      exact hK21 (v1) M h
    · have h := h.1 z
      refine g_aload_n ok dX9_restWeights_8 rfl rfl ?_
      refine g_get (w := .inr 44) ok f42_2 (gNm (by decide)) q3_236 dX9_restWeights_9 rfl ?_
      refine g_iload_n ok dX9_restWeights_12 rfl rfl ?_
      refine g_iconst (v := 1) ok dX9_restWeights_13 (by decide) ?_
      have hb := h.1
      have h := h.2
      refine g_iast ok a44 (gNm (by decide)) dX9_restWeights_14 hb (g_mem (fun M1 eM1 => ?_))
      have h := h M1 eM1
      obtain ⟨x2, ex2⟩ : ∃ y : Int32, y = (v1 + 1) := ⟨_, rfl⟩
      have h := h x2 ex2
      refine g_iinc (v := x2) (lv1 := [some (.inr 42), some (.inl x2)]) ok dX9_restWeights_15 rfl (by rw [ex2]; rfl) rfl ?_
      refine g_goto (tgt := 2) ok dX9_restWeights_18 (by decide) ?_
      exact ih (x2) M1 h
set_option maxRecDepth 100000 in
set_option maxHeartbeats 4000000 in
theorem k_X9_restWeights  {M : gM} {Q : gM → Prop} (h : w_X9_restWeights  M Q) : gCv gN 0 yX9_restWeights cX9_restWeights 2 [.inr 42] M Q := by
  refine gCv_of (by decide) gNn (gle rfl) (fun X ok hZ => ?_)
  show gW X 0 [some (.inr 42), none] [] M
  unfold w_X9_restWeights at h
  refine g_iconst (v := 0) ok dX9_restWeights_0 (by decide) ?_
  refine g_istore_n (lv1 := [some (.inr 42), some (.inl 0)]) ok dX9_restWeights_1 rfl (glt rfl) rfl ?_
  obtain ⟨nf, h⟩ := h
  refine w_X9_restWeights_L2_w ok hZ  ?_ nf 0  M h
  · intro x3  M4 h
    exact g_vret ok hZ dX9_restWeights_21 h
theorem dX9_many_0 : decode cX9_many 0 = .ok (.aload_n 0, 1) := by decide +kernel
theorem dX9_many_1 : decode cX9_many 1 = .ok (.getfield 7, 3) := by decide +kernel
theorem dX9_many_4 : decode cX9_many 4 = .ok (.bipush 24, 2) := by decide +kernel
theorem dX9_many_6 : decode cX9_many 6 = .ok (.iaload, 1) := by decide +kernel
theorem dX9_many_7 : decode cX9_many 7 = .ok (.ireturn, 1) := by decide +kernel
theorem s_X9_many : gSt yX9_many cX9_many 1 (some .int) 0 := ⟨q4_113, q1_10, ⟨by decide, by decide, by decide +kernel⟩, by decide⟩
theorem sel_X9_many : Cond.selects yX9_many.cls yX9_many yX9_many ∈ gT := qs_22
theorem ins_X9_many : Cond.instanceMethod yX9_many ∈ gT := q4_112
def w_X9_many  (M : gM) (Q : Int32 → gM → Prop) : Prop := vp_in 24 25 ∧ (Q (M 43 (Int32.toNatClampNeg 24)) M)
set_option maxRecDepth 100000 in
set_option maxHeartbeats 4000000 in
theorem k_X9_many  {M : gM} {Q : Int32 → gM → Prop} (h : w_X9_many  M Q) : gCi gN 0 yX9_many cX9_many 1 .int [.inr 42] M Q := by
  refine gCi_of (by decide) gNn (gle rfl) (fun X ok hZ => ?_)
  show gW X 0 [some (.inr 42)] [] M
  unfold w_X9_many at h
  refine g_aload_n ok dX9_many_0 rfl rfl ?_
  refine g_get (w := .inr 43) ok f42_1 (gNm (by decide)) q3_235 dX9_many_1 rfl ?_
  refine g_bipush (v := 24) ok dX9_many_4 (by decide) ?_
  have hb := h.1
  have h := h.2
  refine g_iald (w := (M 43 (Int32.toNatClampNeg 24))) ok a43 (gNm (by decide)) dX9_many_6 hb rfl ?_
  exact g_iret ok hZ dX9_many_7 h
theorem dX9_whole_0 : decode cX9_whole 0 = .ok (.iconst 1, 1) := by decide +kernel
theorem dX9_whole_1 : decode cX9_whole 1 = .ok (.aload_n 0, 1) := by decide +kernel
theorem dX9_whole_2 : decode cX9_whole 2 = .ok (.getfield 59, 3) := by decide +kernel
theorem dX9_whole_5 : decode cX9_whole 5 = .ok (.ishl, 1) := by decide +kernel
theorem dX9_whole_6 : decode cX9_whole 6 = .ok (.iconst 1, 1) := by decide +kernel
theorem dX9_whole_7 : decode cX9_whole 7 = .ok (.isub, 1) := by decide +kernel
theorem dX9_whole_8 : decode cX9_whole 8 = .ok (.ireturn, 1) := by decide +kernel
theorem s_X9_whole : gSt yX9_whole cX9_whole 1 (some .int) 0 := ⟨q4_105, q1_10, ⟨by decide, by decide, by decide +kernel⟩, by decide⟩
theorem sel_X9_whole : Cond.selects yX9_whole.cls yX9_whole yX9_whole ∈ gT := qs_20
theorem ins_X9_whole : Cond.instanceMethod yX9_whole ∈ gT := q4_104
def w_X9_whole  (M : gM) (Q : Int32 → gM → Prop) : Prop := Q ((1 <<< ((M 42 0) &&& 31)) - 1) M
set_option maxRecDepth 100000 in
set_option maxHeartbeats 4000000 in
theorem k_X9_whole  {M : gM} {Q : Int32 → gM → Prop} (h : w_X9_whole  M Q) : gCi gN 0 yX9_whole cX9_whole 1 .int [.inr 42] M Q := by
  refine gCi_of (by decide) gNn (gle rfl) (fun X ok hZ => ?_)
  show gW X 0 [some (.inr 42)] [] M
  unfold w_X9_whole at h
  refine g_iconst (v := 1) ok dX9_whole_0 (by decide) ?_
  refine g_aload_n ok dX9_whole_1 rfl rfl ?_
  refine g_get (w := .inl (M 42 0)) ok f42_0 (gNm (by decide)) q3_234 dX9_whole_2 rfl ?_
  refine g_ishl ok dX9_whole_5 ?_
  refine g_iconst (v := 1) ok dX9_whole_6 (by decide) ?_
  refine g_isub ok dX9_whole_7 ?_
  exact g_iret ok hZ dX9_whole_8 h
theorem dX9_noVertex_0 : decode cX9_noVertex 0 = .ok (.iload_n 1, 1) := by decide +kernel
theorem dX9_noVertex_1 : decode cX9_noVertex 1 = .ok (.iconst 0, 1) := by decide +kernel
theorem dX9_noVertex_2 : decode cX9_noVertex 2 = .ok (.aload_n 0, 1) := by decide +kernel
theorem dX9_noVertex_3 : decode cX9_noVertex 3 = .ok (.getfield 59, 3) := by decide +kernel
theorem dX9_noVertex_6 : decode cX9_noVertex 6 = .ok (.iconst 1, 1) := by decide +kernel
theorem dX9_noVertex_7 : decode cX9_noVertex 7 = .ok (.isub, 1) := by decide +kernel
theorem dX9_noVertex_8 : decode cX9_noVertex 8 = .ok (.invokestatic 66, 3) := by decide +kernel
theorem dX9_noVertex_11 : decode cX9_noVertex 11 = .ok (.ifCond .ne 7, 3) := by decide +kernel
theorem dX9_noVertex_14 : decode cX9_noVertex 14 = .ok (.iconst 1, 1) := by decide +kernel
theorem dX9_noVertex_15 : decode cX9_noVertex 15 = .ok (.goto 4, 3) := by decide +kernel
theorem dX9_noVertex_18 : decode cX9_noVertex 18 = .ok (.iconst 0, 1) := by decide +kernel
theorem dX9_noVertex_19 : decode cX9_noVertex 19 = .ok (.ireturn, 1) := by decide +kernel
theorem s_X9_noVertex : gSt yX9_noVertex cX9_noVertex 2 (some .boolean) 1 := ⟨q4_157, q1_10, ⟨by decide, by decide, by decide +kernel⟩, by decide⟩
theorem sel_X9_noVertex : Cond.selects yX9_noVertex.cls yX9_noVertex yX9_noVertex ∈ gT := qs_30
theorem ins_X9_noVertex : Cond.instanceMethod yX9_noVertex ∈ gT := q4_156
def w_X9_noVertex (p1 : Int32) (M : gM) (Q : Int32 → gM → Prop) : Prop := w_X9_in p1 0 ((M 42 0) - 1) M (fun (r2 : Int32) (M1 : gM) => gbr ((r2 : Int32) = 0) (Q 1 M1) (Q 0 M1))
set_option maxRecDepth 100000 in
set_option maxHeartbeats 4000000 in
theorem k_X9_noVertex {p1 : Int32} {M : gM} {Q : Int32 → gM → Prop} (h : w_X9_noVertex p1 M Q) : gCi gN 1 yX9_noVertex cX9_noVertex 2 .boolean [.inr 42, .inl p1] M Q := by
  refine gCi_of (by decide) gNn (gle rfl) (fun X ok hZ => ?_)
  show gW X 0 [some (.inr 42), some (.inl p1)] [] M
  unfold w_X9_noVertex at h
  refine g_iload_n ok dX9_noVertex_0 rfl rfl ?_
  refine g_iconst (v := 0) ok dX9_noVertex_1 (by decide) ?_
  refine g_aload_n ok dX9_noVertex_2 rfl rfl ?_
  refine g_get (w := .inl (M 42 0)) ok f42_0 (gNm (by decide)) q3_234 dX9_noVertex_3 rfl ?_
  refine g_iconst (v := 1) ok dX9_noVertex_6 (by decide) ?_
  refine g_isub ok dX9_noVertex_7 ?_
  refine g_callSi (st := []) (as := [.inl p1, .inl 0, .inl ((M 42 0) - 1)]) ok rfl (k_X9_in h) s_X9_in rfl (by decide) stt_X9_in (gle rfl) rfl q4_83 dX9_noVertex_8 ?_
  intro r2 M1 h
  refine g_if_ne (tgt := 18) ok dX9_noVertex_11 (by decide) (fun z => ?_) (fun z => ?_)
  · have h := h.2 z
    refine g_iconst (v := 0) ok dX9_noVertex_18 (by decide) ?_
    exact g_zret ok hZ dX9_noVertex_19 (by decide) h
  · have h := h.1 z
    refine g_iconst (v := 1) ok dX9_noVertex_14 (by decide) ?_
    refine g_goto (tgt := 19) ok dX9_noVertex_15 (by decide) ?_
    exact g_zret ok hZ dX9_noVertex_19 (by decide) h
theorem dX9_noSet_0 : decode cX9_noSet 0 = .ok (.iload_n 1, 1) := by decide +kernel
theorem dX9_noSet_1 : decode cX9_noSet 1 = .ok (.iconst 0, 1) := by decide +kernel
theorem dX9_noSet_2 : decode cX9_noSet 2 = .ok (.aload_n 0, 1) := by decide +kernel
theorem dX9_noSet_3 : decode cX9_noSet 3 = .ok (.invokevirtual 70, 3) := by decide +kernel
theorem dX9_noSet_6 : decode cX9_noSet 6 = .ok (.invokestatic 66, 3) := by decide +kernel
theorem dX9_noSet_9 : decode cX9_noSet 9 = .ok (.ifCond .ne 7, 3) := by decide +kernel
theorem dX9_noSet_12 : decode cX9_noSet 12 = .ok (.iconst 1, 1) := by decide +kernel
theorem dX9_noSet_13 : decode cX9_noSet 13 = .ok (.goto 4, 3) := by decide +kernel
theorem dX9_noSet_16 : decode cX9_noSet 16 = .ok (.iconst 0, 1) := by decide +kernel
theorem dX9_noSet_17 : decode cX9_noSet 17 = .ok (.ireturn, 1) := by decide +kernel
theorem s_X9_noSet : gSt yX9_noSet cX9_noSet 2 (some .boolean) 1 := ⟨q4_101, q1_10, ⟨by decide, by decide, by decide +kernel⟩, by decide⟩
theorem sel_X9_noSet : Cond.selects yX9_noSet.cls yX9_noSet yX9_noSet ∈ gT := qs_19
theorem ins_X9_noSet : Cond.instanceMethod yX9_noSet ∈ gT := q4_100
def w_X9_noSet (p1 : Int32) (M : gM) (Q : Int32 → gM → Prop) : Prop := w_X9_whole M (fun (r2 : Int32) (M1 : gM) => w_X9_in p1 0 r2 M1 (fun (r4 : Int32) (M3 : gM) => gbr ((r4 : Int32) = 0) (Q 1 M3) (Q 0 M3)))
set_option maxRecDepth 100000 in
set_option maxHeartbeats 4000000 in
theorem k_X9_noSet {p1 : Int32} {M : gM} {Q : Int32 → gM → Prop} (h : w_X9_noSet p1 M Q) : gCi gN 1 yX9_noSet cX9_noSet 2 .boolean [.inr 42, .inl p1] M Q := by
  refine gCi_of (by decide) gNn (gle rfl) (fun X ok hZ => ?_)
  show gW X 0 [some (.inr 42), some (.inl p1)] [] M
  unfold w_X9_noSet at h
  refine g_iload_n ok dX9_noSet_0 rfl rfl ?_
  refine g_iconst (v := 0) ok dX9_noSet_1 (by decide) ?_
  refine g_aload_n ok dX9_noSet_2 rfl rfl ?_
  refine g_callVi (st := [.inl 0, .inl p1]) (as := []) ok rfl (k_X9_whole h) s_X9_whole rfl (by decide) (gNm (by decide)) cl42 sel_X9_whole ins_X9_whole (gle rfl) rfl q4_102 dX9_noSet_3 ?_
  intro r2 M1 h
  refine g_callSi (st := []) (as := [.inl p1, .inl 0, .inl r2]) ok rfl (k_X9_in h) s_X9_in rfl (by decide) stt_X9_in (gle rfl) rfl q4_83 dX9_noSet_6 ?_
  intro r4 M3 h
  refine g_if_ne (tgt := 16) ok dX9_noSet_9 (by decide) (fun z => ?_) (fun z => ?_)
  · have h := h.2 z
    refine g_iconst (v := 0) ok dX9_noSet_16 (by decide) ?_
    exact g_zret ok hZ dX9_noSet_17 (by decide) h
  · have h := h.1 z
    refine g_iconst (v := 1) ok dX9_noSet_12 (by decide) ?_
    refine g_goto (tgt := 17) ok dX9_noSet_13 (by decide) ?_
    exact g_zret ok hZ dX9_noSet_17 (by decide) h
theorem dX9_reset_0 : decode cX9_reset 0 = .ok (.iload_n 1, 1) := by decide +kernel
theorem dX9_reset_1 : decode cX9_reset 1 = .ok (.iconst 1, 1) := by decide +kernel
theorem dX9_reset_2 : decode cX9_reset 2 = .ok (.bipush 14, 2) := by decide +kernel
theorem dX9_reset_4 : decode cX9_reset 4 = .ok (.invokestatic 66, 3) := by decide +kernel
theorem dX9_reset_7 : decode cX9_reset 7 = .ok (.ifCond .ne 6, 3) := by decide +kernel
theorem dX9_reset_10 : decode cX9_reset 10 = .ok (.bipush (-3), 2) := by decide +kernel
theorem dX9_reset_12 : decode cX9_reset 12 = .ok (.ireturn, 1) := by decide +kernel
theorem dX9_reset_13 : decode cX9_reset 13 = .ok (.aload_n 0, 1) := by decide +kernel
theorem dX9_reset_14 : decode cX9_reset 14 = .ok (.getfield 59, 3) := by decide +kernel
theorem dX9_reset_17 : decode cX9_reset 17 = .ok (.istore_n 2, 1) := by decide +kernel
theorem dX9_reset_18 : decode cX9_reset 18 = .ok (.aload_n 0, 1) := by decide +kernel
theorem dX9_reset_19 : decode cX9_reset 19 = .ok (.iload_n 1, 1) := by decide +kernel
theorem dX9_reset_20 : decode cX9_reset 20 = .ok (.putfield 59, 3) := by decide +kernel
theorem dX9_reset_23 : decode cX9_reset 23 = .ok (.aload_n 0, 1) := by decide +kernel
theorem dX9_reset_24 : decode cX9_reset 24 = .ok (.getfield 7, 3) := by decide +kernel
theorem dX9_reset_27 : decode cX9_reset 27 = .ok (.bipush 24, 2) := by decide +kernel
theorem dX9_reset_29 : decode cX9_reset 29 = .ok (.iconst 0, 1) := by decide +kernel
theorem dX9_reset_30 : decode cX9_reset 30 = .ok (.iastore, 1) := by decide +kernel
theorem dX9_reset_31 : decode cX9_reset 31 = .ok (.aload_n 0, 1) := by decide +kernel
theorem dX9_reset_32 : decode cX9_reset 32 = .ok (.invokevirtual 63, 3) := by decide +kernel
theorem dX9_reset_35 : decode cX9_reset 35 = .ok (.aload_n 0, 1) := by decide +kernel
theorem dX9_reset_36 : decode cX9_reset 36 = .ok (.iconst 0, 1) := by decide +kernel
theorem dX9_reset_37 : decode cX9_reset 37 = .ok (.putfield 74, 3) := by decide +kernel
theorem dX9_reset_40 : decode cX9_reset 40 = .ok (.aload_n 0, 1) := by decide +kernel
theorem dX9_reset_41 : decode cX9_reset 41 = .ok (.iconst 0, 1) := by decide +kernel
theorem dX9_reset_42 : decode cX9_reset 42 = .ok (.putfield 77, 3) := by decide +kernel
theorem dX9_reset_45 : decode cX9_reset 45 = .ok (.iload_n 2, 1) := by decide +kernel
theorem dX9_reset_46 : decode cX9_reset 46 = .ok (.ireturn, 1) := by decide +kernel
theorem s_X9_reset : gSt yX9_reset cX9_reset 3 (some .int) 1 := ⟨q4_82, q1_10, ⟨by decide, by decide, by decide +kernel⟩, by decide⟩
theorem sel_X9_reset : Cond.selects yX9_reset.cls yX9_reset yX9_reset ∈ gT := q4_81
theorem ins_X9_reset : Cond.instanceMethod yX9_reset ∈ gT := q4_80
def w_X9_reset (p1 : Int32) (M : gM) (Q : Int32 → gM → Prop) : Prop := w_X9_in p1 1 14 M (fun (r2 : Int32) (M1 : gM) => gbr ((r2 : Int32) = 0) (Q (-3) M1) (∀ x3 : Int32, x3 = (M1 42 0) → (∀ M4 : gM, M4 = gst M1 42 0 p1 → (vp_in 24 25 ∧ ∀ M5 : gM, M5 = gst M4 43 (Int32.toNatClampNeg 24) 0 → (w_X9_restWeights M5 (fun (M6 : gM) => ∀ M8 : gM, M8 = gst M6 42 5 0 → (∀ M9 : gM, M9 = gst M8 42 6 0 → (Q x3 M9))))))))
set_option maxRecDepth 100000 in
set_option maxHeartbeats 4000000 in
theorem k_X9_reset {p1 : Int32} {M : gM} {Q : Int32 → gM → Prop} (h : w_X9_reset p1 M Q) : gCi gN 1 yX9_reset cX9_reset 3 .int [.inr 42, .inl p1] M Q := by
  refine gCi_of (by decide) gNn (gle rfl) (fun X ok hZ => ?_)
  show gW X 0 [some (.inr 42), some (.inl p1), none] [] M
  unfold w_X9_reset at h
  refine g_iload_n ok dX9_reset_0 rfl rfl ?_
  refine g_iconst (v := 1) ok dX9_reset_1 (by decide) ?_
  refine g_bipush (v := 14) ok dX9_reset_2 (by decide) ?_
  refine g_callSi (st := []) (as := [.inl p1, .inl 1, .inl 14]) ok rfl (k_X9_in h) s_X9_in rfl (by decide) stt_X9_in (gle rfl) rfl q4_83 dX9_reset_4 ?_
  intro r2 M1 h
  refine g_if_ne (tgt := 13) ok dX9_reset_7 (by decide) (fun z => ?_) (fun z => ?_)
  · have h := h.2 z
    refine g_aload_n ok dX9_reset_13 rfl rfl ?_
    refine g_get (w := .inl (M1 42 0)) ok f42_0 (gNm (by decide)) q3_234 dX9_reset_14 rfl ?_
    refine g_nm (fun x3 ex3 => ?_)
    have h := h x3 ex3
    refine g_istore_n (lv1 := [some (.inr 42), some (.inl p1), some (.inl x3)]) ok dX9_reset_17 rfl (glt rfl) rfl ?_
    refine g_aload_n ok dX9_reset_18 rfl rfl ?_
    refine g_iload_n ok dX9_reset_19 rfl rfl ?_
    refine g_put ok f42_0p (gNm (by decide)) q3_234 dX9_reset_20 rfl rfl (g_mem (fun M4 eM4 => ?_))
    have h := h M4 eM4
    refine g_aload_n ok dX9_reset_23 rfl rfl ?_
    refine g_get (w := .inr 43) ok f42_1 (gNm (by decide)) q3_235 dX9_reset_24 rfl ?_
    refine g_bipush (v := 24) ok dX9_reset_27 (by decide) ?_
    refine g_iconst (v := 0) ok dX9_reset_29 (by decide) ?_
    have hb := h.1
    have h := h.2
    refine g_iast ok a43 (gNm (by decide)) dX9_reset_30 hb (g_mem (fun M5 eM5 => ?_))
    have h := h M5 eM5
    refine g_aload_n ok dX9_reset_31 rfl rfl ?_
    refine g_callVv (st := []) (as := []) ok rfl (k_X9_restWeights h) s_X9_restWeights rfl (by decide) (gNm (by decide)) cl42 sel_X9_restWeights ins_X9_restWeights (gle rfl) rfl q3_230 dX9_reset_32 ?_
    intro M6 h
    refine g_aload_n ok dX9_reset_35 rfl rfl ?_
    refine g_iconst (v := 0) ok dX9_reset_36 (by decide) ?_
    refine g_put ok f42_5p (gNm (by decide)) q3_239 dX9_reset_37 rfl rfl (g_mem (fun M8 eM8 => ?_))
    have h := h M8 eM8
    refine g_aload_n ok dX9_reset_40 rfl rfl ?_
    refine g_iconst (v := 0) ok dX9_reset_41 (by decide) ?_
    refine g_put ok f42_6p (gNm (by decide)) q4_0 dX9_reset_42 rfl rfl (g_mem (fun M9 eM9 => ?_))
    have h := h M9 eM9
    refine g_iload_n ok dX9_reset_45 rfl rfl ?_
    exact g_iret ok hZ dX9_reset_46 h
  · have h := h.1 z
    refine g_bipush (v := (-3)) ok dX9_reset_10 (by decide) ?_
    exact g_iret ok hZ dX9_reset_12 h
theorem dX9_keep_0 : decode cX9_keep 0 = .ok (.aload_n 0, 1) := by decide +kernel
theorem dX9_keep_1 : decode cX9_keep 1 = .ok (.getfield 74, 3) := by decide +kernel
theorem dX9_keep_4 : decode cX9_keep 4 = .ok (.bipush 16, 2) := by decide +kernel
theorem dX9_keep_6 : decode cX9_keep 6 = .ok (.if_icmp .ne 47, 3) := by decide +kernel
theorem dX9_keep_9 : decode cX9_keep 9 = .ok (.aload_n 0, 1) := by decide +kernel
theorem dX9_keep_10 : decode cX9_keep 10 = .ok (.dup, 1) := by decide +kernel
theorem dX9_keep_11 : decode cX9_keep 11 = .ok (.getfield 74, 3) := by decide +kernel
theorem dX9_keep_14 : decode cX9_keep 14 = .ok (.iconst 1, 1) := by decide +kernel
theorem dX9_keep_15 : decode cX9_keep 15 = .ok (.isub, 1) := by decide +kernel
theorem dX9_keep_16 : decode cX9_keep 16 = .ok (.putfield 74, 3) := by decide +kernel
theorem dX9_keep_19 : decode cX9_keep 19 = .ok (.iconst 0, 1) := by decide +kernel
theorem dX9_keep_20 : decode cX9_keep 20 = .ok (.istore_n 1, 1) := by decide +kernel
theorem dX9_keep_21 : decode cX9_keep 21 = .ok (.iload_n 1, 1) := by decide +kernel
theorem dX9_keep_22 : decode cX9_keep 22 = .ok (.bipush 25, 2) := by decide +kernel
theorem dX9_keep_24 : decode cX9_keep 24 = .ok (.aload_n 0, 1) := by decide +kernel
theorem dX9_keep_25 : decode cX9_keep 25 = .ok (.getfield 74, 3) := by decide +kernel
theorem dX9_keep_28 : decode cX9_keep 28 = .ok (.imul, 1) := by decide +kernel
theorem dX9_keep_29 : decode cX9_keep 29 = .ok (.if_icmp .ge 24, 3) := by decide +kernel
theorem dX9_keep_32 : decode cX9_keep 32 = .ok (.aload_n 0, 1) := by decide +kernel
theorem dX9_keep_33 : decode cX9_keep 33 = .ok (.getfield 16, 3) := by decide +kernel
theorem dX9_keep_36 : decode cX9_keep 36 = .ok (.iload_n 1, 1) := by decide +kernel
theorem dX9_keep_37 : decode cX9_keep 37 = .ok (.aload_n 0, 1) := by decide +kernel
theorem dX9_keep_38 : decode cX9_keep 38 = .ok (.getfield 16, 3) := by decide +kernel
theorem dX9_keep_41 : decode cX9_keep 41 = .ok (.iload_n 1, 1) := by decide +kernel
theorem dX9_keep_42 : decode cX9_keep 42 = .ok (.bipush 25, 2) := by decide +kernel
theorem dX9_keep_44 : decode cX9_keep 44 = .ok (.iadd, 1) := by decide +kernel
theorem dX9_keep_45 : decode cX9_keep 45 = .ok (.iaload, 1) := by decide +kernel
theorem dX9_keep_46 : decode cX9_keep 46 = .ok (.iastore, 1) := by decide +kernel
theorem dX9_keep_47 : decode cX9_keep 47 = .ok (.iinc 1 1, 3) := by decide +kernel
theorem dX9_keep_50 : decode cX9_keep 50 = .ok (.goto (-29), 3) := by decide +kernel
theorem dX9_keep_53 : decode cX9_keep 53 = .ok (.iconst 0, 1) := by decide +kernel
theorem dX9_keep_54 : decode cX9_keep 54 = .ok (.istore_n 1, 1) := by decide +kernel
theorem dX9_keep_55 : decode cX9_keep 55 = .ok (.iload_n 1, 1) := by decide +kernel
theorem dX9_keep_56 : decode cX9_keep 56 = .ok (.bipush 25, 2) := by decide +kernel
theorem dX9_keep_58 : decode cX9_keep 58 = .ok (.if_icmp .ge 29, 3) := by decide +kernel
theorem dX9_keep_61 : decode cX9_keep 61 = .ok (.aload_n 0, 1) := by decide +kernel
theorem dX9_keep_62 : decode cX9_keep 62 = .ok (.getfield 16, 3) := by decide +kernel
theorem dX9_keep_65 : decode cX9_keep 65 = .ok (.bipush 25, 2) := by decide +kernel
theorem dX9_keep_67 : decode cX9_keep 67 = .ok (.aload_n 0, 1) := by decide +kernel
theorem dX9_keep_68 : decode cX9_keep 68 = .ok (.getfield 74, 3) := by decide +kernel
theorem dX9_keep_71 : decode cX9_keep 71 = .ok (.imul, 1) := by decide +kernel
theorem dX9_keep_72 : decode cX9_keep 72 = .ok (.iload_n 1, 1) := by decide +kernel
theorem dX9_keep_73 : decode cX9_keep 73 = .ok (.iadd, 1) := by decide +kernel
theorem dX9_keep_74 : decode cX9_keep 74 = .ok (.aload_n 0, 1) := by decide +kernel
theorem dX9_keep_75 : decode cX9_keep 75 = .ok (.getfield 7, 3) := by decide +kernel
theorem dX9_keep_78 : decode cX9_keep 78 = .ok (.iload_n 1, 1) := by decide +kernel
theorem dX9_keep_79 : decode cX9_keep 79 = .ok (.iaload, 1) := by decide +kernel
theorem dX9_keep_80 : decode cX9_keep 80 = .ok (.iastore, 1) := by decide +kernel
theorem dX9_keep_81 : decode cX9_keep 81 = .ok (.iinc 1 1, 3) := by decide +kernel
theorem dX9_keep_84 : decode cX9_keep 84 = .ok (.goto (-29), 3) := by decide +kernel
theorem dX9_keep_87 : decode cX9_keep 87 = .ok (.aload_n 0, 1) := by decide +kernel
theorem dX9_keep_88 : decode cX9_keep 88 = .ok (.dup, 1) := by decide +kernel
theorem dX9_keep_89 : decode cX9_keep 89 = .ok (.getfield 74, 3) := by decide +kernel
theorem dX9_keep_92 : decode cX9_keep 92 = .ok (.iconst 1, 1) := by decide +kernel
theorem dX9_keep_93 : decode cX9_keep 93 = .ok (.iadd, 1) := by decide +kernel
theorem dX9_keep_94 : decode cX9_keep 94 = .ok (.putfield 74, 3) := by decide +kernel
theorem dX9_keep_97 : decode cX9_keep 97 = .ok (.aload_n 0, 1) := by decide +kernel
theorem dX9_keep_98 : decode cX9_keep 98 = .ok (.iconst 0, 1) := by decide +kernel
theorem dX9_keep_99 : decode cX9_keep 99 = .ok (.putfield 77, 3) := by decide +kernel
theorem dX9_keep_102 : decode cX9_keep 102 = .ok (.return_, 1) := by decide +kernel
theorem s_X9_keep : gSt yX9_keep cX9_keep 2 none 0 := ⟨q4_117, q1_10, ⟨by decide, by decide, by decide +kernel⟩, by decide⟩
theorem sel_X9_keep : Cond.selects yX9_keep.cls yX9_keep yX9_keep ∈ gT := qs_23
theorem ins_X9_keep : Cond.instanceMethod yX9_keep ∈ gT := q4_116
def w_X9_keep_L55 (Q : gM → Prop) (K87 : Int32 → gM → Prop) : Nat → Int32 → gM → Prop
  | 0, _, _ => False
  | n + 1, v1, M => gbr ((v1 : Int32) < 25) (vp_in v1 25 ∧ (vp_in ((25 * (M 42 5)) + v1) 400 ∧ ∀ M1 : gM, M1 = gst M 45 (Int32.toNatClampNeg ((25 * (M 42 5)) + v1)) (M 43 (Int32.toNatClampNeg v1)) → (∀ x2 : Int32, x2 = (v1 + 1) → (w_X9_keep_L55 Q K87 n (x2) M1)))) (K87 (v1) M)
def w_X9_keep_L21 (Q : gM → Prop) (K53 : Int32 → gM → Prop) : Nat → Int32 → gM → Prop
  | 0, _, _ => False
  | n + 1, v1, M => gbr ((v1 : Int32) < (25 * (M 42 5))) (vp_in (v1 + 25) 400 ∧ (vp_in v1 400 ∧ ∀ M8 : gM, M8 = gst M 45 (Int32.toNatClampNeg v1) (M 45 (Int32.toNatClampNeg (v1 + 25))) → (∀ x9 : Int32, x9 = (v1 + 1) → (w_X9_keep_L21 Q K53 n (x9) M8)))) (K53 (v1) M)
def w_X9_keep  (M : gM) (Q : gM → Prop) : Prop := gbr (((M 42 5) : Int32) = 16) (∀ M7 : gM, M7 = gst M 42 5 ((M 42 5) - 1) → (∃ nf, w_X9_keep_L21 Q (fun (x10 : Int32) (M11 : gM) => ∃ nf, w_X9_keep_L55 Q (fun (x12 : Int32) (M13 : gM) => ∀ M14 : gM, M14 = gst M13 42 5 ((M13 42 5) + 1) → (∀ M15 : gM, M15 = gst M14 42 6 0 → (Q M15)))  nf 0 M11)  nf 0 M7)) (∃ nf, w_X9_keep_L55 Q (fun (x3 : Int32) (M4 : gM) => ∀ M5 : gM, M5 = gst M4 42 5 ((M4 42 5) + 1) → (∀ M6 : gM, M6 = gst M5 42 6 0 → (Q M6)))  nf 0 M)
set_option maxRecDepth 100000 in
set_option maxHeartbeats 4000000 in
theorem w_X9_keep_L55_w {X : gX} (ok : gOk X cX9_keep yX9_keep.cls 0 2 none gN) {Q : gM → Prop} (hZ : gZv X Q) {K87 : Int32 → gM → Prop}  (hK87 : ∀ (v1 : Int32)  (M : gM), K87 v1 M → gW X 87 [some (.inr 42), some (.inl v1)] [] M) : ∀ (n : Nat) (v1 : Int32)  (M : gM), w_X9_keep_L55 Q K87 n v1 M → gW X 55 [some (.inr 42), some (.inl v1)] [] M
  | 0, _, _, h => h.elim
  | n + 1, v1, M, h => by
    have ih := fun (v1 : Int32)  (M : gM) h => w_X9_keep_L55_w ok hZ  hK87 n v1  M h
    rw [w_X9_keep_L55.eq_2] at h
    refine g_iload_n ok dX9_keep_55 rfl rfl ?_
    refine g_bipush (v := 25) ok dX9_keep_56 (by decide) ?_
    refine g_icmp_ge (tgt := 87) ok dX9_keep_58 (by decide) (fun z => ?_) (fun z => ?_)
    · have h := h.2 z
      exact hK87 (v1) M h
    · have h := h.1 z
      refine g_aload_n ok dX9_keep_61 rfl rfl ?_
      refine g_get (w := .inr 45) ok f42_3 (gNm (by decide)) q3_237 dX9_keep_62 rfl ?_
      refine g_bipush (v := 25) ok dX9_keep_65 (by decide) ?_
      refine g_aload_n ok dX9_keep_67 rfl rfl ?_
      refine g_get (w := .inl (M 42 5)) ok f42_5 (gNm (by decide)) q3_239 dX9_keep_68 rfl ?_
      refine g_imul ok dX9_keep_71 ?_
      refine g_iload_n ok dX9_keep_72 rfl rfl ?_
      refine g_iadd ok dX9_keep_73 ?_
      refine g_aload_n ok dX9_keep_74 rfl rfl ?_
      refine g_get (w := .inr 43) ok f42_1 (gNm (by decide)) q3_235 dX9_keep_75 rfl ?_
      refine g_iload_n ok dX9_keep_78 rfl rfl ?_
      have hb := h.1
      have h := h.2
      refine g_iald (w := (M 43 (Int32.toNatClampNeg v1))) ok a43 (gNm (by decide)) dX9_keep_79 hb rfl ?_
      have hb := h.1
      have h := h.2
      refine g_iast ok a45 (gNm (by decide)) dX9_keep_80 hb (g_mem (fun M1 eM1 => ?_))
      have h := h M1 eM1
      obtain ⟨x2, ex2⟩ : ∃ y : Int32, y = (v1 + 1) := ⟨_, rfl⟩
      have h := h x2 ex2
      refine g_iinc (v := x2) (lv1 := [some (.inr 42), some (.inl x2)]) ok dX9_keep_81 rfl (by rw [ex2]; rfl) rfl ?_
      refine g_goto (tgt := 55) ok dX9_keep_84 (by decide) ?_
      exact ih (x2) M1 h
set_option maxRecDepth 100000 in
set_option maxHeartbeats 4000000 in
theorem w_X9_keep_L21_w {X : gX} (ok : gOk X cX9_keep yX9_keep.cls 0 2 none gN) {Q : gM → Prop} (hZ : gZv X Q) {K53 : Int32 → gM → Prop}  (hK53 : ∀ (v1 : Int32)  (M : gM), K53 v1 M → gW X 53 [some (.inr 42), some (.inl v1)] [] M) : ∀ (n : Nat) (v1 : Int32)  (M : gM), w_X9_keep_L21 Q K53 n v1 M → gW X 21 [some (.inr 42), some (.inl v1)] [] M
  | 0, _, _, h => h.elim
  | n + 1, v1, M, h => by
    have ih := fun (v1 : Int32)  (M : gM) h => w_X9_keep_L21_w ok hZ  hK53 n v1  M h
    rw [w_X9_keep_L21.eq_2] at h
    refine g_iload_n ok dX9_keep_21 rfl rfl ?_
    refine g_bipush (v := 25) ok dX9_keep_22 (by decide) ?_
    refine g_aload_n ok dX9_keep_24 rfl rfl ?_
    refine g_get (w := .inl (M 42 5)) ok f42_5 (gNm (by decide)) q3_239 dX9_keep_25 rfl ?_
    refine g_imul ok dX9_keep_28 ?_
    refine g_icmp_ge (tgt := 53) ok dX9_keep_29 (by decide) (fun z => ?_) (fun z => ?_)
    · have h := h.2 z
      exact hK53 (v1) M h
    · have h := h.1 z
      refine g_aload_n ok dX9_keep_32 rfl rfl ?_
      refine g_get (w := .inr 45) ok f42_3 (gNm (by decide)) q3_237 dX9_keep_33 rfl ?_
      refine g_iload_n ok dX9_keep_36 rfl rfl ?_
      refine g_aload_n ok dX9_keep_37 rfl rfl ?_
      refine g_get (w := .inr 45) ok f42_3 (gNm (by decide)) q3_237 dX9_keep_38 rfl ?_
      refine g_iload_n ok dX9_keep_41 rfl rfl ?_
      refine g_bipush (v := 25) ok dX9_keep_42 (by decide) ?_
      refine g_iadd ok dX9_keep_44 ?_
      have hb := h.1
      have h := h.2
      refine g_iald (w := (M 45 (Int32.toNatClampNeg (v1 + 25)))) ok a45 (gNm (by decide)) dX9_keep_45 hb rfl ?_
      have hb := h.1
      have h := h.2
      refine g_iast ok a45 (gNm (by decide)) dX9_keep_46 hb (g_mem (fun M8 eM8 => ?_))
      have h := h M8 eM8
      obtain ⟨x9, ex9⟩ : ∃ y : Int32, y = (v1 + 1) := ⟨_, rfl⟩
      have h := h x9 ex9
      refine g_iinc (v := x9) (lv1 := [some (.inr 42), some (.inl x9)]) ok dX9_keep_47 rfl (by rw [ex9]; rfl) rfl ?_
      refine g_goto (tgt := 21) ok dX9_keep_50 (by decide) ?_
      exact ih (x9) M8 h
set_option maxRecDepth 100000 in
set_option maxHeartbeats 4000000 in
theorem k_X9_keep  {M : gM} {Q : gM → Prop} (h : w_X9_keep  M Q) : gCv gN 0 yX9_keep cX9_keep 2 [.inr 42] M Q := by
  refine gCv_of (by decide) gNn (gle rfl) (fun X ok hZ => ?_)
  show gW X 0 [some (.inr 42), none] [] M
  unfold w_X9_keep at h
  refine g_aload_n ok dX9_keep_0 rfl rfl ?_
  refine g_get (w := .inl (M 42 5)) ok f42_5 (gNm (by decide)) q3_239 dX9_keep_1 rfl ?_
  refine g_bipush (v := 16) ok dX9_keep_4 (by decide) ?_
  refine g_icmp_ne (tgt := 53) ok dX9_keep_6 (by decide) (fun z => ?_) (fun z => ?_)
  · have h := h.2 z
    refine g_iconst (v := 0) ok dX9_keep_53 (by decide) ?_
    refine g_istore_n (lv1 := [some (.inr 42), some (.inl 0)]) ok dX9_keep_54 rfl (glt rfl) rfl ?_
    obtain ⟨nf, h⟩ := h
    refine w_X9_keep_L55_w ok hZ  ?_ nf 0  M h
    · intro x3  M4 h
      refine g_aload_n ok dX9_keep_87 rfl rfl ?_
      refine g_dup ok dX9_keep_88 ?_
      refine g_get (w := .inl (M4 42 5)) ok f42_5 (gNm (by decide)) q3_239 dX9_keep_89 rfl ?_
      refine g_iconst (v := 1) ok dX9_keep_92 (by decide) ?_
      refine g_iadd ok dX9_keep_93 ?_
      refine g_put ok f42_5p (gNm (by decide)) q3_239 dX9_keep_94 rfl rfl (g_mem (fun M5 eM5 => ?_))
      have h := h M5 eM5
      refine g_aload_n ok dX9_keep_97 rfl rfl ?_
      refine g_iconst (v := 0) ok dX9_keep_98 (by decide) ?_
      refine g_put ok f42_6p (gNm (by decide)) q4_0 dX9_keep_99 rfl rfl (g_mem (fun M6 eM6 => ?_))
      have h := h M6 eM6
      exact g_vret ok hZ dX9_keep_102 h
  · have h := h.1 z
    refine g_aload_n ok dX9_keep_9 rfl rfl ?_
    refine g_dup ok dX9_keep_10 ?_
    refine g_get (w := .inl (M 42 5)) ok f42_5 (gNm (by decide)) q3_239 dX9_keep_11 rfl ?_
    refine g_iconst (v := 1) ok dX9_keep_14 (by decide) ?_
    refine g_isub ok dX9_keep_15 ?_
    refine g_put ok f42_5p (gNm (by decide)) q3_239 dX9_keep_16 rfl rfl (g_mem (fun M7 eM7 => ?_))
    have h := h M7 eM7
    refine g_iconst (v := 0) ok dX9_keep_19 (by decide) ?_
    refine g_istore_n (lv1 := [some (.inr 42), some (.inl 0)]) ok dX9_keep_20 rfl (glt rfl) rfl ?_
    obtain ⟨nf, h⟩ := h
    refine w_X9_keep_L21_w ok hZ  ?_ nf 0  M7 h
    · intro x10  M11 h
      refine g_iconst (v := 0) ok dX9_keep_53 (by decide) ?_
      refine g_istore_n (lv1 := [some (.inr 42), some (.inl 0)]) ok dX9_keep_54 rfl (glt rfl) rfl ?_
      obtain ⟨nf, h⟩ := h
      refine w_X9_keep_L55_w ok hZ  ?_ nf 0  M11 h
      · intro x12  M13 h
        refine g_aload_n ok dX9_keep_87 rfl rfl ?_
        refine g_dup ok dX9_keep_88 ?_
        refine g_get (w := .inl (M13 42 5)) ok f42_5 (gNm (by decide)) q3_239 dX9_keep_89 rfl ?_
        refine g_iconst (v := 1) ok dX9_keep_92 (by decide) ?_
        refine g_iadd ok dX9_keep_93 ?_
        refine g_put ok f42_5p (gNm (by decide)) q3_239 dX9_keep_94 rfl rfl (g_mem (fun M14 eM14 => ?_))
        have h := h M14 eM14
        refine g_aload_n ok dX9_keep_97 rfl rfl ?_
        refine g_iconst (v := 0) ok dX9_keep_98 (by decide) ?_
        refine g_put ok f42_6p (gNm (by decide)) q4_0 dX9_keep_99 rfl rfl (g_mem (fun M15 eM15 => ?_))
        have h := h M15 eM15
        exact g_vret ok hZ dX9_keep_102 h
theorem dX9_undo_0 : decode cX9_undo 0 = .ok (.aload_n 0, 1) := by decide +kernel
theorem dX9_undo_1 : decode cX9_undo 1 = .ok (.getfield 74, 3) := by decide +kernel
theorem dX9_undo_4 : decode cX9_undo 4 = .ok (.ifCond .ne 6, 3) := by decide +kernel
theorem dX9_undo_7 : decode cX9_undo 7 = .ok (.bipush (-7), 2) := by decide +kernel
theorem dX9_undo_9 : decode cX9_undo 9 = .ok (.ireturn, 1) := by decide +kernel
theorem dX9_undo_10 : decode cX9_undo 10 = .ok (.aload_n 0, 1) := by decide +kernel
theorem dX9_undo_11 : decode cX9_undo 11 = .ok (.dup, 1) := by decide +kernel
theorem dX9_undo_12 : decode cX9_undo 12 = .ok (.getfield 74, 3) := by decide +kernel
theorem dX9_undo_15 : decode cX9_undo 15 = .ok (.iconst 1, 1) := by decide +kernel
theorem dX9_undo_16 : decode cX9_undo 16 = .ok (.isub, 1) := by decide +kernel
theorem dX9_undo_17 : decode cX9_undo 17 = .ok (.putfield 74, 3) := by decide +kernel
theorem dX9_undo_20 : decode cX9_undo 20 = .ok (.iconst 0, 1) := by decide +kernel
theorem dX9_undo_21 : decode cX9_undo 21 = .ok (.istore_n 1, 1) := by decide +kernel
theorem dX9_undo_22 : decode cX9_undo 22 = .ok (.iload_n 1, 1) := by decide +kernel
theorem dX9_undo_23 : decode cX9_undo 23 = .ok (.bipush 25, 2) := by decide +kernel
theorem dX9_undo_25 : decode cX9_undo 25 = .ok (.if_icmp .ge 49, 3) := by decide +kernel
theorem dX9_undo_28 : decode cX9_undo 28 = .ok (.aload_n 0, 1) := by decide +kernel
theorem dX9_undo_29 : decode cX9_undo 29 = .ok (.getfield 19, 3) := by decide +kernel
theorem dX9_undo_32 : decode cX9_undo 32 = .ok (.bipush 25, 2) := by decide +kernel
theorem dX9_undo_34 : decode cX9_undo 34 = .ok (.aload_n 0, 1) := by decide +kernel
theorem dX9_undo_35 : decode cX9_undo 35 = .ok (.getfield 77, 3) := by decide +kernel
theorem dX9_undo_38 : decode cX9_undo 38 = .ok (.imul, 1) := by decide +kernel
theorem dX9_undo_39 : decode cX9_undo 39 = .ok (.iload_n 1, 1) := by decide +kernel
theorem dX9_undo_40 : decode cX9_undo 40 = .ok (.iadd, 1) := by decide +kernel
theorem dX9_undo_41 : decode cX9_undo 41 = .ok (.aload_n 0, 1) := by decide +kernel
theorem dX9_undo_42 : decode cX9_undo 42 = .ok (.getfield 7, 3) := by decide +kernel
theorem dX9_undo_45 : decode cX9_undo 45 = .ok (.iload_n 1, 1) := by decide +kernel
theorem dX9_undo_46 : decode cX9_undo 46 = .ok (.iaload, 1) := by decide +kernel
theorem dX9_undo_47 : decode cX9_undo 47 = .ok (.iastore, 1) := by decide +kernel
theorem dX9_undo_48 : decode cX9_undo 48 = .ok (.aload_n 0, 1) := by decide +kernel
theorem dX9_undo_49 : decode cX9_undo 49 = .ok (.getfield 7, 3) := by decide +kernel
theorem dX9_undo_52 : decode cX9_undo 52 = .ok (.iload_n 1, 1) := by decide +kernel
theorem dX9_undo_53 : decode cX9_undo 53 = .ok (.aload_n 0, 1) := by decide +kernel
theorem dX9_undo_54 : decode cX9_undo 54 = .ok (.getfield 16, 3) := by decide +kernel
theorem dX9_undo_57 : decode cX9_undo 57 = .ok (.bipush 25, 2) := by decide +kernel
theorem dX9_undo_59 : decode cX9_undo 59 = .ok (.aload_n 0, 1) := by decide +kernel
theorem dX9_undo_60 : decode cX9_undo 60 = .ok (.getfield 74, 3) := by decide +kernel
theorem dX9_undo_63 : decode cX9_undo 63 = .ok (.imul, 1) := by decide +kernel
theorem dX9_undo_64 : decode cX9_undo 64 = .ok (.iload_n 1, 1) := by decide +kernel
theorem dX9_undo_65 : decode cX9_undo 65 = .ok (.iadd, 1) := by decide +kernel
theorem dX9_undo_66 : decode cX9_undo 66 = .ok (.iaload, 1) := by decide +kernel
theorem dX9_undo_67 : decode cX9_undo 67 = .ok (.iastore, 1) := by decide +kernel
theorem dX9_undo_68 : decode cX9_undo 68 = .ok (.iinc 1 1, 3) := by decide +kernel
theorem dX9_undo_71 : decode cX9_undo 71 = .ok (.goto (-49), 3) := by decide +kernel
theorem dX9_undo_74 : decode cX9_undo 74 = .ok (.aload_n 0, 1) := by decide +kernel
theorem dX9_undo_75 : decode cX9_undo 75 = .ok (.dup, 1) := by decide +kernel
theorem dX9_undo_76 : decode cX9_undo 76 = .ok (.getfield 77, 3) := by decide +kernel
theorem dX9_undo_79 : decode cX9_undo 79 = .ok (.iconst 1, 1) := by decide +kernel
theorem dX9_undo_80 : decode cX9_undo 80 = .ok (.iadd, 1) := by decide +kernel
theorem dX9_undo_81 : decode cX9_undo 81 = .ok (.putfield 77, 3) := by decide +kernel
theorem dX9_undo_84 : decode cX9_undo 84 = .ok (.aload_n 0, 1) := by decide +kernel
theorem dX9_undo_85 : decode cX9_undo 85 = .ok (.getfield 74, 3) := by decide +kernel
theorem dX9_undo_88 : decode cX9_undo 88 = .ok (.ireturn, 1) := by decide +kernel
theorem s_X9_undo : gSt yX9_undo cX9_undo 2 (some .int) 0 := ⟨q4_89, q1_10, ⟨by decide, by decide, by decide +kernel⟩, by decide⟩
theorem sel_X9_undo : Cond.selects yX9_undo.cls yX9_undo yX9_undo ∈ gT := q4_88
theorem ins_X9_undo : Cond.instanceMethod yX9_undo ∈ gT := q4_87
def w_X9_undo_L22 (Q : Int32 → gM → Prop) (K74 : Int32 → gM → Prop) : Nat → Int32 → gM → Prop
  | 0, _, _ => False
  | n + 1, v1, M => gbr ((v1 : Int32) < 25) (vp_in v1 25 ∧ (vp_in ((25 * (M 42 6)) + v1) 400 ∧ ∀ M2 : gM, M2 = gst M 46 (Int32.toNatClampNeg ((25 * (M 42 6)) + v1)) (M 43 (Int32.toNatClampNeg v1)) → (vp_in ((25 * (M2 42 5)) + v1) 400 ∧ (vp_in v1 25 ∧ ∀ M3 : gM, M3 = gst M2 43 (Int32.toNatClampNeg v1) (M2 45 (Int32.toNatClampNeg ((25 * (M2 42 5)) + v1))) → (∀ x4 : Int32, x4 = (v1 + 1) → (w_X9_undo_L22 Q K74 n (x4) M3)))))) (K74 (v1) M)
def w_X9_undo  (M : gM) (Q : Int32 → gM → Prop) : Prop := gbr (((M 42 5) : Int32) = 0) (Q (-7) M) (∀ M1 : gM, M1 = gst M 42 5 ((M 42 5) - 1) → (∃ nf, w_X9_undo_L22 Q (fun (x5 : Int32) (M6 : gM) => ∀ M7 : gM, M7 = gst M6 42 6 ((M6 42 6) + 1) → (Q (M7 42 5) M7))  nf 0 M1))
set_option maxRecDepth 100000 in
set_option maxHeartbeats 4000000 in
theorem w_X9_undo_L22_w {X : gX} (ok : gOk X cX9_undo yX9_undo.cls 0 2 (some .int) gN) {Q : Int32 → gM → Prop} (hZ : gZi X Q) {K74 : Int32 → gM → Prop}  (hK74 : ∀ (v1 : Int32)  (M : gM), K74 v1 M → gW X 74 [some (.inr 42), some (.inl v1)] [] M) : ∀ (n : Nat) (v1 : Int32)  (M : gM), w_X9_undo_L22 Q K74 n v1 M → gW X 22 [some (.inr 42), some (.inl v1)] [] M
  | 0, _, _, h => h.elim
  | n + 1, v1, M, h => by
    have ih := fun (v1 : Int32)  (M : gM) h => w_X9_undo_L22_w ok hZ  hK74 n v1  M h
    rw [w_X9_undo_L22.eq_2] at h
    refine g_iload_n ok dX9_undo_22 rfl rfl ?_
    refine g_bipush (v := 25) ok dX9_undo_23 (by decide) ?_
    refine g_icmp_ge (tgt := 74) ok dX9_undo_25 (by decide) (fun z => ?_) (fun z => ?_)
    · have h := h.2 z
      exact hK74 (v1) M h
    · have h := h.1 z
      refine g_aload_n ok dX9_undo_28 rfl rfl ?_
      refine g_get (w := .inr 46) ok f42_4 (gNm (by decide)) q3_238 dX9_undo_29 rfl ?_
      refine g_bipush (v := 25) ok dX9_undo_32 (by decide) ?_
      refine g_aload_n ok dX9_undo_34 rfl rfl ?_
      refine g_get (w := .inl (M 42 6)) ok f42_6 (gNm (by decide)) q4_0 dX9_undo_35 rfl ?_
      refine g_imul ok dX9_undo_38 ?_
      refine g_iload_n ok dX9_undo_39 rfl rfl ?_
      refine g_iadd ok dX9_undo_40 ?_
      refine g_aload_n ok dX9_undo_41 rfl rfl ?_
      refine g_get (w := .inr 43) ok f42_1 (gNm (by decide)) q3_235 dX9_undo_42 rfl ?_
      refine g_iload_n ok dX9_undo_45 rfl rfl ?_
      have hb := h.1
      have h := h.2
      refine g_iald (w := (M 43 (Int32.toNatClampNeg v1))) ok a43 (gNm (by decide)) dX9_undo_46 hb rfl ?_
      have hb := h.1
      have h := h.2
      refine g_iast ok a46 (gNm (by decide)) dX9_undo_47 hb (g_mem (fun M2 eM2 => ?_))
      have h := h M2 eM2
      refine g_aload_n ok dX9_undo_48 rfl rfl ?_
      refine g_get (w := .inr 43) ok f42_1 (gNm (by decide)) q3_235 dX9_undo_49 rfl ?_
      refine g_iload_n ok dX9_undo_52 rfl rfl ?_
      refine g_aload_n ok dX9_undo_53 rfl rfl ?_
      refine g_get (w := .inr 45) ok f42_3 (gNm (by decide)) q3_237 dX9_undo_54 rfl ?_
      refine g_bipush (v := 25) ok dX9_undo_57 (by decide) ?_
      refine g_aload_n ok dX9_undo_59 rfl rfl ?_
      refine g_get (w := .inl (M2 42 5)) ok f42_5 (gNm (by decide)) q3_239 dX9_undo_60 rfl ?_
      refine g_imul ok dX9_undo_63 ?_
      refine g_iload_n ok dX9_undo_64 rfl rfl ?_
      refine g_iadd ok dX9_undo_65 ?_
      have hb := h.1
      have h := h.2
      refine g_iald (w := (M2 45 (Int32.toNatClampNeg ((25 * (M2 42 5)) + v1)))) ok a45 (gNm (by decide)) dX9_undo_66 hb rfl ?_
      have hb := h.1
      have h := h.2
      refine g_iast ok a43 (gNm (by decide)) dX9_undo_67 hb (g_mem (fun M3 eM3 => ?_))
      have h := h M3 eM3
      obtain ⟨x4, ex4⟩ : ∃ y : Int32, y = (v1 + 1) := ⟨_, rfl⟩
      have h := h x4 ex4
      refine g_iinc (v := x4) (lv1 := [some (.inr 42), some (.inl x4)]) ok dX9_undo_68 rfl (by rw [ex4]; rfl) rfl ?_
      refine g_goto (tgt := 22) ok dX9_undo_71 (by decide) ?_
      exact ih (x4) M3 h
set_option maxRecDepth 100000 in
set_option maxHeartbeats 4000000 in
theorem k_X9_undo  {M : gM} {Q : Int32 → gM → Prop} (h : w_X9_undo  M Q) : gCi gN 0 yX9_undo cX9_undo 2 .int [.inr 42] M Q := by
  refine gCi_of (by decide) gNn (gle rfl) (fun X ok hZ => ?_)
  show gW X 0 [some (.inr 42), none] [] M
  unfold w_X9_undo at h
  refine g_aload_n ok dX9_undo_0 rfl rfl ?_
  refine g_get (w := .inl (M 42 5)) ok f42_5 (gNm (by decide)) q3_239 dX9_undo_1 rfl ?_
  refine g_if_ne (tgt := 10) ok dX9_undo_4 (by decide) (fun z => ?_) (fun z => ?_)
  · have h := h.2 z
    refine g_aload_n ok dX9_undo_10 rfl rfl ?_
    refine g_dup ok dX9_undo_11 ?_
    refine g_get (w := .inl (M 42 5)) ok f42_5 (gNm (by decide)) q3_239 dX9_undo_12 rfl ?_
    refine g_iconst (v := 1) ok dX9_undo_15 (by decide) ?_
    refine g_isub ok dX9_undo_16 ?_
    refine g_put ok f42_5p (gNm (by decide)) q3_239 dX9_undo_17 rfl rfl (g_mem (fun M1 eM1 => ?_))
    have h := h M1 eM1
    refine g_iconst (v := 0) ok dX9_undo_20 (by decide) ?_
    refine g_istore_n (lv1 := [some (.inr 42), some (.inl 0)]) ok dX9_undo_21 rfl (glt rfl) rfl ?_
    obtain ⟨nf, h⟩ := h
    refine w_X9_undo_L22_w ok hZ  ?_ nf 0  M1 h
    · intro x5  M6 h
      refine g_aload_n ok dX9_undo_74 rfl rfl ?_
      refine g_dup ok dX9_undo_75 ?_
      refine g_get (w := .inl (M6 42 6)) ok f42_6 (gNm (by decide)) q4_0 dX9_undo_76 rfl ?_
      refine g_iconst (v := 1) ok dX9_undo_79 (by decide) ?_
      refine g_iadd ok dX9_undo_80 ?_
      refine g_put ok f42_6p (gNm (by decide)) q4_0 dX9_undo_81 rfl rfl (g_mem (fun M7 eM7 => ?_))
      have h := h M7 eM7
      refine g_aload_n ok dX9_undo_84 rfl rfl ?_
      refine g_get (w := .inl (M7 42 5)) ok f42_5 (gNm (by decide)) q3_239 dX9_undo_85 rfl ?_
      exact g_iret ok hZ dX9_undo_88 h
  · have h := h.1 z
    refine g_bipush (v := (-7)) ok dX9_undo_7 (by decide) ?_
    exact g_iret ok hZ dX9_undo_9 h
theorem dX9_redo_0 : decode cX9_redo 0 = .ok (.aload_n 0, 1) := by decide +kernel
theorem dX9_redo_1 : decode cX9_redo 1 = .ok (.getfield 77, 3) := by decide +kernel
theorem dX9_redo_4 : decode cX9_redo 4 = .ok (.ifCond .ne 6, 3) := by decide +kernel
theorem dX9_redo_7 : decode cX9_redo 7 = .ok (.bipush (-7), 2) := by decide +kernel
theorem dX9_redo_9 : decode cX9_redo 9 = .ok (.ireturn, 1) := by decide +kernel
theorem dX9_redo_10 : decode cX9_redo 10 = .ok (.aload_n 0, 1) := by decide +kernel
theorem dX9_redo_11 : decode cX9_redo 11 = .ok (.dup, 1) := by decide +kernel
theorem dX9_redo_12 : decode cX9_redo 12 = .ok (.getfield 77, 3) := by decide +kernel
theorem dX9_redo_15 : decode cX9_redo 15 = .ok (.iconst 1, 1) := by decide +kernel
theorem dX9_redo_16 : decode cX9_redo 16 = .ok (.isub, 1) := by decide +kernel
theorem dX9_redo_17 : decode cX9_redo 17 = .ok (.putfield 77, 3) := by decide +kernel
theorem dX9_redo_20 : decode cX9_redo 20 = .ok (.iconst 0, 1) := by decide +kernel
theorem dX9_redo_21 : decode cX9_redo 21 = .ok (.istore_n 1, 1) := by decide +kernel
theorem dX9_redo_22 : decode cX9_redo 22 = .ok (.iload_n 1, 1) := by decide +kernel
theorem dX9_redo_23 : decode cX9_redo 23 = .ok (.bipush 25, 2) := by decide +kernel
theorem dX9_redo_25 : decode cX9_redo 25 = .ok (.if_icmp .ge 49, 3) := by decide +kernel
theorem dX9_redo_28 : decode cX9_redo 28 = .ok (.aload_n 0, 1) := by decide +kernel
theorem dX9_redo_29 : decode cX9_redo 29 = .ok (.getfield 16, 3) := by decide +kernel
theorem dX9_redo_32 : decode cX9_redo 32 = .ok (.bipush 25, 2) := by decide +kernel
theorem dX9_redo_34 : decode cX9_redo 34 = .ok (.aload_n 0, 1) := by decide +kernel
theorem dX9_redo_35 : decode cX9_redo 35 = .ok (.getfield 74, 3) := by decide +kernel
theorem dX9_redo_38 : decode cX9_redo 38 = .ok (.imul, 1) := by decide +kernel
theorem dX9_redo_39 : decode cX9_redo 39 = .ok (.iload_n 1, 1) := by decide +kernel
theorem dX9_redo_40 : decode cX9_redo 40 = .ok (.iadd, 1) := by decide +kernel
theorem dX9_redo_41 : decode cX9_redo 41 = .ok (.aload_n 0, 1) := by decide +kernel
theorem dX9_redo_42 : decode cX9_redo 42 = .ok (.getfield 7, 3) := by decide +kernel
theorem dX9_redo_45 : decode cX9_redo 45 = .ok (.iload_n 1, 1) := by decide +kernel
theorem dX9_redo_46 : decode cX9_redo 46 = .ok (.iaload, 1) := by decide +kernel
theorem dX9_redo_47 : decode cX9_redo 47 = .ok (.iastore, 1) := by decide +kernel
theorem dX9_redo_48 : decode cX9_redo 48 = .ok (.aload_n 0, 1) := by decide +kernel
theorem dX9_redo_49 : decode cX9_redo 49 = .ok (.getfield 7, 3) := by decide +kernel
theorem dX9_redo_52 : decode cX9_redo 52 = .ok (.iload_n 1, 1) := by decide +kernel
theorem dX9_redo_53 : decode cX9_redo 53 = .ok (.aload_n 0, 1) := by decide +kernel
theorem dX9_redo_54 : decode cX9_redo 54 = .ok (.getfield 19, 3) := by decide +kernel
theorem dX9_redo_57 : decode cX9_redo 57 = .ok (.bipush 25, 2) := by decide +kernel
theorem dX9_redo_59 : decode cX9_redo 59 = .ok (.aload_n 0, 1) := by decide +kernel
theorem dX9_redo_60 : decode cX9_redo 60 = .ok (.getfield 77, 3) := by decide +kernel
theorem dX9_redo_63 : decode cX9_redo 63 = .ok (.imul, 1) := by decide +kernel
theorem dX9_redo_64 : decode cX9_redo 64 = .ok (.iload_n 1, 1) := by decide +kernel
theorem dX9_redo_65 : decode cX9_redo 65 = .ok (.iadd, 1) := by decide +kernel
theorem dX9_redo_66 : decode cX9_redo 66 = .ok (.iaload, 1) := by decide +kernel
theorem dX9_redo_67 : decode cX9_redo 67 = .ok (.iastore, 1) := by decide +kernel
theorem dX9_redo_68 : decode cX9_redo 68 = .ok (.iinc 1 1, 3) := by decide +kernel
theorem dX9_redo_71 : decode cX9_redo 71 = .ok (.goto (-49), 3) := by decide +kernel
theorem dX9_redo_74 : decode cX9_redo 74 = .ok (.aload_n 0, 1) := by decide +kernel
theorem dX9_redo_75 : decode cX9_redo 75 = .ok (.dup, 1) := by decide +kernel
theorem dX9_redo_76 : decode cX9_redo 76 = .ok (.getfield 74, 3) := by decide +kernel
theorem dX9_redo_79 : decode cX9_redo 79 = .ok (.iconst 1, 1) := by decide +kernel
theorem dX9_redo_80 : decode cX9_redo 80 = .ok (.iadd, 1) := by decide +kernel
theorem dX9_redo_81 : decode cX9_redo 81 = .ok (.putfield 74, 3) := by decide +kernel
theorem dX9_redo_84 : decode cX9_redo 84 = .ok (.aload_n 0, 1) := by decide +kernel
theorem dX9_redo_85 : decode cX9_redo 85 = .ok (.getfield 77, 3) := by decide +kernel
theorem dX9_redo_88 : decode cX9_redo 88 = .ok (.ireturn, 1) := by decide +kernel
theorem s_X9_redo : gSt yX9_redo cX9_redo 2 (some .int) 0 := ⟨q4_93, q1_10, ⟨by decide, by decide, by decide +kernel⟩, by decide⟩
theorem sel_X9_redo : Cond.selects yX9_redo.cls yX9_redo yX9_redo ∈ gT := q4_92
theorem ins_X9_redo : Cond.instanceMethod yX9_redo ∈ gT := q4_91
def w_X9_redo_L22 (Q : Int32 → gM → Prop) (K74 : Int32 → gM → Prop) : Nat → Int32 → gM → Prop
  | 0, _, _ => False
  | n + 1, v1, M => gbr ((v1 : Int32) < 25) (vp_in v1 25 ∧ (vp_in ((25 * (M 42 5)) + v1) 400 ∧ ∀ M2 : gM, M2 = gst M 45 (Int32.toNatClampNeg ((25 * (M 42 5)) + v1)) (M 43 (Int32.toNatClampNeg v1)) → (vp_in ((25 * (M2 42 6)) + v1) 400 ∧ (vp_in v1 25 ∧ ∀ M3 : gM, M3 = gst M2 43 (Int32.toNatClampNeg v1) (M2 46 (Int32.toNatClampNeg ((25 * (M2 42 6)) + v1))) → (∀ x4 : Int32, x4 = (v1 + 1) → (w_X9_redo_L22 Q K74 n (x4) M3)))))) (K74 (v1) M)
def w_X9_redo  (M : gM) (Q : Int32 → gM → Prop) : Prop := gbr (((M 42 6) : Int32) = 0) (Q (-7) M) (∀ M1 : gM, M1 = gst M 42 6 ((M 42 6) - 1) → (∃ nf, w_X9_redo_L22 Q (fun (x5 : Int32) (M6 : gM) => ∀ M7 : gM, M7 = gst M6 42 5 ((M6 42 5) + 1) → (Q (M7 42 6) M7))  nf 0 M1))
set_option maxRecDepth 100000 in
set_option maxHeartbeats 4000000 in
theorem w_X9_redo_L22_w {X : gX} (ok : gOk X cX9_redo yX9_redo.cls 0 2 (some .int) gN) {Q : Int32 → gM → Prop} (hZ : gZi X Q) {K74 : Int32 → gM → Prop}  (hK74 : ∀ (v1 : Int32)  (M : gM), K74 v1 M → gW X 74 [some (.inr 42), some (.inl v1)] [] M) : ∀ (n : Nat) (v1 : Int32)  (M : gM), w_X9_redo_L22 Q K74 n v1 M → gW X 22 [some (.inr 42), some (.inl v1)] [] M
  | 0, _, _, h => h.elim
  | n + 1, v1, M, h => by
    have ih := fun (v1 : Int32)  (M : gM) h => w_X9_redo_L22_w ok hZ  hK74 n v1  M h
    rw [w_X9_redo_L22.eq_2] at h
    refine g_iload_n ok dX9_redo_22 rfl rfl ?_
    refine g_bipush (v := 25) ok dX9_redo_23 (by decide) ?_
    refine g_icmp_ge (tgt := 74) ok dX9_redo_25 (by decide) (fun z => ?_) (fun z => ?_)
    · have h := h.2 z
      exact hK74 (v1) M h
    · have h := h.1 z
      refine g_aload_n ok dX9_redo_28 rfl rfl ?_
      refine g_get (w := .inr 45) ok f42_3 (gNm (by decide)) q3_237 dX9_redo_29 rfl ?_
      refine g_bipush (v := 25) ok dX9_redo_32 (by decide) ?_
      refine g_aload_n ok dX9_redo_34 rfl rfl ?_
      refine g_get (w := .inl (M 42 5)) ok f42_5 (gNm (by decide)) q3_239 dX9_redo_35 rfl ?_
      refine g_imul ok dX9_redo_38 ?_
      refine g_iload_n ok dX9_redo_39 rfl rfl ?_
      refine g_iadd ok dX9_redo_40 ?_
      refine g_aload_n ok dX9_redo_41 rfl rfl ?_
      refine g_get (w := .inr 43) ok f42_1 (gNm (by decide)) q3_235 dX9_redo_42 rfl ?_
      refine g_iload_n ok dX9_redo_45 rfl rfl ?_
      have hb := h.1
      have h := h.2
      refine g_iald (w := (M 43 (Int32.toNatClampNeg v1))) ok a43 (gNm (by decide)) dX9_redo_46 hb rfl ?_
      have hb := h.1
      have h := h.2
      refine g_iast ok a45 (gNm (by decide)) dX9_redo_47 hb (g_mem (fun M2 eM2 => ?_))
      have h := h M2 eM2
      refine g_aload_n ok dX9_redo_48 rfl rfl ?_
      refine g_get (w := .inr 43) ok f42_1 (gNm (by decide)) q3_235 dX9_redo_49 rfl ?_
      refine g_iload_n ok dX9_redo_52 rfl rfl ?_
      refine g_aload_n ok dX9_redo_53 rfl rfl ?_
      refine g_get (w := .inr 46) ok f42_4 (gNm (by decide)) q3_238 dX9_redo_54 rfl ?_
      refine g_bipush (v := 25) ok dX9_redo_57 (by decide) ?_
      refine g_aload_n ok dX9_redo_59 rfl rfl ?_
      refine g_get (w := .inl (M2 42 6)) ok f42_6 (gNm (by decide)) q4_0 dX9_redo_60 rfl ?_
      refine g_imul ok dX9_redo_63 ?_
      refine g_iload_n ok dX9_redo_64 rfl rfl ?_
      refine g_iadd ok dX9_redo_65 ?_
      have hb := h.1
      have h := h.2
      refine g_iald (w := (M2 46 (Int32.toNatClampNeg ((25 * (M2 42 6)) + v1)))) ok a46 (gNm (by decide)) dX9_redo_66 hb rfl ?_
      have hb := h.1
      have h := h.2
      refine g_iast ok a43 (gNm (by decide)) dX9_redo_67 hb (g_mem (fun M3 eM3 => ?_))
      have h := h M3 eM3
      obtain ⟨x4, ex4⟩ : ∃ y : Int32, y = (v1 + 1) := ⟨_, rfl⟩
      have h := h x4 ex4
      refine g_iinc (v := x4) (lv1 := [some (.inr 42), some (.inl x4)]) ok dX9_redo_68 rfl (by rw [ex4]; rfl) rfl ?_
      refine g_goto (tgt := 22) ok dX9_redo_71 (by decide) ?_
      exact ih (x4) M3 h
set_option maxRecDepth 100000 in
set_option maxHeartbeats 4000000 in
theorem k_X9_redo  {M : gM} {Q : Int32 → gM → Prop} (h : w_X9_redo  M Q) : gCi gN 0 yX9_redo cX9_redo 2 .int [.inr 42] M Q := by
  refine gCi_of (by decide) gNn (gle rfl) (fun X ok hZ => ?_)
  show gW X 0 [some (.inr 42), none] [] M
  unfold w_X9_redo at h
  refine g_aload_n ok dX9_redo_0 rfl rfl ?_
  refine g_get (w := .inl (M 42 6)) ok f42_6 (gNm (by decide)) q4_0 dX9_redo_1 rfl ?_
  refine g_if_ne (tgt := 10) ok dX9_redo_4 (by decide) (fun z => ?_) (fun z => ?_)
  · have h := h.2 z
    refine g_aload_n ok dX9_redo_10 rfl rfl ?_
    refine g_dup ok dX9_redo_11 ?_
    refine g_get (w := .inl (M 42 6)) ok f42_6 (gNm (by decide)) q4_0 dX9_redo_12 rfl ?_
    refine g_iconst (v := 1) ok dX9_redo_15 (by decide) ?_
    refine g_isub ok dX9_redo_16 ?_
    refine g_put ok f42_6p (gNm (by decide)) q4_0 dX9_redo_17 rfl rfl (g_mem (fun M1 eM1 => ?_))
    have h := h M1 eM1
    refine g_iconst (v := 0) ok dX9_redo_20 (by decide) ?_
    refine g_istore_n (lv1 := [some (.inr 42), some (.inl 0)]) ok dX9_redo_21 rfl (glt rfl) rfl ?_
    obtain ⟨nf, h⟩ := h
    refine w_X9_redo_L22_w ok hZ  ?_ nf 0  M1 h
    · intro x5  M6 h
      refine g_aload_n ok dX9_redo_74 rfl rfl ?_
      refine g_dup ok dX9_redo_75 ?_
      refine g_get (w := .inl (M6 42 5)) ok f42_5 (gNm (by decide)) q3_239 dX9_redo_76 rfl ?_
      refine g_iconst (v := 1) ok dX9_redo_79 (by decide) ?_
      refine g_iadd ok dX9_redo_80 ?_
      refine g_put ok f42_5p (gNm (by decide)) q3_239 dX9_redo_81 rfl rfl (g_mem (fun M7 eM7 => ?_))
      have h := h M7 eM7
      refine g_aload_n ok dX9_redo_84 rfl rfl ?_
      refine g_get (w := .inl (M7 42 6)) ok f42_6 (gNm (by decide)) q4_0 dX9_redo_85 rfl ?_
      exact g_iret ok hZ dX9_redo_88 h
  · have h := h.1 z
    refine g_bipush (v := (-7)) ok dX9_redo_7 (by decide) ?_
    exact g_iret ok hZ dX9_redo_9 h
theorem dX9_placeOf_0 : decode cX9_placeOf 0 = .ok (.iconst 0, 1) := by decide +kernel
theorem dX9_placeOf_1 : decode cX9_placeOf 1 = .ok (.istore_n 2, 1) := by decide +kernel
theorem dX9_placeOf_2 : decode cX9_placeOf 2 = .ok (.iload_n 2, 1) := by decide +kernel
theorem dX9_placeOf_3 : decode cX9_placeOf 3 = .ok (.aload_n 0, 1) := by decide +kernel
theorem dX9_placeOf_4 : decode cX9_placeOf 4 = .ok (.invokevirtual 80, 3) := by decide +kernel
theorem dX9_placeOf_7 : decode cX9_placeOf 7 = .ok (.if_icmp .ge 21, 3) := by decide +kernel
theorem dX9_placeOf_10 : decode cX9_placeOf 10 = .ok (.aload_n 0, 1) := by decide +kernel
theorem dX9_placeOf_11 : decode cX9_placeOf 11 = .ok (.getfield 7, 3) := by decide +kernel
theorem dX9_placeOf_14 : decode cX9_placeOf 14 = .ok (.iload_n 2, 1) := by decide +kernel
theorem dX9_placeOf_15 : decode cX9_placeOf 15 = .ok (.iaload, 1) := by decide +kernel
theorem dX9_placeOf_16 : decode cX9_placeOf 16 = .ok (.iload_n 1, 1) := by decide +kernel
theorem dX9_placeOf_17 : decode cX9_placeOf 17 = .ok (.if_icmp .ne 5, 3) := by decide +kernel
theorem dX9_placeOf_20 : decode cX9_placeOf 20 = .ok (.iload_n 2, 1) := by decide +kernel
theorem dX9_placeOf_21 : decode cX9_placeOf 21 = .ok (.ireturn, 1) := by decide +kernel
theorem dX9_placeOf_22 : decode cX9_placeOf 22 = .ok (.iinc 2 1, 3) := by decide +kernel
theorem dX9_placeOf_25 : decode cX9_placeOf 25 = .ok (.goto (-23), 3) := by decide +kernel
theorem dX9_placeOf_28 : decode cX9_placeOf 28 = .ok (.iconst (-1), 1) := by decide +kernel
theorem dX9_placeOf_29 : decode cX9_placeOf 29 = .ok (.ireturn, 1) := by decide +kernel
theorem s_X9_placeOf : gSt yX9_placeOf cX9_placeOf 3 (some .int) 1 := ⟨q4_109, q1_10, ⟨by decide, by decide, by decide +kernel⟩, by decide⟩
theorem sel_X9_placeOf : Cond.selects yX9_placeOf.cls yX9_placeOf yX9_placeOf ∈ gT := qs_21
theorem ins_X9_placeOf : Cond.instanceMethod yX9_placeOf ∈ gT := q4_108
def w_X9_placeOf_L2 (Q : Int32 → gM → Prop) (K28 : Int32 → gM → Prop) (K20 : Int32 → gM → Prop) (v1 : Int32) : Nat → Int32 → gM → Prop
  | 0, _, _ => False
  | n + 1, v2, M => w_X9_many M (fun (r2 : Int32) (M1 : gM) => gbr ((v2 : Int32) < r2) (vp_in v2 25 ∧ (gbr (((M1 43 (Int32.toNatClampNeg v2)) : Int32) = v1) (K20 (v2) M1) (∀ x3 : Int32, x3 = (v2 + 1) → (w_X9_placeOf_L2 Q K28 K20 v1 n (x3) M1)))) (K28 (v2) M1))
def w_X9_placeOf (p1 : Int32) (M : gM) (Q : Int32 → gM → Prop) : Prop := ∃ nf, w_X9_placeOf_L2 Q (fun (x4 : Int32) (M5 : gM) => Q (-1) M5) (fun (x6 : Int32) (M7 : gM) => Q x6 M7) p1 nf 0 M
set_option maxRecDepth 100000 in
set_option maxHeartbeats 4000000 in
theorem w_X9_placeOf_L2_w {X : gX} (ok : gOk X cX9_placeOf yX9_placeOf.cls 1 3 (some .int) gN) {Q : Int32 → gM → Prop} (hZ : gZi X Q) {K28 : Int32 → gM → Prop} {K20 : Int32 → gM → Prop} (v1 : Int32) (hK28 : ∀ (v2 : Int32)  (M : gM), K28 v2 M → gW X 28 [some (.inr 42), some (.inl v1), some (.inl v2)] [] M) (hK20 : ∀ (v2 : Int32)  (M : gM), K20 v2 M → gW X 20 [some (.inr 42), some (.inl v1), some (.inl v2)] [] M) : ∀ (n : Nat) (v2 : Int32)  (M : gM), w_X9_placeOf_L2 Q K28 K20 v1 n v2 M → gW X 2 [some (.inr 42), some (.inl v1), some (.inl v2)] [] M
  | 0, _, _, h => h.elim
  | n + 1, v2, M, h => by
    have ih := fun (v2 : Int32)  (M : gM) h => w_X9_placeOf_L2_w ok hZ v1 hK28 hK20 n v2  M h
    rw [w_X9_placeOf_L2.eq_2] at h
    refine g_iload_n ok dX9_placeOf_2 rfl rfl ?_
    refine g_aload_n ok dX9_placeOf_3 rfl rfl ?_
    refine g_callVi (st := [.inl v2]) (as := []) ok rfl (k_X9_many h) s_X9_many rfl (by decide) (gNm (by decide)) cl42 sel_X9_many ins_X9_many (gle rfl) rfl q4_110 dX9_placeOf_4 ?_
    intro r2 M1 h
    refine g_icmp_ge (tgt := 28) ok dX9_placeOf_7 (by decide) (fun z => ?_) (fun z => ?_)
    · have h := h.2 z
      exact hK28 (v2) M1 h
    · have h := h.1 z
      refine g_aload_n ok dX9_placeOf_10 rfl rfl ?_
      refine g_get (w := .inr 43) ok f42_1 (gNm (by decide)) q3_235 dX9_placeOf_11 rfl ?_
      refine g_iload_n ok dX9_placeOf_14 rfl rfl ?_
      have hb := h.1
      have h := h.2
      refine g_iald (w := (M1 43 (Int32.toNatClampNeg v2))) ok a43 (gNm (by decide)) dX9_placeOf_15 hb rfl ?_
      refine g_iload_n ok dX9_placeOf_16 rfl rfl ?_
      refine g_icmp_ne (tgt := 22) ok dX9_placeOf_17 (by decide) (fun z => ?_) (fun z => ?_)
      · have h := h.2 z
        obtain ⟨x3, ex3⟩ : ∃ y : Int32, y = (v2 + 1) := ⟨_, rfl⟩
        have h := h x3 ex3
        refine g_iinc (v := x3) (lv1 := [some (.inr 42), some (.inl v1), some (.inl x3)]) ok dX9_placeOf_22 rfl (by rw [ex3]; rfl) rfl ?_
        refine g_goto (tgt := 2) ok dX9_placeOf_25 (by decide) ?_
        exact ih (x3) M1 h
      · have h := h.1 z
        exact hK20 (v2) M1 h
set_option maxRecDepth 100000 in
set_option maxHeartbeats 4000000 in
theorem k_X9_placeOf {p1 : Int32} {M : gM} {Q : Int32 → gM → Prop} (h : w_X9_placeOf p1 M Q) : gCi gN 1 yX9_placeOf cX9_placeOf 3 .int [.inr 42, .inl p1] M Q := by
  refine gCi_of (by decide) gNn (gle rfl) (fun X ok hZ => ?_)
  show gW X 0 [some (.inr 42), some (.inl p1), none] [] M
  unfold w_X9_placeOf at h
  refine g_iconst (v := 0) ok dX9_placeOf_0 (by decide) ?_
  refine g_istore_n (lv1 := [some (.inr 42), some (.inl p1), some (.inl 0)]) ok dX9_placeOf_1 rfl (glt rfl) rfl ?_
  obtain ⟨nf, h⟩ := h
  refine w_X9_placeOf_L2_w ok hZ p1 ?_ ?_ nf 0  M h
  · intro x4  M5 h
    refine g_iconst (v := (-1)) ok dX9_placeOf_28 (by decide) ?_
    exact g_iret ok hZ dX9_placeOf_29 h
  · intro x6  M7 h
    refine g_iload_n ok dX9_placeOf_20 rfl rfl ?_
    exact g_iret ok hZ dX9_placeOf_21 h
theorem dX9_append_0 : decode cX9_append 0 = .ok (.aload_n 0, 1) := by decide +kernel
theorem dX9_append_1 : decode cX9_append 1 = .ok (.getfield 7, 3) := by decide +kernel
theorem dX9_append_4 : decode cX9_append 4 = .ok (.aload_n 0, 1) := by decide +kernel
theorem dX9_append_5 : decode cX9_append 5 = .ok (.getfield 7, 3) := by decide +kernel
theorem dX9_append_8 : decode cX9_append 8 = .ok (.bipush 24, 2) := by decide +kernel
theorem dX9_append_10 : decode cX9_append 10 = .ok (.iaload, 1) := by decide +kernel
theorem dX9_append_11 : decode cX9_append 11 = .ok (.iload_n 1, 1) := by decide +kernel
theorem dX9_append_12 : decode cX9_append 12 = .ok (.iastore, 1) := by decide +kernel
theorem dX9_append_13 : decode cX9_append 13 = .ok (.aload_n 0, 1) := by decide +kernel
theorem dX9_append_14 : decode cX9_append 14 = .ok (.getfield 7, 3) := by decide +kernel
theorem dX9_append_17 : decode cX9_append 17 = .ok (.bipush 24, 2) := by decide +kernel
theorem dX9_append_19 : decode cX9_append 19 = .ok (.dup2, 1) := by decide +kernel
theorem dX9_append_20 : decode cX9_append 20 = .ok (.iaload, 1) := by decide +kernel
theorem dX9_append_21 : decode cX9_append 21 = .ok (.iconst 1, 1) := by decide +kernel
theorem dX9_append_22 : decode cX9_append 22 = .ok (.iadd, 1) := by decide +kernel
theorem dX9_append_23 : decode cX9_append 23 = .ok (.iastore, 1) := by decide +kernel
theorem dX9_append_24 : decode cX9_append 24 = .ok (.return_, 1) := by decide +kernel
theorem s_X9_append : gSt yX9_append cX9_append 2 none 1 := ⟨q4_121, q1_10, ⟨by decide, by decide, by decide +kernel⟩, by decide⟩
theorem sel_X9_append : Cond.selects yX9_append.cls yX9_append yX9_append ∈ gT := qs_24
theorem ins_X9_append : Cond.instanceMethod yX9_append ∈ gT := q4_120
def w_X9_append (p1 : Int32) (M : gM) (Q : gM → Prop) : Prop := vp_in 24 25 ∧ (vp_in (M 43 (Int32.toNatClampNeg 24)) 25 ∧ ∀ M1 : gM, M1 = gst M 43 (Int32.toNatClampNeg (M 43 (Int32.toNatClampNeg 24))) p1 → (vp_in 24 25 ∧ (vp_in 24 25 ∧ ∀ M2 : gM, M2 = gst M1 43 (Int32.toNatClampNeg 24) ((M1 43 (Int32.toNatClampNeg 24)) + 1) → (Q M2))))
set_option maxRecDepth 100000 in
set_option maxHeartbeats 4000000 in
theorem k_X9_append {p1 : Int32} {M : gM} {Q : gM → Prop} (h : w_X9_append p1 M Q) : gCv gN 0 yX9_append cX9_append 2 [.inr 42, .inl p1] M Q := by
  refine gCv_of (by decide) gNn (gle rfl) (fun X ok hZ => ?_)
  show gW X 0 [some (.inr 42), some (.inl p1)] [] M
  unfold w_X9_append at h
  refine g_aload_n ok dX9_append_0 rfl rfl ?_
  refine g_get (w := .inr 43) ok f42_1 (gNm (by decide)) q3_235 dX9_append_1 rfl ?_
  refine g_aload_n ok dX9_append_4 rfl rfl ?_
  refine g_get (w := .inr 43) ok f42_1 (gNm (by decide)) q3_235 dX9_append_5 rfl ?_
  refine g_bipush (v := 24) ok dX9_append_8 (by decide) ?_
  have hb := h.1
  have h := h.2
  refine g_iald (w := (M 43 (Int32.toNatClampNeg 24))) ok a43 (gNm (by decide)) dX9_append_10 hb rfl ?_
  refine g_iload_n ok dX9_append_11 rfl rfl ?_
  have hb := h.1
  have h := h.2
  refine g_iast ok a43 (gNm (by decide)) dX9_append_12 hb (g_mem (fun M1 eM1 => ?_))
  have h := h M1 eM1
  refine g_aload_n ok dX9_append_13 rfl rfl ?_
  refine g_get (w := .inr 43) ok f42_1 (gNm (by decide)) q3_235 dX9_append_14 rfl ?_
  refine g_bipush (v := 24) ok dX9_append_17 (by decide) ?_
  refine g_dup2 ok dX9_append_19 ?_
  have hb := h.1
  have h := h.2
  refine g_iald (w := (M1 43 (Int32.toNatClampNeg 24))) ok a43 (gNm (by decide)) dX9_append_20 hb rfl ?_
  refine g_iconst (v := 1) ok dX9_append_21 (by decide) ?_
  refine g_iadd ok dX9_append_22 ?_
  have hb := h.1
  have h := h.2
  refine g_iast ok a43 (gNm (by decide)) dX9_append_23 hb (g_mem (fun M2 eM2 => ?_))
  have h := h M2 eM2
  exact g_vret ok hZ dX9_append_24 h
theorem dX9_drop_0 : decode cX9_drop 0 = .ok (.aload_n 0, 1) := by decide +kernel
theorem dX9_drop_1 : decode cX9_drop 1 = .ok (.getfield 7, 3) := by decide +kernel
theorem dX9_drop_4 : decode cX9_drop 4 = .ok (.bipush 24, 2) := by decide +kernel
theorem dX9_drop_6 : decode cX9_drop 6 = .ok (.dup2, 1) := by decide +kernel
theorem dX9_drop_7 : decode cX9_drop 7 = .ok (.iaload, 1) := by decide +kernel
theorem dX9_drop_8 : decode cX9_drop 8 = .ok (.iconst 1, 1) := by decide +kernel
theorem dX9_drop_9 : decode cX9_drop 9 = .ok (.isub, 1) := by decide +kernel
theorem dX9_drop_10 : decode cX9_drop 10 = .ok (.iastore, 1) := by decide +kernel
theorem dX9_drop_11 : decode cX9_drop 11 = .ok (.iload_n 1, 1) := by decide +kernel
theorem dX9_drop_12 : decode cX9_drop 12 = .ok (.istore_n 2, 1) := by decide +kernel
theorem dX9_drop_13 : decode cX9_drop 13 = .ok (.iload_n 2, 1) := by decide +kernel
theorem dX9_drop_14 : decode cX9_drop 14 = .ok (.aload_n 0, 1) := by decide +kernel
theorem dX9_drop_15 : decode cX9_drop 15 = .ok (.invokevirtual 80, 3) := by decide +kernel
theorem dX9_drop_18 : decode cX9_drop 18 = .ok (.if_icmp .ge 23, 3) := by decide +kernel
theorem dX9_drop_21 : decode cX9_drop 21 = .ok (.aload_n 0, 1) := by decide +kernel
theorem dX9_drop_22 : decode cX9_drop 22 = .ok (.getfield 7, 3) := by decide +kernel
theorem dX9_drop_25 : decode cX9_drop 25 = .ok (.iload_n 2, 1) := by decide +kernel
theorem dX9_drop_26 : decode cX9_drop 26 = .ok (.aload_n 0, 1) := by decide +kernel
theorem dX9_drop_27 : decode cX9_drop 27 = .ok (.getfield 7, 3) := by decide +kernel
theorem dX9_drop_30 : decode cX9_drop 30 = .ok (.iload_n 2, 1) := by decide +kernel
theorem dX9_drop_31 : decode cX9_drop 31 = .ok (.iconst 1, 1) := by decide +kernel
theorem dX9_drop_32 : decode cX9_drop 32 = .ok (.iadd, 1) := by decide +kernel
theorem dX9_drop_33 : decode cX9_drop 33 = .ok (.iaload, 1) := by decide +kernel
theorem dX9_drop_34 : decode cX9_drop 34 = .ok (.iastore, 1) := by decide +kernel
theorem dX9_drop_35 : decode cX9_drop 35 = .ok (.iinc 2 1, 3) := by decide +kernel
theorem dX9_drop_38 : decode cX9_drop 38 = .ok (.goto (-25), 3) := by decide +kernel
theorem dX9_drop_41 : decode cX9_drop 41 = .ok (.return_, 1) := by decide +kernel
theorem s_X9_drop : gSt yX9_drop cX9_drop 3 none 1 := ⟨q4_133, q1_10, ⟨by decide, by decide, by decide +kernel⟩, by decide⟩
theorem sel_X9_drop : Cond.selects yX9_drop.cls yX9_drop yX9_drop ∈ gT := qs_26
theorem ins_X9_drop : Cond.instanceMethod yX9_drop ∈ gT := q4_132
def w_X9_drop_L13 (Q : gM → Prop) (K41 : Int32 → gM → Prop) (v1 : Int32) : Nat → Int32 → gM → Prop
  | 0, _, _ => False
  | n + 1, v2, M => w_X9_many M (fun (r3 : Int32) (M2 : gM) => gbr ((v2 : Int32) < r3) (vp_in (v2 + 1) 25 ∧ (vp_in v2 25 ∧ ∀ M4 : gM, M4 = gst M2 43 (Int32.toNatClampNeg v2) (M2 43 (Int32.toNatClampNeg (v2 + 1))) → (∀ x5 : Int32, x5 = (v2 + 1) → (w_X9_drop_L13 Q K41 v1 n (x5) M4)))) (K41 (v2) M2))
def w_X9_drop (p1 : Int32) (M : gM) (Q : gM → Prop) : Prop := vp_in 24 25 ∧ (vp_in 24 25 ∧ ∀ M1 : gM, M1 = gst M 43 (Int32.toNatClampNeg 24) ((M 43 (Int32.toNatClampNeg 24)) - 1) → (∃ nf, w_X9_drop_L13 Q (fun (x6 : Int32) (M7 : gM) => Q M7) p1 nf p1 M1))
set_option maxRecDepth 100000 in
set_option maxHeartbeats 4000000 in
theorem w_X9_drop_L13_w {X : gX} (ok : gOk X cX9_drop yX9_drop.cls 1 3 none gN) {Q : gM → Prop} (hZ : gZv X Q) {K41 : Int32 → gM → Prop} (v1 : Int32) (hK41 : ∀ (v2 : Int32)  (M : gM), K41 v2 M → gW X 41 [some (.inr 42), some (.inl v1), some (.inl v2)] [] M) : ∀ (n : Nat) (v2 : Int32)  (M : gM), w_X9_drop_L13 Q K41 v1 n v2 M → gW X 13 [some (.inr 42), some (.inl v1), some (.inl v2)] [] M
  | 0, _, _, h => h.elim
  | n + 1, v2, M, h => by
    have ih := fun (v2 : Int32)  (M : gM) h => w_X9_drop_L13_w ok hZ v1 hK41 n v2  M h
    rw [w_X9_drop_L13.eq_2] at h
    refine g_iload_n ok dX9_drop_13 rfl rfl ?_
    refine g_aload_n ok dX9_drop_14 rfl rfl ?_
    refine g_callVi (st := [.inl v2]) (as := []) ok rfl (k_X9_many h) s_X9_many rfl (by decide) (gNm (by decide)) cl42 sel_X9_many ins_X9_many (gle rfl) rfl q4_110 dX9_drop_15 ?_
    intro r3 M2 h
    refine g_icmp_ge (tgt := 41) ok dX9_drop_18 (by decide) (fun z => ?_) (fun z => ?_)
    · have h := h.2 z
      exact hK41 (v2) M2 h
    · have h := h.1 z
      refine g_aload_n ok dX9_drop_21 rfl rfl ?_
      refine g_get (w := .inr 43) ok f42_1 (gNm (by decide)) q3_235 dX9_drop_22 rfl ?_
      refine g_iload_n ok dX9_drop_25 rfl rfl ?_
      refine g_aload_n ok dX9_drop_26 rfl rfl ?_
      refine g_get (w := .inr 43) ok f42_1 (gNm (by decide)) q3_235 dX9_drop_27 rfl ?_
      refine g_iload_n ok dX9_drop_30 rfl rfl ?_
      refine g_iconst (v := 1) ok dX9_drop_31 (by decide) ?_
      refine g_iadd ok dX9_drop_32 ?_
      have hb := h.1
      have h := h.2
      refine g_iald (w := (M2 43 (Int32.toNatClampNeg (v2 + 1)))) ok a43 (gNm (by decide)) dX9_drop_33 hb rfl ?_
      have hb := h.1
      have h := h.2
      refine g_iast ok a43 (gNm (by decide)) dX9_drop_34 hb (g_mem (fun M4 eM4 => ?_))
      have h := h M4 eM4
      obtain ⟨x5, ex5⟩ : ∃ y : Int32, y = (v2 + 1) := ⟨_, rfl⟩
      have h := h x5 ex5
      refine g_iinc (v := x5) (lv1 := [some (.inr 42), some (.inl v1), some (.inl x5)]) ok dX9_drop_35 rfl (by rw [ex5]; rfl) rfl ?_
      refine g_goto (tgt := 13) ok dX9_drop_38 (by decide) ?_
      exact ih (x5) M4 h
set_option maxRecDepth 100000 in
set_option maxHeartbeats 4000000 in
theorem k_X9_drop {p1 : Int32} {M : gM} {Q : gM → Prop} (h : w_X9_drop p1 M Q) : gCv gN 1 yX9_drop cX9_drop 3 [.inr 42, .inl p1] M Q := by
  refine gCv_of (by decide) gNn (gle rfl) (fun X ok hZ => ?_)
  show gW X 0 [some (.inr 42), some (.inl p1), none] [] M
  unfold w_X9_drop at h
  refine g_aload_n ok dX9_drop_0 rfl rfl ?_
  refine g_get (w := .inr 43) ok f42_1 (gNm (by decide)) q3_235 dX9_drop_1 rfl ?_
  refine g_bipush (v := 24) ok dX9_drop_4 (by decide) ?_
  refine g_dup2 ok dX9_drop_6 ?_
  have hb := h.1
  have h := h.2
  refine g_iald (w := (M 43 (Int32.toNatClampNeg 24))) ok a43 (gNm (by decide)) dX9_drop_7 hb rfl ?_
  refine g_iconst (v := 1) ok dX9_drop_8 (by decide) ?_
  refine g_isub ok dX9_drop_9 ?_
  have hb := h.1
  have h := h.2
  refine g_iast ok a43 (gNm (by decide)) dX9_drop_10 hb (g_mem (fun M1 eM1 => ?_))
  have h := h M1 eM1
  refine g_iload_n ok dX9_drop_11 rfl rfl ?_
  refine g_istore_n (lv1 := [some (.inr 42), some (.inl p1), some (.inl p1)]) ok dX9_drop_12 rfl (glt rfl) rfl ?_
  obtain ⟨nf, h⟩ := h
  refine w_X9_drop_L13_w ok hZ p1 ?_ nf p1  M1 h
  · intro x6  M7 h
    exact g_vret ok hZ dX9_drop_41 h
theorem dX9_addEdge_0 : decode cX9_addEdge 0 = .ok (.aload_n 0, 1) := by decide +kernel
theorem dX9_addEdge_1 : decode cX9_addEdge 1 = .ok (.iload_n 1, 1) := by decide +kernel
theorem dX9_addEdge_2 : decode cX9_addEdge 2 = .ok (.invokevirtual 83, 3) := by decide +kernel
theorem dX9_addEdge_5 : decode cX9_addEdge 5 = .ok (.ifCond .ne 7, 3) := by decide +kernel
theorem dX9_addEdge_8 : decode cX9_addEdge 8 = .ok (.iload_n 1, 1) := by decide +kernel
theorem dX9_addEdge_9 : decode cX9_addEdge 9 = .ok (.ifCond .ne 6, 3) := by decide +kernel
theorem dX9_addEdge_12 : decode cX9_addEdge 12 = .ok (.bipush (-3), 2) := by decide +kernel
theorem dX9_addEdge_14 : decode cX9_addEdge 14 = .ok (.ireturn, 1) := by decide +kernel
theorem dX9_addEdge_15 : decode cX9_addEdge 15 = .ok (.aload_n 0, 1) := by decide +kernel
theorem dX9_addEdge_16 : decode cX9_addEdge 16 = .ok (.iload_n 1, 1) := by decide +kernel
theorem dX9_addEdge_17 : decode cX9_addEdge 17 = .ok (.invokevirtual 87, 3) := by decide +kernel
theorem dX9_addEdge_20 : decode cX9_addEdge 20 = .ok (.ifCond .lt 6, 3) := by decide +kernel
theorem dX9_addEdge_23 : decode cX9_addEdge 23 = .ok (.bipush (-4), 2) := by decide +kernel
theorem dX9_addEdge_25 : decode cX9_addEdge 25 = .ok (.ireturn, 1) := by decide +kernel
theorem dX9_addEdge_26 : decode cX9_addEdge 26 = .ok (.aload_n 0, 1) := by decide +kernel
theorem dX9_addEdge_27 : decode cX9_addEdge 27 = .ok (.invokevirtual 80, 3) := by decide +kernel
theorem dX9_addEdge_30 : decode cX9_addEdge 30 = .ok (.bipush 24, 2) := by decide +kernel
theorem dX9_addEdge_32 : decode cX9_addEdge 32 = .ok (.if_icmp .ne 6, 3) := by decide +kernel
theorem dX9_addEdge_35 : decode cX9_addEdge 35 = .ok (.bipush (-5), 2) := by decide +kernel
theorem dX9_addEdge_37 : decode cX9_addEdge 37 = .ok (.ireturn, 1) := by decide +kernel
theorem dX9_addEdge_38 : decode cX9_addEdge 38 = .ok (.aload_n 0, 1) := by decide +kernel
theorem dX9_addEdge_39 : decode cX9_addEdge 39 = .ok (.invokevirtual 91, 3) := by decide +kernel
theorem dX9_addEdge_42 : decode cX9_addEdge 42 = .ok (.aload_n 0, 1) := by decide +kernel
theorem dX9_addEdge_43 : decode cX9_addEdge 43 = .ok (.iload_n 1, 1) := by decide +kernel
theorem dX9_addEdge_44 : decode cX9_addEdge 44 = .ok (.invokevirtual 94, 3) := by decide +kernel
theorem dX9_addEdge_47 : decode cX9_addEdge 47 = .ok (.aload_n 0, 1) := by decide +kernel
theorem dX9_addEdge_48 : decode cX9_addEdge 48 = .ok (.invokevirtual 80, 3) := by decide +kernel
theorem dX9_addEdge_51 : decode cX9_addEdge 51 = .ok (.iconst 1, 1) := by decide +kernel
theorem dX9_addEdge_52 : decode cX9_addEdge 52 = .ok (.isub, 1) := by decide +kernel
theorem dX9_addEdge_53 : decode cX9_addEdge 53 = .ok (.ireturn, 1) := by decide +kernel
theorem s_X9_addEdge : gSt yX9_addEdge cX9_addEdge 2 (some .int) 1 := ⟨q4_97, q1_10, ⟨by decide, by decide, by decide +kernel⟩, by decide⟩
theorem sel_X9_addEdge : Cond.selects yX9_addEdge.cls yX9_addEdge yX9_addEdge ∈ gT := q4_96
theorem ins_X9_addEdge : Cond.instanceMethod yX9_addEdge ∈ gT := q4_95
def w_X9_addEdge (p1 : Int32) (M : gM) (Q : Int32 → gM → Prop) : Prop := w_X9_noSet p1 M (fun (r2 : Int32) (M1 : gM) => gbr ((r2 : Int32) = 0) (gbr ((p1 : Int32) = 0) (Q (-3) M1) (w_X9_placeOf p1 M1 (fun (r4 : Int32) (M3 : gM) => gbr ((r4 : Int32) < 0) (w_X9_many M3 (fun (r6 : Int32) (M5 : gM) => gbr ((r6 : Int32) = 24) (Q (-5) M5) (w_X9_keep M5 (fun (M7 : gM) => w_X9_append p1 M7 (fun (M9 : gM) => w_X9_many M9 (fun (r12 : Int32) (M11 : gM) => Q (r12 - 1) M11)))))) (Q (-4) M3)))) (Q (-3) M1))
set_option maxRecDepth 100000 in
set_option maxHeartbeats 4000000 in
theorem k_X9_addEdge {p1 : Int32} {M : gM} {Q : Int32 → gM → Prop} (h : w_X9_addEdge p1 M Q) : gCi gN 2 yX9_addEdge cX9_addEdge 2 .int [.inr 42, .inl p1] M Q := by
  refine gCi_of (by decide) gNn (gle rfl) (fun X ok hZ => ?_)
  show gW X 0 [some (.inr 42), some (.inl p1)] [] M
  unfold w_X9_addEdge at h
  refine g_aload_n ok dX9_addEdge_0 rfl rfl ?_
  refine g_iload_n ok dX9_addEdge_1 rfl rfl ?_
  refine g_callVi (st := []) (as := [.inl p1]) ok rfl (k_X9_noSet h) s_X9_noSet rfl (by decide) (gNm (by decide)) cl42 sel_X9_noSet ins_X9_noSet (gle rfl) rfl q4_98 dX9_addEdge_2 ?_
  intro r2 M1 h
  refine g_if_ne (tgt := 12) ok dX9_addEdge_5 (by decide) (fun z => ?_) (fun z => ?_)
  · have h := h.2 z
    refine g_bipush (v := (-3)) ok dX9_addEdge_12 (by decide) ?_
    exact g_iret ok hZ dX9_addEdge_14 h
  · have h := h.1 z
    refine g_iload_n ok dX9_addEdge_8 rfl rfl ?_
    refine g_if_ne (tgt := 15) ok dX9_addEdge_9 (by decide) (fun z => ?_) (fun z => ?_)
    · have h := h.2 z
      refine g_aload_n ok dX9_addEdge_15 rfl rfl ?_
      refine g_iload_n ok dX9_addEdge_16 rfl rfl ?_
      refine g_callVi (st := []) (as := [.inl p1]) ok rfl (k_X9_placeOf h) s_X9_placeOf rfl (by decide) (gNm (by decide)) cl42 sel_X9_placeOf ins_X9_placeOf (gle rfl) rfl q4_106 dX9_addEdge_17 ?_
      intro r4 M3 h
      refine g_if_lt (tgt := 26) ok dX9_addEdge_20 (by decide) (fun z => ?_) (fun z => ?_)
      · have h := h.1 z
        refine g_aload_n ok dX9_addEdge_26 rfl rfl ?_
        refine g_callVi (st := []) (as := []) ok rfl (k_X9_many h) s_X9_many rfl (by decide) (gNm (by decide)) cl42 sel_X9_many ins_X9_many (gle rfl) rfl q4_110 dX9_addEdge_27 ?_
        intro r6 M5 h
        refine g_bipush (v := 24) ok dX9_addEdge_30 (by decide) ?_
        refine g_icmp_ne (tgt := 38) ok dX9_addEdge_32 (by decide) (fun z => ?_) (fun z => ?_)
        · have h := h.2 z
          refine g_aload_n ok dX9_addEdge_38 rfl rfl ?_
          refine g_callVv (st := []) (as := []) ok rfl (k_X9_keep h) s_X9_keep rfl (by decide) (gNm (by decide)) cl42 sel_X9_keep ins_X9_keep (gle rfl) rfl q4_114 dX9_addEdge_39 ?_
          intro M7 h
          refine g_aload_n ok dX9_addEdge_42 rfl rfl ?_
          refine g_iload_n ok dX9_addEdge_43 rfl rfl ?_
          refine g_callVv (st := []) (as := [.inl p1]) ok rfl (k_X9_append h) s_X9_append rfl (by decide) (gNm (by decide)) cl42 sel_X9_append ins_X9_append (gle rfl) rfl q4_118 dX9_addEdge_44 ?_
          intro M9 h
          refine g_aload_n ok dX9_addEdge_47 rfl rfl ?_
          refine g_callVi (st := []) (as := []) ok rfl (k_X9_many h) s_X9_many rfl (by decide) (gNm (by decide)) cl42 sel_X9_many ins_X9_many (gle rfl) rfl q4_110 dX9_addEdge_48 ?_
          intro r12 M11 h
          refine g_iconst (v := 1) ok dX9_addEdge_51 (by decide) ?_
          refine g_isub ok dX9_addEdge_52 ?_
          exact g_iret ok hZ dX9_addEdge_53 h
        · have h := h.1 z
          refine g_bipush (v := (-5)) ok dX9_addEdge_35 (by decide) ?_
          exact g_iret ok hZ dX9_addEdge_37 h
      · have h := h.2 z
        refine g_bipush (v := (-4)) ok dX9_addEdge_23 (by decide) ?_
        exact g_iret ok hZ dX9_addEdge_25 h
    · have h := h.1 z
      refine g_bipush (v := (-3)) ok dX9_addEdge_12 (by decide) ?_
      exact g_iret ok hZ dX9_addEdge_14 h
