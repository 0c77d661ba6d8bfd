theorem dX1_readInto_0 : decode cX1_readInto 0 = .ok (.aload_n 0, 1) := by decide +kernel
theorem dX1_readInto_1 : decode cX1_readInto 1 = .ok (.iconst 0, 1) := by decide +kernel
theorem dX1_readInto_2 : decode cX1_readInto 2 = .ok (.putfield 19, 3) := by decide +kernel
theorem dX1_readInto_5 : decode cX1_readInto 5 = .ok (.aload_n 0, 1) := by decide +kernel
theorem dX1_readInto_6 : decode cX1_readInto 6 = .ok (.iconst (-1), 1) := by decide +kernel
theorem dX1_readInto_7 : decode cX1_readInto 7 = .ok (.putfield 22, 3) := by decide +kernel
theorem dX1_readInto_10 : decode cX1_readInto 10 = .ok (.iconst 1, 1) := by decide +kernel
theorem dX1_readInto_11 : decode cX1_readInto 11 = .ok (.istore_n 2, 1) := by decide +kernel
theorem dX1_readInto_12 : decode cX1_readInto 12 = .ok (.iconst 0, 1) := by decide +kernel
theorem dX1_readInto_13 : decode cX1_readInto 13 = .ok (.istore_n 3, 1) := by decide +kernel
theorem dX1_readInto_14 : decode cX1_readInto 14 = .ok (.iload_n 3, 1) := by decide +kernel
theorem dX1_readInto_15 : decode cX1_readInto 15 = .ok (.bipush 100, 2) := by decide +kernel
theorem dX1_readInto_17 : decode cX1_readInto 17 = .ok (.if_icmp .gt 41, 3) := by decide +kernel
theorem dX1_readInto_20 : decode cX1_readInto 20 = .ok (.iload_n 2, 1) := by decide +kernel
theorem dX1_readInto_21 : decode cX1_readInto 21 = .ok (.ifCond .eq 37, 3) := by decide +kernel
theorem dX1_readInto_24 : decode cX1_readInto 24 = .ok (.aload_n 0, 1) := by decide +kernel
theorem dX1_readInto_25 : decode cX1_readInto 25 = .ok (.aload_n 1, 1) := by decide +kernel
theorem dX1_readInto_26 : decode cX1_readInto 26 = .ok (.invokevirtual 25, 3) := by decide +kernel
theorem dX1_readInto_29 : decode cX1_readInto 29 = .ok (.aload_n 0, 1) := by decide +kernel
theorem dX1_readInto_30 : decode cX1_readInto 30 = .ok (.getfield 22, 3) := by decide +kernel
theorem dX1_readInto_33 : decode cX1_readInto 33 = .ok (.iconst (-1), 1) := by decide +kernel
theorem dX1_readInto_34 : decode cX1_readInto 34 = .ok (.if_icmp .ne 16, 3) := by decide +kernel
theorem dX1_readInto_37 : decode cX1_readInto 37 = .ok (.aload_n 0, 1) := by decide +kernel
theorem dX1_readInto_38 : decode cX1_readInto 38 = .ok (.bipush 59, 2) := by decide +kernel
theorem dX1_readInto_40 : decode cX1_readInto 40 = .ok (.invokevirtual 29, 3) := by decide +kernel
theorem dX1_readInto_43 : decode cX1_readInto 43 = .ok (.ifCond .eq 7, 3) := by decide +kernel
theorem dX1_readInto_46 : decode cX1_readInto 46 = .ok (.iconst 1, 1) := by decide +kernel
theorem dX1_readInto_47 : decode cX1_readInto 47 = .ok (.goto 4, 3) := by decide +kernel
theorem dX1_readInto_50 : decode cX1_readInto 50 = .ok (.iconst 0, 1) := by decide +kernel
theorem dX1_readInto_51 : decode cX1_readInto 51 = .ok (.istore_n 2, 1) := by decide +kernel
theorem dX1_readInto_52 : decode cX1_readInto 52 = .ok (.iinc 3 1, 3) := by decide +kernel
theorem dX1_readInto_55 : decode cX1_readInto 55 = .ok (.goto (-41), 3) := by decide +kernel
theorem dX1_readInto_58 : decode cX1_readInto 58 = .ok (.aload_n 0, 1) := by decide +kernel
theorem dX1_readInto_59 : decode cX1_readInto 59 = .ok (.getfield 22, 3) := by decide +kernel
theorem dX1_readInto_62 : decode cX1_readInto 62 = .ok (.iconst (-1), 1) := by decide +kernel
theorem dX1_readInto_63 : decode cX1_readInto 63 = .ok (.if_icmp .ne 22, 3) := by decide +kernel
theorem dX1_readInto_66 : decode cX1_readInto 66 = .ok (.aload_n 0, 1) := by decide +kernel
theorem dX1_readInto_67 : decode cX1_readInto 67 = .ok (.getfield 19, 3) := by decide +kernel
theorem dX1_readInto_70 : decode cX1_readInto 70 = .ok (.aload_n 0, 1) := by decide +kernel
theorem dX1_readInto_71 : decode cX1_readInto 71 = .ok (.getfield 15, 3) := by decide +kernel
theorem dX1_readInto_74 : decode cX1_readInto 74 = .ok (.if_icmp .ge 11, 3) := by decide +kernel
theorem dX1_readInto_77 : decode cX1_readInto 77 = .ok (.aload_n 0, 1) := by decide +kernel
theorem dX1_readInto_78 : decode cX1_readInto 78 = .ok (.aload_n 0, 1) := by decide +kernel
theorem dX1_readInto_79 : decode cX1_readInto 79 = .ok (.getfield 19, 3) := by decide +kernel
theorem dX1_readInto_82 : decode cX1_readInto 82 = .ok (.putfield 22, 3) := by decide +kernel
theorem dX1_readInto_85 : decode cX1_readInto 85 = .ok (.aload_n 0, 1) := by decide +kernel
theorem dX1_readInto_86 : decode cX1_readInto 86 = .ok (.getfield 22, 3) := by decide +kernel
theorem dX1_readInto_89 : decode cX1_readInto 89 = .ok (.ireturn, 1) := by decide +kernel
theorem s_X1_readInto : gSt yX1_readInto cX1_readInto 4 (some .int) 1 := ⟨q3_203, q1_9, ⟨by decide, by decide, by decide +kernel⟩, by decide⟩
theorem sel_X1_readInto : Cond.selects yX1_readInto.cls yX1_readInto yX1_readInto ∈ gT := q3_202
theorem ins_X1_readInto : Cond.instanceMethod yX1_readInto ∈ gT := q3_201
def w_X1_readInto_L14 (Q : Int32 → gM → Prop) (K58 : Int32 → Int32 → gM → Prop) : Nat → Int32 → Int32 → gM → Prop
  | 0, _, _, _ => False
  | n + 1, v2, v3, M => gbr ((100 : Int32) < v3) (K58 (v2) (v3) M) (gbr ((v2 : Int32) = 0) (K58 (v2) (v3) M) (w_X1_readEdge M (fun (M3 : gM) => gbr (((M3 8 3) : Int32) = (-1)) (w_X1_skips 59 M3 (fun (r7 : Int32) (M6 : gM) => gbr ((r7 : Int32) = 0) (∀ x8 : Int32, x8 = (v3 + 1) → (w_X1_readInto_L14 Q K58 n (0) (x8) M6)) (∀ x9 : Int32, x9 = (v3 + 1) → (w_X1_readInto_L14 Q K58 n (1) (x9) M6)))) (∀ x5 : Int32, x5 = (v3 + 1) → (w_X1_readInto_L14 Q K58 n (0) (x5) M3)))))
def w_X1_readInto  (M : gM) (Q : Int32 → gM → Prop) : Prop := ∀ M1 : gM, M1 = gst M 8 2 0 → (∀ M2 : gM, M2 = gst M1 8 3 (-1) → (∃ nf, w_X1_readInto_L14 Q (fun (x10 : Int32) (x11 : Int32) (M12 : gM) => gbr (((M12 8 3) : Int32) = (-1)) (gbr (((M12 8 2) : Int32) < (M12 8 0)) (∀ M13 : gM, M13 = gst M12 8 3 (M12 8 2) → (Q (M13 8 3) M13)) (Q (M12 8 3) M12)) (Q (M12 8 3) M12))  nf 1 0 M2))
set_option maxRecDepth 100000 in
set_option maxHeartbeats 4000000 in
theorem w_X1_readInto_L14_w {X : gX} (ok : gOk X cX1_readInto yX1_readInto.cls 3 4 (some .int) gL) {Q : Int32 → gM → Prop} (hZ : gZi X Q) {K58 : Int32 → Int32 → gM → Prop}  (hK58 : ∀ (v2 : Int32) (v3 : Int32)  (M : gM), K58 v2 v3 M → gW X 58 [some (.inr 8), some (.inr 1), some (.inl v2), some (.inl v3)] [] M) : ∀ (n : Nat) (v2 : Int32) (v3 : Int32)  (M : gM), w_X1_readInto_L14 Q K58 n v2 v3 M → gW X 14 [some (.inr 8), some (.inr 1), some (.inl v2), some (.inl v3)] [] M
  | 0, _, _, _, h => h.elim
  | n + 1, v2, v3, M, h => by
    have ih := fun (v2 : Int32) (v3 : Int32)  (M : gM) h => w_X1_readInto_L14_w ok hZ  hK58 n v2 v3  M h
    rw [w_X1_readInto_L14.eq_2] at h
    refine g_iload_n ok dX1_readInto_14 rfl rfl ?_
    refine g_bipush (v := 100) ok dX1_readInto_15 (by decide) ?_
    refine g_icmp_gt (tgt := 58) ok dX1_readInto_17 (by decide) (fun z => ?_) (fun z => ?_)
    · have h := h.1 z
      exact hK58 (v2) (v3) M h
    · have h := h.2 z
      refine g_iload_n ok dX1_readInto_20 rfl rfl ?_
      refine g_if_eq (tgt := 58) ok dX1_readInto_21 (by decide) (fun z => ?_) (fun z => ?_)
      · have h := h.1 z
        exact hK58 (v2) (v3) M h
      · have h := h.2 z
        refine g_aload_n ok dX1_readInto_24 rfl rfl ?_
        refine g_aload_n ok dX1_readInto_25 rfl rfl ?_
        refine g_callVv (st := []) (as := [.inr 1]) ok rfl (k_X1_readEdge h) s_X1_readEdge rfl (by decide) (gLm (by decide)) cl8 sel_X1_readEdge ins_X1_readEdge (gle rfl) rfl q3_204 dX1_readInto_26 ?_
        intro M3 h
        refine g_aload_n ok dX1_readInto_29 rfl rfl ?_
        refine g_get (w := .inl (M3 8 3)) ok f8_3 (gLm (by decide)) q1_237 dX1_readInto_30 rfl ?_
        refine g_iconst (v := (-1)) ok dX1_readInto_33 (by decide) ?_
        refine g_icmp_ne (tgt := 50) ok dX1_readInto_34 (by decide) (fun z => ?_) (fun z => ?_)
        · have h := h.2 z
          refine g_iconst (v := 0) ok dX1_readInto_50 (by decide) ?_
          refine g_istore_n (lv1 := [some (.inr 8), some (.inr 1), some (.inl 0), some (.inl v3)]) ok dX1_readInto_51 rfl (glt rfl) rfl ?_
          obtain ⟨x5, ex5⟩ : ∃ y : Int32, y = (v3 + 1) := ⟨_, rfl⟩
          have h := h x5 ex5
          refine g_iinc (v := x5) (lv1 := [some (.inr 8), some (.inr 1), some (.inl 0), some (.inl x5)]) ok dX1_readInto_52 rfl (by rw [ex5]; rfl) rfl ?_
          refine g_goto (tgt := 14) ok dX1_readInto_55 (by decide) ?_
          exact ih (0) (x5) M3 h
        · have h := h.1 z
          refine g_aload_n ok dX1_readInto_37 rfl rfl ?_
          refine g_bipush (v := 59) ok dX1_readInto_38 (by decide) ?_
          refine g_callVi (st := []) (as := [.inl 59]) ok rfl (k_X1_skips h) s_X1_skips rfl (by decide) (gLm (by decide)) cl8 sel_X1_skips ins_X1_skips (gle rfl) rfl q3_218 dX1_readInto_40 ?_
          intro r7 M6 h
          refine g_if_eq (tgt := 50) ok dX1_readInto_43 (by decide) (fun z => ?_) (fun z => ?_)
          · have h := h.1 z
            refine g_iconst (v := 0) ok dX1_readInto_50 (by decide) ?_
            refine g_istore_n (lv1 := [some (.inr 8), some (.inr 1), some (.inl 0), some (.inl v3)]) ok dX1_readInto_51 rfl (glt rfl) rfl ?_
            obtain ⟨x8, ex8⟩ : ∃ y : Int32, y = (v3 + 1) := ⟨_, rfl⟩
            have h := h x8 ex8
            refine g_iinc (v := x8) (lv1 := [some (.inr 8), some (.inr 1), some (.inl 0), some (.inl x8)]) ok dX1_readInto_52 rfl (by rw [ex8]; rfl) rfl ?_
            refine g_goto (tgt := 14) ok dX1_readInto_55 (by decide) ?_
            exact ih (0) (x8) M6 h
          · have h := h.2 z
            refine g_iconst (v := 1) ok dX1_readInto_46 (by decide) ?_
            refine g_goto (tgt := 51) ok dX1_readInto_47 (by decide) ?_
            refine g_istore_n (lv1 := [some (.inr 8), some (.inr 1), some (.inl 1), some (.inl v3)]) ok dX1_readInto_51 rfl (glt rfl) rfl ?_
            obtain ⟨x9, ex9⟩ : ∃ y : Int32, y = (v3 + 1) := ⟨_, rfl⟩
            have h := h x9 ex9
            refine g_iinc (v := x9) (lv1 := [some (.inr 8), some (.inr 1), some (.inl 1), some (.inl x9)]) ok dX1_readInto_52 rfl (by rw [ex9]; rfl) rfl ?_
            refine g_goto (tgt := 14) ok dX1_readInto_55 (by decide) ?_
            exact ih (1) (x9) M6 h
set_option maxRecDepth 100000 in
set_option maxHeartbeats 4000000 in
theorem k_X1_readInto  {M : gM} {Q : Int32 → gM → Prop} (h : w_X1_readInto  M Q) : gCi gL 3 yX1_readInto cX1_readInto 4 .int [.inr 8, .inr 1] M Q := by
  refine gCi_of (by decide) gLn (gle rfl) (fun X ok hZ => ?_)
  show gW X 0 [some (.inr 8), some (.inr 1), none, none] [] M
  unfold w_X1_readInto at h
  refine g_aload_n ok dX1_readInto_0 rfl rfl ?_
  refine g_iconst (v := 0) ok dX1_readInto_1 (by decide) ?_
  refine g_put ok f8_2p (gLm (by decide)) q1_236 dX1_readInto_2 rfl rfl (g_mem (fun M1 eM1 => ?_))
  have h := h M1 eM1
  refine g_aload_n ok dX1_readInto_5 rfl rfl ?_
  refine g_iconst (v := (-1)) ok dX1_readInto_6 (by decide) ?_
  refine g_put ok f8_3p (gLm (by decide)) q1_237 dX1_readInto_7 rfl rfl (g_mem (fun M2 eM2 => ?_))
  have h := h M2 eM2
  refine g_iconst (v := 1) ok dX1_readInto_10 (by decide) ?_
  refine g_istore_n (lv1 := [some (.inr 8), some (.inr 1), some (.inl 1), none]) ok dX1_readInto_11 rfl (glt rfl) rfl ?_
  refine g_iconst (v := 0) ok dX1_readInto_12 (by decide) ?_
  refine g_istore_n (lv1 := [some (.inr 8), some (.inr 1), some (.inl 1), some (.inl 0)]) ok dX1_readInto_13 rfl (glt rfl) rfl ?_
  obtain ⟨nf, h⟩ := h
  refine w_X1_readInto_L14_w ok hZ  ?_ nf 1 0  M2 h
  · intro x10 x11  M12 h
    refine g_aload_n ok dX1_readInto_58 rfl rfl ?_
    refine g_get (w := .inl (M12 8 3)) ok f8_3 (gLm (by decide)) q1_237 dX1_readInto_59 rfl ?_
    refine g_iconst (v := (-1)) ok dX1_readInto_62 (by decide) ?_
    refine g_icmp_ne (tgt := 85) ok dX1_readInto_63 (by decide) (fun z => ?_) (fun z => ?_)
    · have h := h.2 z
      refine g_aload_n ok dX1_readInto_85 rfl rfl ?_
      refine g_get (w := .inl (M12 8 3)) ok f8_3 (gLm (by decide)) q1_237 dX1_readInto_86 rfl ?_
      exact g_iret ok hZ dX1_readInto_89 h
    · have h := h.1 z
      refine g_aload_n ok dX1_readInto_66 rfl rfl ?_
      refine g_get (w := .inl (M12 8 2)) ok f8_2 (gLm (by decide)) q1_236 dX1_readInto_67 rfl ?_
      refine g_aload_n ok dX1_readInto_70 rfl rfl ?_
      refine g_get (w := .inl (M12 8 0)) ok f8_0 (gLm (by decide)) q1_233 dX1_readInto_71 rfl ?_
      refine g_icmp_ge (tgt := 85) ok dX1_readInto_74 (by decide) (fun z => ?_) (fun z => ?_)
      · have h := h.2 z
        refine g_aload_n ok dX1_readInto_85 rfl rfl ?_
        refine g_get (w := .inl (M12 8 3)) ok f8_3 (gLm (by decide)) q1_237 dX1_readInto_86 rfl ?_
        exact g_iret ok hZ dX1_readInto_89 h
      · have h := h.1 z
        refine g_aload_n ok dX1_readInto_77 rfl rfl ?_
        refine g_aload_n ok dX1_readInto_78 rfl rfl ?_
        refine g_get (w := .inl (M12 8 2)) ok f8_2 (gLm (by decide)) q1_236 dX1_readInto_79 rfl ?_
        refine g_put ok f8_3p (gLm (by decide)) q1_237 dX1_readInto_82 rfl rfl (g_mem (fun M13 eM13 => ?_))
        have h := h M13 eM13
        refine g_aload_n ok dX1_readInto_85 rfl rfl ?_
        refine g_get (w := .inl (M13 8 3)) ok f8_3 (gLm (by decide)) q1_237 dX1_readInto_86 rfl ?_
        exact g_iret ok hZ dX1_readInto_89 h
theorem dX3_forget_0 : decode cX3_forget 0 = .ok (.aload_n 0, 1) := by decide +kernel
theorem dX3_forget_1 : decode cX3_forget 1 = .ok (.iconst 0, 1) := by decide +kernel
theorem dX3_forget_2 : decode cX3_forget 2 = .ok (.putfield 20, 3) := by decide +kernel
theorem dX3_forget_5 : decode cX3_forget 5 = .ok (.aload_n 0, 1) := by decide +kernel
theorem dX3_forget_6 : decode cX3_forget 6 = .ok (.iconst 0, 1) := by decide +kernel
theorem dX3_forget_7 : decode cX3_forget 7 = .ok (.putfield 24, 3) := by decide +kernel
theorem dX3_forget_10 : decode cX3_forget 10 = .ok (.aload_n 0, 1) := by decide +kernel
theorem dX3_forget_11 : decode cX3_forget 11 = .ok (.getfield 16, 3) := by decide +kernel
theorem dX3_forget_14 : decode cX3_forget 14 = .ok (.aload_n 0, 1) := by decide +kernel
theorem dX3_forget_15 : decode cX3_forget 15 = .ok (.getfield 27, 3) := by decide +kernel
theorem dX3_forget_18 : decode cX3_forget 18 = .ok (.iconst 0, 1) := by decide +kernel
theorem dX3_forget_19 : decode cX3_forget 19 = .ok (.iastore, 1) := by decide +kernel
theorem dX3_forget_20 : decode cX3_forget 20 = .ok (.return_, 1) := by decide +kernel
theorem s_X3_forget : gSt yX3_forget cX3_forget 1 none 0 := ⟨q2_38, q1_3, ⟨by decide, by decide, by decide +kernel⟩, by decide⟩
theorem sel_X3_forget : Cond.selects yX3_forget.cls yX3_forget yX3_forget ∈ gT := q2_37
theorem ins_X3_forget : Cond.instanceMethod yX3_forget ∈ gT := q2_36
def w_X3_forget  (M : gM) (Q : gM → Prop) : Prop := ∀ M1 : gM, M1 = gst M 2 0 0 → (∀ M2 : gM, M2 = gst M1 2 1 0 → (vp_in (M2 2 4) 17 ∧ ∀ M3 : gM, M3 = gst M2 12 (Int32.toNatClampNeg (M2 2 4)) 0 → (Q M3)))
set_option maxRecDepth 100000 in
set_option maxHeartbeats 4000000 in
theorem k_X3_forget  {M : gM} {Q : gM → Prop} (h : w_X3_forget  M Q) : gCv gL 0 yX3_forget cX3_forget 1 [.inr 2] M Q := by
  refine gCv_of (by decide) gLn (gle rfl) (fun X ok hZ => ?_)
  show gW X 0 [some (.inr 2)] [] M
  unfold w_X3_forget at h
  refine g_aload_n ok dX3_forget_0 rfl rfl ?_
  refine g_iconst (v := 0) ok dX3_forget_1 (by decide) ?_
  refine g_put ok f2_0p (gLm (by decide)) q1_36 dX3_forget_2 rfl rfl (g_mem (fun M1 eM1 => ?_))
  have h := h M1 eM1
  refine g_aload_n ok dX3_forget_5 rfl rfl ?_
  refine g_iconst (v := 0) ok dX3_forget_6 (by decide) ?_
  refine g_put ok f2_1p (gLm (by decide)) q1_38 dX3_forget_7 rfl rfl (g_mem (fun M2 eM2 => ?_))
  have h := h M2 eM2
  refine g_aload_n ok dX3_forget_10 rfl rfl ?_
  refine g_get (w := .inr 12) ok f2_3 (gLm (by decide)) q1_41 dX3_forget_11 rfl ?_
  refine g_aload_n ok dX3_forget_14 rfl rfl ?_
  refine g_get (w := .inl (M2 2 4)) ok f2_4 (gLm (by decide)) q1_42 dX3_forget_15 rfl ?_
  refine g_iconst (v := 0) ok dX3_forget_18 (by decide) ?_
  have hb := h.1
  have h := h.2
  refine g_iast ok a12 (gLm (by decide)) dX3_forget_19 hb (g_mem (fun M3 eM3 => ?_))
  have h := h M3 eM3
  exact g_vret ok hZ dX3_forget_20 h
theorem dX3_add_0 : decode cX3_add 0 = .ok (.aload_n 0, 1) := by decide +kernel
theorem dX3_add_1 : decode cX3_add 1 = .ok (.aload_n 0, 1) := by decide +kernel
theorem dX3_add_2 : decode cX3_add 2 = .ok (.getfield 27, 3) := by decide +kernel
theorem dX3_add_5 : decode cX3_add 5 = .ok (.iconst 1, 1) := by decide +kernel
theorem dX3_add_6 : decode cX3_add 6 = .ok (.iadd, 1) := by decide +kernel
theorem dX3_add_7 : decode cX3_add 7 = .ok (.bipush 17, 2) := by decide +kernel
theorem dX3_add_9 : decode cX3_add 9 = .ok (.irem, 1) := by decide +kernel
theorem dX3_add_10 : decode cX3_add 10 = .ok (.putfield 27, 3) := by decide +kernel
theorem dX3_add_13 : decode cX3_add 13 = .ok (.aload_n 1, 1) := by decide +kernel
theorem dX3_add_14 : decode cX3_add 14 = .ok (.iconst 0, 1) := by decide +kernel
theorem dX3_add_15 : decode cX3_add 15 = .ok (.aload_n 0, 1) := by decide +kernel
theorem dX3_add_16 : decode cX3_add 16 = .ok (.getfield 13, 3) := by decide +kernel
theorem dX3_add_19 : decode cX3_add 19 = .ok (.aload_n 0, 1) := by decide +kernel
theorem dX3_add_20 : decode cX3_add 20 = .ok (.getfield 27, 3) := by decide +kernel
theorem dX3_add_23 : decode cX3_add 23 = .ok (.aaload, 1) := by decide +kernel
theorem dX3_add_24 : decode cX3_add 24 = .ok (.iconst 0, 1) := by decide +kernel
theorem dX3_add_25 : decode cX3_add 25 = .ok (.bipush 24, 2) := by decide +kernel
theorem dX3_add_27 : decode cX3_add 27 = .ok (.invokestatic 30, 3) := by decide +kernel
theorem dX3_add_30 : decode cX3_add 30 = .ok (.aload_n 0, 1) := by decide +kernel
theorem dX3_add_31 : decode cX3_add 31 = .ok (.getfield 16, 3) := by decide +kernel
theorem dX3_add_34 : decode cX3_add 34 = .ok (.aload_n 0, 1) := by decide +kernel
theorem dX3_add_35 : decode cX3_add 35 = .ok (.getfield 27, 3) := by decide +kernel
theorem dX3_add_38 : decode cX3_add 38 = .ok (.iload_n 2, 1) := by decide +kernel
theorem dX3_add_39 : decode cX3_add 39 = .ok (.iastore, 1) := by decide +kernel
theorem dX3_add_40 : decode cX3_add 40 = .ok (.aload_n 0, 1) := by decide +kernel
theorem dX3_add_41 : decode cX3_add 41 = .ok (.aload_n 0, 1) := by decide +kernel
theorem dX3_add_42 : decode cX3_add 42 = .ok (.getfield 20, 3) := by decide +kernel
theorem dX3_add_45 : decode cX3_add 45 = .ok (.iconst 1, 1) := by decide +kernel
theorem dX3_add_46 : decode cX3_add 46 = .ok (.iadd, 1) := by decide +kernel
theorem dX3_add_47 : decode cX3_add 47 = .ok (.bipush 16, 2) := by decide +kernel
theorem dX3_add_49 : decode cX3_add 49 = .ok (.invokestatic 36, 3) := by decide +kernel
theorem dX3_add_52 : decode cX3_add 52 = .ok (.putfield 20, 3) := by decide +kernel
theorem dX3_add_55 : decode cX3_add 55 = .ok (.aload_n 0, 1) := by decide +kernel
theorem dX3_add_56 : decode cX3_add 56 = .ok (.iconst 0, 1) := by decide +kernel
theorem dX3_add_57 : decode cX3_add 57 = .ok (.putfield 24, 3) := by decide +kernel
theorem dX3_add_60 : decode cX3_add 60 = .ok (.return_, 1) := by decide +kernel
theorem s_X3_add : gSt yX3_add cX3_add 3 none 2 := ⟨q2_74, q1_3, ⟨by decide, by decide, by decide +kernel⟩, by decide⟩
theorem sel_X3_add : Cond.selects yX3_add.cls yX3_add yX3_add ∈ gT := q2_73
theorem ins_X3_add : Cond.instanceMethod yX3_add ∈ gT := q2_72
def w_X3_add (p2 : Int32) (M : gM) (Q : gM → Prop) : Prop := ∀ M1 : gM, M1 = gst M 2 4 (((M 2 4) + 1) - ((M 2 4) + 1) / 17 * 17) → (vp_in (M1 2 4) 17 ∧ (∀ M2 : gM, M2 = gsr M1 (13 + Int32.toNatClampNeg (M1 2 4)) (va_cpy (M1 9) (M1 (13 + Int32.toNatClampNeg (M1 2 4))) 0 0 24) → (vp_in (M2 2 4) 17 ∧ ∀ M3 : gM, M3 = gst M2 12 (Int32.toNatClampNeg (M2 2 4)) p2 → (∀ M4 : gM, M4 = gst M3 2 0 (if 16 < ((M3 2 0) + 1) then 16 else ((M3 2 0) + 1)) → (∀ M5 : gM, M5 = gst M4 2 1 0 → (Q M5))))))
set_option maxRecDepth 100000 in
set_option maxHeartbeats 4000000 in
theorem k_X3_add {p2 : Int32} {M : gM} {Q : gM → Prop} (h : w_X3_add p2 M Q) : gCv gL 1 yX3_add cX3_add 3 [.inr 2, .inr 9, .inl p2] M Q := by
  refine gCv_of (by decide) gLn (gle rfl) (fun X ok hZ => ?_)
  show gW X 0 [some (.inr 2), some (.inr 9), some (.inl p2)] [] M
  unfold w_X3_add at h
  refine g_aload_n ok dX3_add_0 rfl rfl ?_
  refine g_aload_n ok dX3_add_1 rfl rfl ?_
  refine g_get (w := .inl (M 2 4)) ok f2_4 (gLm (by decide)) q1_42 dX3_add_2 rfl ?_
  refine g_iconst (v := 1) ok dX3_add_5 (by decide) ?_
  refine g_iadd ok dX3_add_6 ?_
  refine g_bipush (v := 17) ok dX3_add_7 (by decide) ?_
  refine g_irem ok dX3_add_9 (by decide) ?_
  refine g_put ok f2_4p (gLm (by decide)) q1_42 dX3_add_10 rfl rfl (g_mem (fun M1 eM1 => ?_))
  have h := h M1 eM1
  refine g_aload_n ok dX3_add_13 rfl rfl ?_
  refine g_iconst (v := 0) ok dX3_add_14 (by decide) ?_
  refine g_aload_n ok dX3_add_15 rfl rfl ?_
  refine g_get (w := .inr 11) ok f2_2 (gLm (by decide)) q1_40 dX3_add_16 rfl ?_
  refine g_aload_n ok dX3_add_19 rfl rfl ?_
  refine g_get (w := .inl (M1 2 4)) ok f2_4 (gLm (by decide)) q1_42 dX3_add_20 rfl ?_
  have hb := h.1
  have h := h.2
  refine g_aald ok (gLm (by decide)) dX3_add_23 hb ?_
  refine g_iconst (v := 0) ok dX3_add_24 (by decide) ?_
  refine g_bipush (v := 24) ok dX3_add_25 (by decide) ?_
  refine g_copy ok a9 (a_row _ (gin_lt hb)) (gLm (by decide)) (gLm (by have := gin_lt hb; omega)) rfl (by decide) rfl q2_75 q2_77 q2_76 q1_11 (by decide) (by decide) (by decide) (by decide) (by decide) dX3_add_27 (g_mem (fun M2 eM2 => ?_))
  have h := h M2 eM2
  refine g_aload_n ok dX3_add_30 rfl rfl ?_
  refine g_get (w := .inr 12) ok f2_3 (gLm (by decide)) q1_41 dX3_add_31 rfl ?_
  refine g_aload_n ok dX3_add_34 rfl rfl ?_
  refine g_get (w := .inl (M2 2 4)) ok f2_4 (gLm (by decide)) q1_42 dX3_add_35 rfl ?_
  refine g_iload_n ok dX3_add_38 rfl rfl ?_
  have hb := h.1
  have h := h.2
  refine g_iast ok a12 (gLm (by decide)) dX3_add_39 hb (g_mem (fun M3 eM3 => ?_))
  have h := h M3 eM3
  refine g_aload_n ok dX3_add_40 rfl rfl ?_
  refine g_aload_n ok dX3_add_41 rfl rfl ?_
  refine g_get (w := .inl (M3 2 0)) ok f2_0 (gLm (by decide)) q1_36 dX3_add_42 rfl ?_
  refine g_iconst (v := 1) ok dX3_add_45 (by decide) ?_
  refine g_iadd ok dX3_add_46 ?_
  refine g_bipush (v := 16) ok dX3_add_47 (by decide) ?_
  refine g_mmin ok rfl (by decide) (gle rfl) q2_78 q2_79 q1_12 q2_80 dX3_add_49 ?_
  refine g_put ok f2_0p (gLm (by decide)) q1_36 dX3_add_52 rfl rfl (g_mem (fun M4 eM4 => ?_))
  have h := h M4 eM4
  refine g_aload_n ok dX3_add_55 rfl rfl ?_
  refine g_iconst (v := 0) ok dX3_add_56 (by decide) ?_
  refine g_put ok f2_1p (gLm (by decide)) q1_38 dX3_add_57 rfl rfl (g_mem (fun M5 eM5 => ?_))
  have h := h M5 eM5
  exact g_vret ok hZ dX3_add_60 h
theorem dX3_moveBack_0 : decode cX3_moveBack 0 = .ok (.aload_n 0, 1) := by decide +kernel
theorem dX3_moveBack_1 : decode cX3_moveBack 1 = .ok (.getfield 20, 3) := by decide +kernel
theorem dX3_moveBack_4 : decode cX3_moveBack 4 = .ok (.ifCond .ne 5, 3) := by decide +kernel
theorem dX3_moveBack_7 : decode cX3_moveBack 7 = .ok (.iconst 0, 1) := by decide +kernel
theorem dX3_moveBack_8 : decode cX3_moveBack 8 = .ok (.ireturn, 1) := by decide +kernel
theorem dX3_moveBack_9 : decode cX3_moveBack 9 = .ok (.aload_n 0, 1) := by decide +kernel
theorem dX3_moveBack_10 : decode cX3_moveBack 10 = .ok (.dup, 1) := by decide +kernel
theorem dX3_moveBack_11 : decode cX3_moveBack 11 = .ok (.getfield 20, 3) := by decide +kernel
theorem dX3_moveBack_14 : decode cX3_moveBack 14 = .ok (.iconst 1, 1) := by decide +kernel
theorem dX3_moveBack_15 : decode cX3_moveBack 15 = .ok (.isub, 1) := by decide +kernel
theorem dX3_moveBack_16 : decode cX3_moveBack 16 = .ok (.putfield 20, 3) := by decide +kernel
theorem dX3_moveBack_19 : decode cX3_moveBack 19 = .ok (.aload_n 0, 1) := by decide +kernel
theorem dX3_moveBack_20 : decode cX3_moveBack 20 = .ok (.dup, 1) := by decide +kernel
theorem dX3_moveBack_21 : decode cX3_moveBack 21 = .ok (.getfield 24, 3) := by decide +kernel
theorem dX3_moveBack_24 : decode cX3_moveBack 24 = .ok (.iconst 1, 1) := by decide +kernel
theorem dX3_moveBack_25 : decode cX3_moveBack 25 = .ok (.iadd, 1) := by decide +kernel
theorem dX3_moveBack_26 : decode cX3_moveBack 26 = .ok (.putfield 24, 3) := by decide +kernel
theorem dX3_moveBack_29 : decode cX3_moveBack 29 = .ok (.aload_n 0, 1) := by decide +kernel
theorem dX3_moveBack_30 : decode cX3_moveBack 30 = .ok (.aload_n 0, 1) := by decide +kernel
theorem dX3_moveBack_31 : decode cX3_moveBack 31 = .ok (.getfield 27, 3) := by decide +kernel
theorem dX3_moveBack_34 : decode cX3_moveBack 34 = .ok (.bipush 17, 2) := by decide +kernel
theorem dX3_moveBack_36 : decode cX3_moveBack 36 = .ok (.iadd, 1) := by decide +kernel
theorem dX3_moveBack_37 : decode cX3_moveBack 37 = .ok (.iconst 1, 1) := by decide +kernel
theorem dX3_moveBack_38 : decode cX3_moveBack 38 = .ok (.isub, 1) := by decide +kernel
theorem dX3_moveBack_39 : decode cX3_moveBack 39 = .ok (.bipush 17, 2) := by decide +kernel
theorem dX3_moveBack_41 : decode cX3_moveBack 41 = .ok (.irem, 1) := by decide +kernel
theorem dX3_moveBack_42 : decode cX3_moveBack 42 = .ok (.putfield 27, 3) := by decide +kernel
theorem dX3_moveBack_45 : decode cX3_moveBack 45 = .ok (.iconst 1, 1) := by decide +kernel
theorem dX3_moveBack_46 : decode cX3_moveBack 46 = .ok (.ireturn, 1) := by decide +kernel
theorem s_X3_moveBack : gSt yX3_moveBack cX3_moveBack 1 (some .boolean) 0 := ⟨q2_177, q1_3, ⟨by decide, by decide, by decide +kernel⟩, by decide⟩
theorem sel_X3_moveBack : Cond.selects yX3_moveBack.cls yX3_moveBack yX3_moveBack ∈ gT := q2_176
theorem ins_X3_moveBack : Cond.instanceMethod yX3_moveBack ∈ gT := q2_175
def w_X3_moveBack  (M : gM) (Q : Int32 → gM → Prop) : Prop := gbr (((M 2 0) : Int32) = 0) (Q 0 M) (∀ M1 : gM, M1 = gst M 2 0 ((M 2 0) - 1) → (∀ M2 : gM, M2 = gst M1 2 1 ((M1 2 1) + 1) → (∀ M3 : gM, M3 = gst M2 2 4 ((((M2 2 4) + 17) - 1) - (((M2 2 4) + 17) - 1) / 17 * 17) → (Q 1 M3))))
set_option maxRecDepth 100000 in
set_option maxHeartbeats 4000000 in
theorem k_X3_moveBack  {M : gM} {Q : Int32 → gM → Prop} (h : w_X3_moveBack  M Q) : gCi gL 0 yX3_moveBack cX3_moveBack 1 .boolean [.inr 2] M Q := by
  refine gCi_of (by decide) gLn (gle rfl) (fun X ok hZ => ?_)
  show gW X 0 [some (.inr 2)] [] M
  unfold w_X3_moveBack at h
  refine g_aload_n ok dX3_moveBack_0 rfl rfl ?_
  refine g_get (w := .inl (M 2 0)) ok f2_0 (gLm (by decide)) q1_36 dX3_moveBack_1 rfl ?_
  refine g_if_ne (tgt := 9) ok dX3_moveBack_4 (by decide) (fun z => ?_) (fun z => ?_)
  · have h := h.2 z
    refine g_aload_n ok dX3_moveBack_9 rfl rfl ?_
    refine g_dup ok dX3_moveBack_10 ?_
    refine g_get (w := .inl (M 2 0)) ok f2_0 (gLm (by decide)) q1_36 dX3_moveBack_11 rfl ?_
    refine g_iconst (v := 1) ok dX3_moveBack_14 (by decide) ?_
    refine g_isub ok dX3_moveBack_15 ?_
    refine g_put ok f2_0p (gLm (by decide)) q1_36 dX3_moveBack_16 rfl rfl (g_mem (fun M1 eM1 => ?_))
    have h := h M1 eM1
    refine g_aload_n ok dX3_moveBack_19 rfl rfl ?_
    refine g_dup ok dX3_moveBack_20 ?_
    refine g_get (w := .inl (M1 2 1)) ok f2_1 (gLm (by decide)) q1_38 dX3_moveBack_21 rfl ?_
    refine g_iconst (v := 1) ok dX3_moveBack_24 (by decide) ?_
    refine g_iadd ok dX3_moveBack_25 ?_
    refine g_put ok f2_1p (gLm (by decide)) q1_38 dX3_moveBack_26 rfl rfl (g_mem (fun M2 eM2 => ?_))
    have h := h M2 eM2
    refine g_aload_n ok dX3_moveBack_29 rfl rfl ?_
    refine g_aload_n ok dX3_moveBack_30 rfl rfl ?_
    refine g_get (w := .inl (M2 2 4)) ok f2_4 (gLm (by decide)) q1_42 dX3_moveBack_31 rfl ?_
    refine g_bipush (v := 17) ok dX3_moveBack_34 (by decide) ?_
    refine g_iadd ok dX3_moveBack_36 ?_
    refine g_iconst (v := 1) ok dX3_moveBack_37 (by decide) ?_
    refine g_isub ok dX3_moveBack_38 ?_
    refine g_bipush (v := 17) ok dX3_moveBack_39 (by decide) ?_
    refine g_irem ok dX3_moveBack_41 (by decide) ?_
    refine g_put ok f2_4p (gLm (by decide)) q1_42 dX3_moveBack_42 rfl rfl (g_mem (fun M3 eM3 => ?_))
    have h := h M3 eM3
    refine g_iconst (v := 1) ok dX3_moveBack_45 (by decide) ?_
    exact g_zret ok hZ dX3_moveBack_46 (by decide) h
  · have h := h.1 z
    refine g_iconst (v := 0) ok dX3_moveBack_7 (by decide) ?_
    exact g_zret ok hZ dX3_moveBack_8 (by decide) h
theorem dX3_moveForward_0 : decode cX3_moveForward 0 = .ok (.aload_n 0, 1) := by decide +kernel
theorem dX3_moveForward_1 : decode cX3_moveForward 1 = .ok (.getfield 24, 3) := by decide +kernel
theorem dX3_moveForward_4 : decode cX3_moveForward 4 = .ok (.ifCond .ne 5, 3) := by decide +kernel
theorem dX3_moveForward_7 : decode cX3_moveForward 7 = .ok (.iconst 0, 1) := by decide +kernel
theorem dX3_moveForward_8 : decode cX3_moveForward 8 = .ok (.ireturn, 1) := by decide +kernel
theorem dX3_moveForward_9 : decode cX3_moveForward 9 = .ok (.aload_n 0, 1) := by decide +kernel
theorem dX3_moveForward_10 : decode cX3_moveForward 10 = .ok (.dup, 1) := by decide +kernel
theorem dX3_moveForward_11 : decode cX3_moveForward 11 = .ok (.getfield 24, 3) := by decide +kernel
theorem dX3_moveForward_14 : decode cX3_moveForward 14 = .ok (.iconst 1, 1) := by decide +kernel
theorem dX3_moveForward_15 : decode cX3_moveForward 15 = .ok (.isub, 1) := by decide +kernel
theorem dX3_moveForward_16 : decode cX3_moveForward 16 = .ok (.putfield 24, 3) := by decide +kernel
theorem dX3_moveForward_19 : decode cX3_moveForward 19 = .ok (.aload_n 0, 1) := by decide +kernel
theorem dX3_moveForward_20 : decode cX3_moveForward 20 = .ok (.dup, 1) := by decide +kernel
theorem dX3_moveForward_21 : decode cX3_moveForward 21 = .ok (.getfield 20, 3) := by decide +kernel
theorem dX3_moveForward_24 : decode cX3_moveForward 24 = .ok (.iconst 1, 1) := by decide +kernel
theorem dX3_moveForward_25 : decode cX3_moveForward 25 = .ok (.iadd, 1) := by decide +kernel
theorem dX3_moveForward_26 : decode cX3_moveForward 26 = .ok (.putfield 20, 3) := by decide +kernel
theorem dX3_moveForward_29 : decode cX3_moveForward 29 = .ok (.aload_n 0, 1) := by decide +kernel
theorem dX3_moveForward_30 : decode cX3_moveForward 30 = .ok (.aload_n 0, 1) := by decide +kernel
theorem dX3_moveForward_31 : decode cX3_moveForward 31 = .ok (.getfield 27, 3) := by decide +kernel
theorem dX3_moveForward_34 : decode cX3_moveForward 34 = .ok (.iconst 1, 1) := by decide +kernel
theorem dX3_moveForward_35 : decode cX3_moveForward 35 = .ok (.iadd, 1) := by decide +kernel
theorem dX3_moveForward_36 : decode cX3_moveForward 36 = .ok (.bipush 17, 2) := by decide +kernel
theorem dX3_moveForward_38 : decode cX3_moveForward 38 = .ok (.irem, 1) := by decide +kernel
theorem dX3_moveForward_39 : decode cX3_moveForward 39 = .ok (.putfield 27, 3) := by decide +kernel
theorem dX3_moveForward_42 : decode cX3_moveForward 42 = .ok (.iconst 1, 1) := by decide +kernel
theorem dX3_moveForward_43 : decode cX3_moveForward 43 = .ok (.ireturn, 1) := by decide +kernel
theorem s_X3_moveForward : gSt yX3_moveForward cX3_moveForward 1 (some .boolean) 0 := ⟨q2_197, q1_3, ⟨by decide, by decide, by decide +kernel⟩, by decide⟩
theorem sel_X3_moveForward : Cond.selects yX3_moveForward.cls yX3_moveForward yX3_moveForward ∈ gT := q2_196
theorem ins_X3_moveForward : Cond.instanceMethod yX3_moveForward ∈ gT := q2_195
def w_X3_moveForward  (M : gM) (Q : Int32 → gM → Prop) : Prop := gbr (((M 2 1) : Int32) = 0) (Q 0 M) (∀ M1 : gM, M1 = gst M 2 1 ((M 2 1) - 1) → (∀ M2 : gM, M2 = gst M1 2 0 ((M1 2 0) + 1) → (∀ M3 : gM, M3 = gst M2 2 4 (((M2 2 4) + 1) - ((M2 2 4) + 1) / 17 * 17) → (Q 1 M3))))
set_option maxRecDepth 100000 in
set_option maxHeartbeats 4000000 in
theorem k_X3_moveForward  {M : gM} {Q : Int32 → gM → Prop} (h : w_X3_moveForward  M Q) : gCi gL 0 yX3_moveForward cX3_moveForward 1 .boolean [.inr 2] M Q := by
  refine gCi_of (by decide) gLn (gle rfl) (fun X ok hZ => ?_)
  show gW X 0 [some (.inr 2)] [] M
  unfold w_X3_moveForward at h
  refine g_aload_n ok dX3_moveForward_0 rfl rfl ?_
  refine g_get (w := .inl (M 2 1)) ok f2_1 (gLm (by decide)) q1_38 dX3_moveForward_1 rfl ?_
  refine g_if_ne (tgt := 9) ok dX3_moveForward_4 (by decide) (fun z => ?_) (fun z => ?_)
  · have h := h.2 z
    refine g_aload_n ok dX3_moveForward_9 rfl rfl ?_
    refine g_dup ok dX3_moveForward_10 ?_
    refine g_get (w := .inl (M 2 1)) ok f2_1 (gLm (by decide)) q1_38 dX3_moveForward_11 rfl ?_
    refine g_iconst (v := 1) ok dX3_moveForward_14 (by decide) ?_
    refine g_isub ok dX3_moveForward_15 ?_
    refine g_put ok f2_1p (gLm (by decide)) q1_38 dX3_moveForward_16 rfl rfl (g_mem (fun M1 eM1 => ?_))
    have h := h M1 eM1
    refine g_aload_n ok dX3_moveForward_19 rfl rfl ?_
    refine g_dup ok dX3_moveForward_20 ?_
    refine g_get (w := .inl (M1 2 0)) ok f2_0 (gLm (by decide)) q1_36 dX3_moveForward_21 rfl ?_
    refine g_iconst (v := 1) ok dX3_moveForward_24 (by decide) ?_
    refine g_iadd ok dX3_moveForward_25 ?_
    refine g_put ok f2_0p (gLm (by decide)) q1_36 dX3_moveForward_26 rfl rfl (g_mem (fun M2 eM2 => ?_))
    have h := h M2 eM2
    refine g_aload_n ok dX3_moveForward_29 rfl rfl ?_
    refine g_aload_n ok dX3_moveForward_30 rfl rfl ?_
    refine g_get (w := .inl (M2 2 4)) ok f2_4 (gLm (by decide)) q1_42 dX3_moveForward_31 rfl ?_
    refine g_iconst (v := 1) ok dX3_moveForward_34 (by decide) ?_
    refine g_iadd ok dX3_moveForward_35 ?_
    refine g_bipush (v := 17) ok dX3_moveForward_36 (by decide) ?_
    refine g_irem ok dX3_moveForward_38 (by decide) ?_
    refine g_put ok f2_4p (gLm (by decide)) q1_42 dX3_moveForward_39 rfl rfl (g_mem (fun M3 eM3 => ?_))
    have h := h M3 eM3
    refine g_iconst (v := 1) ok dX3_moveForward_42 (by decide) ?_
    exact g_zret ok hZ dX3_moveForward_43 (by decide) h
  · have h := h.1 z
    refine g_iconst (v := 0) ok dX3_moveForward_7 (by decide) ?_
    exact g_zret ok hZ dX3_moveForward_8 (by decide) h
theorem dX3_copyTo_0 : decode cX3_copyTo 0 = .ok (.aload_n 0, 1) := by decide +kernel
theorem dX3_copyTo_1 : decode cX3_copyTo 1 = .ok (.getfield 13, 3) := by decide +kernel
theorem dX3_copyTo_4 : decode cX3_copyTo 4 = .ok (.aload_n 0, 1) := by decide +kernel
theorem dX3_copyTo_5 : decode cX3_copyTo 5 = .ok (.getfield 27, 3) := by decide +kernel
theorem dX3_copyTo_8 : decode cX3_copyTo 8 = .ok (.aaload, 1) := by decide +kernel
theorem dX3_copyTo_9 : decode cX3_copyTo 9 = .ok (.iconst 0, 1) := by decide +kernel
theorem dX3_copyTo_10 : decode cX3_copyTo 10 = .ok (.aload_n 1, 1) := by decide +kernel
theorem dX3_copyTo_11 : decode cX3_copyTo 11 = .ok (.iconst 0, 1) := by decide +kernel
theorem dX3_copyTo_12 : decode cX3_copyTo 12 = .ok (.bipush 24, 2) := by decide +kernel
theorem dX3_copyTo_14 : decode cX3_copyTo 14 = .ok (.invokestatic 30, 3) := by decide +kernel
theorem dX3_copyTo_17 : decode cX3_copyTo 17 = .ok (.aload_n 0, 1) := by decide +kernel
theorem dX3_copyTo_18 : decode cX3_copyTo 18 = .ok (.getfield 16, 3) := by decide +kernel
theorem dX3_copyTo_21 : decode cX3_copyTo 21 = .ok (.aload_n 0, 1) := by decide +kernel
theorem dX3_copyTo_22 : decode cX3_copyTo 22 = .ok (.getfield 27, 3) := by decide +kernel
theorem dX3_copyTo_25 : decode cX3_copyTo 25 = .ok (.iaload, 1) := by decide +kernel
theorem dX3_copyTo_26 : decode cX3_copyTo 26 = .ok (.ireturn, 1) := by decide +kernel
theorem s_X3_copyTo : gSt yX3_copyTo cX3_copyTo 2 (some .int) 1 := ⟨q2_185, q1_3, ⟨by decide, by decide, by decide +kernel⟩, by decide⟩
theorem sel_X3_copyTo : Cond.selects yX3_copyTo.cls yX3_copyTo yX3_copyTo ∈ gT := q2_184
theorem ins_X3_copyTo : Cond.instanceMethod yX3_copyTo ∈ gT := q2_183
def w_X3_copyTo  (M : gM) (Q : Int32 → gM → Prop) : Prop := vp_in (M 2 4) 17 ∧ (∀ M1 : gM, M1 = gsr M 9 (va_cpy (M (13 + Int32.toNatClampNeg (M 2 4))) (M 9) 0 0 24) → (vp_in (M1 2 4) 17 ∧ (Q (M1 12 (Int32.toNatClampNeg (M1 2 4))) M1)))
set_option maxRecDepth 100000 in
set_option maxHeartbeats 4000000 in
theorem k_X3_copyTo  {M : gM} {Q : Int32 → gM → Prop} (h : w_X3_copyTo  M Q) : gCi gL 1 yX3_copyTo cX3_copyTo 2 .int [.inr 2, .inr 9] M Q := by
  refine gCi_of (by decide) gLn (gle rfl) (fun X ok hZ => ?_)
  show gW X 0 [some (.inr 2), some (.inr 9)] [] M
  unfold w_X3_copyTo at h
  refine g_aload_n ok dX3_copyTo_0 rfl rfl ?_
  refine g_get (w := .inr 11) ok f2_2 (gLm (by decide)) q1_40 dX3_copyTo_1 rfl ?_
  refine g_aload_n ok dX3_copyTo_4 rfl rfl ?_
  refine g_get (w := .inl (M 2 4)) ok f2_4 (gLm (by decide)) q1_42 dX3_copyTo_5 rfl ?_
  have hb := h.1
  have h := h.2
  refine g_aald ok (gLm (by decide)) dX3_copyTo_8 hb ?_
  refine g_iconst (v := 0) ok dX3_copyTo_9 (by decide) ?_
  refine g_aload_n ok dX3_copyTo_10 rfl rfl ?_
  refine g_iconst (v := 0) ok dX3_copyTo_11 (by decide) ?_
  refine g_bipush (v := 24) ok dX3_copyTo_12 (by decide) ?_
  refine g_copy ok (a_row _ (gin_lt hb)) a9 (gLm (by have := gin_lt hb; omega)) (gLm (by decide)) rfl (by decide) rfl q2_75 q2_77 q2_76 q1_11 (by decide) (by decide) (by decide) (by decide) (by decide) dX3_copyTo_14 (g_mem (fun M1 eM1 => ?_))
  have h := h M1 eM1
  refine g_aload_n ok dX3_copyTo_17 rfl rfl ?_
  refine g_get (w := .inr 12) ok f2_3 (gLm (by decide)) q1_41 dX3_copyTo_18 rfl ?_
  refine g_aload_n ok dX3_copyTo_21 rfl rfl ?_
  refine g_get (w := .inl (M1 2 4)) ok f2_4 (gLm (by decide)) q1_42 dX3_copyTo_22 rfl ?_
  have hb := h.1
  have h := h.2
  refine g_iald (w := (M1 12 (Int32.toNatClampNeg (M1 2 4)))) ok a12 (gLm (by decide)) dX3_copyTo_25 hb rfl ?_
  exact g_iret ok hZ dX3_copyTo_26 h
theorem dJ6_bitCount_0f7a4_0 : decode cJ6_bitCount_0f7a4 0 = .ok (.iload_n 0, 1) := by decide +kernel
theorem dJ6_bitCount_0f7a4_1 : decode cJ6_bitCount_0f7a4 1 = .ok (.iload_n 0, 1) := by decide +kernel
theorem dJ6_bitCount_0f7a4_2 : decode cJ6_bitCount_0f7a4 2 = .ok (.iconst 1, 1) := by decide +kernel
theorem dJ6_bitCount_0f7a4_3 : decode cJ6_bitCount_0f7a4 3 = .ok (.iushr, 1) := by decide +kernel
theorem dJ6_bitCount_0f7a4_4 : decode cJ6_bitCount_0f7a4 4 = .ok (.ldc_w 265, 3) := by decide +kernel
theorem dJ6_bitCount_0f7a4_7 : decode cJ6_bitCount_0f7a4 7 = .ok (.iand, 1) := by decide +kernel
theorem dJ6_bitCount_0f7a4_8 : decode cJ6_bitCount_0f7a4 8 = .ok (.isub, 1) := by decide +kernel
theorem dJ6_bitCount_0f7a4_9 : decode cJ6_bitCount_0f7a4 9 = .ok (.istore_n 0, 1) := by decide +kernel
theorem dJ6_bitCount_0f7a4_10 : decode cJ6_bitCount_0f7a4 10 = .ok (.iload_n 0, 1) := by decide +kernel
theorem dJ6_bitCount_0f7a4_11 : decode cJ6_bitCount_0f7a4 11 = .ok (.ldc_w 266, 3) := by decide +kernel
theorem dJ6_bitCount_0f7a4_14 : decode cJ6_bitCount_0f7a4 14 = .ok (.iand, 1) := by decide +kernel
theorem dJ6_bitCount_0f7a4_15 : decode cJ6_bitCount_0f7a4 15 = .ok (.iload_n 0, 1) := by decide +kernel
theorem dJ6_bitCount_0f7a4_16 : decode cJ6_bitCount_0f7a4 16 = .ok (.iconst 2, 1) := by decide +kernel
theorem dJ6_bitCount_0f7a4_17 : decode cJ6_bitCount_0f7a4 17 = .ok (.iushr, 1) := by decide +kernel
theorem dJ6_bitCount_0f7a4_18 : decode cJ6_bitCount_0f7a4 18 = .ok (.ldc_w 266, 3) := by decide +kernel
theorem dJ6_bitCount_0f7a4_21 : decode cJ6_bitCount_0f7a4 21 = .ok (.iand, 1) := by decide +kernel
theorem dJ6_bitCount_0f7a4_22 : decode cJ6_bitCount_0f7a4 22 = .ok (.iadd, 1) := by decide +kernel
theorem dJ6_bitCount_0f7a4_23 : decode cJ6_bitCount_0f7a4 23 = .ok (.istore_n 0, 1) := by decide +kernel
theorem dJ6_bitCount_0f7a4_24 : decode cJ6_bitCount_0f7a4 24 = .ok (.iload_n 0, 1) := by decide +kernel
theorem dJ6_bitCount_0f7a4_25 : decode cJ6_bitCount_0f7a4 25 = .ok (.iload_n 0, 1) := by decide +kernel
theorem dJ6_bitCount_0f7a4_26 : decode cJ6_bitCount_0f7a4 26 = .ok (.iconst 4, 1) := by decide +kernel
theorem dJ6_bitCount_0f7a4_27 : decode cJ6_bitCount_0f7a4 27 = .ok (.iushr, 1) := by decide +kernel
theorem dJ6_bitCount_0f7a4_28 : decode cJ6_bitCount_0f7a4 28 = .ok (.iadd, 1) := by decide +kernel
theorem dJ6_bitCount_0f7a4_29 : decode cJ6_bitCount_0f7a4 29 = .ok (.ldc_w 267, 3) := by decide +kernel
theorem dJ6_bitCount_0f7a4_32 : decode cJ6_bitCount_0f7a4 32 = .ok (.iand, 1) := by decide +kernel
theorem dJ6_bitCount_0f7a4_33 : decode cJ6_bitCount_0f7a4 33 = .ok (.istore_n 0, 1) := by decide +kernel
theorem dJ6_bitCount_0f7a4_34 : decode cJ6_bitCount_0f7a4 34 = .ok (.iload_n 0, 1) := by decide +kernel
theorem dJ6_bitCount_0f7a4_35 : decode cJ6_bitCount_0f7a4 35 = .ok (.iload_n 0, 1) := by decide +kernel
theorem dJ6_bitCount_0f7a4_36 : decode cJ6_bitCount_0f7a4 36 = .ok (.bipush 8, 2) := by decide +kernel
theorem dJ6_bitCount_0f7a4_38 : decode cJ6_bitCount_0f7a4 38 = .ok (.iushr, 1) := by decide +kernel
theorem dJ6_bitCount_0f7a4_39 : decode cJ6_bitCount_0f7a4 39 = .ok (.iadd, 1) := by decide +kernel
theorem dJ6_bitCount_0f7a4_40 : decode cJ6_bitCount_0f7a4 40 = .ok (.istore_n 0, 1) := by decide +kernel
theorem dJ6_bitCount_0f7a4_41 : decode cJ6_bitCount_0f7a4 41 = .ok (.iload_n 0, 1) := by decide +kernel
theorem dJ6_bitCount_0f7a4_42 : decode cJ6_bitCount_0f7a4 42 = .ok (.iload_n 0, 1) := by decide +kernel
theorem dJ6_bitCount_0f7a4_43 : decode cJ6_bitCount_0f7a4 43 = .ok (.bipush 16, 2) := by decide +kernel
theorem dJ6_bitCount_0f7a4_45 : decode cJ6_bitCount_0f7a4 45 = .ok (.iushr, 1) := by decide +kernel
theorem dJ6_bitCount_0f7a4_46 : decode cJ6_bitCount_0f7a4 46 = .ok (.iadd, 1) := by decide +kernel
theorem dJ6_bitCount_0f7a4_47 : decode cJ6_bitCount_0f7a4 47 = .ok (.istore_n 0, 1) := by decide +kernel
theorem dJ6_bitCount_0f7a4_48 : decode cJ6_bitCount_0f7a4 48 = .ok (.iload_n 0, 1) := by decide +kernel
theorem dJ6_bitCount_0f7a4_49 : decode cJ6_bitCount_0f7a4 49 = .ok (.bipush 63, 2) := by decide +kernel
theorem dJ6_bitCount_0f7a4_51 : decode cJ6_bitCount_0f7a4 51 = .ok (.iand, 1) := by decide +kernel
theorem dJ6_bitCount_0f7a4_52 : decode cJ6_bitCount_0f7a4 52 = .ok (.ireturn, 1) := by decide +kernel
theorem s_J6_bitCount_0f7a4 : gSt yJ6_bitCount_0f7a4 cJ6_bitCount_0f7a4 1 (some .int) 1 := ⟨q2_123, q1_13, ⟨by decide, by decide, by decide +kernel⟩, by decide⟩
theorem stt_J6_bitCount_0f7a4 : Cond.static yJ6_bitCount_0f7a4 ∈ gT := q2_122
def w_J6_bitCount_0f7a4 (p0 : Int32) (M : gM) (Q : Int32 → gM → Prop) : Prop := ∀ x1 : Int32, x1 = (p0 - (((Int32.toUInt32 p0 >>> (Int32.toUInt32 1 &&& Int32.toUInt32 31)).toInt32) &&& 1431655765)) → (∀ x2 : Int32, x2 = ((x1 &&& 858993459) + (((Int32.toUInt32 x1 >>> (Int32.toUInt32 2 &&& Int32.toUInt32 31)).toInt32) &&& 858993459)) → (∀ x3 : Int32, x3 = ((x2 + ((Int32.toUInt32 x2 >>> (Int32.toUInt32 4 &&& Int32.toUInt32 31)).toInt32)) &&& 252645135) → (∀ x4 : Int32, x4 = (x3 + ((Int32.toUInt32 x3 >>> (Int32.toUInt32 8 &&& Int32.toUInt32 31)).toInt32)) → (∀ x5 : Int32, x5 = (x4 + ((Int32.toUInt32 x4 >>> (Int32.toUInt32 16 &&& Int32.toUInt32 31)).toInt32)) → (Q (x5 &&& 63) M)))))
set_option maxRecDepth 100000 in
set_option maxHeartbeats 4000000 in
theorem k_J6_bitCount_0f7a4 {p0 : Int32} {M : gM} {Q : Int32 → gM → Prop} (h : w_J6_bitCount_0f7a4 p0 M Q) : gCi gL 0 yJ6_bitCount_0f7a4 cJ6_bitCount_0f7a4 1 .int [.inl p0] M Q := by
  refine gCi_of (by decide) gLn (gle rfl) (fun X ok hZ => ?_)
  show gW X 0 [some (.inl p0)] [] M
  unfold w_J6_bitCount_0f7a4 at h
  refine g_iload_n ok dJ6_bitCount_0f7a4_0 rfl rfl ?_
  refine g_iload_n ok dJ6_bitCount_0f7a4_1 rfl rfl ?_
  refine g_iconst (v := 1) ok dJ6_bitCount_0f7a4_2 (by decide) ?_
  refine g_iushr ok dJ6_bitCount_0f7a4_3 ?_
  refine g_ldcw (v := 1431655765) ok q2_124 dJ6_bitCount_0f7a4_4 ?_
  refine g_iand ok dJ6_bitCount_0f7a4_7 ?_
  refine g_isub ok dJ6_bitCount_0f7a4_8 ?_
  refine g_nm (fun x1 ex1 => ?_)
  have h := h x1 ex1
  refine g_istore_n (lv1 := [some (.inl x1)]) ok dJ6_bitCount_0f7a4_9 rfl (glt rfl) rfl ?_
  refine g_iload_n ok dJ6_bitCount_0f7a4_10 rfl rfl ?_
  refine g_ldcw (v := 858993459) ok q2_125 dJ6_bitCount_0f7a4_11 ?_
  refine g_iand ok dJ6_bitCount_0f7a4_14 ?_
  refine g_iload_n ok dJ6_bitCount_0f7a4_15 rfl rfl ?_
  refine g_iconst (v := 2) ok dJ6_bitCount_0f7a4_16 (by decide) ?_
  refine g_iushr ok dJ6_bitCount_0f7a4_17 ?_
  refine g_ldcw (v := 858993459) ok q2_125 dJ6_bitCount_0f7a4_18 ?_
  refine g_iand ok dJ6_bitCount_0f7a4_21 ?_
  refine g_iadd ok dJ6_bitCount_0f7a4_22 ?_
  refine g_nm (fun x2 ex2 => ?_)
  have h := h x2 ex2
  refine g_istore_n (lv1 := [some (.inl x2)]) ok dJ6_bitCount_0f7a4_23 rfl (glt rfl) rfl ?_
  refine g_iload_n ok dJ6_bitCount_0f7a4_24 rfl rfl ?_
  refine g_iload_n ok dJ6_bitCount_0f7a4_25 rfl rfl ?_
  refine g_iconst (v := 4) ok dJ6_bitCount_0f7a4_26 (by decide) ?_
  refine g_iushr ok dJ6_bitCount_0f7a4_27 ?_
  refine g_iadd ok dJ6_bitCount_0f7a4_28 ?_
  refine g_ldcw (v := 252645135) ok q2_126 dJ6_bitCount_0f7a4_29 ?_
  refine g_iand ok dJ6_bitCount_0f7a4_32 ?_
  refine g_nm (fun x3 ex3 => ?_)
  have h := h x3 ex3
  refine g_istore_n (lv1 := [some (.inl x3)]) ok dJ6_bitCount_0f7a4_33 rfl (glt rfl) rfl ?_
  refine g_iload_n ok dJ6_bitCount_0f7a4_34 rfl rfl ?_
  refine g_iload_n ok dJ6_bitCount_0f7a4_35 rfl rfl ?_
  refine g_bipush (v := 8) ok dJ6_bitCount_0f7a4_36 (by decide) ?_
  refine g_iushr ok dJ6_bitCount_0f7a4_38 ?_
  refine g_iadd ok dJ6_bitCount_0f7a4_39 ?_
  refine g_nm (fun x4 ex4 => ?_)
  have h := h x4 ex4
  refine g_istore_n (lv1 := [some (.inl x4)]) ok dJ6_bitCount_0f7a4_40 rfl (glt rfl) rfl ?_
  refine g_iload_n ok dJ6_bitCount_0f7a4_41 rfl rfl ?_
  refine g_iload_n ok dJ6_bitCount_0f7a4_42 rfl rfl ?_
  refine g_bipush (v := 16) ok dJ6_bitCount_0f7a4_43 (by decide) ?_
  refine g_iushr ok dJ6_bitCount_0f7a4_45 ?_
  refine g_iadd ok dJ6_bitCount_0f7a4_46 ?_
  refine g_nm (fun x5 ex5 => ?_)
  have h := h x5 ex5
  refine g_istore_n (lv1 := [some (.inl x5)]) ok dJ6_bitCount_0f7a4_47 rfl (glt rfl) rfl ?_
  refine g_iload_n ok dJ6_bitCount_0f7a4_48 rfl rfl ?_
  refine g_bipush (v := 63) ok dJ6_bitCount_0f7a4_49 (by decide) ?_
  refine g_iand ok dJ6_bitCount_0f7a4_51 ?_
  exact g_iret ok hZ dJ6_bitCount_0f7a4_52 h
theorem dX4_bringUpToDate_0 : decode cX4_bringUpToDate 0 = .ok (.aload_n 0, 1) := by decide +kernel
theorem dX4_bringUpToDate_1 : decode cX4_bringUpToDate 1 = .ok (.getfield 23, 3) := by decide +kernel
theorem dX4_bringUpToDate_4 : decode cX4_bringUpToDate 4 = .ok (.aload_n 0, 1) := by decide +kernel
theorem dX4_bringUpToDate_5 : decode cX4_bringUpToDate 5 = .ok (.getfield 9, 3) := by decide +kernel
theorem dX4_bringUpToDate_8 : decode cX4_bringUpToDate 8 = .ok (.getfield 33, 3) := by decide +kernel
theorem dX4_bringUpToDate_11 : decode cX4_bringUpToDate 11 = .ok (.if_icmp .ne 4, 3) := by decide +kernel
theorem dX4_bringUpToDate_14 : decode cX4_bringUpToDate 14 = .ok (.return_, 1) := by decide +kernel
theorem dX4_bringUpToDate_15 : decode cX4_bringUpToDate 15 = .ok (.aload_n 0, 1) := by decide +kernel
theorem dX4_bringUpToDate_16 : decode cX4_bringUpToDate 16 = .ok (.aload_n 0, 1) := by decide +kernel
theorem dX4_bringUpToDate_17 : decode cX4_bringUpToDate 17 = .ok (.getfield 9, 3) := by decide +kernel
theorem dX4_bringUpToDate_20 : decode cX4_bringUpToDate 20 = .ok (.getfield 33, 3) := by decide +kernel
theorem dX4_bringUpToDate_23 : decode cX4_bringUpToDate 23 = .ok (.putfield 23, 3) := by decide +kernel
theorem dX4_bringUpToDate_26 : decode cX4_bringUpToDate 26 = .ok (.aload_n 0, 1) := by decide +kernel
theorem dX4_bringUpToDate_27 : decode cX4_bringUpToDate 27 = .ok (.iconst 0, 1) := by decide +kernel
theorem dX4_bringUpToDate_28 : decode cX4_bringUpToDate 28 = .ok (.putfield 30, 3) := by decide +kernel
theorem dX4_bringUpToDate_31 : decode cX4_bringUpToDate 31 = .ok (.iconst 0, 1) := by decide +kernel
theorem dX4_bringUpToDate_32 : decode cX4_bringUpToDate 32 = .ok (.istore_n 1, 1) := by decide +kernel
theorem dX4_bringUpToDate_33 : decode cX4_bringUpToDate 33 = .ok (.iload_n 1, 1) := by decide +kernel
theorem dX4_bringUpToDate_34 : decode cX4_bringUpToDate 34 = .ok (.bipush 14, 2) := by decide +kernel
theorem dX4_bringUpToDate_36 : decode cX4_bringUpToDate 36 = .ok (.if_icmp .gt 16, 3) := by decide +kernel
theorem dX4_bringUpToDate_39 : decode cX4_bringUpToDate 39 = .ok (.aload_n 0, 1) := by decide +kernel
theorem dX4_bringUpToDate_40 : decode cX4_bringUpToDate 40 = .ok (.getfield 19, 3) := by decide +kernel
theorem dX4_bringUpToDate_43 : decode cX4_bringUpToDate 43 = .ok (.iload_n 1, 1) := by decide +kernel
theorem dX4_bringUpToDate_44 : decode cX4_bringUpToDate 44 = .ok (.iconst 0, 1) := by decide +kernel
theorem dX4_bringUpToDate_45 : decode cX4_bringUpToDate 45 = .ok (.iastore, 1) := by decide +kernel
theorem dX4_bringUpToDate_46 : decode cX4_bringUpToDate 46 = .ok (.iinc 1 1, 3) := by decide +kernel
theorem dX4_bringUpToDate_49 : decode cX4_bringUpToDate 49 = .ok (.goto (-16), 3) := by decide +kernel
theorem dX4_bringUpToDate_52 : decode cX4_bringUpToDate 52 = .ok (.aload_n 0, 1) := by decide +kernel
theorem dX4_bringUpToDate_53 : decode cX4_bringUpToDate 53 = .ok (.getfield 15, 3) := by decide +kernel
theorem dX4_bringUpToDate_56 : decode cX4_bringUpToDate 56 = .ok (.iconst 2, 1) := by decide +kernel
theorem dX4_bringUpToDate_57 : decode cX4_bringUpToDate 57 = .ok (.invokevirtual 36, 3) := by decide +kernel
theorem dX4_bringUpToDate_60 : decode cX4_bringUpToDate 60 = .ok (.iconst 1, 1) := by decide +kernel
theorem dX4_bringUpToDate_61 : decode cX4_bringUpToDate 61 = .ok (.aload_n 0, 1) := by decide +kernel
theorem dX4_bringUpToDate_62 : decode cX4_bringUpToDate 62 = .ok (.getfield 9, 3) := by decide +kernel
theorem dX4_bringUpToDate_65 : decode cX4_bringUpToDate 65 = .ok (.getfield 42, 3) := by decide +kernel
theorem dX4_bringUpToDate_68 : decode cX4_bringUpToDate 68 = .ok (.ishl, 1) := by decide +kernel
theorem dX4_bringUpToDate_69 : decode cX4_bringUpToDate 69 = .ok (.istore_n 1, 1) := by decide +kernel
theorem dX4_bringUpToDate_70 : decode cX4_bringUpToDate 70 = .ok (.iconst 0, 1) := by decide +kernel
theorem dX4_bringUpToDate_71 : decode cX4_bringUpToDate 71 = .ok (.istore_n 2, 1) := by decide +kernel
theorem dX4_bringUpToDate_72 : decode cX4_bringUpToDate 72 = .ok (.iload_n 2, 1) := by decide +kernel
theorem dX4_bringUpToDate_73 : decode cX4_bringUpToDate 73 = .ok (.iload_n 1, 1) := by decide +kernel
theorem dX4_bringUpToDate_74 : decode cX4_bringUpToDate 74 = .ok (.if_icmp .ge 44, 3) := by decide +kernel
theorem dX4_bringUpToDate_77 : decode cX4_bringUpToDate 77 = .ok (.aload_n 0, 1) := by decide +kernel
theorem dX4_bringUpToDate_78 : decode cX4_bringUpToDate 78 = .ok (.getfield 15, 3) := by decide +kernel
theorem dX4_bringUpToDate_81 : decode cX4_bringUpToDate 81 = .ok (.getfield 45, 3) := by decide +kernel
theorem dX4_bringUpToDate_84 : decode cX4_bringUpToDate 84 = .ok (.iload_n 2, 1) := by decide +kernel
theorem dX4_bringUpToDate_85 : decode cX4_bringUpToDate 85 = .ok (.iaload, 1) := by decide +kernel
theorem dX4_bringUpToDate_86 : decode cX4_bringUpToDate 86 = .ok (.ifCond .eq 26, 3) := by decide +kernel
theorem dX4_bringUpToDate_89 : decode cX4_bringUpToDate 89 = .ok (.aload_n 0, 1) := by decide +kernel
theorem dX4_bringUpToDate_90 : decode cX4_bringUpToDate 90 = .ok (.getfield 19, 3) := by decide +kernel
theorem dX4_bringUpToDate_93 : decode cX4_bringUpToDate 93 = .ok (.iload_n 2, 1) := by decide +kernel
theorem dX4_bringUpToDate_94 : decode cX4_bringUpToDate 94 = .ok (.invokestatic 48, 3) := by decide +kernel
theorem dX4_bringUpToDate_97 : decode cX4_bringUpToDate 97 = .ok (.dup2, 1) := by decide +kernel
theorem dX4_bringUpToDate_98 : decode cX4_bringUpToDate 98 = .ok (.iaload, 1) := by decide +kernel
theorem dX4_bringUpToDate_99 : decode cX4_bringUpToDate 99 = .ok (.iconst 1, 1) := by decide +kernel
theorem dX4_bringUpToDate_100 : decode cX4_bringUpToDate 100 = .ok (.iadd, 1) := by decide +kernel
theorem dX4_bringUpToDate_101 : decode cX4_bringUpToDate 101 = .ok (.iastore, 1) := by decide +kernel
theorem dX4_bringUpToDate_102 : decode cX4_bringUpToDate 102 = .ok (.aload_n 0, 1) := by decide +kernel
theorem dX4_bringUpToDate_103 : decode cX4_bringUpToDate 103 = .ok (.dup, 1) := by decide +kernel
theorem dX4_bringUpToDate_104 : decode cX4_bringUpToDate 104 = .ok (.getfield 30, 3) := by decide +kernel
theorem dX4_bringUpToDate_107 : decode cX4_bringUpToDate 107 = .ok (.iconst 1, 1) := by decide +kernel
theorem dX4_bringUpToDate_108 : decode cX4_bringUpToDate 108 = .ok (.iadd, 1) := by decide +kernel
theorem dX4_bringUpToDate_109 : decode cX4_bringUpToDate 109 = .ok (.putfield 30, 3) := by decide +kernel
theorem dX4_bringUpToDate_112 : decode cX4_bringUpToDate 112 = .ok (.iinc 2 1, 3) := by decide +kernel
theorem dX4_bringUpToDate_115 : decode cX4_bringUpToDate 115 = .ok (.goto (-43), 3) := by decide +kernel
theorem dX4_bringUpToDate_118 : decode cX4_bringUpToDate 118 = .ok (.return_, 1) := by decide +kernel
theorem s_X4_bringUpToDate : gSt yX4_bringUpToDate cX4_bringUpToDate 3 none 0 := ⟨q3_99, q1_7, ⟨by decide, by decide, by decide +kernel⟩, by decide⟩
theorem sel_X4_bringUpToDate : Cond.selects yX4_bringUpToDate.cls yX4_bringUpToDate yX4_bringUpToDate ∈ gT := qs_6
theorem ins_X4_bringUpToDate : Cond.instanceMethod yX4_bringUpToDate ∈ gT := q3_98
def w_X4_bringUpToDate_L33 (Q : gM → Prop) (K52 : Int32 → gM → Prop) : Nat → Int32 → gM → Prop
  | 0, _, _ => False
  | n + 1, v1, M => gbr ((14 : Int32) < v1) (K52 (v1) M) (vp_in v1 15 ∧ ∀ M3 : gM, M3 = gst M 35 (Int32.toNatClampNeg v1) 0 → (∀ x4 : Int32, x4 = (v1 + 1) → (w_X4_bringUpToDate_L33 Q K52 n (x4) M3)))
def w_X4_bringUpToDate_L72 (Q : gM → Prop) (K118 : Int32 → gM → Prop) (v1 : Int32) : Nat → Int32 → gM → Prop
  | 0, _, _ => False
  | n + 1, v2, M => gbr ((v2 : Int32) < v1) (vp_in v2 16384 ∧ (gbr (((M 34 (Int32.toNatClampNeg v2)) : Int32) = 0) (∀ x11 : Int32, x11 = (v2 + 1) → (w_X4_bringUpToDate_L72 Q K118 v1 n (x11) M)) (w_J6_bitCount_0f7a4 v2 M (fun (r13 : Int32) (M12 : gM) => vp_in r13 15 ∧ (vp_in r13 15 ∧ ∀ M14 : gM, M14 = gst M12 35 (Int32.toNatClampNeg r13) ((M12 35 (Int32.toNatClampNeg r13)) + 1) → (∀ M15 : gM, M15 = gst M14 6 3 ((M14 6 3) + 1) → (∀ x16 : Int32, x16 = (v2 + 1) → (w_X4_bringUpToDate_L72 Q K118 v1 n (x16) M15)))))))) (K118 (v2) M)
def w_X4_bringUpToDate  (M : gM) (Q : gM → Prop) : Prop := gbr (((M 6 4) : Int32) = (M 1 5)) (Q M) (∀ M1 : gM, M1 = gst M 6 4 (M 1 5) → (∀ M2 : gM, M2 = gst M1 6 3 0 → (∃ nf, w_X4_bringUpToDate_L33 Q (fun (x5 : Int32) (M7 : gM) => w_X2_fill 2 M7 (fun (M8 : gM) => ∀ x10 : Int32, x10 = (1 <<< ((M8 1 0) &&& 31)) → (∃ nf, w_X4_bringUpToDate_L72 Q (fun (x17 : Int32) (M18 : gM) => Q M18) x10 nf 0 M8)))  nf 0 M2)))
set_option maxRecDepth 100000 in
set_option maxHeartbeats 4000000 in
theorem w_X4_bringUpToDate_L33_w {X : gX} (ok : gOk X cX4_bringUpToDate yX4_bringUpToDate.cls 3 3 none gL) {Q : gM → Prop} (hZ : gZv X Q) {K52 : Int32 → gM → Prop}  (hK52 : ∀ (v1 : Int32) (u2 : Option gV) (M : gM), K52 v1 M → gW X 52 [some (.inr 6), some (.inl v1), u2] [] M) : ∀ (n : Nat) (v1 : Int32) (u2 : Option gV) (M : gM), w_X4_bringUpToDate_L33 Q K52 n v1 M → gW X 33 [some (.inr 6), some (.inl v1), u2] [] M
  | 0, _, _, _, h => h.elim
  | n + 1, v1, u2, M, h => by
    have ih := fun (v1 : Int32) (u2 : Option gV) (M : gM) h => w_X4_bringUpToDate_L33_w ok hZ  hK52 n v1 u2 M h
    rw [w_X4_bringUpToDate_L33.eq_2] at h
    refine g_iload_n ok dX4_bringUpToDate_33 rfl rfl ?_
    refine g_bipush (v := 14) ok dX4_bringUpToDate_34 (by decide) ?_
    refine g_icmp_gt (tgt := 52) ok dX4_bringUpToDate_36 (by decide) (fun z => ?_) (fun z => ?_)
    · have h := h.1 z
      exact hK52 (v1) (u2) M h
    · have h := h.2 z
      refine g_aload_n ok dX4_bringUpToDate_39 rfl rfl ?_
      refine g_get (w := .inr 35) ok f6_2 (gLm (by decide)) q1_176 dX4_bringUpToDate_40 rfl ?_
      refine g_iload_n ok dX4_bringUpToDate_43 rfl rfl ?_
      refine g_iconst (v := 0) ok dX4_bringUpToDate_44 (by decide) ?_
      have hb := h.1
      have h := h.2
      refine g_iast ok a35 (gLm (by decide)) dX4_bringUpToDate_45 hb (g_mem (fun M3 eM3 => ?_))
      have h := h M3 eM3
      obtain ⟨x4, ex4⟩ : ∃ y : Int32, y = (v1 + 1) := ⟨_, rfl⟩
      have h := h x4 ex4
      refine g_iinc (v := x4) (lv1 := [some (.inr 6), some (.inl x4), u2]) ok dX4_bringUpToDate_46 rfl (by rw [ex4]; rfl) rfl ?_
      refine g_goto (tgt := 33) ok dX4_bringUpToDate_49 (by decide) ?_
      exact ih (x4) (u2) M3 h
set_option maxRecDepth 100000 in
set_option maxHeartbeats 4000000 in
theorem w_X4_bringUpToDate_L72_w {X : gX} (ok : gOk X cX4_bringUpToDate yX4_bringUpToDate.cls 3 3 none gL) {Q : gM → Prop} (hZ : gZv X Q) {K118 : Int32 → gM → Prop} (v1 : Int32) (hK118 : ∀ (v2 : Int32)  (M : gM), K118 v2 M → gW X 118 [some (.inr 6), some (.inl v1), some (.inl v2)] [] M) : ∀ (n : Nat) (v2 : Int32)  (M : gM), w_X4_bringUpToDate_L72 Q K118 v1 n v2 M → gW X 72 [some (.inr 6), some (.inl v1), some (.inl v2)] [] M
  | 0, _, _, h => h.elim
  | n + 1, v2, M, h => by
    have ih := fun (v2 : Int32)  (M : gM) h => w_X4_bringUpToDate_L72_w ok hZ v1 hK118 n v2  M h
    rw [w_X4_bringUpToDate_L72.eq_2] at h
    refine g_iload_n ok dX4_bringUpToDate_72 rfl rfl ?_
    refine g_iload_n ok dX4_bringUpToDate_73 rfl rfl ?_
    refine g_icmp_ge (tgt := 118) ok dX4_bringUpToDate_74 (by decide) (fun z => ?_) (fun z => ?_)
    · have h := h.2 z
      exact hK118 (v2) M h
    · have h := h.1 z
      refine g_aload_n ok dX4_bringUpToDate_77 rfl rfl ?_
      refine g_get (w := .inr 5) ok f6_1 (gLm (by decide)) q1_175 dX4_bringUpToDate_78 rfl ?_
      refine g_get (w := .inr 34) ok f5_0 (gLm (by decide)) q1_157 dX4_bringUpToDate_81 rfl ?_
      refine g_iload_n ok dX4_bringUpToDate_84 rfl rfl ?_
      have hb := h.1
      have h := h.2
      refine g_iald (w := (M 34 (Int32.toNatClampNeg v2))) ok a34 (gLm (by decide)) dX4_bringUpToDate_85 hb rfl ?_
      refine g_if_eq (tgt := 112) ok dX4_bringUpToDate_86 (by decide) (fun z => ?_) (fun z => ?_)
      · have h := h.1 z
        obtain ⟨x11, ex11⟩ : ∃ y : Int32, y = (v2 + 1) := ⟨_, rfl⟩
        have h := h x11 ex11
        refine g_iinc (v := x11) (lv1 := [some (.inr 6), some (.inl v1), some (.inl x11)]) ok dX4_bringUpToDate_112 rfl (by rw [ex11]; rfl) rfl ?_
        refine g_goto (tgt := 72) ok dX4_bringUpToDate_115 (by decide) ?_
        exact ih (x11) M h
      · have h := h.2 z
        refine g_aload_n ok dX4_bringUpToDate_89 rfl rfl ?_
        refine g_get (w := .inr 35) ok f6_2 (gLm (by decide)) q1_176 dX4_bringUpToDate_90 rfl ?_
        refine g_iload_n ok dX4_bringUpToDate_93 rfl rfl ?_
        refine g_callSi (st := [.inr 35]) (as := [.inl v2]) ok rfl (k_J6_bitCount_0f7a4 h) s_J6_bitCount_0f7a4 rfl (by decide) stt_J6_bitCount_0f7a4 (gle rfl) rfl q3_113 dX4_bringUpToDate_94 ?_
        intro r13 M12 h
        refine g_dup2 ok dX4_bringUpToDate_97 ?_
        have hb := h.1
        have h := h.2
        refine g_iald (w := (M12 35 (Int32.toNatClampNeg r13))) ok a35 (gLm (by decide)) dX4_bringUpToDate_98 hb rfl ?_
        refine g_iconst (v := 1) ok dX4_bringUpToDate_99 (by decide) ?_
        refine g_iadd ok dX4_bringUpToDate_100 ?_
        have hb := h.1
        have h := h.2
        refine g_iast ok a35 (gLm (by decide)) dX4_bringUpToDate_101 hb (g_mem (fun M14 eM14 => ?_))
        have h := h M14 eM14
        refine g_aload_n ok dX4_bringUpToDate_102 rfl rfl ?_
        refine g_dup ok dX4_bringUpToDate_103 ?_
        refine g_get (w := .inl (M14 6 3)) ok f6_3 (gLm (by decide)) q1_177 dX4_bringUpToDate_104 rfl ?_
        refine g_iconst (v := 1) ok dX4_bringUpToDate_107 (by decide) ?_
        refine g_iadd ok dX4_bringUpToDate_108 ?_
        refine g_put ok f6_3p (gLm (by decide)) q1_177 dX4_bringUpToDate_109 rfl rfl (g_mem (fun M15 eM15 => ?_))
        have h := h M15 eM15
        obtain ⟨x16, ex16⟩ : ∃ y : Int32, y = (v2 + 1) := ⟨_, rfl⟩
        have h := h x16 ex16
        refine g_iinc (v := x16) (lv1 := [some (.inr 6), some (.inl v1), some (.inl x16)]) ok dX4_bringUpToDate_112 rfl (by rw [ex16]; rfl) rfl ?_
        refine g_goto (tgt := 72) ok dX4_bringUpToDate_115 (by decide) ?_
        exact ih (x16) M15 h
set_option maxRecDepth 100000 in
set_option maxHeartbeats 4000000 in
theorem k_X4_bringUpToDate  {M : gM} {Q : gM → Prop} (h : w_X4_bringUpToDate  M Q) : gCv gL 3 yX4_bringUpToDate cX4_bringUpToDate 3 [.inr 6] M Q := by
  refine gCv_of (by decide) gLn (gle rfl) (fun X ok hZ => ?_)
  show gW X 0 [some (.inr 6), none, none] [] M
  unfold w_X4_bringUpToDate at h
  refine g_aload_n ok dX4_bringUpToDate_0 rfl rfl ?_
  refine g_get (w := .inl (M 6 4)) ok f6_4 (gLm (by decide)) q1_178 dX4_bringUpToDate_1 rfl ?_
  refine g_aload_n ok dX4_bringUpToDate_4 rfl rfl ?_
  refine g_get (w := .inr 1) ok f6_0 (gLm (by decide)) q1_174 dX4_bringUpToDate_5 rfl ?_
  refine g_get (w := .inl (M 1 5)) ok f1_5 (gLm (by decide)) q1_77 dX4_bringUpToDate_8 rfl ?_
  refine g_icmp_ne (tgt := 15) ok dX4_bringUpToDate_11 (by decide) (fun z => ?_) (fun z => ?_)
  · have h := h.2 z
    refine g_aload_n ok dX4_bringUpToDate_15 rfl rfl ?_
    refine g_aload_n ok dX4_bringUpToDate_16 rfl rfl ?_
    refine g_get (w := .inr 1) ok f6_0 (gLm (by decide)) q1_174 dX4_bringUpToDate_17 rfl ?_
    refine g_get (w := .inl (M 1 5)) ok f1_5 (gLm (by decide)) q1_77 dX4_bringUpToDate_20 rfl ?_
    refine g_put ok f6_4p (gLm (by decide)) q1_178 dX4_bringUpToDate_23 rfl rfl (g_mem (fun M1 eM1 => ?_))
    have h := h M1 eM1
    refine g_aload_n ok dX4_bringUpToDate_26 rfl rfl ?_
    refine g_iconst (v := 0) ok dX4_bringUpToDate_27 (by decide) ?_
    refine g_put ok f6_3p (gLm (by decide)) q1_177 dX4_bringUpToDate_28 rfl rfl (g_mem (fun M2 eM2 => ?_))
    have h := h M2 eM2
    refine g_iconst (v := 0) ok dX4_bringUpToDate_31 (by decide) ?_
    refine g_istore_n (lv1 := [some (.inr 6), some (.inl 0), none]) ok dX4_bringUpToDate_32 rfl (glt rfl) rfl ?_
    obtain ⟨nf, h⟩ := h
    refine w_X4_bringUpToDate_L33_w ok hZ  ?_ nf 0 (none) M2 h
    · intro x5 u6 M7 h
      refine g_aload_n ok dX4_bringUpToDate_52 rfl rfl ?_
      refine g_get (w := .inr 5) ok f6_1 (gLm (by decide)) q1_175 dX4_bringUpToDate_53 rfl ?_
      refine g_iconst (v := 2) ok dX4_bringUpToDate_56 (by decide) ?_
      refine g_callVv (st := []) (as := [.inl 2]) ok rfl (k_X2_fill h) s_X2_fill rfl (by decide) (gLm (by decide)) cl5 sel_X2_fill ins_X2_fill (gle rfl) rfl q3_100 dX4_bringUpToDate_57 ?_
      intro M8 h
      refine g_iconst (v := 1) ok dX4_bringUpToDate_60 (by decide) ?_
      refine g_aload_n ok dX4_bringUpToDate_61 rfl rfl ?_
      refine g_get (w := .inr 1) ok f6_0 (gLm (by decide)) q1_174 dX4_bringUpToDate_62 rfl ?_
      refine g_get (w := .inl (M8 1 0)) ok f1_0 (gLm (by decide)) q1_60 dX4_bringUpToDate_65 rfl ?_
      refine g_ishl ok dX4_bringUpToDate_68 ?_
      refine g_nm (fun x10 ex10 => ?_)
      have h := h x10 ex10
      refine g_istore_n (lv1 := [some (.inr 6), some (.inl x10), u6]) ok dX4_bringUpToDate_69 rfl (glt rfl) rfl ?_
      refine g_iconst (v := 0) ok dX4_bringUpToDate_70 (by decide) ?_
      refine g_istore_n (lv1 := [some (.inr 6), some (.inl x10), some (.inl 0)]) ok dX4_bringUpToDate_71 rfl (glt rfl) rfl ?_
      obtain ⟨nf, h⟩ := h
      refine w_X4_bringUpToDate_L72_w ok hZ x10 ?_ nf 0  M8 h
      · intro x17  M18 h
        exact g_vret ok hZ dX4_bringUpToDate_118 h
  · have h := h.1 z
    exact g_vret ok hZ dX4_bringUpToDate_14 h
theorem dX4_countOfAll_0 : decode cX4_countOfAll 0 = .ok (.aload_n 0, 1) := by decide +kernel
theorem dX4_countOfAll_1 : decode cX4_countOfAll 1 = .ok (.invokevirtual 27, 3) := by decide +kernel
theorem dX4_countOfAll_4 : decode cX4_countOfAll 4 = .ok (.aload_n 0, 1) := by decide +kernel
theorem dX4_countOfAll_5 : decode cX4_countOfAll 5 = .ok (.getfield 30, 3) := by decide +kernel
theorem dX4_countOfAll_8 : decode cX4_countOfAll 8 = .ok (.ireturn, 1) := by decide +kernel
theorem s_X4_countOfAll : gSt yX4_countOfAll cX4_countOfAll 1 (some .int) 0 := ⟨q3_95, q1_7, ⟨by decide, by decide, by decide +kernel⟩, by decide⟩
theorem sel_X4_countOfAll : Cond.selects yX4_countOfAll.cls yX4_countOfAll yX4_countOfAll ∈ gT := q3_94
theorem ins_X4_countOfAll : Cond.instanceMethod yX4_countOfAll ∈ gT := q3_93
def w_X4_countOfAll  (M : gM) (Q : Int32 → gM → Prop) : Prop := w_X4_bringUpToDate M (fun (M1 : gM) => Q (M1 6 3) M1)
set_option maxRecDepth 100000 in
set_option maxHeartbeats 4000000 in
theorem k_X4_countOfAll  {M : gM} {Q : Int32 → gM → Prop} (h : w_X4_countOfAll  M Q) : gCi gL 4 yX4_countOfAll cX4_countOfAll 1 .int [.inr 6] M Q := by
  refine gCi_of (by decide) gLn (gle rfl) (fun X ok hZ => ?_)
  show gW X 0 [some (.inr 6)] [] M
  unfold w_X4_countOfAll at h
  refine g_aload_n ok dX4_countOfAll_0 rfl rfl ?_
  refine g_callVv (st := []) (as := []) ok rfl (k_X4_bringUpToDate h) s_X4_bringUpToDate rfl (by decide) (gLm (by decide)) cl6 sel_X4_bringUpToDate ins_X4_bringUpToDate (gle rfl) rfl q3_96 dX4_countOfAll_1 ?_
  intro M1 h
  refine g_aload_n ok dX4_countOfAll_4 rfl rfl ?_
  refine g_get (w := .inl (M1 6 3)) ok f6_3 (gLm (by decide)) q1_177 dX4_countOfAll_5 rfl ?_
  exact g_iret ok hZ dX4_countOfAll_8 h
theorem dX4_countOfSize_0 : decode cX4_countOfSize 0 = .ok (.aload_n 0, 1) := by decide +kernel
theorem dX4_countOfSize_1 : decode cX4_countOfSize 1 = .ok (.invokevirtual 27, 3) := by decide +kernel
theorem dX4_countOfSize_4 : decode cX4_countOfSize 4 = .ok (.aload_n 0, 1) := by decide +kernel
theorem dX4_countOfSize_5 : decode cX4_countOfSize 5 = .ok (.getfield 19, 3) := by decide +kernel
theorem dX4_countOfSize_8 : decode cX4_countOfSize 8 = .ok (.iload_n 1, 1) := by decide +kernel
theorem dX4_countOfSize_9 : decode cX4_countOfSize 9 = .ok (.iaload, 1) := by decide +kernel
theorem dX4_countOfSize_10 : decode cX4_countOfSize 10 = .ok (.ireturn, 1) := by decide +kernel
theorem s_X4_countOfSize : gSt yX4_countOfSize cX4_countOfSize 2 (some .int) 1 := ⟨q3_117, q1_7, ⟨by decide, by decide, by decide +kernel⟩, by decide⟩
theorem sel_X4_countOfSize : Cond.selects yX4_countOfSize.cls yX4_countOfSize yX4_countOfSize ∈ gT := q3_116
theorem ins_X4_countOfSize : Cond.instanceMethod yX4_countOfSize ∈ gT := q3_115
def w_X4_countOfSize (p1 : Int32) (M : gM) (Q : Int32 → gM → Prop) : Prop := w_X4_bringUpToDate M (fun (M1 : gM) => vp_in p1 15 ∧ (Q (M1 35 (Int32.toNatClampNeg p1)) M1))
set_option maxRecDepth 100000 in
set_option maxHeartbeats 4000000 in
theorem k_X4_countOfSize {p1 : Int32} {M : gM} {Q : Int32 → gM → Prop} (h : w_X4_countOfSize p1 M Q) : gCi gL 4 yX4_countOfSize cX4_countOfSize 2 .int [.inr 6, .inl p1] M Q := by
  refine gCi_of (by decide) gLn (gle rfl) (fun X ok hZ => ?_)
  show gW X 0 [some (.inr 6), some (.inl p1)] [] M
  unfold w_X4_countOfSize at h
  refine g_aload_n ok dX4_countOfSize_0 rfl rfl ?_
  refine g_callVv (st := []) (as := []) ok rfl (k_X4_bringUpToDate h) s_X4_bringUpToDate rfl (by decide) (gLm (by decide)) cl6 sel_X4_bringUpToDate ins_X4_bringUpToDate (gle rfl) rfl q3_96 dX4_countOfSize_1 ?_
  intro M1 h
  refine g_aload_n ok dX4_countOfSize_4 rfl rfl ?_
  refine g_get (w := .inr 35) ok f6_2 (gLm (by decide)) q1_176 dX4_countOfSize_5 rfl ?_
  refine g_iload_n ok dX4_countOfSize_8 rfl rfl ?_
  have hb := h.1
  have h := h.2
  refine g_iald (w := (M1 35 (Int32.toNatClampNeg p1))) ok a35 (gLm (by decide)) dX4_countOfSize_9 hb rfl ?_
  exact g_iret ok hZ dX4_countOfSize_10 h
theorem dX5_followChange_0 : decode cX5_followChange 0 = .ok (.aload_n 0, 1) := by decide +kernel
theorem dX5_followChange_1 : decode cX5_followChange 1 = .ok (.dup, 1) := by decide +kernel
theorem dX5_followChange_2 : decode cX5_followChange 2 = .ok (.getfield 71, 3) := by decide +kernel
theorem dX5_followChange_5 : decode cX5_followChange 5 = .ok (.iconst 1, 1) := by decide +kernel
theorem dX5_followChange_6 : decode cX5_followChange 6 = .ok (.iadd, 1) := by decide +kernel
theorem dX5_followChange_7 : decode cX5_followChange 7 = .ok (.putfield 71, 3) := by decide +kernel
theorem dX5_followChange_10 : decode cX5_followChange 10 = .ok (.iconst 0, 1) := by decide +kernel
theorem dX5_followChange_11 : decode cX5_followChange 11 = .ok (.istore_n 1, 1) := by decide +kernel
theorem dX5_followChange_12 : decode cX5_followChange 12 = .ok (.iload_n 1, 1) := by decide +kernel
theorem dX5_followChange_13 : decode cX5_followChange 13 = .ok (.bipush 14, 2) := by decide +kernel
theorem dX5_followChange_15 : decode cX5_followChange 15 = .ok (.if_icmp .ge 53, 3) := by decide +kernel
theorem dX5_followChange_18 : decode cX5_followChange 18 = .ok (.iconst 0, 1) := by decide +kernel
theorem dX5_followChange_19 : decode cX5_followChange 19 = .ok (.istore_n 2, 1) := by decide +kernel
theorem dX5_followChange_20 : decode cX5_followChange 20 = .ok (.iconst 0, 1) := by decide +kernel
theorem dX5_followChange_21 : decode cX5_followChange 21 = .ok (.istore_n 3, 1) := by decide +kernel
theorem dX5_followChange_22 : decode cX5_followChange 22 = .ok (.iload_n 3, 1) := by decide +kernel
theorem dX5_followChange_23 : decode cX5_followChange 23 = .ok (.aload_n 0, 1) := by decide +kernel
theorem dX5_followChange_24 : decode cX5_followChange 24 = .ok (.getfield 29, 3) := by decide +kernel
theorem dX5_followChange_27 : decode cX5_followChange 27 = .ok (.if_icmp .ge 28, 3) := by decide +kernel
theorem dX5_followChange_30 : decode cX5_followChange 30 = .ok (.aload_n 0, 1) := by decide +kernel
theorem dX5_followChange_31 : decode cX5_followChange 31 = .ok (.getfield 15, 3) := by decide +kernel
theorem dX5_followChange_34 : decode cX5_followChange 34 = .ok (.iload_n 3, 1) := by decide +kernel
theorem dX5_followChange_35 : decode cX5_followChange 35 = .ok (.iaload, 1) := by decide +kernel
theorem dX5_followChange_36 : decode cX5_followChange 36 = .ok (.iload_n 1, 1) := by decide +kernel
theorem dX5_followChange_37 : decode cX5_followChange 37 = .ok (.invokestatic 42, 3) := by decide +kernel
theorem dX5_followChange_40 : decode cX5_followChange 40 = .ok (.ifCond .eq 9, 3) := by decide +kernel
theorem dX5_followChange_43 : decode cX5_followChange 43 = .ok (.iload_n 2, 1) := by decide +kernel
theorem dX5_followChange_44 : decode cX5_followChange 44 = .ok (.iconst 1, 1) := by decide +kernel
theorem dX5_followChange_45 : decode cX5_followChange 45 = .ok (.iload_n 3, 1) := by decide +kernel
theorem dX5_followChange_46 : decode cX5_followChange 46 = .ok (.ishl, 1) := by decide +kernel
theorem dX5_followChange_47 : decode cX5_followChange 47 = .ok (.ior, 1) := by decide +kernel
theorem dX5_followChange_48 : decode cX5_followChange 48 = .ok (.istore_n 2, 1) := by decide +kernel
theorem dX5_followChange_49 : decode cX5_followChange 49 = .ok (.iinc 3 1, 3) := by decide +kernel
theorem dX5_followChange_52 : decode cX5_followChange 52 = .ok (.goto (-30), 3) := by decide +kernel
theorem dX5_followChange_55 : decode cX5_followChange 55 = .ok (.aload_n 0, 1) := by decide +kernel
theorem dX5_followChange_56 : decode cX5_followChange 56 = .ok (.getfield 19, 3) := by decide +kernel
theorem dX5_followChange_59 : decode cX5_followChange 59 = .ok (.iload_n 1, 1) := by decide +kernel
theorem dX5_followChange_60 : decode cX5_followChange 60 = .ok (.iload_n 2, 1) := by decide +kernel
theorem dX5_followChange_61 : decode cX5_followChange 61 = .ok (.iastore, 1) := by decide +kernel
theorem dX5_followChange_62 : decode cX5_followChange 62 = .ok (.iinc 1 1, 3) := by decide +kernel
theorem dX5_followChange_65 : decode cX5_followChange 65 = .ok (.goto (-53), 3) := by decide +kernel
theorem dX5_followChange_68 : decode cX5_followChange 68 = .ok (.return_, 1) := by decide +kernel
theorem s_X5_followChange : gSt yX5_followChange cX5_followChange 4 none 0 := ⟨q2_42, q1_2, ⟨by decide, by decide, by decide +kernel⟩, by decide⟩
theorem sel_X5_followChange : Cond.selects yX5_followChange.cls yX5_followChange yX5_followChange ∈ gT := qs_0
theorem ins_X5_followChange : Cond.instanceMethod yX5_followChange ∈ gT := q2_41
def w_X5_followChange_L22 (Q : gM → Prop) (K55 : Int32 → Int32 → gM → Prop) (v1 : Int32) : Nat → Int32 → Int32 → gM → Prop
  | 0, _, _, _ => False
  | n + 1, v2, v3, M => gbr ((v3 : Int32) < (M 1 1)) (vp_in v3 24 ∧ (w_X8_has (M 9 (Int32.toNatClampNeg v3)) v1 M (fun (r3 : Int32) (M2 : gM) => gbr ((r3 : Int32) = 0) (∀ x4 : Int32, x4 = (v3 + 1) → (w_X5_followChange_L22 Q K55 v1 n (v2) (x4) M2)) (∀ x5 : Int32, x5 = (v2 ||| (1 <<< (v3 &&& 31))) → (∀ x6 : Int32, x6 = (v3 + 1) → (w_X5_followChange_L22 Q K55 v1 n (x5) (x6) M2)))))) (K55 (v2) (v3) M)
def w_X5_followChange_L12 (Q : gM → Prop) (K68 : Int32 → gM → Prop) : Nat → Int32 → gM → Prop
  | 0, _, _ => False
  | n + 1, v1, M => gbr ((v1 : Int32) < 14) (∃ nf, w_X5_followChange_L22 Q (fun (x7 : Int32) (x8 : Int32) (M9 : gM) => vp_in v1 14 ∧ ∀ M10 : gM, M10 = gst M9 10 (Int32.toNatClampNeg v1) x7 → (∀ x11 : Int32, x11 = (v1 + 1) → (w_X5_followChange_L12 Q K68 n (x11) M10))) v1 nf 0 0 M) (K68 (v1) M)
def w_X5_followChange  (M : gM) (Q : gM → Prop) : Prop := ∀ M1 : gM, M1 = gst M 1 5 ((M 1 5) + 1) → (∃ nf, w_X5_followChange_L12 Q (fun (x12 : Int32) (M15 : gM) => Q M15)  nf 0 M1)
set_option maxRecDepth 100000 in
set_option maxHeartbeats 4000000 in
theorem w_X5_followChange_L22_w {X : gX} (ok : gOk X cX5_followChange yX5_followChange.cls 1 4 none gL) {Q : gM → Prop} (hZ : gZv X Q) {K55 : Int32 → Int32 → gM → Prop} (v1 : Int32) (hK55 : ∀ (v2 : Int32) (v3 : Int32)  (M : gM), K55 v2 v3 M → gW X 55 [some (.inr 1), some (.inl v1), some (.inl v2), some (.inl v3)] [] M) : ∀ (n : Nat) (v2 : Int32) (v3 : Int32)  (M : gM), w_X5_followChange_L22 Q K55 v1 n v2 v3 M → gW X 22 [some (.inr 1), some (.inl v1), some (.inl v2), some (.inl v3)] [] M
  | 0, _, _, _, h => h.elim
  | n + 1, v2, v3, M, h => by
    have ih := fun (v2 : Int32) (v3 : Int32)  (M : gM) h => w_X5_followChange_L22_w ok hZ v1 hK55 n v2 v3  M h
    rw [w_X5_followChange_L22.eq_2] at h
    refine g_iload_n ok dX5_followChange_22 rfl rfl ?_
    refine g_aload_n ok dX5_followChange_23 rfl rfl ?_
    refine g_get (w := .inl (M 1 1)) ok f1_1 (gLm (by decide)) q1_62 dX5_followChange_24 rfl ?_
    refine g_icmp_ge (tgt := 55) ok dX5_followChange_27 (by decide) (fun z => ?_) (fun z => ?_)
    · have h := h.2 z
      exact hK55 (v2) (v3) M h
    · have h := h.1 z
      refine g_aload_n ok dX5_followChange_30 rfl rfl ?_
      refine g_get (w := .inr 9) ok f1_2 (gLm (by decide)) q1_66 dX5_followChange_31 rfl ?_
      refine g_iload_n ok dX5_followChange_34 rfl rfl ?_
      have hb := h.1
      have h := h.2
      refine g_iald (w := (M 9 (Int32.toNatClampNeg v3))) ok a9 (gLm (by decide)) dX5_followChange_35 hb rfl ?_
      refine g_iload_n ok dX5_followChange_36 rfl rfl ?_
      refine g_callNi (st := []) (as := [.inl (M 9 (Int32.toNatClampNeg v3)), .inl v1]) ok rfl (k_X8_has h) s_X8_has rfl (by decide) stt_X8_has (gle rfl) rfl (List.mem_of_getElem? (i := 1) rfl) dX5_followChange_37 ?_
      intro r3 M2 h
      refine g_if_eq (tgt := 49) ok dX5_followChange_40 (by decide) (fun z => ?_) (fun z => ?_)
      · have h := h.1 z
        obtain ⟨x4, ex4⟩ : ∃ y : Int32, y = (v3 + 1) := ⟨_, rfl⟩
        have h := h x4 ex4
        refine g_iinc (v := x4) (lv1 := [some (.inr 1), some (.inl v1), some (.inl v2), some (.inl x4)]) ok dX5_followChange_49 rfl (by rw [ex4]; rfl) rfl ?_
        refine g_goto (tgt := 22) ok dX5_followChange_52 (by decide) ?_
        exact ih (v2) (x4) M2 h
      · have h := h.2 z
        refine g_iload_n ok dX5_followChange_43 rfl rfl ?_
        refine g_iconst (v := 1) ok dX5_followChange_44 (by decide) ?_
        refine g_iload_n ok dX5_followChange_45 rfl rfl ?_
        refine g_ishl ok dX5_followChange_46 ?_
        refine g_ior ok dX5_followChange_47 ?_
        refine g_nm (fun x5 ex5 => ?_)
        have h := h x5 ex5
        refine g_istore_n (lv1 := [some (.inr 1), some (.inl v1), some (.inl x5), some (.inl v3)]) ok dX5_followChange_48 rfl (glt rfl) rfl ?_
        obtain ⟨x6, ex6⟩ : ∃ y : Int32, y = (v3 + 1) := ⟨_, rfl⟩
        have h := h x6 ex6
        refine g_iinc (v := x6) (lv1 := [some (.inr 1), some (.inl v1), some (.inl x5), some (.inl x6)]) ok dX5_followChange_49 rfl (by rw [ex6]; rfl) rfl ?_
        refine g_goto (tgt := 22) ok dX5_followChange_52 (by decide) ?_
        exact ih (x5) (x6) M2 h
set_option maxRecDepth 100000 in
set_option maxHeartbeats 4000000 in
theorem w_X5_followChange_L12_w {X : gX} (ok : gOk X cX5_followChange yX5_followChange.cls 1 4 none gL) {Q : gM → Prop} (hZ : gZv X Q) {K68 : Int32 → gM → Prop}  (hK68 : ∀ (v1 : Int32) (u2 : Option gV) (u3 : Option gV) (M : gM), K68 v1 M → gW X 68 [some (.inr 1), some (.inl v1), u2, u3] [] M) : ∀ (n : Nat) (v1 : Int32) (u2 : Option gV) (u3 : Option gV) (M : gM), w_X5_followChange_L12 Q K68 n v1 M → gW X 12 [some (.inr 1), some (.inl v1), u2, u3] [] M
  | 0, _, _, _, _, h => h.elim
  | n + 1, v1, u2, u3, M, h => by
    have ih := fun (v1 : Int32) (u2 : Option gV) (u3 : Option gV) (M : gM) h => w_X5_followChange_L12_w ok hZ  hK68 n v1 u2 u3 M h
    rw [w_X5_followChange_L12.eq_2] at h
    refine g_iload_n ok dX5_followChange_12 rfl rfl ?_
    refine g_bipush (v := 14) ok dX5_followChange_13 (by decide) ?_
    refine g_icmp_ge (tgt := 68) ok dX5_followChange_15 (by decide) (fun z => ?_) (fun z => ?_)
    · have h := h.2 z
      exact hK68 (v1) (u2) (u3) M h
    · have h := h.1 z
      refine g_iconst (v := 0) ok dX5_followChange_18 (by decide) ?_
      refine g_istore_n (lv1 := [some (.inr 1), some (.inl v1), some (.inl 0), u3]) ok dX5_followChange_19 rfl (glt rfl) rfl ?_
      refine g_iconst (v := 0) ok dX5_followChange_20 (by decide) ?_
      refine g_istore_n (lv1 := [some (.inr 1), some (.inl v1), some (.inl 0), some (.inl 0)]) ok dX5_followChange_21 rfl (glt rfl) rfl ?_
      obtain ⟨nf, h⟩ := h
      refine w_X5_followChange_L22_w ok hZ v1 ?_ nf 0 0  M h
      · intro x7 x8  M9 h
        refine g_aload_n ok dX5_followChange_55 rfl rfl ?_
        refine g_get (w := .inr 10) ok f1_3 (gLm (by decide)) q1_70 dX5_followChange_56 rfl ?_
        refine g_iload_n ok dX5_followChange_59 rfl rfl ?_
        refine g_iload_n ok dX5_followChange_60 rfl rfl ?_
        have hb := h.1
        have h := h.2
        refine g_iast ok a10 (gLm (by decide)) dX5_followChange_61 hb (g_mem (fun M10 eM10 => ?_))
        have h := h M10 eM10
        obtain ⟨x11, ex11⟩ : ∃ y : Int32, y = (v1 + 1) := ⟨_, rfl⟩
        have h := h x11 ex11
        refine g_iinc (v := x11) (lv1 := [some (.inr 1), some (.inl x11), some (.inl x7), some (.inl x8)]) ok dX5_followChange_62 rfl (by rw [ex11]; rfl) rfl ?_
        refine g_goto (tgt := 12) ok dX5_followChange_65 (by decide) ?_
        exact ih (x11) (some (.inl x7)) (some (.inl x8)) M10 h
set_option maxRecDepth 100000 in
set_option maxHeartbeats 4000000 in
theorem k_X5_followChange  {M : gM} {Q : gM → Prop} (h : w_X5_followChange  M Q) : gCv gL 1 yX5_followChange cX5_followChange 4 [.inr 1] M Q := by
  refine gCv_of (by decide) gLn (gle rfl) (fun X ok hZ => ?_)
  show gW X 0 [some (.inr 1), none, none, none] [] M
  unfold w_X5_followChange at h
  refine g_aload_n ok dX5_followChange_0 rfl rfl ?_
  refine g_dup ok dX5_followChange_1 ?_
  refine g_get (w := .inl (M 1 5)) ok f1_5 (gLm (by decide)) q1_79 dX5_followChange_2 rfl ?_
  refine g_iconst (v := 1) ok dX5_followChange_5 (by decide) ?_
  refine g_iadd ok dX5_followChange_6 ?_
  refine g_put ok f1_5p (gLm (by decide)) q1_79 dX5_followChange_7 rfl rfl (g_mem (fun M1 eM1 => ?_))
  have h := h M1 eM1
  refine g_iconst (v := 0) ok dX5_followChange_10 (by decide) ?_
  refine g_istore_n (lv1 := [some (.inr 1), some (.inl 0), none, none]) ok dX5_followChange_11 rfl (glt rfl) rfl ?_
  obtain ⟨nf, h⟩ := h
  refine w_X5_followChange_L12_w ok hZ  ?_ nf 0 (none) (none) M1 h
  · intro x12 u13 u14 M15 h
    exact g_vret ok hZ dX5_followChange_68 h
theorem dX5_startAnew_0 : decode cX5_startAnew 0 = .ok (.aload_n 0, 1) := by decide +kernel
theorem dX5_startAnew_1 : decode cX5_startAnew 1 = .ok (.iload_n 1, 1) := by decide +kernel
theorem dX5_startAnew_2 : decode cX5_startAnew 2 = .ok (.putfield 9, 3) := by decide +kernel
theorem dX5_startAnew_5 : decode cX5_startAnew 5 = .ok (.aload_n 0, 1) := by decide +kernel
theorem dX5_startAnew_6 : decode cX5_startAnew 6 = .ok (.iconst 0, 1) := by decide +kernel
theorem dX5_startAnew_7 : decode cX5_startAnew 7 = .ok (.putfield 29, 3) := by decide +kernel
theorem dX5_startAnew_10 : decode cX5_startAnew 10 = .ok (.aload_n 0, 1) := by decide +kernel
theorem dX5_startAnew_11 : decode cX5_startAnew 11 = .ok (.getfield 25, 3) := by decide +kernel
theorem dX5_startAnew_14 : decode cX5_startAnew 14 = .ok (.invokevirtual 32, 3) := by decide +kernel
theorem dX5_startAnew_17 : decode cX5_startAnew 17 = .ok (.aload_n 0, 1) := by decide +kernel
theorem dX5_startAnew_18 : decode cX5_startAnew 18 = .ok (.invokevirtual 35, 3) := by decide +kernel
theorem dX5_startAnew_21 : decode cX5_startAnew 21 = .ok (.return_, 1) := by decide +kernel
theorem s_X5_startAnew : gSt yX5_startAnew cX5_startAnew 2 none 1 := ⟨q2_34, q1_2, ⟨by decide, by decide, by decide +kernel⟩, by decide⟩
theorem sel_X5_startAnew : Cond.selects yX5_startAnew.cls yX5_startAnew yX5_startAnew ∈ gT := q2_33
theorem ins_X5_startAnew : Cond.instanceMethod yX5_startAnew ∈ gT := q2_32
def w_X5_startAnew (p1 : Int32) (M : gM) (Q : gM → Prop) : Prop := ∀ M1 : gM, M1 = gst M 1 0 p1 → (∀ M2 : gM, M2 = gst M1 1 1 0 → (w_X3_forget M2 (fun (M3 : gM) => w_X5_followChange M3 (fun (M5 : gM) => Q M5))))
set_option maxRecDepth 100000 in
set_option maxHeartbeats 4000000 in
theorem k_X5_startAnew {p1 : Int32} {M : gM} {Q : gM → Prop} (h : w_X5_startAnew p1 M Q) : gCv gL 2 yX5_startAnew cX5_startAnew 2 [.inr 1, .inl p1] M Q := by
  refine gCv_of (by decide) gLn (gle rfl) (fun X ok hZ => ?_)
  show gW X 0 [some (.inr 1), some (.inl p1)] [] M
  unfold w_X5_startAnew at h
  refine g_aload_n ok dX5_startAnew_0 rfl rfl ?_
  refine g_iload_n ok dX5_startAnew_1 rfl rfl ?_
  refine g_put ok f1_0p (gLm (by decide)) q1_55 dX5_startAnew_2 rfl rfl (g_mem (fun M1 eM1 => ?_))
  have h := h M1 eM1
  refine g_aload_n ok dX5_startAnew_5 rfl rfl ?_
  refine g_iconst (v := 0) ok dX5_startAnew_6 (by decide) ?_
  refine g_put ok f1_1p (gLm (by decide)) q1_62 dX5_startAnew_7 rfl rfl (g_mem (fun M2 eM2 => ?_))
  have h := h M2 eM2
  refine g_aload_n ok dX5_startAnew_10 rfl rfl ?_
  refine g_get (w := .inr 2) ok f1_4 (gLm (by decide)) q1_74 dX5_startAnew_11 rfl ?_
  refine g_callVv (st := []) (as := []) ok rfl (k_X3_forget h) s_X3_forget rfl (by decide) (gLm (by decide)) cl2 sel_X3_forget ins_X3_forget (gle rfl) rfl q2_35 dX5_startAnew_14 ?_
  intro M3 h
  refine g_aload_n ok dX5_startAnew_17 rfl rfl ?_
  refine g_callVv (st := []) (as := []) ok rfl (k_X5_followChange h) s_X5_followChange rfl (by decide) (gLm (by decide)) cl1 sel_X5_followChange ins_X5_followChange (gle rfl) rfl q2_39 dX5_startAnew_18 ?_
  intro M5 h
  exact g_vret ok hZ dX5_startAnew_21 h
theorem dX5_isVertex_0 : decode cX5_isVertex 0 = .ok (.iload_n 1, 1) := by decide +kernel
theorem dX5_isVertex_1 : decode cX5_isVertex 1 = .ok (.ifCond .lt 15, 3) := by decide +kernel
theorem dX5_isVertex_4 : decode cX5_isVertex 4 = .ok (.iload_n 1, 1) := by decide +kernel
theorem dX5_isVertex_5 : decode cX5_isVertex 5 = .ok (.aload_n 0, 1) := by decide +kernel
theorem dX5_isVertex_6 : decode cX5_isVertex 6 = .ok (.getfield 9, 3) := by decide +kernel
theorem dX5_isVertex_9 : decode cX5_isVertex 9 = .ok (.if_icmp .ge 7, 3) := by decide +kernel
theorem dX5_isVertex_12 : decode cX5_isVertex 12 = .ok (.iconst 1, 1) := by decide +kernel
theorem dX5_isVertex_13 : decode cX5_isVertex 13 = .ok (.goto 4, 3) := by decide +kernel
theorem dX5_isVertex_16 : decode cX5_isVertex 16 = .ok (.iconst 0, 1) := by decide +kernel
theorem dX5_isVertex_17 : decode cX5_isVertex 17 = .ok (.ireturn, 1) := by decide +kernel
theorem s_X5_isVertex : gSt yX5_isVertex cX5_isVertex 2 (some .boolean) 1 := ⟨q2_120, q1_2, ⟨by decide, by decide, by decide +kernel⟩, by decide⟩
theorem sel_X5_isVertex : Cond.selects yX5_isVertex.cls yX5_isVertex yX5_isVertex ∈ gT := q2_119
theorem ins_X5_isVertex : Cond.instanceMethod yX5_isVertex ∈ gT := q2_118
def w_X5_isVertex (p1 : Int32) (M : gM) (Q : Int32 → gM → Prop) : Prop := gbr ((p1 : Int32) < 0) (Q 0 M) (gbr ((p1 : Int32) < (M 1 0)) (Q 1 M) (Q 0 M))
set_option maxRecDepth 100000 in
set_option maxHeartbeats 4000000 in
theorem k_X5_isVertex {p1 : Int32} {M : gM} {Q : Int32 → gM → Prop} (h : w_X5_isVertex p1 M Q) : gCi gL 0 yX5_isVertex cX5_isVertex 2 .boolean [.inr 1, .inl p1] M Q := by
  refine gCi_of (by decide) gLn (gle rfl) (fun X ok hZ => ?_)
  show gW X 0 [some (.inr 1), some (.inl p1)] [] M
  unfold w_X5_isVertex at h
  refine g_iload_n ok dX5_isVertex_0 rfl rfl ?_
  refine g_if_lt (tgt := 16) ok dX5_isVertex_1 (by decide) (fun z => ?_) (fun z => ?_)
  · have h := h.1 z
    refine g_iconst (v := 0) ok dX5_isVertex_16 (by decide) ?_
    exact g_zret ok hZ dX5_isVertex_17 (by decide) h
  · have h := h.2 z
    refine g_iload_n ok dX5_isVertex_4 rfl rfl ?_
    refine g_aload_n ok dX5_isVertex_5 rfl rfl ?_
    refine g_get (w := .inl (M 1 0)) ok f1_0 (gLm (by decide)) q1_55 dX5_isVertex_6 rfl ?_
    refine g_icmp_ge (tgt := 16) ok dX5_isVertex_9 (by decide) (fun z => ?_) (fun z => ?_)
    · have h := h.2 z
      refine g_iconst (v := 0) ok dX5_isVertex_16 (by decide) ?_
      exact g_zret ok hZ dX5_isVertex_17 (by decide) h
    · have h := h.1 z
      refine g_iconst (v := 1) ok dX5_isVertex_12 (by decide) ?_
      refine g_goto (tgt := 17) ok dX5_isVertex_13 (by decide) ?_
      exact g_zret ok hZ dX5_isVertex_17 (by decide) h
theorem dX5_isEdge_0 : decode cX5_isEdge 0 = .ok (.iload_n 1, 1) := by decide +kernel
theorem dX5_isEdge_1 : decode cX5_isEdge 1 = .ok (.ifCond .lt 15, 3) := by decide +kernel
theorem dX5_isEdge_4 : decode cX5_isEdge 4 = .ok (.iload_n 1, 1) := by decide +kernel
theorem dX5_isEdge_5 : decode cX5_isEdge 5 = .ok (.aload_n 0, 1) := by decide +kernel
theorem dX5_isEdge_6 : decode cX5_isEdge 6 = .ok (.getfield 29, 3) := by decide +kernel
theorem dX5_isEdge_9 : decode cX5_isEdge 9 = .ok (.if_icmp .ge 7, 3) := by decide +kernel
theorem dX5_isEdge_12 : decode cX5_isEdge 12 = .ok (.iconst 1, 1) := by decide +kernel
theorem dX5_isEdge_13 : decode cX5_isEdge 13 = .ok (.goto 4, 3) := by decide +kernel
theorem dX5_isEdge_16 : decode cX5_isEdge 16 = .ok (.iconst 0, 1) := by decide +kernel
theorem dX5_isEdge_17 : decode cX5_isEdge 17 = .ok (.ireturn, 1) := by decide +kernel
theorem s_X5_isEdge : gSt yX5_isEdge cX5_isEdge 2 (some .boolean) 1 := ⟨q2_88, q1_2, ⟨by decide, by decide, by decide +kernel⟩, by decide⟩
theorem sel_X5_isEdge : Cond.selects yX5_isEdge.cls yX5_isEdge yX5_isEdge ∈ gT := q2_87
theorem ins_X5_isEdge : Cond.instanceMethod yX5_isEdge ∈ gT := q2_86
def w_X5_isEdge (p1 : Int32) (M : gM) (Q : Int32 → gM → Prop) : Prop := gbr ((p1 : Int32) < 0) (Q 0 M) (gbr ((p1 : Int32) < (M 1 1)) (Q 1 M) (Q 0 M))
set_option maxRecDepth 100000 in
set_option maxHeartbeats 4000000 in
theorem k_X5_isEdge {p1 : Int32} {M : gM} {Q : Int32 → gM → Prop} (h : w_X5_isEdge p1 M Q) : gCi gL 0 yX5_isEdge cX5_isEdge 2 .boolean [.inr 1, .inl p1] M Q := by
  refine gCi_of (by decide) gLn (gle rfl) (fun X ok hZ => ?_)
  show gW X 0 [some (.inr 1), some (.inl p1)] [] M
  unfold w_X5_isEdge at h
  refine g_iload_n ok dX5_isEdge_0 rfl rfl ?_
  refine g_if_lt (tgt := 16) ok dX5_isEdge_1 (by decide) (fun z => ?_) (fun z => ?_)
  · have h := h.1 z
    refine g_iconst (v := 0) ok dX5_isEdge_16 (by decide) ?_
    exact g_zret ok hZ dX5_isEdge_17 (by decide) h
  · have h := h.2 z
    refine g_iload_n ok dX5_isEdge_4 rfl rfl ?_
    refine g_aload_n ok dX5_isEdge_5 rfl rfl ?_
    refine g_get (w := .inl (M 1 1)) ok f1_1 (gLm (by decide)) q1_62 dX5_isEdge_6 rfl ?_
    refine g_icmp_ge (tgt := 16) ok dX5_isEdge_9 (by decide) (fun z => ?_) (fun z => ?_)
    · have h := h.2 z
      refine g_iconst (v := 0) ok dX5_isEdge_16 (by decide) ?_
      exact g_zret ok hZ dX5_isEdge_17 (by decide) h
    · have h := h.1 z
      refine g_iconst (v := 1) ok dX5_isEdge_12 (by decide) ?_
      refine g_goto (tgt := 17) ok dX5_isEdge_13 (by decide) ?_
      exact g_zret ok hZ dX5_isEdge_17 (by decide) h
theorem dX5_isSet_0 : decode cX5_isSet 0 = .ok (.iload_n 1, 1) := by decide +kernel
theorem dX5_isSet_1 : decode cX5_isSet 1 = .ok (.ifCond .lt 17, 3) := by decide +kernel
theorem dX5_isSet_4 : decode cX5_isSet 4 = .ok (.iload_n 1, 1) := by decide +kernel
theorem dX5_isSet_5 : decode cX5_isSet 5 = .ok (.iconst 1, 1) := by decide +kernel
theorem dX5_isSet_6 : decode cX5_isSet 6 = .ok (.aload_n 0, 1) := by decide +kernel
theorem dX5_isSet_7 : decode cX5_isSet 7 = .ok (.getfield 9, 3) := by decide +kernel
theorem dX5_isSet_10 : decode cX5_isSet 10 = .ok (.ishl, 1) := by decide +kernel
theorem dX5_isSet_11 : decode cX5_isSet 11 = .ok (.if_icmp .ge 7, 3) := by decide +kernel
theorem dX5_isSet_14 : decode cX5_isSet 14 = .ok (.iconst 1, 1) := by decide +kernel
theorem dX5_isSet_15 : decode cX5_isSet 15 = .ok (.goto 4, 3) := by decide +kernel
theorem dX5_isSet_18 : decode cX5_isSet 18 = .ok (.iconst 0, 1) := by decide +kernel
theorem dX5_isSet_19 : decode cX5_isSet 19 = .ok (.ireturn, 1) := by decide +kernel
theorem s_X5_isSet : gSt yX5_isSet cX5_isSet 2 (some .boolean) 1 := ⟨q2_53, q1_2, ⟨by decide, by decide, by decide +kernel⟩, by decide⟩
theorem sel_X5_isSet : Cond.selects yX5_isSet.cls yX5_isSet yX5_isSet ∈ gT := q2_52
theorem ins_X5_isSet : Cond.instanceMethod yX5_isSet ∈ gT := q2_51
def w_X5_isSet (p1 : Int32) (M : gM) (Q : Int32 → gM → Prop) : Prop := gbr ((p1 : Int32) < 0) (Q 0 M) (gbr ((p1 : Int32) < (1 <<< ((M 1 0) &&& 31))) (Q 1 M) (Q 0 M))
set_option maxRecDepth 100000 in
set_option maxHeartbeats 4000000 in
theorem k_X5_isSet {p1 : Int32} {M : gM} {Q : Int32 → gM → Prop} (h : w_X5_isSet p1 M Q) : gCi gL 0 yX5_isSet cX5_isSet 2 .boolean [.inr 1, .inl p1] M Q := by
  refine gCi_of (by decide) gLn (gle rfl) (fun X ok hZ => ?_)
  show gW X 0 [some (.inr 1), some (.inl p1)] [] M
  unfold w_X5_isSet at h
  refine g_iload_n ok dX5_isSet_0 rfl rfl ?_
  refine g_if_lt (tgt := 18) ok dX5_isSet_1 (by decide) (fun z => ?_) (fun z => ?_)
  · have h := h.1 z
    refine g_iconst (v := 0) ok dX5_isSet_18 (by decide) ?_
    exact g_zret ok hZ dX5_isSet_19 (by decide) h
  · have h := h.2 z
    refine g_iload_n ok dX5_isSet_4 rfl rfl ?_
    refine g_iconst (v := 1) ok dX5_isSet_5 (by decide) ?_
    refine g_aload_n ok dX5_isSet_6 rfl rfl ?_
    refine g_get (w := .inl (M 1 0)) ok f1_0 (gLm (by decide)) q1_55 dX5_isSet_7 rfl ?_
    refine g_ishl ok dX5_isSet_10 ?_
    refine g_icmp_ge (tgt := 18) ok dX5_isSet_11 (by decide) (fun z => ?_) (fun z => ?_)
    · have h := h.2 z
      refine g_iconst (v := 0) ok dX5_isSet_18 (by decide) ?_
      exact g_zret ok hZ dX5_isSet_19 (by decide) h
    · have h := h.1 z
      refine g_iconst (v := 1) ok dX5_isSet_14 (by decide) ?_
      refine g_goto (tgt := 19) ok dX5_isSet_15 (by decide) ?_
      exact g_zret ok hZ dX5_isSet_19 (by decide) h
theorem dX5_keepOnly_0 : decode cX5_keepOnly 0 = .ok (.aload_n 0, 1) := by decide +kernel
theorem dX5_keepOnly_1 : decode cX5_keepOnly 1 = .ok (.getfield 29, 3) := by decide +kernel
theorem dX5_keepOnly_4 : decode cX5_keepOnly 4 = .ok (.istore_n 2, 1) := by decide +kernel
theorem dX5_keepOnly_5 : decode cX5_keepOnly 5 = .ok (.aload_n 0, 1) := by decide +kernel
theorem dX5_keepOnly_6 : decode cX5_keepOnly 6 = .ok (.iconst 0, 1) := by decide +kernel
theorem dX5_keepOnly_7 : decode cX5_keepOnly 7 = .ok (.putfield 29, 3) := by decide +kernel
theorem dX5_keepOnly_10 : decode cX5_keepOnly 10 = .ok (.iconst 0, 1) := by decide +kernel
theorem dX5_keepOnly_11 : decode cX5_keepOnly 11 = .ok (.istore_n 3, 1) := by decide +kernel
theorem dX5_keepOnly_12 : decode cX5_keepOnly 12 = .ok (.iload_n 3, 1) := by decide +kernel
theorem dX5_keepOnly_13 : decode cX5_keepOnly 13 = .ok (.iload_n 2, 1) := by decide +kernel
theorem dX5_keepOnly_14 : decode cX5_keepOnly 14 = .ok (.if_icmp .ge 27, 3) := by decide +kernel
theorem dX5_keepOnly_17 : decode cX5_keepOnly 17 = .ok (.iload_n 1, 1) := by decide +kernel
theorem dX5_keepOnly_18 : decode cX5_keepOnly 18 = .ok (.iload_n 3, 1) := by decide +kernel
theorem dX5_keepOnly_19 : decode cX5_keepOnly 19 = .ok (.invokestatic 42, 3) := by decide +kernel
theorem dX5_keepOnly_22 : decode cX5_keepOnly 22 = .ok (.ifCond .eq 13, 3) := by decide +kernel
theorem dX5_keepOnly_25 : decode cX5_keepOnly 25 = .ok (.aload_n 0, 1) := by decide +kernel
theorem dX5_keepOnly_26 : decode cX5_keepOnly 26 = .ok (.aload_n 0, 1) := by decide +kernel
theorem dX5_keepOnly_27 : decode cX5_keepOnly 27 = .ok (.getfield 15, 3) := by decide +kernel
theorem dX5_keepOnly_30 : decode cX5_keepOnly 30 = .ok (.iload_n 3, 1) := by decide +kernel
theorem dX5_keepOnly_31 : decode cX5_keepOnly 31 = .ok (.iaload, 1) := by decide +kernel
theorem dX5_keepOnly_32 : decode cX5_keepOnly 32 = .ok (.invokevirtual 46, 3) := by decide +kernel
theorem dX5_keepOnly_35 : decode cX5_keepOnly 35 = .ok (.iinc 3 1, 3) := by decide +kernel
theorem dX5_keepOnly_38 : decode cX5_keepOnly 38 = .ok (.goto (-26), 3) := by decide +kernel
theorem dX5_keepOnly_41 : decode cX5_keepOnly 41 = .ok (.return_, 1) := by decide +kernel
theorem s_X5_keepOnly : gSt yX5_keepOnly cX5_keepOnly 4 none 1 := ⟨q2_96, q1_2, ⟨by decide, by decide, by decide +kernel⟩, by decide⟩
theorem sel_X5_keepOnly : Cond.selects yX5_keepOnly.cls yX5_keepOnly yX5_keepOnly ∈ gT := q2_95
theorem ins_X5_keepOnly : Cond.instanceMethod yX5_keepOnly ∈ gT := q2_94
def w_X5_keepOnly_L12 (Q : gM → Prop) (K41 : Int32 → gM → Prop) (v1 : Int32) (v2 : Int32) : Nat → Int32 → gM → Prop
  | 0, _, _ => False
  | n + 1, v3, M => gbr ((v3 : Int32) < v2) (w_X8_has v1 v3 M (fun (r4 : Int32) (M3 : gM) => gbr ((r4 : Int32) = 0) (∀ x5 : Int32, x5 = (v3 + 1) → (w_X5_keepOnly_L12 Q K41 v1 v2 n (x5) M3)) (vp_in v3 24 ∧ (w_X5_append (M3 9 (Int32.toNatClampNeg v3)) M3 (fun (M6 : gM) => ∀ x8 : Int32, x8 = (v3 + 1) → (w_X5_keepOnly_L12 Q K41 v1 v2 n (x8) M6)))))) (K41 (v3) M)
def w_X5_keepOnly (p1 : Int32) (M : gM) (Q : gM → Prop) : Prop := ∀ x1 : Int32, x1 = (M 1 1) → (∀ M2 : gM, M2 = gst M 1 1 0 → (∃ nf, w_X5_keepOnly_L12 Q (fun (x9 : Int32) (M10 : gM) => Q M10) p1 x1 nf 0 M2))
set_option maxRecDepth 100000 in
set_option maxHeartbeats 4000000 in
theorem w_X5_keepOnly_L12_w {X : gX} (ok : gOk X cX5_keepOnly yX5_keepOnly.cls 2 4 none gL) {Q : gM → Prop} (hZ : gZv X Q) {K41 : Int32 → gM → Prop} (v1 : Int32) (v2 : Int32) (hK41 : ∀ (v3 : Int32)  (M : gM), K41 v3 M → gW X 41 [some (.inr 1), some (.inl v1), some (.inl v2), some (.inl v3)] [] M) : ∀ (n : Nat) (v3 : Int32)  (M : gM), w_X5_keepOnly_L12 Q K41 v1 v2 n v3 M → gW X 12 [some (.inr 1), some (.inl v1), some (.inl v2), some (.inl v3)] [] M
  | 0, _, _, h => h.elim
  | n + 1, v3, M, h => by
    have ih := fun (v3 : Int32)  (M : gM) h => w_X5_keepOnly_L12_w ok hZ v1 v2 hK41 n v3  M h
    rw [w_X5_keepOnly_L12.eq_2] at h
    refine g_iload_n ok dX5_keepOnly_12 rfl rfl ?_
    refine g_iload_n ok dX5_keepOnly_13 rfl rfl ?_
    refine g_icmp_ge (tgt := 41) ok dX5_keepOnly_14 (by decide) (fun z => ?_) (fun z => ?_)
    · have h := h.2 z
      exact hK41 (v3) M h
    · have h := h.1 z
      refine g_iload_n ok dX5_keepOnly_17 rfl rfl ?_
      refine g_iload_n ok dX5_keepOnly_18 rfl rfl ?_
      refine g_callNi (st := []) (as := [.inl v1, .inl v3]) ok rfl (k_X8_has h) s_X8_has rfl (by decide) stt_X8_has (gle rfl) rfl (List.mem_of_getElem? (i := 1) rfl) dX5_keepOnly_19 ?_
      intro r4 M3 h
      refine g_if_eq (tgt := 35) ok dX5_keepOnly_22 (by decide) (fun z => ?_) (fun z => ?_)
      · have h := h.1 z
        obtain ⟨x5, ex5⟩ : ∃ y : Int32, y = (v3 + 1) := ⟨_, rfl⟩
        have h := h x5 ex5
        refine g_iinc (v := x5) (lv1 := [some (.inr 1), some (.inl v1), some (.inl v2), some (.inl x5)]) ok dX5_keepOnly_35 rfl (by rw [ex5]; rfl) rfl ?_
        refine g_goto (tgt := 12) ok dX5_keepOnly_38 (by decide) ?_
        exact ih (x5) M3 h
      · have h := h.2 z
        refine g_aload_n ok dX5_keepOnly_25 rfl rfl ?_
        refine g_aload_n ok dX5_keepOnly_26 rfl rfl ?_
        refine g_get (w := .inr 9) ok f1_2 (gLm (by decide)) q1_66 dX5_keepOnly_27 rfl ?_
        refine g_iload_n ok dX5_keepOnly_30 rfl rfl ?_
        have hb := h.1
        have h := h.2
        refine g_iald (w := (M3 9 (Int32.toNatClampNeg v3))) ok a9 (gLm (by decide)) dX5_keepOnly_31 hb rfl ?_
        refine g_callVv (st := []) (as := [.inl (M3 9 (Int32.toNatClampNeg v3))]) ok rfl (k_X5_append h) s_X5_append rfl (by decide) (gLm (by decide)) cl1 sel_X5_append ins_X5_append (gle rfl) rfl q2_97 dX5_keepOnly_32 ?_
        intro M6 h
        obtain ⟨x8, ex8⟩ : ∃ y : Int32, y = (v3 + 1) := ⟨_, rfl⟩
        have h := h x8 ex8
        refine g_iinc (v := x8) (lv1 := [some (.inr 1), some (.inl v1), some (.inl v2), some (.inl x8)]) ok dX5_keepOnly_35 rfl (by rw [ex8]; rfl) rfl ?_
        refine g_goto (tgt := 12) ok dX5_keepOnly_38 (by decide) ?_
        exact ih (x8) M6 h
set_option maxRecDepth 100000 in
set_option maxHeartbeats 4000000 in
theorem k_X5_keepOnly {p1 : Int32} {M : gM} {Q : gM → Prop} (h : w_X5_keepOnly p1 M Q) : gCv gL 2 yX5_keepOnly cX5_keepOnly 4 [.inr 1, .inl p1] M Q := by
  refine gCv_of (by decide) gLn (gle rfl) (fun X ok hZ => ?_)
  show gW X 0 [some (.inr 1), some (.inl p1), none, none] [] M
  unfold w_X5_keepOnly at h
  refine g_aload_n ok dX5_keepOnly_0 rfl rfl ?_
  refine g_get (w := .inl (M 1 1)) ok f1_1 (gLm (by decide)) q1_62 dX5_keepOnly_1 rfl ?_
  refine g_nm (fun x1 ex1 => ?_)
  have h := h x1 ex1
  refine g_istore_n (lv1 := [some (.inr 1), some (.inl p1), some (.inl x1), none]) ok dX5_keepOnly_4 rfl (glt rfl) rfl ?_
  refine g_aload_n ok dX5_keepOnly_5 rfl rfl ?_
  refine g_iconst (v := 0) ok dX5_keepOnly_6 (by decide) ?_
  refine g_put ok f1_1p (gLm (by decide)) q1_62 dX5_keepOnly_7 rfl rfl (g_mem (fun M2 eM2 => ?_))
  have h := h M2 eM2
  refine g_iconst (v := 0) ok dX5_keepOnly_10 (by decide) ?_
  refine g_istore_n (lv1 := [some (.inr 1), some (.inl p1), some (.inl x1), some (.inl 0)]) ok dX5_keepOnly_11 rfl (glt rfl) rfl ?_
  obtain ⟨nf, h⟩ := h
  refine w_X5_keepOnly_L12_w ok hZ p1 x1 ?_ nf 0  M2 h
  · intro x9  M10 h
    exact g_vret ok hZ dX5_keepOnly_41 h
theorem dX5_takeOut_0 : decode cX5_takeOut 0 = .ok (.aload_n 0, 1) := by decide +kernel
theorem dX5_takeOut_1 : decode cX5_takeOut 1 = .ok (.getfield 29, 3) := by decide +kernel
theorem dX5_takeOut_4 : decode cX5_takeOut 4 = .ok (.istore_n 2, 1) := by decide +kernel
theorem dX5_takeOut_5 : decode cX5_takeOut 5 = .ok (.aload_n 0, 1) := by decide +kernel
theorem dX5_takeOut_6 : decode cX5_takeOut 6 = .ok (.iconst 0, 1) := by decide +kernel
theorem dX5_takeOut_7 : decode cX5_takeOut 7 = .ok (.putfield 29, 3) := by decide +kernel
theorem dX5_takeOut_10 : decode cX5_takeOut 10 = .ok (.iconst 0, 1) := by decide +kernel
theorem dX5_takeOut_11 : decode cX5_takeOut 11 = .ok (.istore_n 3, 1) := by decide +kernel
theorem dX5_takeOut_12 : decode cX5_takeOut 12 = .ok (.iload_n 3, 1) := by decide +kernel
theorem dX5_takeOut_13 : decode cX5_takeOut 13 = .ok (.iload_n 2, 1) := by decide +kernel
theorem dX5_takeOut_14 : decode cX5_takeOut 14 = .ok (.if_icmp .ge 43, 3) := by decide +kernel
theorem dX5_takeOut_17 : decode cX5_takeOut 17 = .ok (.aload_n 0, 1) := by decide +kernel
theorem dX5_takeOut_18 : decode cX5_takeOut 18 = .ok (.getfield 15, 3) := by decide +kernel
theorem dX5_takeOut_21 : decode cX5_takeOut 21 = .ok (.iload_n 3, 1) := by decide +kernel
theorem dX5_takeOut_22 : decode cX5_takeOut 22 = .ok (.iaload, 1) := by decide +kernel
theorem dX5_takeOut_23 : decode cX5_takeOut 23 = .ok (.iconst 1, 1) := by decide +kernel
theorem dX5_takeOut_24 : decode cX5_takeOut 24 = .ok (.iload_n 1, 1) := by decide +kernel
theorem dX5_takeOut_25 : decode cX5_takeOut 25 = .ok (.ishl, 1) := by decide +kernel
theorem dX5_takeOut_26 : decode cX5_takeOut 26 = .ok (.iconst (-1), 1) := by decide +kernel
theorem dX5_takeOut_27 : decode cX5_takeOut 27 = .ok (.ixor, 1) := by decide +kernel
theorem dX5_takeOut_28 : decode cX5_takeOut 28 = .ok (.iand, 1) := by decide +kernel
theorem dX5_takeOut_29 : decode cX5_takeOut 29 = .ok (.istore 4, 2) := by decide +kernel
theorem dX5_takeOut_31 : decode cX5_takeOut 31 = .ok (.iload 4, 2) := by decide +kernel
theorem dX5_takeOut_33 : decode cX5_takeOut 33 = .ok (.ifCond .eq 18, 3) := by decide +kernel
theorem dX5_takeOut_36 : decode cX5_takeOut 36 = .ok (.aload_n 0, 1) := by decide +kernel
theorem dX5_takeOut_37 : decode cX5_takeOut 37 = .ok (.iload 4, 2) := by decide +kernel
theorem dX5_takeOut_39 : decode cX5_takeOut 39 = .ok (.invokevirtual 50, 3) := by decide +kernel
theorem dX5_takeOut_42 : decode cX5_takeOut 42 = .ok (.ifCond .ne 9, 3) := by decide +kernel
theorem dX5_takeOut_45 : decode cX5_takeOut 45 = .ok (.aload_n 0, 1) := by decide +kernel
theorem dX5_takeOut_46 : decode cX5_takeOut 46 = .ok (.iload 4, 2) := by decide +kernel
theorem dX5_takeOut_48 : decode cX5_takeOut 48 = .ok (.invokevirtual 46, 3) := by decide +kernel
theorem dX5_takeOut_51 : decode cX5_takeOut 51 = .ok (.iinc 3 1, 3) := by decide +kernel
theorem dX5_takeOut_54 : decode cX5_takeOut 54 = .ok (.goto (-42), 3) := by decide +kernel
theorem dX5_takeOut_57 : decode cX5_takeOut 57 = .ok (.return_, 1) := by decide +kernel
theorem s_X5_takeOut : gSt yX5_takeOut cX5_takeOut 5 none 1 := ⟨q2_130, q1_2, ⟨by decide, by decide, by decide +kernel⟩, by decide⟩
theorem sel_X5_takeOut : Cond.selects yX5_takeOut.cls yX5_takeOut yX5_takeOut ∈ gT := q2_129
theorem ins_X5_takeOut : Cond.instanceMethod yX5_takeOut ∈ gT := q2_128
def w_X5_takeOut_L12 (Q : gM → Prop) (K57 : Int32 → gM → Prop) (v1 : Int32) (v2 : Int32) : Nat → Int32 → gM → Prop
  | 0, _, _ => False
  | n + 1, v3, M => gbr ((v3 : Int32) < v2) (vp_in v3 24 ∧ (∀ x3 : Int32, x3 = ((M 9 (Int32.toNatClampNeg v3)) &&& ((1 <<< (v1 &&& 31)) ^^^ (-1))) → (gbr ((x3 : Int32) = 0) (∀ x4 : Int32, x4 = (v3 + 1) → (w_X5_takeOut_L12 Q K57 v1 v2 n (x4) M)) (w_X5_contains x3 M (fun (r6 : Int32) (M5 : gM) => gbr ((r6 : Int32) = 0) (w_X5_append x3 M5 (fun (M8 : gM) => ∀ x10 : Int32, x10 = (v3 + 1) → (w_X5_takeOut_L12 Q K57 v1 v2 n (x10) M8))) (∀ x7 : Int32, x7 = (v3 + 1) → (w_X5_takeOut_L12 Q K57 v1 v2 n (x7) M5))))))) (K57 (v3) M)
def w_X5_takeOut (p1 : Int32) (M : gM) (Q : gM → Prop) : Prop := ∀ x1 : Int32, x1 = (M 1 1) → (∀ M2 : gM, M2 = gst M 1 1 0 → (∃ nf, w_X5_takeOut_L12 Q (fun (x11 : Int32) (M13 : gM) => Q M13) p1 x1 nf 0 M2))
set_option maxRecDepth 100000 in
set_option maxHeartbeats 4000000 in
theorem w_X5_takeOut_L12_w {X : gX} (ok : gOk X cX5_takeOut yX5_takeOut.cls 2 5 none gL) {Q : gM → Prop} (hZ : gZv X Q) {K57 : Int32 → gM → Prop} (v1 : Int32) (v2 : Int32) (hK57 : ∀ (v3 : Int32) (u4 : Option gV) (M : gM), K57 v3 M → gW X 57 [some (.inr 1), some (.inl v1), some (.inl v2), some (.inl v3), u4] [] M) : ∀ (n : Nat) (v3 : Int32) (u4 : Option gV) (M : gM), w_X5_takeOut_L12 Q K57 v1 v2 n v3 M → gW X 12 [some (.inr 1), some (.inl v1), some (.inl v2), some (.inl v3), u4] [] M
  | 0, _, _, _, h => h.elim
  | n + 1, v3, u4, M, h => by
    have ih := fun (v3 : Int32) (u4 : Option gV) (M : gM) h => w_X5_takeOut_L12_w ok hZ v1 v2 hK57 n v3 u4 M h
    rw [w_X5_takeOut_L12.eq_2] at h
    refine g_iload_n ok dX5_takeOut_12 rfl rfl ?_
    refine g_iload_n ok dX5_takeOut_13 rfl rfl ?_
    refine g_icmp_ge (tgt := 57) ok dX5_takeOut_14 (by decide) (fun z => ?_) (fun z => ?_)
    · have h := h.2 z
      exact hK57 (v3) (u4) M h
    · have h := h.1 z
      refine g_aload_n ok dX5_takeOut_17 rfl rfl ?_
      refine g_get (w := .inr 9) ok f1_2 (gLm (by decide)) q1_66 dX5_takeOut_18 rfl ?_
      refine g_iload_n ok dX5_takeOut_21 rfl rfl ?_
      have hb := h.1
      have h := h.2
      refine g_iald (w := (M 9 (Int32.toNatClampNeg v3))) ok a9 (gLm (by decide)) dX5_takeOut_22 hb rfl ?_
      refine g_iconst (v := 1) ok dX5_takeOut_23 (by decide) ?_
      refine g_iload_n ok dX5_takeOut_24 rfl rfl ?_
      refine g_ishl ok dX5_takeOut_25 ?_
      refine g_iconst (v := (-1)) ok dX5_takeOut_26 (by decide) ?_
      refine g_ixor ok dX5_takeOut_27 ?_
      refine g_iand ok dX5_takeOut_28 ?_
      refine g_nm (fun x3 ex3 => ?_)
      have h := h x3 ex3
      refine g_istore (lv1 := [some (.inr 1), some (.inl v1), some (.inl v2), some (.inl v3), some (.inl x3)]) ok dX5_takeOut_29 (glt rfl) rfl ?_
      refine g_iload ok dX5_takeOut_31 rfl ?_
      refine g_if_eq (tgt := 51) ok dX5_takeOut_33 (by decide) (fun z => ?_) (fun z => ?_)
      · have h := h.1 z
        obtain ⟨x4, ex4⟩ : ∃ y : Int32, y = (v3 + 1) := ⟨_, rfl⟩
        have h := h x4 ex4
        refine g_iinc (v := x4) (lv1 := [some (.inr 1), some (.inl v1), some (.inl v2), some (.inl x4), some (.inl x3)]) ok dX5_takeOut_51 rfl (by rw [ex4]; rfl) rfl ?_
        refine g_goto (tgt := 12) ok dX5_takeOut_54 (by decide) ?_
        exact ih (x4) (some (.inl x3)) M h
      · have h := h.2 z
        refine g_aload_n ok dX5_takeOut_36 rfl rfl ?_
        refine g_iload ok dX5_takeOut_37 rfl ?_
        refine g_callVi (st := []) (as := [.inl x3]) ok rfl (k_X5_contains h) s_X5_contains rfl (by decide) (gLm (by decide)) cl1 sel_X5_contains ins_X5_contains (gle rfl) rfl q2_131 dX5_takeOut_39 ?_
        intro r6 M5 h
        refine g_if_ne (tgt := 51) ok dX5_takeOut_42 (by decide) (fun z => ?_) (fun z => ?_)
        · have h := h.2 z
          obtain ⟨x7, ex7⟩ : ∃ y : Int32, y = (v3 + 1) := ⟨_, rfl⟩
          have h := h x7 ex7
          refine g_iinc (v := x7) (lv1 := [some (.inr 1), some (.inl v1), some (.inl v2), some (.inl x7), some (.inl x3)]) ok dX5_takeOut_51 rfl (by rw [ex7]; rfl) rfl ?_
          refine g_goto (tgt := 12) ok dX5_takeOut_54 (by decide) ?_
          exact ih (x7) (some (.inl x3)) M5 h
        · have h := h.1 z
          refine g_aload_n ok dX5_takeOut_45 rfl rfl ?_
          refine g_iload ok dX5_takeOut_46 rfl ?_
          refine g_callVv (st := []) (as := [.inl x3]) ok rfl (k_X5_append h) s_X5_append rfl (by decide) (gLm (by decide)) cl1 sel_X5_append ins_X5_append (gle rfl) rfl q2_97 dX5_takeOut_48 ?_
          intro M8 h
          obtain ⟨x10, ex10⟩ : ∃ y : Int32, y = (v3 + 1) := ⟨_, rfl⟩
          have h := h x10 ex10
          refine g_iinc (v := x10) (lv1 := [some (.inr 1), some (.inl v1), some (.inl v2), some (.inl x10), some (.inl x3)]) ok dX5_takeOut_51 rfl (by rw [ex10]; rfl) rfl ?_
          refine g_goto (tgt := 12) ok dX5_takeOut_54 (by decide) ?_
          exact ih (x10) (some (.inl x3)) M8 h
set_option maxRecDepth 100000 in
set_option maxHeartbeats 4000000 in
theorem k_X5_takeOut {p1 : Int32} {M : gM} {Q : gM → Prop} (h : w_X5_takeOut p1 M Q) : gCv gL 2 yX5_takeOut cX5_takeOut 5 [.inr 1, .inl p1] M Q := by
  refine gCv_of (by decide) gLn (gle rfl) (fun X ok hZ => ?_)
  show gW X 0 [some (.inr 1), some (.inl p1), none, none, none] [] M
  unfold w_X5_takeOut at h
  refine g_aload_n ok dX5_takeOut_0 rfl rfl ?_
  refine g_get (w := .inl (M 1 1)) ok f1_1 (gLm (by decide)) q1_62 dX5_takeOut_1 rfl ?_
  refine g_nm (fun x1 ex1 => ?_)
  have h := h x1 ex1
  refine g_istore_n (lv1 := [some (.inr 1), some (.inl p1), some (.inl x1), none, none]) ok dX5_takeOut_4 rfl (glt rfl) rfl ?_
  refine g_aload_n ok dX5_takeOut_5 rfl rfl ?_
  refine g_iconst (v := 0) ok dX5_takeOut_6 (by decide) ?_
  refine g_put ok f1_1p (gLm (by decide)) q1_62 dX5_takeOut_7 rfl rfl (g_mem (fun M2 eM2 => ?_))
  have h := h M2 eM2
  refine g_iconst (v := 0) ok dX5_takeOut_10 (by decide) ?_
  refine g_istore_n (lv1 := [some (.inr 1), some (.inl p1), some (.inl x1), some (.inl 0), none]) ok dX5_takeOut_11 rfl (glt rfl) rfl ?_
  obtain ⟨nf, h⟩ := h
  refine w_X5_takeOut_L12_w ok hZ p1 x1 ?_ nf 0 (none) M2 h
  · intro x11 u12 M13 h
    exact g_vret ok hZ dX5_takeOut_57 h
theorem dX5_endEdit_0 : decode cX5_endEdit 0 = .ok (.aload_n 0, 1) := by decide +kernel
theorem dX5_endEdit_1 : decode cX5_endEdit 1 = .ok (.getfield 25, 3) := by decide +kernel
theorem dX5_endEdit_4 : decode cX5_endEdit 4 = .ok (.aload_n 0, 1) := by decide +kernel
theorem dX5_endEdit_5 : decode cX5_endEdit 5 = .ok (.getfield 15, 3) := by decide +kernel
theorem dX5_endEdit_8 : decode cX5_endEdit 8 = .ok (.aload_n 0, 1) := by decide +kernel
theorem dX5_endEdit_9 : decode cX5_endEdit 9 = .ok (.getfield 29, 3) := by decide +kernel
theorem dX5_endEdit_12 : decode cX5_endEdit 12 = .ok (.invokevirtual 54, 3) := by decide +kernel
theorem dX5_endEdit_15 : decode cX5_endEdit 15 = .ok (.aload_n 0, 1) := by decide +kernel
theorem dX5_endEdit_16 : decode cX5_endEdit 16 = .ok (.invokevirtual 35, 3) := by decide +kernel
theorem dX5_endEdit_19 : decode cX5_endEdit 19 = .ok (.return_, 1) := by decide +kernel
theorem s_X5_endEdit : gSt yX5_endEdit cX5_endEdit 1 none 0 := ⟨q2_70, q1_2, ⟨by decide, by decide, by decide +kernel⟩, by decide⟩
theorem sel_X5_endEdit : Cond.selects yX5_endEdit.cls yX5_endEdit yX5_endEdit ∈ gT := q2_69
theorem ins_X5_endEdit : Cond.instanceMethod yX5_endEdit ∈ gT := q2_68
def w_X5_endEdit  (M : gM) (Q : gM → Prop) : Prop := w_X3_add (M 1 1) M (fun (M1 : gM) => w_X5_followChange M1 (fun (M3 : gM) => Q M3))
set_option maxRecDepth 100000 in
set_option maxHeartbeats 4000000 in
theorem k_X5_endEdit  {M : gM} {Q : gM → Prop} (h : w_X5_endEdit  M Q) : gCv gL 2 yX5_endEdit cX5_endEdit 1 [.inr 1] M Q := by
  refine gCv_of (by decide) gLn (gle rfl) (fun X ok hZ => ?_)
  show gW X 0 [some (.inr 1)] [] M
  unfold w_X5_endEdit at h
  refine g_aload_n ok dX5_endEdit_0 rfl rfl ?_
  refine g_get (w := .inr 2) ok f1_4 (gLm (by decide)) q1_74 dX5_endEdit_1 rfl ?_
  refine g_aload_n ok dX5_endEdit_4 rfl rfl ?_
  refine g_get (w := .inr 9) ok f1_2 (gLm (by decide)) q1_66 dX5_endEdit_5 rfl ?_
  refine g_aload_n ok dX5_endEdit_8 rfl rfl ?_
  refine g_get (w := .inl (M 1 1)) ok f1_1 (gLm (by decide)) q1_62 dX5_endEdit_9 rfl ?_
  refine g_callVv (st := []) (as := [.inr 9, .inl (M 1 1)]) ok rfl (k_X3_add h) s_X3_add rfl (by decide) (gLm (by decide)) cl2 sel_X3_add ins_X3_add (gle rfl) rfl q2_71 dX5_endEdit_12 ?_
  intro M1 h
  refine g_aload_n ok dX5_endEdit_15 rfl rfl ?_
  refine g_callVv (st := []) (as := []) ok rfl (k_X5_followChange h) s_X5_followChange rfl (by decide) (gLm (by decide)) cl1 sel_X5_followChange ins_X5_followChange (gle rfl) rfl q2_39 dX5_endEdit_16 ?_
  intro M3 h
  exact g_vret ok hZ dX5_endEdit_19 h
theorem dX5_takePast_0 : decode cX5_takePast 0 = .ok (.aload_n 0, 1) := by decide +kernel
theorem dX5_takePast_1 : decode cX5_takePast 1 = .ok (.aload_n 0, 1) := by decide +kernel
theorem dX5_takePast_2 : decode cX5_takePast 2 = .ok (.getfield 25, 3) := by decide +kernel
theorem dX5_takePast_5 : decode cX5_takePast 5 = .ok (.aload_n 0, 1) := by decide +kernel
theorem dX5_takePast_6 : decode cX5_takePast 6 = .ok (.getfield 15, 3) := by decide +kernel
theorem dX5_takePast_9 : decode cX5_takePast 9 = .ok (.invokevirtual 67, 3) := by decide +kernel
theorem dX5_takePast_12 : decode cX5_takePast 12 = .ok (.putfield 29, 3) := by decide +kernel
theorem dX5_takePast_15 : decode cX5_takePast 15 = .ok (.aload_n 0, 1) := by decide +kernel
theorem dX5_takePast_16 : decode cX5_takePast 16 = .ok (.invokevirtual 35, 3) := by decide +kernel
theorem dX5_takePast_19 : decode cX5_takePast 19 = .ok (.return_, 1) := by decide +kernel
theorem s_X5_takePast : gSt yX5_takePast cX5_takePast 1 none 0 := ⟨q2_181, q1_2, ⟨by decide, by decide, by decide +kernel⟩, by decide⟩
theorem sel_X5_takePast : Cond.selects yX5_takePast.cls yX5_takePast yX5_takePast ∈ gT := qs_3
theorem ins_X5_takePast : Cond.instanceMethod yX5_takePast ∈ gT := q2_180
def w_X5_takePast  (M : gM) (Q : gM → Prop) : Prop := w_X3_copyTo M (fun (r2 : Int32) (M1 : gM) => ∀ M3 : gM, M3 = gst M1 1 1 r2 → (w_X5_followChange M3 (fun (M4 : gM) => Q M4)))
set_option maxRecDepth 100000 in
set_option maxHeartbeats 4000000 in
theorem k_X5_takePast  {M : gM} {Q : gM → Prop} (h : w_X5_takePast  M Q) : gCv gL 2 yX5_takePast cX5_takePast 1 [.inr 1] M Q := by
  refine gCv_of (by decide) gLn (gle rfl) (fun X ok hZ => ?_)
  show gW X 0 [some (.inr 1)] [] M
  unfold w_X5_takePast at h
  refine g_aload_n ok dX5_takePast_0 rfl rfl ?_
  refine g_aload_n ok dX5_takePast_1 rfl rfl ?_
  refine g_get (w := .inr 2) ok f1_4 (gLm (by decide)) q1_74 dX5_takePast_2 rfl ?_
  refine g_aload_n ok dX5_takePast_5 rfl rfl ?_
  refine g_get (w := .inr 9) ok f1_2 (gLm (by decide)) q1_66 dX5_takePast_6 rfl ?_
  refine g_callVi (st := [.inr 1]) (as := [.inr 9]) ok rfl (k_X3_copyTo h) s_X3_copyTo rfl (by decide) (gLm (by decide)) cl2 sel_X3_copyTo ins_X3_copyTo (gle rfl) rfl q2_182 dX5_takePast_9 ?_
  intro r2 M1 h
  refine g_put ok f1_1p (gLm (by decide)) q1_62 dX5_takePast_12 rfl rfl (g_mem (fun M3 eM3 => ?_))
  have h := h M3 eM3
  refine g_aload_n ok dX5_takePast_15 rfl rfl ?_
  refine g_callVv (st := []) (as := []) ok rfl (k_X5_followChange h) s_X5_followChange rfl (by decide) (gLm (by decide)) cl1 sel_X5_followChange ins_X5_followChange (gle rfl) rfl q2_39 dX5_takePast_16 ?_
  intro M4 h
  exact g_vret ok hZ dX5_takePast_19 h
theorem dX5_stepBack_0 : decode cX5_stepBack 0 = .ok (.aload_n 0, 1) := by decide +kernel
theorem dX5_stepBack_1 : decode cX5_stepBack 1 = .ok (.getfield 25, 3) := by decide +kernel
theorem dX5_stepBack_4 : decode cX5_stepBack 4 = .ok (.invokevirtual 58, 3) := by decide +kernel
theorem dX5_stepBack_7 : decode cX5_stepBack 7 = .ok (.ifCond .ne 5, 3) := by decide +kernel
theorem dX5_stepBack_10 : decode cX5_stepBack 10 = .ok (.iconst 0, 1) := by decide +kernel
theorem dX5_stepBack_11 : decode cX5_stepBack 11 = .ok (.ireturn, 1) := by decide +kernel
theorem dX5_stepBack_12 : decode cX5_stepBack 12 = .ok (.aload_n 0, 1) := by decide +kernel
theorem dX5_stepBack_13 : decode cX5_stepBack 13 = .ok (.invokevirtual 61, 3) := by decide +kernel
theorem dX5_stepBack_16 : decode cX5_stepBack 16 = .ok (.iconst 1, 1) := by decide +kernel
theorem dX5_stepBack_17 : decode cX5_stepBack 17 = .ok (.ireturn, 1) := by decide +kernel
theorem s_X5_stepBack : gSt yX5_stepBack cX5_stepBack 1 (some .boolean) 0 := ⟨q2_173, q1_2, ⟨by decide, by decide, by decide +kernel⟩, by decide⟩
theorem sel_X5_stepBack : Cond.selects yX5_stepBack.cls yX5_stepBack yX5_stepBack ∈ gT := q2_172
theorem ins_X5_stepBack : Cond.instanceMethod yX5_stepBack ∈ gT := q2_171
def w_X5_stepBack  (M : gM) (Q : Int32 → gM → Prop) : Prop := w_X3_moveBack M (fun (r2 : Int32) (M1 : gM) => gbr ((r2 : Int32) = 0) (Q 0 M1) (w_X5_takePast M1 (fun (M3 : gM) => Q 1 M3)))
set_option maxRecDepth 100000 in
set_option maxHeartbeats 4000000 in
theorem k_X5_stepBack  {M : gM} {Q : Int32 → gM → Prop} (h : w_X5_stepBack  M Q) : gCi gL 3 yX5_stepBack cX5_stepBack 1 .boolean [.inr 1] M Q := by
  refine gCi_of (by decide) gLn (gle rfl) (fun X ok hZ => ?_)
  show gW X 0 [some (.inr 1)] [] M
  unfold w_X5_stepBack at h
  refine g_aload_n ok dX5_stepBack_0 rfl rfl ?_
  refine g_get (w := .inr 2) ok f1_4 (gLm (by decide)) q1_74 dX5_stepBack_1 rfl ?_
  refine g_callVi (st := []) (as := []) ok rfl (k_X3_moveBack h) s_X3_moveBack rfl (by decide) (gLm (by decide)) cl2 sel_X3_moveBack ins_X3_moveBack (gle rfl) rfl q2_174 dX5_stepBack_4 ?_
  intro r2 M1 h
  refine g_if_ne (tgt := 12) ok dX5_stepBack_7 (by decide) (fun z => ?_) (fun z => ?_)
  · have h := h.2 z
    refine g_aload_n ok dX5_stepBack_12 rfl rfl ?_
    refine g_callVv (st := []) (as := []) ok rfl (k_X5_takePast h) s_X5_takePast rfl (by decide) (gLm (by decide)) cl1 sel_X5_takePast ins_X5_takePast (gle rfl) rfl q2_178 dX5_stepBack_13 ?_
    intro M3 h
    refine g_iconst (v := 1) ok dX5_stepBack_16 (by decide) ?_
    exact g_zret ok hZ dX5_stepBack_17 (by decide) h
  · have h := h.1 z
    refine g_iconst (v := 0) ok dX5_stepBack_10 (by decide) ?_
    exact g_zret ok hZ dX5_stepBack_11 (by decide) h
theorem dX5_stepForward_0 : decode cX5_stepForward 0 = .ok (.aload_n 0, 1) := by decide +kernel
theorem dX5_stepForward_1 : decode cX5_stepForward 1 = .ok (.getfield 25, 3) := by decide +kernel
theorem dX5_stepForward_4 : decode cX5_stepForward 4 = .ok (.invokevirtual 64, 3) := by decide +kernel
theorem dX5_stepForward_7 : decode cX5_stepForward 7 = .ok (.ifCond .ne 5, 3) := by decide +kernel
theorem dX5_stepForward_10 : decode cX5_stepForward 10 = .ok (.iconst 0, 1) := by decide +kernel
theorem dX5_stepForward_11 : decode cX5_stepForward 11 = .ok (.ireturn, 1) := by decide +kernel
theorem dX5_stepForward_12 : decode cX5_stepForward 12 = .ok (.aload_n 0, 1) := by decide +kernel
theorem dX5_stepForward_13 : decode cX5_stepForward 13 = .ok (.invokevirtual 61, 3) := by decide +kernel
theorem dX5_stepForward_16 : decode cX5_stepForward 16 = .ok (.iconst 1, 1) := by decide +kernel
theorem dX5_stepForward_17 : decode cX5_stepForward 17 = .ok (.ireturn, 1) := by decide +kernel
theorem s_X5_stepForward : gSt yX5_stepForward cX5_stepForward 1 (some .boolean) 0 := ⟨q2_193, q1_2, ⟨by decide, by decide, by decide +kernel⟩, by decide⟩
theorem sel_X5_stepForward : Cond.selects yX5_stepForward.cls yX5_stepForward yX5_stepForward ∈ gT := q2_192
theorem ins_X5_stepForward : Cond.instanceMethod yX5_stepForward ∈ gT := q2_191
def w_X5_stepForward  (M : gM) (Q : Int32 → gM → Prop) : Prop := w_X3_moveForward M (fun (r2 : Int32) (M1 : gM) => gbr ((r2 : Int32) = 0) (Q 0 M1) (w_X5_takePast M1 (fun (M3 : gM) => Q 1 M3)))
set_option maxRecDepth 100000 in
set_option maxHeartbeats 4000000 in
theorem k_X5_stepForward  {M : gM} {Q : Int32 → gM → Prop} (h : w_X5_stepForward  M Q) : gCi gL 3 yX5_stepForward cX5_stepForward 1 .boolean [.inr 1] M Q := by
  refine gCi_of (by decide) gLn (gle rfl) (fun X ok hZ => ?_)
  show gW X 0 [some (.inr 1)] [] M
  unfold w_X5_stepForward at h
  refine g_aload_n ok dX5_stepForward_0 rfl rfl ?_
  refine g_get (w := .inr 2) ok f1_4 (gLm (by decide)) q1_74 dX5_stepForward_1 rfl ?_
  refine g_callVi (st := []) (as := []) ok rfl (k_X3_moveForward h) s_X3_moveForward rfl (by decide) (gLm (by decide)) cl2 sel_X3_moveForward ins_X3_moveForward (gle rfl) rfl q2_194 dX5_stepForward_4 ?_
  intro r2 M1 h
  refine g_if_ne (tgt := 12) ok dX5_stepForward_7 (by decide) (fun z => ?_) (fun z => ?_)
  · have h := h.2 z
    refine g_aload_n ok dX5_stepForward_12 rfl rfl ?_
    refine g_callVv (st := []) (as := []) ok rfl (k_X5_takePast h) s_X5_takePast rfl (by decide) (gLm (by decide)) cl1 sel_X5_takePast ins_X5_takePast (gle rfl) rfl q2_178 dX5_stepForward_13 ?_
    intro M3 h
    refine g_iconst (v := 1) ok dX5_stepForward_16 (by decide) ?_
    exact g_zret ok hZ dX5_stepForward_17 (by decide) h
  · have h := h.1 z
    refine g_iconst (v := 0) ok dX5_stepForward_10 (by decide) ?_
    exact g_zret ok hZ dX5_stepForward_11 (by decide) h
theorem dX8_isWithin_0 : decode cX8_isWithin 0 = .ok (.iload_n 0, 1) := by decide +kernel
theorem dX8_isWithin_1 : decode cX8_isWithin 1 = .ok (.iload_n 1, 1) := by decide +kernel
theorem dX8_isWithin_2 : decode cX8_isWithin 2 = .ok (.iconst (-1), 1) := by decide +kernel
theorem dX8_isWithin_3 : decode cX8_isWithin 3 = .ok (.ixor, 1) := by decide +kernel
theorem dX8_isWithin_4 : decode cX8_isWithin 4 = .ok (.iand, 1) := by decide +kernel
theorem dX8_isWithin_5 : decode cX8_isWithin 5 = .ok (.ifCond .ne 7, 3) := by decide +kernel
theorem dX8_isWithin_8 : decode cX8_isWithin 8 = .ok (.iconst 1, 1) := by decide +kernel
theorem dX8_isWithin_9 : decode cX8_isWithin 9 = .ok (.goto 4, 3) := by decide +kernel
theorem dX8_isWithin_12 : decode cX8_isWithin 12 = .ok (.iconst 0, 1) := by decide +kernel
theorem dX8_isWithin_13 : decode cX8_isWithin 13 = .ok (.ireturn, 1) := by decide +kernel
theorem s_X8_isWithin : gSt yX8_isWithin cX8_isWithin 2 (some .boolean) 2 := ⟨q2_112, q1_1, ⟨by decide, by decide, by decide +kernel⟩, by decide⟩
theorem stt_X8_isWithin : Cond.static yX8_isWithin ∈ gT := q2_111
def w_X8_isWithin (p0 : Int32) (p1 : Int32) (M : gM) (Q : Int32 → gM → Prop) : Prop := gbr (((p0 &&& (p1 ^^^ (-1))) : Int32) = 0) (Q 1 M) (Q 0 M)
set_option maxRecDepth 100000 in
set_option maxHeartbeats 4000000 in
theorem k_X8_isWithin {p0 : Int32} {p1 : Int32} {M : gM} {Q : Int32 → gM → Prop} (h : w_X8_isWithin p0 p1 M Q) : gCi gL 0 yX8_isWithin cX8_isWithin 2 .boolean [.inl p0, .inl p1] M Q := by
  refine gCi_of (by decide) gLn (gle rfl) (fun X ok hZ => ?_)
  show gW X 0 [some (.inl p0), some (.inl p1)] [] M
  unfold w_X8_isWithin at h
  refine g_iload_n ok dX8_isWithin_0 rfl rfl ?_
  refine g_iload_n ok dX8_isWithin_1 rfl rfl ?_
  refine g_iconst (v := (-1)) ok dX8_isWithin_2 (by decide) ?_
  refine g_ixor ok dX8_isWithin_3 ?_
  refine g_iand ok dX8_isWithin_4 ?_
  refine g_if_ne (tgt := 12) ok dX8_isWithin_5 (by decide) (fun z => ?_) (fun z => ?_)
  · have h := h.2 z
    refine g_iconst (v := 0) ok dX8_isWithin_12 (by decide) ?_
    exact g_zret ok hZ dX8_isWithin_13 (by decide) h
  · have h := h.1 z
    refine g_iconst (v := 1) ok dX8_isWithin_8 (by decide) ?_
    refine g_goto (tgt := 13) ok dX8_isWithin_9 (by decide) ?_
    exact g_zret ok hZ dX8_isWithin_13 (by decide) h
theorem dX5_isMinimal_0 : decode cX5_isMinimal 0 = .ok (.iconst 0, 1) := by decide +kernel
theorem dX5_isMinimal_1 : decode cX5_isMinimal 1 = .ok (.istore_n 2, 1) := by decide +kernel
theorem dX5_isMinimal_2 : decode cX5_isMinimal 2 = .ok (.iload_n 2, 1) := by decide +kernel
theorem dX5_isMinimal_3 : decode cX5_isMinimal 3 = .ok (.aload_n 0, 1) := by decide +kernel
theorem dX5_isMinimal_4 : decode cX5_isMinimal 4 = .ok (.getfield 29, 3) := by decide +kernel
theorem dX5_isMinimal_7 : decode cX5_isMinimal 7 = .ok (.if_icmp .ge 34, 3) := by decide +kernel
theorem dX5_isMinimal_10 : decode cX5_isMinimal 10 = .ok (.iload_n 2, 1) := by decide +kernel
theorem dX5_isMinimal_11 : decode cX5_isMinimal 11 = .ok (.iload_n 1, 1) := by decide +kernel
theorem dX5_isMinimal_12 : decode cX5_isMinimal 12 = .ok (.if_icmp .eq 23, 3) := by decide +kernel
theorem dX5_isMinimal_15 : decode cX5_isMinimal 15 = .ok (.aload_n 0, 1) := by decide +kernel
theorem dX5_isMinimal_16 : decode cX5_isMinimal 16 = .ok (.getfield 15, 3) := by decide +kernel
theorem dX5_isMinimal_19 : decode cX5_isMinimal 19 = .ok (.iload_n 2, 1) := by decide +kernel
theorem dX5_isMinimal_20 : decode cX5_isMinimal 20 = .ok (.iaload, 1) := by decide +kernel
theorem dX5_isMinimal_21 : decode cX5_isMinimal 21 = .ok (.aload_n 0, 1) := by decide +kernel
theorem dX5_isMinimal_22 : decode cX5_isMinimal 22 = .ok (.getfield 15, 3) := by decide +kernel
theorem dX5_isMinimal_25 : decode cX5_isMinimal 25 = .ok (.iload_n 1, 1) := by decide +kernel
theorem dX5_isMinimal_26 : decode cX5_isMinimal 26 = .ok (.iaload, 1) := by decide +kernel
theorem dX5_isMinimal_27 : decode cX5_isMinimal 27 = .ok (.invokestatic 77, 3) := by decide +kernel
theorem dX5_isMinimal_30 : decode cX5_isMinimal 30 = .ok (.ifCond .eq 5, 3) := by decide +kernel
theorem dX5_isMinimal_33 : decode cX5_isMinimal 33 = .ok (.iconst 0, 1) := by decide +kernel
theorem dX5_isMinimal_34 : decode cX5_isMinimal 34 = .ok (.ireturn, 1) := by decide +kernel
theorem dX5_isMinimal_35 : decode cX5_isMinimal 35 = .ok (.iinc 2 1, 3) := by decide +kernel
theorem dX5_isMinimal_38 : decode cX5_isMinimal 38 = .ok (.goto (-36), 3) := by decide +kernel
theorem dX5_isMinimal_41 : decode cX5_isMinimal 41 = .ok (.iconst 1, 1) := by decide +kernel
theorem dX5_isMinimal_42 : decode cX5_isMinimal 42 = .ok (.ireturn, 1) := by decide +kernel
theorem s_X5_isMinimal : gSt yX5_isMinimal cX5_isMinimal 3 (some .boolean) 1 := ⟨q2_109, q1_2, ⟨by decide, by decide, by decide +kernel⟩, by decide⟩
theorem sel_X5_isMinimal : Cond.selects yX5_isMinimal.cls yX5_isMinimal yX5_isMinimal ∈ gT := qs_1
theorem ins_X5_isMinimal : Cond.instanceMethod yX5_isMinimal ∈ gT := q2_108
def w_X5_isMinimal_L2 (Q : Int32 → gM → Prop) (K41 : Int32 → gM → Prop) (K33 : Int32 → gM → Prop) (v1 : Int32) : Nat → Int32 → gM → Prop
  | 0, _, _ => False
  | n + 1, v2, M => gbr ((v2 : Int32) < (M 1 1)) (gbr ((v2 : Int32) = v1) (∀ x1 : Int32, x1 = (v2 + 1) → (w_X5_isMinimal_L2 Q K41 K33 v1 n (x1) M)) (vp_in v2 24 ∧ (vp_in v1 24 ∧ (w_X8_isWithin (M 9 (Int32.toNatClampNeg v2)) (M 9 (Int32.toNatClampNeg v1)) M (fun (r3 : Int32) (M2 : gM) => gbr ((r3 : Int32) = 0) (∀ x4 : Int32, x4 = (v2 + 1) → (w_X5_isMinimal_L2 Q K41 K33 v1 n (x4) M2)) (K33 (v2) M2)))))) (K41 (v2) M)
def w_X5_isMinimal (p1 : Int32) (M : gM) (Q : Int32 → gM → Prop) : Prop := ∃ nf, w_X5_isMinimal_L2 Q (fun (x5 : Int32) (M6 : gM) => Q 1 M6) (fun (x7 : Int32) (M8 : gM) => Q 0 M8) p1 nf 0 M
set_option maxRecDepth 100000 in
set_option maxHeartbeats 4000000 in
theorem w_X5_isMinimal_L2_w {X : gX} (ok : gOk X cX5_isMinimal yX5_isMinimal.cls 1 3 (some .boolean) gL) {Q : Int32 → gM → Prop} (hZ : gZi X Q) {K41 : Int32 → gM → Prop} {K33 : Int32 → gM → Prop} (v1 : Int32) (hK41 : ∀ (v2 : Int32)  (M : gM), K41 v2 M → gW X 41 [some (.inr 1), some (.inl v1), some (.inl v2)] [] M) (hK33 : ∀ (v2 : Int32)  (M : gM), K33 v2 M → gW X 33 [some (.inr 1), some (.inl v1), some (.inl v2)] [] M) : ∀ (n : Nat) (v2 : Int32)  (M : gM), w_X5_isMinimal_L2 Q K41 K33 v1 n v2 M → gW X 2 [some (.inr 1), some (.inl v1), some (.inl v2)] [] M
  | 0, _, _, h => h.elim
  | n + 1, v2, M, h => by
    have ih := fun (v2 : Int32)  (M : gM) h => w_X5_isMinimal_L2_w ok hZ v1 hK41 hK33 n v2  M h
    rw [w_X5_isMinimal_L2.eq_2] at h
    refine g_iload_n ok dX5_isMinimal_2 rfl rfl ?_
    refine g_aload_n ok dX5_isMinimal_3 rfl rfl ?_
    refine g_get (w := .inl (M 1 1)) ok f1_1 (gLm (by decide)) q1_62 dX5_isMinimal_4 rfl ?_
    refine g_icmp_ge (tgt := 41) ok dX5_isMinimal_7 (by decide) (fun z => ?_) (fun z => ?_)
    · have h := h.2 z
      exact hK41 (v2) M h
    · have h := h.1 z
      refine g_iload_n ok dX5_isMinimal_10 rfl rfl ?_
      refine g_iload_n ok dX5_isMinimal_11 rfl rfl ?_
      refine g_icmp_eq (tgt := 35) ok dX5_isMinimal_12 (by decide) (fun z => ?_) (fun z => ?_)
      · have h := h.1 z
        obtain ⟨x1, ex1⟩ : ∃ y : Int32, y = (v2 + 1) := ⟨_, rfl⟩
        have h := h x1 ex1
        refine g_iinc (v := x1) (lv1 := [some (.inr 1), some (.inl v1), some (.inl x1)]) ok dX5_isMinimal_35 rfl (by rw [ex1]; rfl) rfl ?_
        refine g_goto (tgt := 2) ok dX5_isMinimal_38 (by decide) ?_
        exact ih (x1) M h
      · have h := h.2 z
        refine g_aload_n ok dX5_isMinimal_15 rfl rfl ?_
        refine g_get (w := .inr 9) ok f1_2 (gLm (by decide)) q1_66 dX5_isMinimal_16 rfl ?_
        refine g_iload_n ok dX5_isMinimal_19 rfl rfl ?_
        have hb := h.1
        have h := h.2
        refine g_iald (w := (M 9 (Int32.toNatClampNeg v2))) ok a9 (gLm (by decide)) dX5_isMinimal_20 hb rfl ?_
        refine g_aload_n ok dX5_isMinimal_21 rfl rfl ?_
        refine g_get (w := .inr 9) ok f1_2 (gLm (by decide)) q1_66 dX5_isMinimal_22 rfl ?_
        refine g_iload_n ok dX5_isMinimal_25 rfl rfl ?_
        have hb := h.1
        have h := h.2
        refine g_iald (w := (M 9 (Int32.toNatClampNeg v1))) ok a9 (gLm (by decide)) dX5_isMinimal_26 hb rfl ?_
        refine g_callNi (st := []) (as := [.inl (M 9 (Int32.toNatClampNeg v2)), .inl (M 9 (Int32.toNatClampNeg v1))]) ok rfl (k_X8_isWithin h) s_X8_isWithin rfl (by decide) stt_X8_isWithin (gle rfl) rfl (List.mem_of_getElem? (i := 2) rfl) dX5_isMinimal_27 ?_
        intro r3 M2 h
        refine g_if_eq (tgt := 35) ok dX5_isMinimal_30 (by decide) (fun z => ?_) (fun z => ?_)
        · have h := h.1 z
          obtain ⟨x4, ex4⟩ : ∃ y : Int32, y = (v2 + 1) := ⟨_, rfl⟩
          have h := h x4 ex4
          refine g_iinc (v := x4) (lv1 := [some (.inr 1), some (.inl v1), some (.inl x4)]) ok dX5_isMinimal_35 rfl (by rw [ex4]; rfl) rfl ?_
          refine g_goto (tgt := 2) ok dX5_isMinimal_38 (by decide) ?_
          exact ih (x4) M2 h
        · have h := h.2 z
          exact hK33 (v2) M2 h
set_option maxRecDepth 100000 in
set_option maxHeartbeats 4000000 in
theorem k_X5_isMinimal {p1 : Int32} {M : gM} {Q : Int32 → gM → Prop} (h : w_X5_isMinimal p1 M Q) : gCi gL 1 yX5_isMinimal cX5_isMinimal 3 .boolean [.inr 1, .inl p1] M Q := by
  refine gCi_of (by decide) gLn (gle rfl) (fun X ok hZ => ?_)
  show gW X 0 [some (.inr 1), some (.inl p1), none] [] M
  unfold w_X5_isMinimal at h
  refine g_iconst (v := 0) ok dX5_isMinimal_0 (by decide) ?_
  refine g_istore_n (lv1 := [some (.inr 1), some (.inl p1), some (.inl 0)]) ok dX5_isMinimal_1 rfl (glt rfl) rfl ?_
  obtain ⟨nf, h⟩ := h
  refine w_X5_isMinimal_L2_w ok hZ p1 ?_ ?_ nf 0  M h
  · intro x5  M6 h
    refine g_iconst (v := 1) ok dX5_isMinimal_41 (by decide) ?_
    exact g_zret ok hZ dX5_isMinimal_42 (by decide) h
  · intro x7  M8 h
    refine g_iconst (v := 0) ok dX5_isMinimal_33 (by decide) ?_
    exact g_zret ok hZ dX5_isMinimal_34 (by decide) h
theorem dX5_minimalEdges_0 : decode cX5_minimalEdges 0 = .ok (.iconst 0, 1) := by decide +kernel
theorem dX5_minimalEdges_1 : decode cX5_minimalEdges 1 = .ok (.istore_n 1, 1) := by decide +kernel
theorem dX5_minimalEdges_2 : decode cX5_minimalEdges 2 = .ok (.iconst 0, 1) := by decide +kernel
theorem dX5_minimalEdges_3 : decode cX5_minimalEdges 3 = .ok (.istore_n 2, 1) := by decide +kernel
theorem dX5_minimalEdges_4 : decode cX5_minimalEdges 4 = .ok (.iload_n 2, 1) := by decide +kernel
theorem dX5_minimalEdges_5 : decode cX5_minimalEdges 5 = .ok (.aload_n 0, 1) := by decide +kernel
theorem dX5_minimalEdges_6 : decode cX5_minimalEdges 6 = .ok (.getfield 29, 3) := by decide +kernel
theorem dX5_minimalEdges_9 : decode cX5_minimalEdges 9 = .ok (.if_icmp .ge 23, 3) := by decide +kernel
theorem dX5_minimalEdges_12 : decode cX5_minimalEdges 12 = .ok (.aload_n 0, 1) := by decide +kernel
theorem dX5_minimalEdges_13 : decode cX5_minimalEdges 13 = .ok (.iload_n 2, 1) := by decide +kernel
theorem dX5_minimalEdges_14 : decode cX5_minimalEdges 14 = .ok (.invokevirtual 74, 3) := by decide +kernel
theorem dX5_minimalEdges_17 : decode cX5_minimalEdges 17 = .ok (.ifCond .eq 9, 3) := by decide +kernel
theorem dX5_minimalEdges_20 : decode cX5_minimalEdges 20 = .ok (.iload_n 1, 1) := by decide +kernel
theorem dX5_minimalEdges_21 : decode cX5_minimalEdges 21 = .ok (.iconst 1, 1) := by decide +kernel
theorem dX5_minimalEdges_22 : decode cX5_minimalEdges 22 = .ok (.iload_n 2, 1) := by decide +kernel
theorem dX5_minimalEdges_23 : decode cX5_minimalEdges 23 = .ok (.ishl, 1) := by decide +kernel
theorem dX5_minimalEdges_24 : decode cX5_minimalEdges 24 = .ok (.ior, 1) := by decide +kernel
theorem dX5_minimalEdges_25 : decode cX5_minimalEdges 25 = .ok (.istore_n 1, 1) := by decide +kernel
theorem dX5_minimalEdges_26 : decode cX5_minimalEdges 26 = .ok (.iinc 2 1, 3) := by decide +kernel
theorem dX5_minimalEdges_29 : decode cX5_minimalEdges 29 = .ok (.goto (-25), 3) := by decide +kernel
theorem dX5_minimalEdges_32 : decode cX5_minimalEdges 32 = .ok (.iload_n 1, 1) := by decide +kernel
theorem dX5_minimalEdges_33 : decode cX5_minimalEdges 33 = .ok (.ireturn, 1) := by decide +kernel
theorem s_X5_minimalEdges : gSt yX5_minimalEdges cX5_minimalEdges 3 (some .int) 0 := ⟨q2_105, q1_2, ⟨by decide, by decide, by decide +kernel⟩, by decide⟩
theorem sel_X5_minimalEdges : Cond.selects yX5_minimalEdges.cls yX5_minimalEdges yX5_minimalEdges ∈ gT := q2_104
theorem ins_X5_minimalEdges : Cond.instanceMethod yX5_minimalEdges ∈ gT := q2_103
def w_X5_minimalEdges_L4 (Q : Int32 → gM → Prop) (K32 : Int32 → Int32 → gM → Prop) : Nat → Int32 → Int32 → gM → Prop
  | 0, _, _, _ => False
  | n + 1, v1, v2, M => gbr ((v2 : Int32) < (M 1 1)) (w_X5_isMinimal v2 M (fun (r2 : Int32) (M1 : gM) => gbr ((r2 : Int32) = 0) (∀ x3 : Int32, x3 = (v2 + 1) → (w_X5_minimalEdges_L4 Q K32 n (v1) (x3) M1)) (∀ x4 : Int32, x4 = (v1 ||| (1 <<< (v2 &&& 31))) → (∀ x5 : Int32, x5 = (v2 + 1) → (w_X5_minimalEdges_L4 Q K32 n (x4) (x5) M1))))) (K32 (v1) (v2) M)
def w_X5_minimalEdges  (M : gM) (Q : Int32 → gM → Prop) : Prop := ∃ nf, w_X5_minimalEdges_L4 Q (fun (x6 : Int32) (x7 : Int32) (M8 : gM) => Q x6 M8)  nf 0 0 M
set_option maxRecDepth 100000 in
set_option maxHeartbeats 4000000 in
theorem w_X5_minimalEdges_L4_w {X : gX} (ok : gOk X cX5_minimalEdges yX5_minimalEdges.cls 2 3 (some .int) gL) {Q : Int32 → gM → Prop} (hZ : gZi X Q) {K32 : Int32 → Int32 → gM → Prop}  (hK32 : ∀ (v1 : Int32) (v2 : Int32)  (M : gM), K32 v1 v2 M → gW X 32 [some (.inr 1), some (.inl v1), some (.inl v2)] [] M) : ∀ (n : Nat) (v1 : Int32) (v2 : Int32)  (M : gM), w_X5_minimalEdges_L4 Q K32 n v1 v2 M → gW X 4 [some (.inr 1), some (.inl v1), some (.inl v2)] [] M
  | 0, _, _, _, h => h.elim
  | n + 1, v1, v2, M, h => by
    have ih := fun (v1 : Int32) (v2 : Int32)  (M : gM) h => w_X5_minimalEdges_L4_w ok hZ  hK32 n v1 v2  M h
    rw [w_X5_minimalEdges_L4.eq_2] at h
    refine g_iload_n ok dX5_minimalEdges_4 rfl rfl ?_
    refine g_aload_n ok dX5_minimalEdges_5 rfl rfl ?_
    refine g_get (w := .inl (M 1 1)) ok f1_1 (gLm (by decide)) q1_62 dX5_minimalEdges_6 rfl ?_
    refine g_icmp_ge (tgt := 32) ok dX5_minimalEdges_9 (by decide) (fun z => ?_) (fun z => ?_)
    · have h := h.2 z
      exact hK32 (v1) (v2) M h
    · have h := h.1 z
      refine g_aload_n ok dX5_minimalEdges_12 rfl rfl ?_
      refine g_iload_n ok dX5_minimalEdges_13 rfl rfl ?_
      refine g_callVi (st := []) (as := [.inl v2]) ok rfl (k_X5_isMinimal h) s_X5_isMinimal rfl (by decide) (gLm (by decide)) cl1 sel_X5_isMinimal ins_X5_isMinimal (gle rfl) rfl q2_106 dX5_minimalEdges_14 ?_
      intro r2 M1 h
      refine g_if_eq (tgt := 26) ok dX5_minimalEdges_17 (by decide) (fun z => ?_) (fun z => ?_)
      · have h := h.1 z
        obtain ⟨x3, ex3⟩ : ∃ y : Int32, y = (v2 + 1) := ⟨_, rfl⟩
        have h := h x3 ex3
        refine g_iinc (v := x3) (lv1 := [some (.inr 1), some (.inl v1), some (.inl x3)]) ok dX5_minimalEdges_26 rfl (by rw [ex3]; rfl) rfl ?_
        refine g_goto (tgt := 4) ok dX5_minimalEdges_29 (by decide) ?_
        exact ih (v1) (x3) M1 h
      · have h := h.2 z
        refine g_iload_n ok dX5_minimalEdges_20 rfl rfl ?_
        refine g_iconst (v := 1) ok dX5_minimalEdges_21 (by decide) ?_
        refine g_iload_n ok dX5_minimalEdges_22 rfl rfl ?_
        refine g_ishl ok dX5_minimalEdges_23 ?_
        refine g_ior ok dX5_minimalEdges_24 ?_
        refine g_nm (fun x4 ex4 => ?_)
        have h := h x4 ex4
        refine g_istore_n (lv1 := [some (.inr 1), some (.inl x4), some (.inl v2)]) ok dX5_minimalEdges_25 rfl (glt rfl) rfl ?_
        obtain ⟨x5, ex5⟩ : ∃ y : Int32, y = (v2 + 1) := ⟨_, rfl⟩
        have h := h x5 ex5
        refine g_iinc (v := x5) (lv1 := [some (.inr 1), some (.inl x4), some (.inl x5)]) ok dX5_minimalEdges_26 rfl (by rw [ex5]; rfl) rfl ?_
        refine g_goto (tgt := 4) ok dX5_minimalEdges_29 (by decide) ?_
        exact ih (x4) (x5) M1 h
set_option maxRecDepth 100000 in
set_option maxHeartbeats 4000000 in
theorem k_X5_minimalEdges  {M : gM} {Q : Int32 → gM → Prop} (h : w_X5_minimalEdges  M Q) : gCi gL 2 yX5_minimalEdges cX5_minimalEdges 3 .int [.inr 1] M Q := by
  refine gCi_of (by decide) gLn (gle rfl) (fun X ok hZ => ?_)
  show gW X 0 [some (.inr 1), none, none] [] M
  unfold w_X5_minimalEdges at h
  refine g_iconst (v := 0) ok dX5_minimalEdges_0 (by decide) ?_
  refine g_istore_n (lv1 := [some (.inr 1), some (.inl 0), none]) ok dX5_minimalEdges_1 rfl (glt rfl) rfl ?_
  refine g_iconst (v := 0) ok dX5_minimalEdges_2 (by decide) ?_
  refine g_istore_n (lv1 := [some (.inr 1), some (.inl 0), some (.inl 0)]) ok dX5_minimalEdges_3 rfl (glt rfl) rfl ?_
  obtain ⟨nf, h⟩ := h
  refine w_X5_minimalEdges_L4_w ok hZ  ?_ nf 0 0  M h
  · intro x6 x7  M8 h
    refine g_iload_n ok dX5_minimalEdges_32 rfl rfl ?_
    exact g_iret ok hZ dX5_minimalEdges_33 h
theorem dX5_unionOf_0 : decode cX5_unionOf 0 = .ok (.iconst 0, 1) := by decide +kernel
theorem dX5_unionOf_1 : decode cX5_unionOf 1 = .ok (.istore_n 2, 1) := by decide +kernel
theorem dX5_unionOf_2 : decode cX5_unionOf 2 = .ok (.iconst 0, 1) := by decide +kernel
theorem dX5_unionOf_3 : decode cX5_unionOf 3 = .ok (.istore_n 3, 1) := by decide +kernel
theorem dX5_unionOf_4 : decode cX5_unionOf 4 = .ok (.iload_n 3, 1) := by decide +kernel
theorem dX5_unionOf_5 : decode cX5_unionOf 5 = .ok (.aload_n 0, 1) := by decide +kernel
theorem dX5_unionOf_6 : decode cX5_unionOf 6 = .ok (.getfield 29, 3) := by decide +kernel
theorem dX5_unionOf_9 : decode cX5_unionOf 9 = .ok (.if_icmp .ge 26, 3) := by decide +kernel
theorem dX5_unionOf_12 : decode cX5_unionOf 12 = .ok (.iload_n 1, 1) := by decide +kernel
theorem dX5_unionOf_13 : decode cX5_unionOf 13 = .ok (.iload_n 3, 1) := by decide +kernel
theorem dX5_unionOf_14 : decode cX5_unionOf 14 = .ok (.invokestatic 42, 3) := by decide +kernel
theorem dX5_unionOf_17 : decode cX5_unionOf 17 = .ok (.ifCond .eq 12, 3) := by decide +kernel
theorem dX5_unionOf_20 : decode cX5_unionOf 20 = .ok (.iload_n 2, 1) := by decide +kernel
theorem dX5_unionOf_21 : decode cX5_unionOf 21 = .ok (.aload_n 0, 1) := by decide +kernel
theorem dX5_unionOf_22 : decode cX5_unionOf 22 = .ok (.getfield 15, 3) := by decide +kernel
theorem dX5_unionOf_25 : decode cX5_unionOf 25 = .ok (.iload_n 3, 1) := by decide +kernel
theorem dX5_unionOf_26 : decode cX5_unionOf 26 = .ok (.iaload, 1) := by decide +kernel
theorem dX5_unionOf_27 : decode cX5_unionOf 27 = .ok (.ior, 1) := by decide +kernel
theorem dX5_unionOf_28 : decode cX5_unionOf 28 = .ok (.istore_n 2, 1) := by decide +kernel
theorem dX5_unionOf_29 : decode cX5_unionOf 29 = .ok (.iinc 3 1, 3) := by decide +kernel
theorem dX5_unionOf_32 : decode cX5_unionOf 32 = .ok (.goto (-28), 3) := by decide +kernel
theorem dX5_unionOf_35 : decode cX5_unionOf 35 = .ok (.iload_n 2, 1) := by decide +kernel
theorem dX5_unionOf_36 : decode cX5_unionOf 36 = .ok (.ireturn, 1) := by decide +kernel
theorem s_X5_unionOf : gSt yX5_unionOf cX5_unionOf 4 (some .int) 1 := ⟨q2_214, q1_2, ⟨by decide, by decide, by decide +kernel⟩, by decide⟩
theorem sel_X5_unionOf : Cond.selects yX5_unionOf.cls yX5_unionOf yX5_unionOf ∈ gT := q2_213
theorem ins_X5_unionOf : Cond.instanceMethod yX5_unionOf ∈ gT := q2_212
def w_X5_unionOf_L4 (Q : Int32 → gM → Prop) (K35 : Int32 → Int32 → gM → Prop) (v1 : Int32) : Nat → Int32 → Int32 → gM → Prop
  | 0, _, _, _ => False
  | n + 1, v2, v3, M => gbr ((v3 : Int32) < (M 1 1)) (w_X8_has v1 v3 M (fun (r2 : Int32) (M1 : gM) => gbr ((r2 : Int32) = 0) (∀ x3 : Int32, x3 = (v3 + 1) → (w_X5_unionOf_L4 Q K35 v1 n (v2) (x3) M1)) (vp_in v3 24 ∧ (∀ x4 : Int32, x4 = (v2 ||| (M1 9 (Int32.toNatClampNeg v3))) → (∀ x5 : Int32, x5 = (v3 + 1) → (w_X5_unionOf_L4 Q K35 v1 n (x4) (x5) M1)))))) (K35 (v2) (v3) M)
def w_X5_unionOf (p1 : Int32) (M : gM) (Q : Int32 → gM → Prop) : Prop := ∃ nf, w_X5_unionOf_L4 Q (fun (x6 : Int32) (x7 : Int32) (M8 : gM) => Q x6 M8) p1 nf 0 0 M
set_option maxRecDepth 100000 in
set_option maxHeartbeats 4000000 in
theorem w_X5_unionOf_L4_w {X : gX} (ok : gOk X cX5_unionOf yX5_unionOf.cls 1 4 (some .int) gL) {Q : Int32 → gM → Prop} (hZ : gZi X Q) {K35 : Int32 → Int32 → gM → Prop} (v1 : Int32) (hK35 : ∀ (v2 : Int32) (v3 : Int32)  (M : gM), K35 v2 v3 M → gW X 35 [some (.inr 1), some (.inl v1), some (.inl v2), some (.inl v3)] [] M) : ∀ (n : Nat) (v2 : Int32) (v3 : Int32)  (M : gM), w_X5_unionOf_L4 Q K35 v1 n v2 v3 M → gW X 4 [some (.inr 1), some (.inl v1), some (.inl v2), some (.inl v3)] [] M
  | 0, _, _, _, h => h.elim
  | n + 1, v2, v3, M, h => by
    have ih := fun (v2 : Int32) (v3 : Int32)  (M : gM) h => w_X5_unionOf_L4_w ok hZ v1 hK35 n v2 v3  M h
    rw [w_X5_unionOf_L4.eq_2] at h
    refine g_iload_n ok dX5_unionOf_4 rfl rfl ?_
    refine g_aload_n ok dX5_unionOf_5 rfl rfl ?_
    refine g_get (w := .inl (M 1 1)) ok f1_1 (gLm (by decide)) q1_62 dX5_unionOf_6 rfl ?_
    refine g_icmp_ge (tgt := 35) ok dX5_unionOf_9 (by decide) (fun z => ?_) (fun z => ?_)
    · have h := h.2 z
      exact hK35 (v2) (v3) M h
    · have h := h.1 z
      refine g_iload_n ok dX5_unionOf_12 rfl rfl ?_
      refine g_iload_n ok dX5_unionOf_13 rfl rfl ?_
      refine g_callNi (st := []) (as := [.inl v1, .inl v3]) ok rfl (k_X8_has h) s_X8_has rfl (by decide) stt_X8_has (gle rfl) rfl (List.mem_of_getElem? (i := 1) rfl) dX5_unionOf_14 ?_
      intro r2 M1 h
      refine g_if_eq (tgt := 29) ok dX5_unionOf_17 (by decide) (fun z => ?_) (fun z => ?_)
      · have h := h.1 z
        obtain ⟨x3, ex3⟩ : ∃ y : Int32, y = (v3 + 1) := ⟨_, rfl⟩
        have h := h x3 ex3
        refine g_iinc (v := x3) (lv1 := [some (.inr 1), some (.inl v1), some (.inl v2), some (.inl x3)]) ok dX5_unionOf_29 rfl (by rw [ex3]; rfl) rfl ?_
        refine g_goto (tgt := 4) ok dX5_unionOf_32 (by decide) ?_
        exact ih (v2) (x3) M1 h
      · have h := h.2 z
        refine g_iload_n ok dX5_unionOf_20 rfl rfl ?_
        refine g_aload_n ok dX5_unionOf_21 rfl rfl ?_
        refine g_get (w := .inr 9) ok f1_2 (gLm (by decide)) q1_66 dX5_unionOf_22 rfl ?_
        refine g_iload_n ok dX5_unionOf_25 rfl rfl ?_
        have hb := h.1
        have h := h.2
        refine g_iald (w := (M1 9 (Int32.toNatClampNeg v3))) ok a9 (gLm (by decide)) dX5_unionOf_26 hb rfl ?_
        refine g_ior ok dX5_unionOf_27 ?_
        refine g_nm (fun x4 ex4 => ?_)
        have h := h x4 ex4
        refine g_istore_n (lv1 := [some (.inr 1), some (.inl v1), some (.inl x4), some (.inl v3)]) ok dX5_unionOf_28 rfl (glt rfl) rfl ?_
        obtain ⟨x5, ex5⟩ : ∃ y : Int32, y = (v3 + 1) := ⟨_, rfl⟩
        have h := h x5 ex5
        refine g_iinc (v := x5) (lv1 := [some (.inr 1), some (.inl v1), some (.inl x4), some (.inl x5)]) ok dX5_unionOf_29 rfl (by rw [ex5]; rfl) rfl ?_
        refine g_goto (tgt := 4) ok dX5_unionOf_32 (by decide) ?_
        exact ih (x4) (x5) M1 h
set_option maxRecDepth 100000 in
set_option maxHeartbeats 4000000 in
theorem k_X5_unionOf {p1 : Int32} {M : gM} {Q : Int32 → gM → Prop} (h : w_X5_unionOf p1 M Q) : gCi gL 1 yX5_unionOf cX5_unionOf 4 .int [.inr 1, .inl p1] M Q := by
  refine gCi_of (by decide) gLn (gle rfl) (fun X ok hZ => ?_)
  show gW X 0 [some (.inr 1), some (.inl p1), none, none] [] M
  unfold w_X5_unionOf at h
  refine g_iconst (v := 0) ok dX5_unionOf_0 (by decide) ?_
  refine g_istore_n (lv1 := [some (.inr 1), some (.inl p1), some (.inl 0), none]) ok dX5_unionOf_1 rfl (glt rfl) rfl ?_
  refine g_iconst (v := 0) ok dX5_unionOf_2 (by decide) ?_
  refine g_istore_n (lv1 := [some (.inr 1), some (.inl p1), some (.inl 0), some (.inl 0)]) ok dX5_unionOf_3 rfl (glt rfl) rfl ?_
  obtain ⟨nf, h⟩ := h
  refine w_X5_unionOf_L4_w ok hZ p1 ?_ nf 0 0  M h
  · intro x6 x7  M8 h
    refine g_iload_n ok dX5_unionOf_35 rfl rfl ?_
    exact g_iret ok hZ dX5_unionOf_36 h
theorem dX5_smallestSize_0 : decode cX5_smallestSize 0 = .ok (.aload_n 0, 1) := by decide +kernel
theorem dX5_smallestSize_1 : decode cX5_smallestSize 1 = .ok (.getfield 29, 3) := by decide +kernel
theorem dX5_smallestSize_4 : decode cX5_smallestSize 4 = .ok (.ifCond .ne 5, 3) := by decide +kernel
theorem dX5_smallestSize_7 : decode cX5_smallestSize 7 = .ok (.iconst 0, 1) := by decide +kernel
theorem dX5_smallestSize_8 : decode cX5_smallestSize 8 = .ok (.ireturn, 1) := by decide +kernel
theorem dX5_smallestSize_9 : decode cX5_smallestSize 9 = .ok (.bipush 14, 2) := by decide +kernel
theorem dX5_smallestSize_11 : decode cX5_smallestSize 11 = .ok (.istore_n 1, 1) := by decide +kernel
theorem dX5_smallestSize_12 : decode cX5_smallestSize 12 = .ok (.iconst 0, 1) := by decide +kernel
theorem dX5_smallestSize_13 : decode cX5_smallestSize 13 = .ok (.istore_n 2, 1) := by decide +kernel
theorem dX5_smallestSize_14 : decode cX5_smallestSize 14 = .ok (.iload_n 2, 1) := by decide +kernel
theorem dX5_smallestSize_15 : decode cX5_smallestSize 15 = .ok (.aload_n 0, 1) := by decide +kernel
theorem dX5_smallestSize_16 : decode cX5_smallestSize 16 = .ok (.getfield 29, 3) := by decide +kernel
theorem dX5_smallestSize_19 : decode cX5_smallestSize 19 = .ok (.if_icmp .ge 23, 3) := by decide +kernel
theorem dX5_smallestSize_22 : decode cX5_smallestSize 22 = .ok (.iload_n 1, 1) := by decide +kernel
theorem dX5_smallestSize_23 : decode cX5_smallestSize 23 = .ok (.aload_n 0, 1) := by decide +kernel
theorem dX5_smallestSize_24 : decode cX5_smallestSize 24 = .ok (.getfield 15, 3) := by decide +kernel
theorem dX5_smallestSize_27 : decode cX5_smallestSize 27 = .ok (.iload_n 2, 1) := by decide +kernel
theorem dX5_smallestSize_28 : decode cX5_smallestSize 28 = .ok (.iaload, 1) := by decide +kernel
theorem dX5_smallestSize_29 : decode cX5_smallestSize 29 = .ok (.invokestatic 80, 3) := by decide +kernel
theorem dX5_smallestSize_32 : decode cX5_smallestSize 32 = .ok (.invokestatic 86, 3) := by decide +kernel
theorem dX5_smallestSize_35 : decode cX5_smallestSize 35 = .ok (.istore_n 1, 1) := by decide +kernel
theorem dX5_smallestSize_36 : decode cX5_smallestSize 36 = .ok (.iinc 2 1, 3) := by decide +kernel
theorem dX5_smallestSize_39 : decode cX5_smallestSize 39 = .ok (.goto (-25), 3) := by decide +kernel
theorem dX5_smallestSize_42 : decode cX5_smallestSize 42 = .ok (.iload_n 1, 1) := by decide +kernel
theorem dX5_smallestSize_43 : decode cX5_smallestSize 43 = .ok (.ireturn, 1) := by decide +kernel
theorem s_X5_smallestSize : gSt yX5_smallestSize cX5_smallestSize 3 (some .int) 0 := ⟨q2_209, q1_2, ⟨by decide, by decide, by decide +kernel⟩, by decide⟩
theorem sel_X5_smallestSize : Cond.selects yX5_smallestSize.cls yX5_smallestSize yX5_smallestSize ∈ gT := q2_208
theorem ins_X5_smallestSize : Cond.instanceMethod yX5_smallestSize ∈ gT := q2_207
def w_X5_smallestSize_L14 (Q : Int32 → gM → Prop) (K42 : Int32 → Int32 → gM → Prop) : Nat → Int32 → Int32 → gM → Prop
  | 0, _, _, _ => False
  | n + 1, v1, v2, M => gbr ((v2 : Int32) < (M 1 1)) (vp_in v2 24 ∧ (w_J6_bitCount_0f7a4 (M 9 (Int32.toNatClampNeg v2)) M (fun (r2 : Int32) (M1 : gM) => ∀ x3 : Int32, x3 = (if r2 < v1 then r2 else v1) → (∀ x4 : Int32, x4 = (v2 + 1) → (w_X5_smallestSize_L14 Q K42 n (x3) (x4) M1))))) (K42 (v1) (v2) M)
def w_X5_smallestSize  (M : gM) (Q : Int32 → gM → Prop) : Prop := gbr (((M 1 1) : Int32) = 0) (Q 0 M) (∃ nf, w_X5_smallestSize_L14 Q (fun (x5 : Int32) (x6 : Int32) (M7 : gM) => Q x5 M7)  nf 14 0 M)
set_option maxRecDepth 100000 in
set_option maxHeartbeats 4000000 in
theorem w_X5_smallestSize_L14_w {X : gX} (ok : gOk X cX5_smallestSize yX5_smallestSize.cls 1 3 (some .int) gL) {Q : Int32 → gM → Prop} (hZ : gZi X Q) {K42 : Int32 → Int32 → gM → Prop}  (hK42 : ∀ (v1 : Int32) (v2 : Int32)  (M : gM), K42 v1 v2 M → gW X 42 [some (.inr 1), some (.inl v1), some (.inl v2)] [] M) : ∀ (n : Nat) (v1 : Int32) (v2 : Int32)  (M : gM), w_X5_smallestSize_L14 Q K42 n v1 v2 M → gW X 14 [some (.inr 1), some (.inl v1), some (.inl v2)] [] M
  | 0, _, _, _, h => h.elim
  | n + 1, v1, v2, M, h => by
    have ih := fun (v1 : Int32) (v2 : Int32)  (M : gM) h => w_X5_smallestSize_L14_w ok hZ  hK42 n v1 v2  M h
    rw [w_X5_smallestSize_L14.eq_2] at h
    refine g_iload_n ok dX5_smallestSize_14 rfl rfl ?_
    refine g_aload_n ok dX5_smallestSize_15 rfl rfl ?_
    refine g_get (w := .inl (M 1 1)) ok f1_1 (gLm (by decide)) q1_62 dX5_smallestSize_16 rfl ?_
    refine g_icmp_ge (tgt := 42) ok dX5_smallestSize_19 (by decide) (fun z => ?_) (fun z => ?_)
    · have h := h.2 z
      exact hK42 (v1) (v2) M h
    · have h := h.1 z
      refine g_iload_n ok dX5_smallestSize_22 rfl rfl ?_
      refine g_aload_n ok dX5_smallestSize_23 rfl rfl ?_
      refine g_get (w := .inr 9) ok f1_2 (gLm (by decide)) q1_66 dX5_smallestSize_24 rfl ?_
      refine g_iload_n ok dX5_smallestSize_27 rfl rfl ?_
      have hb := h.1
      have h := h.2
      refine g_iald (w := (M 9 (Int32.toNatClampNeg v2))) ok a9 (gLm (by decide)) dX5_smallestSize_28 hb rfl ?_
      refine g_callSi (st := [.inl v1]) (as := [.inl (M 9 (Int32.toNatClampNeg v2))]) ok rfl (k_J6_bitCount_0f7a4 h) s_J6_bitCount_0f7a4 rfl (by decide) stt_J6_bitCount_0f7a4 (gle rfl) rfl q2_156 dX5_smallestSize_29 ?_
      intro r2 M1 h
      refine g_mmin ok rfl (by decide) (gle rfl) q2_210 q2_79 q1_12 q2_80 dX5_smallestSize_32 ?_
      refine g_nm (fun x3 ex3 => ?_)
      have h := h x3 ex3
      refine g_istore_n (lv1 := [some (.inr 1), some (.inl x3), some (.inl v2)]) ok dX5_smallestSize_35 rfl (glt rfl) rfl ?_
      obtain ⟨x4, ex4⟩ : ∃ y : Int32, y = (v2 + 1) := ⟨_, rfl⟩
      have h := h x4 ex4
      refine g_iinc (v := x4) (lv1 := [some (.inr 1), some (.inl x3), some (.inl x4)]) ok dX5_smallestSize_36 rfl (by rw [ex4]; rfl) rfl ?_
      refine g_goto (tgt := 14) ok dX5_smallestSize_39 (by decide) ?_
      exact ih (x3) (x4) M1 h
set_option maxRecDepth 100000 in
set_option maxHeartbeats 4000000 in
theorem k_X5_smallestSize  {M : gM} {Q : Int32 → gM → Prop} (h : w_X5_smallestSize  M Q) : gCi gL 1 yX5_smallestSize cX5_smallestSize 3 .int [.inr 1] M Q := by
  refine gCi_of (by decide) gLn (gle rfl) (fun X ok hZ => ?_)
  show gW X 0 [some (.inr 1), none, none] [] M
  unfold w_X5_smallestSize at h
  refine g_aload_n ok dX5_smallestSize_0 rfl rfl ?_
  refine g_get (w := .inl (M 1 1)) ok f1_1 (gLm (by decide)) q1_62 dX5_smallestSize_1 rfl ?_
  refine g_if_ne (tgt := 9) ok dX5_smallestSize_4 (by decide) (fun z => ?_) (fun z => ?_)
  · have h := h.2 z
    refine g_bipush (v := 14) ok dX5_smallestSize_9 (by decide) ?_
    refine g_istore_n (lv1 := [some (.inr 1), some (.inl 14), none]) ok dX5_smallestSize_11 rfl (glt rfl) rfl ?_
    refine g_iconst (v := 0) ok dX5_smallestSize_12 (by decide) ?_
    refine g_istore_n (lv1 := [some (.inr 1), some (.inl 14), some (.inl 0)]) ok dX5_smallestSize_13 rfl (glt rfl) rfl ?_
    obtain ⟨nf, h⟩ := h
    refine w_X5_smallestSize_L14_w ok hZ  ?_ nf 14 0  M h
    · intro x5 x6  M7 h
      refine g_iload_n ok dX5_smallestSize_42 rfl rfl ?_
      exact g_iret ok hZ dX5_smallestSize_43 h
  · have h := h.1 z
    refine g_iconst (v := 0) ok dX5_smallestSize_7 (by decide) ?_
    exact g_iret ok hZ dX5_smallestSize_8 h
theorem dX5_eachTwoMeet_0 : decode cX5_eachTwoMeet 0 = .ok (.iconst 0, 1) := by decide +kernel
theorem dX5_eachTwoMeet_1 : decode cX5_eachTwoMeet 1 = .ok (.istore_n 1, 1) := by decide +kernel
theorem dX5_eachTwoMeet_2 : decode cX5_eachTwoMeet 2 = .ok (.iload_n 1, 1) := by decide +kernel
theorem dX5_eachTwoMeet_3 : decode cX5_eachTwoMeet 3 = .ok (.aload_n 0, 1) := by decide +kernel
theorem dX5_eachTwoMeet_4 : decode cX5_eachTwoMeet 4 = .ok (.getfield 29, 3) := by decide +kernel
theorem dX5_eachTwoMeet_7 : decode cX5_eachTwoMeet 7 = .ok (.if_icmp .ge 40, 3) := by decide +kernel
theorem dX5_eachTwoMeet_10 : decode cX5_eachTwoMeet 10 = .ok (.iconst 0, 1) := by decide +kernel
theorem dX5_eachTwoMeet_11 : decode cX5_eachTwoMeet 11 = .ok (.istore_n 2, 1) := by decide +kernel
theorem dX5_eachTwoMeet_12 : decode cX5_eachTwoMeet 12 = .ok (.iload_n 2, 1) := by decide +kernel
theorem dX5_eachTwoMeet_13 : decode cX5_eachTwoMeet 13 = .ok (.iload_n 1, 1) := by decide +kernel
theorem dX5_eachTwoMeet_14 : decode cX5_eachTwoMeet 14 = .ok (.if_icmp .ge 27, 3) := by decide +kernel
theorem dX5_eachTwoMeet_17 : decode cX5_eachTwoMeet 17 = .ok (.aload_n 0, 1) := by decide +kernel
theorem dX5_eachTwoMeet_18 : decode cX5_eachTwoMeet 18 = .ok (.getfield 15, 3) := by decide +kernel
theorem dX5_eachTwoMeet_21 : decode cX5_eachTwoMeet 21 = .ok (.iload_n 1, 1) := by decide +kernel
theorem dX5_eachTwoMeet_22 : decode cX5_eachTwoMeet 22 = .ok (.iaload, 1) := by decide +kernel
theorem dX5_eachTwoMeet_23 : decode cX5_eachTwoMeet 23 = .ok (.aload_n 0, 1) := by decide +kernel
theorem dX5_eachTwoMeet_24 : decode cX5_eachTwoMeet 24 = .ok (.getfield 15, 3) := by decide +kernel
theorem dX5_eachTwoMeet_27 : decode cX5_eachTwoMeet 27 = .ok (.iload_n 2, 1) := by decide +kernel
theorem dX5_eachTwoMeet_28 : decode cX5_eachTwoMeet 28 = .ok (.iaload, 1) := by decide +kernel
theorem dX5_eachTwoMeet_29 : decode cX5_eachTwoMeet 29 = .ok (.iand, 1) := by decide +kernel
theorem dX5_eachTwoMeet_30 : decode cX5_eachTwoMeet 30 = .ok (.ifCond .ne 5, 3) := by decide +kernel
theorem dX5_eachTwoMeet_33 : decode cX5_eachTwoMeet 33 = .ok (.iconst 0, 1) := by decide +kernel
theorem dX5_eachTwoMeet_34 : decode cX5_eachTwoMeet 34 = .ok (.ireturn, 1) := by decide +kernel
theorem dX5_eachTwoMeet_35 : decode cX5_eachTwoMeet 35 = .ok (.iinc 2 1, 3) := by decide +kernel
theorem dX5_eachTwoMeet_38 : decode cX5_eachTwoMeet 38 = .ok (.goto (-26), 3) := by decide +kernel
theorem dX5_eachTwoMeet_41 : decode cX5_eachTwoMeet 41 = .ok (.iinc 1 1, 3) := by decide +kernel
theorem dX5_eachTwoMeet_44 : decode cX5_eachTwoMeet 44 = .ok (.goto (-42), 3) := by decide +kernel
theorem dX5_eachTwoMeet_47 : decode cX5_eachTwoMeet 47 = .ok (.iconst 1, 1) := by decide +kernel
theorem dX5_eachTwoMeet_48 : decode cX5_eachTwoMeet 48 = .ok (.ireturn, 1) := by decide +kernel
theorem s_X5_eachTwoMeet : gSt yX5_eachTwoMeet cX5_eachTwoMeet 3 (some .boolean) 0 := ⟨q3_183, q1_2, ⟨by decide, by decide, by decide +kernel⟩, by decide⟩
theorem sel_X5_eachTwoMeet : Cond.selects yX5_eachTwoMeet.cls yX5_eachTwoMeet yX5_eachTwoMeet ∈ gT := q3_182
theorem ins_X5_eachTwoMeet : Cond.instanceMethod yX5_eachTwoMeet ∈ gT := q3_181
def w_X5_eachTwoMeet_L12 (Q : Int32 → gM → Prop) (K41 : Int32 → gM → Prop) (K33 : Int32 → gM → Prop) (v1 : Int32) : Nat → Int32 → gM → Prop
  | 0, _, _ => False
  | n + 1, v2, M => gbr ((v2 : Int32) < v1) (vp_in v1 24 ∧ (vp_in v2 24 ∧ (gbr ((((M 9 (Int32.toNatClampNeg v1)) &&& (M 9 (Int32.toNatClampNeg v2))) : Int32) = 0) (K33 (v2) M) (∀ x1 : Int32, x1 = (v2 + 1) → (w_X5_eachTwoMeet_L12 Q K41 K33 v1 n (x1) M))))) (K41 (v2) M)
def w_X5_eachTwoMeet_L2 (Q : Int32 → gM → Prop) (K47 : Int32 → gM → Prop) (K33 : Int32 → gM → Prop) : Nat → Int32 → gM → Prop
  | 0, _, _ => False
  | n + 1, v1, M => gbr ((v1 : Int32) < (M 1 1)) (∃ nf, w_X5_eachTwoMeet_L12 Q (fun (x2 : Int32) (M3 : gM) => ∀ x4 : Int32, x4 = (v1 + 1) → (w_X5_eachTwoMeet_L2 Q K47 K33 n (x4) M3)) (fun (x5 : Int32) (M6 : gM) => K33 (v1) M6) v1 nf 0 M) (K47 (v1) M)
def w_X5_eachTwoMeet  (M : gM) (Q : Int32 → gM → Prop) : Prop := ∃ nf, w_X5_eachTwoMeet_L2 Q (fun (x7 : Int32) (M9 : gM) => Q 1 M9) (fun (x10 : Int32) (M12 : gM) => Q 0 M12)  nf 0 M
set_option maxRecDepth 100000 in
set_option maxHeartbeats 4000000 in
theorem w_X5_eachTwoMeet_L12_w {X : gX} (ok : gOk X cX5_eachTwoMeet yX5_eachTwoMeet.cls 0 3 (some .boolean) gL) {Q : Int32 → gM → Prop} (hZ : gZi X Q) {K41 : Int32 → gM → Prop} {K33 : Int32 → gM → Prop} (v1 : Int32) (hK41 : ∀ (v2 : Int32)  (M : gM), K41 v2 M → gW X 41 [some (.inr 1), some (.inl v1), some (.inl v2)] [] M) (hK33 : ∀ (v2 : Int32)  (M : gM), K33 v2 M → gW X 33 [some (.inr 1), some (.inl v1), some (.inl v2)] [] M) : ∀ (n : Nat) (v2 : Int32)  (M : gM), w_X5_eachTwoMeet_L12 Q K41 K33 v1 n v2 M → gW X 12 [some (.inr 1), some (.inl v1), some (.inl v2)] [] M
  | 0, _, _, h => h.elim
  | n + 1, v2, M, h => by
    have ih := fun (v2 : Int32)  (M : gM) h => w_X5_eachTwoMeet_L12_w ok hZ v1 hK41 hK33 n v2  M h
    rw [w_X5_eachTwoMeet_L12.eq_2] at h
    refine g_iload_n ok dX5_eachTwoMeet_12 rfl rfl ?_
    refine g_iload_n ok dX5_eachTwoMeet_13 rfl rfl ?_
    refine g_icmp_ge (tgt := 41) ok dX5_eachTwoMeet_14 (by decide) (fun z => ?_) (fun z => ?_)
    · have h := h.2 z
      exact hK41 (v2) M h
    · have h := h.1 z
      refine g_aload_n ok dX5_eachTwoMeet_17 rfl rfl ?_
      refine g_get (w := .inr 9) ok f1_2 (gLm (by decide)) q1_66 dX5_eachTwoMeet_18 rfl ?_
      refine g_iload_n ok dX5_eachTwoMeet_21 rfl rfl ?_
      have hb := h.1
      have h := h.2
      refine g_iald (w := (M 9 (Int32.toNatClampNeg v1))) ok a9 (gLm (by decide)) dX5_eachTwoMeet_22 hb rfl ?_
      refine g_aload_n ok dX5_eachTwoMeet_23 rfl rfl ?_
      refine g_get (w := .inr 9) ok f1_2 (gLm (by decide)) q1_66 dX5_eachTwoMeet_24 rfl ?_
      refine g_iload_n ok dX5_eachTwoMeet_27 rfl rfl ?_
      have hb := h.1
      have h := h.2
      refine g_iald (w := (M 9 (Int32.toNatClampNeg v2))) ok a9 (gLm (by decide)) dX5_eachTwoMeet_28 hb rfl ?_
      refine g_iand ok dX5_eachTwoMeet_29 ?_
      refine g_if_ne (tgt := 35) ok dX5_eachTwoMeet_30 (by decide) (fun z => ?_) (fun z => ?_)
      · have h := h.2 z
        obtain ⟨x1, ex1⟩ : ∃ y : Int32, y = (v2 + 1) := ⟨_, rfl⟩
        have h := h x1 ex1
        refine g_iinc (v := x1) (lv1 := [some (.inr 1), some (.inl v1), some (.inl x1)]) ok dX5_eachTwoMeet_35 rfl (by rw [ex1]; rfl) rfl ?_
        refine g_goto (tgt := 12) ok dX5_eachTwoMeet_38 (by decide) ?_
        exact ih (x1) M h
      · have h := h.1 z
        exact hK33 (v2) M h
set_option maxRecDepth 100000 in
set_option maxHeartbeats 4000000 in
theorem w_X5_eachTwoMeet_L2_w {X : gX} (ok : gOk X cX5_eachTwoMeet yX5_eachTwoMeet.cls 0 3 (some .boolean) gL) {Q : Int32 → gM → Prop} (hZ : gZi X Q) {K47 : Int32 → gM → Prop} {K33 : Int32 → gM → Prop}  (hK47 : ∀ (v1 : Int32) (u2 : Option gV) (M : gM), K47 v1 M → gW X 47 [some (.inr 1), some (.inl v1), u2] [] M) (hK33 : ∀ (v1 : Int32) (u2 : Option gV) (M : gM), K33 v1 M → gW X 33 [some (.inr 1), some (.inl v1), u2] [] M) : ∀ (n : Nat) (v1 : Int32) (u2 : Option gV) (M : gM), w_X5_eachTwoMeet_L2 Q K47 K33 n v1 M → gW X 2 [some (.inr 1), some (.inl v1), u2] [] M
  | 0, _, _, _, h => h.elim
  | n + 1, v1, u2, M, h => by
    have ih := fun (v1 : Int32) (u2 : Option gV) (M : gM) h => w_X5_eachTwoMeet_L2_w ok hZ  hK47 hK33 n v1 u2 M h
    rw [w_X5_eachTwoMeet_L2.eq_2] at h
    refine g_iload_n ok dX5_eachTwoMeet_2 rfl rfl ?_
    refine g_aload_n ok dX5_eachTwoMeet_3 rfl rfl ?_
    refine g_get (w := .inl (M 1 1)) ok f1_1 (gLm (by decide)) q1_62 dX5_eachTwoMeet_4 rfl ?_
    refine g_icmp_ge (tgt := 47) ok dX5_eachTwoMeet_7 (by decide) (fun z => ?_) (fun z => ?_)
    · have h := h.2 z
      exact hK47 (v1) (u2) M h
    · have h := h.1 z
      refine g_iconst (v := 0) ok dX5_eachTwoMeet_10 (by decide) ?_
      refine g_istore_n (lv1 := [some (.inr 1), some (.inl v1), some (.inl 0)]) ok dX5_eachTwoMeet_11 rfl (glt rfl) rfl ?_
      obtain ⟨nf, h⟩ := h
      refine w_X5_eachTwoMeet_L12_w ok hZ v1 ?_ ?_ nf 0  M h
      · intro x2  M3 h
        obtain ⟨x4, ex4⟩ : ∃ y : Int32, y = (v1 + 1) := ⟨_, rfl⟩
        have h := h x4 ex4
        refine g_iinc (v := x4) (lv1 := [some (.inr 1), some (.inl x4), some (.inl x2)]) ok dX5_eachTwoMeet_41 rfl (by rw [ex4]; rfl) rfl ?_
        refine g_goto (tgt := 2) ok dX5_eachTwoMeet_44 (by decide) ?_
        exact ih (x4) (some (.inl x2)) M3 h
      · intro x5  M6 h
        exact hK33 (v1) (some (.inl x5)) M6 h
set_option maxRecDepth 100000 in
set_option maxHeartbeats 4000000 in
theorem k_X5_eachTwoMeet  {M : gM} {Q : Int32 → gM → Prop} (h : w_X5_eachTwoMeet  M Q) : gCi gL 0 yX5_eachTwoMeet cX5_eachTwoMeet 3 .boolean [.inr 1] M Q := by
  refine gCi_of (by decide) gLn (gle rfl) (fun X ok hZ => ?_)
  show gW X 0 [some (.inr 1), none, none] [] M
  unfold w_X5_eachTwoMeet at h
  refine g_iconst (v := 0) ok dX5_eachTwoMeet_0 (by decide) ?_
  refine g_istore_n (lv1 := [some (.inr 1), some (.inl 0), none]) ok dX5_eachTwoMeet_1 rfl (glt rfl) rfl ?_
  obtain ⟨nf, h⟩ := h
  refine w_X5_eachTwoMeet_L2_w ok hZ  ?_ ?_ nf 0 (none) M h
  · intro x7 u8 M9 h
    refine g_iconst (v := 1) ok dX5_eachTwoMeet_47 (by decide) ?_
    exact g_zret ok hZ dX5_eachTwoMeet_48 (by decide) h
  · intro x10 u11 M12 h
    refine g_iconst (v := 0) ok dX5_eachTwoMeet_33 (by decide) ?_
    exact g_zret ok hZ dX5_eachTwoMeet_34 (by decide) h
