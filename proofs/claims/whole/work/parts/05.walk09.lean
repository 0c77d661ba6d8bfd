theorem dX9_isOld_0 : decode cX9_isOld 0 = .ok (.aload_n 0, 1) := by decide +kernel
theorem dX9_isOld_1 : decode cX9_isOld 1 = .ok (.iload_n 1, 1) := by decide +kernel
theorem dX9_isOld_2 : decode cX9_isOld 2 = .ok (.invokevirtual 87, 3) := by decide +kernel
theorem dX9_isOld_5 : decode cX9_isOld 5 = .ok (.ifCond .lt 7, 3) := by decide +kernel
theorem dX9_isOld_8 : decode cX9_isOld 8 = .ok (.iconst 1, 1) := by decide +kernel
theorem dX9_isOld_9 : decode cX9_isOld 9 = .ok (.goto 4, 3) := by decide +kernel
theorem dX9_isOld_12 : decode cX9_isOld 12 = .ok (.iconst 0, 1) := by decide +kernel
theorem dX9_isOld_13 : decode cX9_isOld 13 = .ok (.istore_n 2, 1) := by decide +kernel
theorem dX9_isOld_14 : decode cX9_isOld 14 = .ok (.iconst 0, 1) := by decide +kernel
theorem dX9_isOld_15 : decode cX9_isOld 15 = .ok (.istore_n 3, 1) := by decide +kernel
theorem dX9_isOld_16 : decode cX9_isOld 16 = .ok (.iload_n 3, 1) := by decide +kernel
theorem dX9_isOld_17 : decode cX9_isOld 17 = .ok (.aload_n 0, 1) := by decide +kernel
theorem dX9_isOld_18 : decode cX9_isOld 18 = .ok (.getfield 203, 3) := by decide +kernel
theorem dX9_isOld_21 : decode cX9_isOld 21 = .ok (.if_icmp .ge 29, 3) := by decide +kernel
theorem dX9_isOld_24 : decode cX9_isOld 24 = .ok (.iload_n 2, 1) := by decide +kernel
theorem dX9_isOld_25 : decode cX9_isOld 25 = .ok (.ifCond .ne 13, 3) := by decide +kernel
theorem dX9_isOld_28 : decode cX9_isOld 28 = .ok (.aload_n 0, 1) := by decide +kernel
theorem dX9_isOld_29 : decode cX9_isOld 29 = .ok (.getfield 56, 3) := by decide +kernel
theorem dX9_isOld_32 : decode cX9_isOld 32 = .ok (.iload_n 3, 1) := by decide +kernel
theorem dX9_isOld_33 : decode cX9_isOld 33 = .ok (.iaload, 1) := by decide +kernel
theorem dX9_isOld_34 : decode cX9_isOld 34 = .ok (.iload_n 1, 1) := by decide +kernel
theorem dX9_isOld_35 : decode cX9_isOld 35 = .ok (.if_icmp .ne 7, 3) := by decide +kernel
theorem dX9_isOld_38 : decode cX9_isOld 38 = .ok (.iconst 1, 1) := by decide +kernel
theorem dX9_isOld_39 : decode cX9_isOld 39 = .ok (.goto 4, 3) := by decide +kernel
theorem dX9_isOld_42 : decode cX9_isOld 42 = .ok (.iconst 0, 1) := by decide +kernel
theorem dX9_isOld_43 : decode cX9_isOld 43 = .ok (.istore_n 2, 1) := by decide +kernel
theorem dX9_isOld_44 : decode cX9_isOld 44 = .ok (.iinc 3 1, 3) := by decide +kernel
theorem dX9_isOld_47 : decode cX9_isOld 47 = .ok (.goto (-31), 3) := by decide +kernel
theorem dX9_isOld_50 : decode cX9_isOld 50 = .ok (.iload_n 2, 1) := by decide +kernel
theorem dX9_isOld_51 : decode cX9_isOld 51 = .ok (.ireturn, 1) := by decide +kernel
theorem s_X9_isOld : gSt yX9_isOld cX9_isOld 4 (some .boolean) 1 := ⟨q5_128, q1_10, ⟨by decide, by decide, by decide +kernel⟩, by decide⟩
theorem sel_X9_isOld : Cond.selects yX9_isOld.cls yX9_isOld yX9_isOld ∈ gT := qs_51
theorem ins_X9_isOld : Cond.instanceMethod yX9_isOld ∈ gT := q5_127
def w_X9_isOld_L16 (Q : Int32 → gM → Prop) (K50 : Int32 → Int32 → gM → Prop) (v1 : Int32) : Nat → Int32 → Int32 → gM → Prop
  | 0, _, _, _ => False
  | n + 1, v2, v3, M => gbr ((v3 : Int32) < (M 42 26)) (gbr ((v2 : Int32) = 0) (vp_in v3 24 ∧ (gbr (((M 58 (Int32.toNatClampNeg v3)) : Int32) = v1) (∀ x5 : Int32, x5 = (v3 + 1) → (w_X9_isOld_L16 Q K50 v1 n (1) (x5) M)) (∀ x4 : Int32, x4 = (v3 + 1) → (w_X9_isOld_L16 Q K50 v1 n (0) (x4) M)))) (∀ x3 : Int32, x3 = (v3 + 1) → (w_X9_isOld_L16 Q K50 v1 n (1) (x3) M))) (K50 (v2) (v3) M)
def w_X9_isOld (p1 : Int32) (M : gM) (Q : Int32 → gM → Prop) : Prop := w_X9_placeOf p1 M (fun (r2 : Int32) (M1 : gM) => gbr ((r2 : Int32) < 0) (∃ nf, w_X9_isOld_L16 Q (fun (x6 : Int32) (x7 : Int32) (M8 : gM) => (x6 = 0 ∨ x6 = 1) ∧ Q x6 M8) p1 nf 0 0 M1) (∃ nf, w_X9_isOld_L16 Q (fun (x9 : Int32) (x10 : Int32) (M11 : gM) => (x9 = 0 ∨ x9 = 1) ∧ Q x9 M11) p1 nf 1 0 M1))
set_option maxRecDepth 100000 in
set_option maxHeartbeats 4000000 in
theorem w_X9_isOld_L16_w {X : gX} (ok : gOk X cX9_isOld yX9_isOld.cls 2 4 (some .boolean) gN) {Q : Int32 → gM → Prop} (hZ : gZi X Q) {K50 : Int32 → Int32 → gM → Prop} (v1 : Int32) (hK50 : ∀ (v2 : Int32) (v3 : Int32)  (M : gM), K50 v2 v3 M → gW X 50 [some (.inr 42), some (.inl v1), some (.inl v2), some (.inl v3)] [] M) : ∀ (n : Nat) (v2 : Int32) (v3 : Int32)  (M : gM), w_X9_isOld_L16 Q K50 v1 n v2 v3 M → gW X 16 [some (.inr 42), some (.inl v1), some (.inl v2), some (.inl v3)] [] M
  | 0, _, _, _, h => h.elim
  | n + 1, v2, v3, M, h => by
    have ih := fun (v2 : Int32) (v3 : Int32)  (M : gM) h => w_X9_isOld_L16_w ok hZ v1 hK50 n v2 v3  M h
    rw [w_X9_isOld_L16.eq_2] at h
    refine g_iload_n ok dX9_isOld_16 rfl rfl ?_
    refine g_aload_n ok dX9_isOld_17 rfl rfl ?_
    refine g_get (w := .inl (M 42 26)) ok f42_26 (gNm (by decide)) q4_20 dX9_isOld_18 rfl ?_
    refine g_icmp_ge (tgt := 50) ok dX9_isOld_21 (by decide) (fun z => ?_) (fun z => ?_)
    · have h := h.2 z
      exact hK50 (v2) (v3) M h
    · have h := h.1 z
      refine g_iload_n ok dX9_isOld_24 rfl rfl ?_
      refine g_if_ne (tgt := 38) ok dX9_isOld_25 (by decide) (fun z => ?_) (fun z => ?_)
      · have h := h.2 z
        refine g_iconst (v := 1) ok dX9_isOld_38 (by decide) ?_
        refine g_goto (tgt := 43) ok dX9_isOld_39 (by decide) ?_
        refine g_istore_n (lv1 := [some (.inr 42), some (.inl v1), some (.inl 1), some (.inl v3)]) ok dX9_isOld_43 rfl (glt rfl) rfl ?_
        obtain ⟨x3, ex3⟩ : ∃ y : Int32, y = (v3 + 1) := ⟨_, rfl⟩
        have h := h x3 ex3
        refine g_iinc (v := x3) (lv1 := [some (.inr 42), some (.inl v1), some (.inl 1), some (.inl x3)]) ok dX9_isOld_44 rfl (by rw [ex3]; rfl) rfl ?_
        refine g_goto (tgt := 16) ok dX9_isOld_47 (by decide) ?_
        exact ih (1) (x3) M h
      · have h := h.1 z
        refine g_aload_n ok dX9_isOld_28 rfl rfl ?_
        refine g_get (w := .inr 58) ok f42_27 (gNm (by decide)) q4_21 dX9_isOld_29 rfl ?_
        refine g_iload_n ok dX9_isOld_32 rfl rfl ?_
        have hb := h.1
        have h := h.2
        refine g_iald (w := (M 58 (Int32.toNatClampNeg v3))) ok a58 (gNm (by decide)) dX9_isOld_33 hb rfl ?_
        refine g_iload_n ok dX9_isOld_34 rfl rfl ?_
        refine g_icmp_ne (tgt := 42) ok dX9_isOld_35 (by decide) (fun z => ?_) (fun z => ?_)
        · have h := h.2 z
          refine g_iconst (v := 0) ok dX9_isOld_42 (by decide) ?_
          refine g_istore_n (lv1 := [some (.inr 42), some (.inl v1), some (.inl 0), some (.inl v3)]) ok dX9_isOld_43 rfl (glt rfl) rfl ?_
          obtain ⟨x4, ex4⟩ : ∃ y : Int32, y = (v3 + 1) := ⟨_, rfl⟩
          have h := h x4 ex4
          refine g_iinc (v := x4) (lv1 := [some (.inr 42), some (.inl v1), some (.inl 0), some (.inl x4)]) ok dX9_isOld_44 rfl (by rw [ex4]; rfl) rfl ?_
          refine g_goto (tgt := 16) ok dX9_isOld_47 (by decide) ?_
          exact ih (0) (x4) M h
        · have h := h.1 z
          refine g_iconst (v := 1) ok dX9_isOld_38 (by decide) ?_
          refine g_goto (tgt := 43) ok dX9_isOld_39 (by decide) ?_
          refine g_istore_n (lv1 := [some (.inr 42), some (.inl v1), some (.inl 1), some (.inl v3)]) ok dX9_isOld_43 rfl (glt rfl) rfl ?_
          obtain ⟨x5, ex5⟩ : ∃ y : Int32, y = (v3 + 1) := ⟨_, rfl⟩
          have h := h x5 ex5
          refine g_iinc (v := x5) (lv1 := [some (.inr 42), some (.inl v1), some (.inl 1), some (.inl x5)]) ok dX9_isOld_44 rfl (by rw [ex5]; rfl) rfl ?_
          refine g_goto (tgt := 16) ok dX9_isOld_47 (by decide) ?_
          exact ih (1) (x5) M h
set_option maxRecDepth 100000 in
set_option maxHeartbeats 4000000 in
theorem k_X9_isOld {p1 : Int32} {M : gM} {Q : Int32 → gM → Prop} (h : w_X9_isOld p1 M Q) : gCi gN 2 yX9_isOld cX9_isOld 4 .boolean [.inr 42, .inl p1] M Q := by
  refine gCi_of (by decide) gNn (gle rfl) (fun X ok hZ => ?_)
  show gW X 0 [some (.inr 42), some (.inl p1), none, none] [] M
  unfold w_X9_isOld at h
  refine g_aload_n ok dX9_isOld_0 rfl rfl ?_
  refine g_iload_n ok dX9_isOld_1 rfl rfl ?_
  refine g_callVi (st := []) (as := [.inl p1]) ok rfl (k_X9_placeOf h) s_X9_placeOf rfl (by decide) (gNm (by decide)) cl42 sel_X9_placeOf ins_X9_placeOf (gle rfl) rfl q4_106 dX9_isOld_2 ?_
  intro r2 M1 h
  refine g_if_lt (tgt := 12) ok dX9_isOld_5 (by decide) (fun z => ?_) (fun z => ?_)
  · have h := h.1 z
    refine g_iconst (v := 0) ok dX9_isOld_12 (by decide) ?_
    refine g_istore_n (lv1 := [some (.inr 42), some (.inl p1), some (.inl 0), none]) ok dX9_isOld_13 rfl (glt rfl) rfl ?_
    refine g_iconst (v := 0) ok dX9_isOld_14 (by decide) ?_
    refine g_istore_n (lv1 := [some (.inr 42), some (.inl p1), some (.inl 0), some (.inl 0)]) ok dX9_isOld_15 rfl (glt rfl) rfl ?_
    obtain ⟨nf, h⟩ := h
    refine w_X9_isOld_L16_w ok hZ p1 ?_ nf 0 0  M1 h
    · intro x6 x7  M8 h
      refine g_iload_n ok dX9_isOld_50 rfl rfl ?_
      exact g_zret ok hZ dX9_isOld_51 (zb h.1) h.2
  · have h := h.2 z
    refine g_iconst (v := 1) ok dX9_isOld_8 (by decide) ?_
    refine g_goto (tgt := 13) ok dX9_isOld_9 (by decide) ?_
    refine g_istore_n (lv1 := [some (.inr 42), some (.inl p1), some (.inl 1), none]) ok dX9_isOld_13 rfl (glt rfl) rfl ?_
    refine g_iconst (v := 0) ok dX9_isOld_14 (by decide) ?_
    refine g_istore_n (lv1 := [some (.inr 42), some (.inl p1), some (.inl 1), some (.inl 0)]) ok dX9_isOld_15 rfl (glt rfl) rfl ?_
    obtain ⟨nf, h⟩ := h
    refine w_X9_isOld_L16_w ok hZ p1 ?_ nf 1 0  M1 h
    · intro x9 x10  M11 h
      refine g_iload_n ok dX9_isOld_50 rfl rfl ?_
      exact g_zret ok hZ dX9_isOld_51 (zb h.1) h.2
theorem dX9_readEdge_0 : decode cX9_readEdge 0 = .ok (.aload_n 0, 1) := by decide +kernel
theorem dX9_readEdge_1 : decode cX9_readEdge 1 = .ok (.invokevirtual 80, 3) := by decide +kernel
theorem dX9_readEdge_4 : decode cX9_readEdge 4 = .ok (.aload_n 0, 1) := by decide +kernel
theorem dX9_readEdge_5 : decode cX9_readEdge 5 = .ok (.getfield 203, 3) := by decide +kernel
theorem dX9_readEdge_8 : decode cX9_readEdge 8 = .ok (.iadd, 1) := by decide +kernel
theorem dX9_readEdge_9 : decode cX9_readEdge 9 = .ok (.bipush 24, 2) := by decide +kernel
theorem dX9_readEdge_11 : decode cX9_readEdge 11 = .ok (.if_icmp .ne 12, 3) := by decide +kernel
theorem dX9_readEdge_14 : decode cX9_readEdge 14 = .ok (.aload_n 0, 1) := by decide +kernel
theorem dX9_readEdge_15 : decode cX9_readEdge 15 = .ok (.aload_n 0, 1) := by decide +kernel
theorem dX9_readEdge_16 : decode cX9_readEdge 16 = .ok (.getfield 194, 3) := by decide +kernel
theorem dX9_readEdge_19 : decode cX9_readEdge 19 = .ok (.putfield 200, 3) := by decide +kernel
theorem dX9_readEdge_22 : decode cX9_readEdge 22 = .ok (.return_, 1) := by decide +kernel
theorem dX9_readEdge_23 : decode cX9_readEdge 23 = .ok (.aload_n 0, 1) := by decide +kernel
theorem dX9_readEdge_24 : decode cX9_readEdge 24 = .ok (.iconst 0, 1) := by decide +kernel
theorem dX9_readEdge_25 : decode cX9_readEdge 25 = .ok (.invokevirtual 206, 3) := by decide +kernel
theorem dX9_readEdge_28 : decode cX9_readEdge 28 = .ok (.istore_n 1, 1) := by decide +kernel
theorem dX9_readEdge_29 : decode cX9_readEdge 29 = .ok (.aload_n 0, 1) := by decide +kernel
theorem dX9_readEdge_30 : decode cX9_readEdge 30 = .ok (.getfield 200, 3) := by decide +kernel
theorem dX9_readEdge_33 : decode cX9_readEdge 33 = .ok (.ifCond .ge 33, 3) := by decide +kernel
theorem dX9_readEdge_36 : decode cX9_readEdge 36 = .ok (.aload_n 0, 1) := by decide +kernel
theorem dX9_readEdge_37 : decode cX9_readEdge 37 = .ok (.bipush 44, 2) := by decide +kernel
theorem dX9_readEdge_39 : decode cX9_readEdge 39 = .ok (.invokevirtual 209, 3) := by decide +kernel
theorem dX9_readEdge_42 : decode cX9_readEdge 42 = .ok (.ifCond .eq 24, 3) := by decide +kernel
theorem dX9_readEdge_45 : decode cX9_readEdge 45 = .ok (.aload_n 0, 1) := by decide +kernel
theorem dX9_readEdge_46 : decode cX9_readEdge 46 = .ok (.dup, 1) := by decide +kernel
theorem dX9_readEdge_47 : decode cX9_readEdge 47 = .ok (.getfield 194, 3) := by decide +kernel
theorem dX9_readEdge_50 : decode cX9_readEdge 50 = .ok (.iconst 1, 1) := by decide +kernel
theorem dX9_readEdge_51 : decode cX9_readEdge 51 = .ok (.iadd, 1) := by decide +kernel
theorem dX9_readEdge_52 : decode cX9_readEdge 52 = .ok (.putfield 194, 3) := by decide +kernel
theorem dX9_readEdge_55 : decode cX9_readEdge 55 = .ok (.iload_n 1, 1) := by decide +kernel
theorem dX9_readEdge_56 : decode cX9_readEdge 56 = .ok (.aload_n 0, 1) := by decide +kernel
theorem dX9_readEdge_57 : decode cX9_readEdge 57 = .ok (.iload_n 1, 1) := by decide +kernel
theorem dX9_readEdge_58 : decode cX9_readEdge 58 = .ok (.invokevirtual 206, 3) := by decide +kernel
theorem dX9_readEdge_61 : decode cX9_readEdge 61 = .ok (.ior, 1) := by decide +kernel
theorem dX9_readEdge_62 : decode cX9_readEdge 62 = .ok (.istore_n 1, 1) := by decide +kernel
theorem dX9_readEdge_63 : decode cX9_readEdge 63 = .ok (.goto (-34), 3) := by decide +kernel
theorem dX9_readEdge_66 : decode cX9_readEdge 66 = .ok (.aload_n 0, 1) := by decide +kernel
theorem dX9_readEdge_67 : decode cX9_readEdge 67 = .ok (.getfield 200, 3) := by decide +kernel
theorem dX9_readEdge_70 : decode cX9_readEdge 70 = .ok (.ifCond .ge 19, 3) := by decide +kernel
theorem dX9_readEdge_73 : decode cX9_readEdge 73 = .ok (.aload_n 0, 1) := by decide +kernel
theorem dX9_readEdge_74 : decode cX9_readEdge 74 = .ok (.iload_n 1, 1) := by decide +kernel
theorem dX9_readEdge_75 : decode cX9_readEdge 75 = .ok (.invokevirtual 213, 3) := by decide +kernel
theorem dX9_readEdge_78 : decode cX9_readEdge 78 = .ok (.ifCond .eq 11, 3) := by decide +kernel
theorem dX9_readEdge_81 : decode cX9_readEdge 81 = .ok (.aload_n 0, 1) := by decide +kernel
theorem dX9_readEdge_82 : decode cX9_readEdge 82 = .ok (.aload_n 0, 1) := by decide +kernel
theorem dX9_readEdge_83 : decode cX9_readEdge 83 = .ok (.getfield 194, 3) := by decide +kernel
theorem dX9_readEdge_86 : decode cX9_readEdge 86 = .ok (.putfield 200, 3) := by decide +kernel
theorem dX9_readEdge_89 : decode cX9_readEdge 89 = .ok (.aload_n 0, 1) := by decide +kernel
theorem dX9_readEdge_90 : decode cX9_readEdge 90 = .ok (.getfield 200, 3) := by decide +kernel
theorem dX9_readEdge_93 : decode cX9_readEdge 93 = .ok (.ifCond .ge 23, 3) := by decide +kernel
theorem dX9_readEdge_96 : decode cX9_readEdge 96 = .ok (.aload_n 0, 1) := by decide +kernel
theorem dX9_readEdge_97 : decode cX9_readEdge 97 = .ok (.getfield 56, 3) := by decide +kernel
theorem dX9_readEdge_100 : decode cX9_readEdge 100 = .ok (.aload_n 0, 1) := by decide +kernel
theorem dX9_readEdge_101 : decode cX9_readEdge 101 = .ok (.getfield 203, 3) := by decide +kernel
theorem dX9_readEdge_104 : decode cX9_readEdge 104 = .ok (.iload_n 1, 1) := by decide +kernel
theorem dX9_readEdge_105 : decode cX9_readEdge 105 = .ok (.iastore, 1) := by decide +kernel
theorem dX9_readEdge_106 : decode cX9_readEdge 106 = .ok (.aload_n 0, 1) := by decide +kernel
theorem dX9_readEdge_107 : decode cX9_readEdge 107 = .ok (.dup, 1) := by decide +kernel
theorem dX9_readEdge_108 : decode cX9_readEdge 108 = .ok (.getfield 203, 3) := by decide +kernel
theorem dX9_readEdge_111 : decode cX9_readEdge 111 = .ok (.iconst 1, 1) := by decide +kernel
theorem dX9_readEdge_112 : decode cX9_readEdge 112 = .ok (.iadd, 1) := by decide +kernel
theorem dX9_readEdge_113 : decode cX9_readEdge 113 = .ok (.putfield 203, 3) := by decide +kernel
theorem dX9_readEdge_116 : decode cX9_readEdge 116 = .ok (.return_, 1) := by decide +kernel
theorem s_X9_readEdge : gSt yX9_readEdge cX9_readEdge 2 none 0 := ⟨q5_112, q1_10, ⟨by decide, by decide, by decide +kernel⟩, by decide⟩
theorem sel_X9_readEdge : Cond.selects yX9_readEdge.cls yX9_readEdge yX9_readEdge ∈ gT := qs_47
theorem ins_X9_readEdge : Cond.instanceMethod yX9_readEdge ∈ gT := q5_111
def w_X9_readEdge_L29 (Q : gM → Prop) (K66 : Int32 → gM → Prop) : Nat → Int32 → gM → Prop
  | 0, _, _ => False
  | n + 1, v1, M => gbr (((M 42 25) : Int32) < 0) (w_X9_isAt 44 M (fun (r6 : Int32) (M5 : gM) => gbr ((r6 : Int32) = 0) (K66 (v1) M5) (∀ M7 : gM, M7 = gst M5 42 24 ((M5 42 24) + 1) → (w_X9_readVertex v1 M7 (fun (r9 : Int32) (M8 : gM) => ∀ x10 : Int32, x10 = (v1 ||| r9) → (w_X9_readEdge_L29 Q K66 n (x10) M8)))))) (K66 (v1) M)
def w_X9_readEdge  (M : gM) (Q : gM → Prop) : Prop := w_X9_many M (fun (r2 : Int32) (M1 : gM) => gbr (((r2 + (M1 42 26)) : Int32) = 24) (∀ M22 : gM, M22 = gst M1 42 25 (M1 42 24) → (Q M22)) (w_X9_readVertex 0 M1 (fun (r4 : Int32) (M3 : gM) => ∃ nf, w_X9_readEdge_L29 Q (fun (x11 : Int32) (M12 : gM) => gbr (((M12 42 25) : Int32) < 0) (w_X9_isOld x11 M12 (fun (r16 : Int32) (M15 : gM) => gbr ((r16 : Int32) = 0) (gbr (((M15 42 25) : Int32) < 0) (vp_in (M15 42 26) 24 ∧ ∀ M17 : gM, M17 = gst M15 58 (Int32.toNatClampNeg (M15 42 26)) x11 → (∀ M18 : gM, M18 = gst M17 42 26 ((M17 42 26) + 1) → (Q M18))) (Q M15)) (∀ M19 : gM, M19 = gst M15 42 25 (M15 42 24) → (gbr (((M19 42 25) : Int32) < 0) (vp_in (M19 42 26) 24 ∧ ∀ M20 : gM, M20 = gst M19 58 (Int32.toNatClampNeg (M19 42 26)) x11 → (∀ M21 : gM, M21 = gst M20 42 26 ((M20 42 26) + 1) → (Q M21))) (Q M19))))) (gbr (((M12 42 25) : Int32) < 0) (vp_in (M12 42 26) 24 ∧ ∀ M13 : gM, M13 = gst M12 58 (Int32.toNatClampNeg (M12 42 26)) x11 → (∀ M14 : gM, M14 = gst M13 42 26 ((M13 42 26) + 1) → (Q M14))) (Q M12)))  nf r4 M3)))
set_option maxRecDepth 100000 in
set_option maxHeartbeats 4000000 in
theorem w_X9_readEdge_L29_w {X : gX} (ok : gOk X cX9_readEdge yX9_readEdge.cls 3 2 none gN) {Q : gM → Prop} (hZ : gZv X Q) {K66 : Int32 → gM → Prop}  (hK66 : ∀ (v1 : Int32)  (M : gM), K66 v1 M → gW X 66 [some (.inr 42), some (.inl v1)] [] M) : ∀ (n : Nat) (v1 : Int32)  (M : gM), w_X9_readEdge_L29 Q K66 n v1 M → gW X 29 [some (.inr 42), some (.inl v1)] [] M
  | 0, _, _, h => h.elim
  | n + 1, v1, M, h => by
    have ih := fun (v1 : Int32)  (M : gM) h => w_X9_readEdge_L29_w ok hZ  hK66 n v1  M h
    rw [w_X9_readEdge_L29.eq_2] at h
    refine g_aload_n ok dX9_readEdge_29 rfl rfl ?_
    refine g_get (w := .inl (M 42 25)) ok f42_25 (gNm (by decide)) q4_19 dX9_readEdge_30 rfl ?_
    refine g_if_ge (tgt := 66) ok dX9_readEdge_33 (by decide) (fun z => ?_) (fun z => ?_)
    · have h := h.2 z
      exact hK66 (v1) M h
    · have h := h.1 z
      refine g_aload_n ok dX9_readEdge_36 rfl rfl ?_
      refine g_bipush (v := 44) ok dX9_readEdge_37 (by decide) ?_
      refine g_callVi (st := []) (as := [.inl 44]) ok rfl (k_X9_isAt h) s_X9_isAt rfl (by decide) (gNm (by decide)) cl42 sel_X9_isAt ins_X9_isAt (gle rfl) rfl q5_121 dX9_readEdge_39 ?_
      intro r6 M5 h
      refine g_if_eq (tgt := 66) ok dX9_readEdge_42 (by decide) (fun z => ?_) (fun z => ?_)
      · have h := h.1 z
        exact hK66 (v1) M5 h
      · have h := h.2 z
        refine g_aload_n ok dX9_readEdge_45 rfl rfl ?_
        refine g_dup ok dX9_readEdge_46 ?_
        refine g_get (w := .inl (M5 42 24)) ok f42_24 (gNm (by decide)) q4_18 dX9_readEdge_47 rfl ?_
        refine g_iconst (v := 1) ok dX9_readEdge_50 (by decide) ?_
        refine g_iadd ok dX9_readEdge_51 ?_
        refine g_put ok f42_24p (gNm (by decide)) q4_18 dX9_readEdge_52 rfl rfl (g_mem (fun M7 eM7 => ?_))
        have h := h M7 eM7
        refine g_iload_n ok dX9_readEdge_55 rfl rfl ?_
        refine g_aload_n ok dX9_readEdge_56 rfl rfl ?_
        refine g_iload_n ok dX9_readEdge_57 rfl rfl ?_
        refine g_callVi (st := [.inl v1]) (as := [.inl v1]) ok rfl (k_X9_readVertex h) s_X9_readVertex rfl (by decide) (gNm (by decide)) cl42 sel_X9_readVertex ins_X9_readVertex (gle rfl) rfl q5_113 dX9_readEdge_58 ?_
        intro r9 M8 h
        refine g_ior ok dX9_readEdge_61 ?_
        refine g_nm (fun x10 ex10 => ?_)
        have h := h x10 ex10
        refine g_istore_n (lv1 := [some (.inr 42), some (.inl x10)]) ok dX9_readEdge_62 rfl (glt rfl) rfl ?_
        refine g_goto (tgt := 29) ok dX9_readEdge_63 (by decide) ?_
        exact ih (x10) M8 h
set_option maxRecDepth 100000 in
set_option maxHeartbeats 4000000 in
theorem k_X9_readEdge  {M : gM} {Q : gM → Prop} (h : w_X9_readEdge  M Q) : gCv gN 3 yX9_readEdge cX9_readEdge 2 [.inr 42] M Q := by
  refine gCv_of (by decide) gNn (gle rfl) (fun X ok hZ => ?_)
  show gW X 0 [some (.inr 42), none] [] M
  unfold w_X9_readEdge at h
  refine g_aload_n ok dX9_readEdge_0 rfl rfl ?_
  refine g_callVi (st := []) (as := []) ok rfl (k_X9_many h) s_X9_many rfl (by decide) (gNm (by decide)) cl42 sel_X9_many ins_X9_many (gle rfl) rfl q4_110 dX9_readEdge_1 ?_
  intro r2 M1 h
  refine g_aload_n ok dX9_readEdge_4 rfl rfl ?_
  refine g_get (w := .inl (M1 42 26)) ok f42_26 (gNm (by decide)) q4_20 dX9_readEdge_5 rfl ?_
  refine g_iadd ok dX9_readEdge_8 ?_
  refine g_bipush (v := 24) ok dX9_readEdge_9 (by decide) ?_
  refine g_icmp_ne (tgt := 23) ok dX9_readEdge_11 (by decide) (fun z => ?_) (fun z => ?_)
  · have h := h.2 z
    refine g_aload_n ok dX9_readEdge_23 rfl rfl ?_
    refine g_iconst (v := 0) ok dX9_readEdge_24 (by decide) ?_
    refine g_callVi (st := []) (as := [.inl 0]) ok rfl (k_X9_readVertex h) s_X9_readVertex rfl (by decide) (gNm (by decide)) cl42 sel_X9_readVertex ins_X9_readVertex (gle rfl) rfl q5_113 dX9_readEdge_25 ?_
    intro r4 M3 h
    refine g_istore_n (lv1 := [some (.inr 42), some (.inl r4)]) ok dX9_readEdge_28 rfl (glt rfl) rfl ?_
    obtain ⟨nf, h⟩ := h
    refine w_X9_readEdge_L29_w ok hZ  ?_ nf r4  M3 h
    · intro x11  M12 h
      refine g_aload_n ok dX9_readEdge_66 rfl rfl ?_
      refine g_get (w := .inl (M12 42 25)) ok f42_25 (gNm (by decide)) q4_19 dX9_readEdge_67 rfl ?_
      refine g_if_ge (tgt := 89) ok dX9_readEdge_70 (by decide) (fun z => ?_) (fun z => ?_)
      · have h := h.2 z
        refine g_aload_n ok dX9_readEdge_89 rfl rfl ?_
        refine g_get (w := .inl (M12 42 25)) ok f42_25 (gNm (by decide)) q4_19 dX9_readEdge_90 rfl ?_
        refine g_if_ge (tgt := 116) ok dX9_readEdge_93 (by decide) (fun z => ?_) (fun z => ?_)
        · have h := h.2 z
          exact g_vret ok hZ dX9_readEdge_116 h
        · have h := h.1 z
          refine g_aload_n ok dX9_readEdge_96 rfl rfl ?_
          refine g_get (w := .inr 58) ok f42_27 (gNm (by decide)) q4_21 dX9_readEdge_97 rfl ?_
          refine g_aload_n ok dX9_readEdge_100 rfl rfl ?_
          refine g_get (w := .inl (M12 42 26)) ok f42_26 (gNm (by decide)) q4_20 dX9_readEdge_101 rfl ?_
          refine g_iload_n ok dX9_readEdge_104 rfl rfl ?_
          have hb := h.1
          have h := h.2
          refine g_iast ok a58 (gNm (by decide)) dX9_readEdge_105 hb (g_mem (fun M13 eM13 => ?_))
          have h := h M13 eM13
          refine g_aload_n ok dX9_readEdge_106 rfl rfl ?_
          refine g_dup ok dX9_readEdge_107 ?_
          refine g_get (w := .inl (M13 42 26)) ok f42_26 (gNm (by decide)) q4_20 dX9_readEdge_108 rfl ?_
          refine g_iconst (v := 1) ok dX9_readEdge_111 (by decide) ?_
          refine g_iadd ok dX9_readEdge_112 ?_
          refine g_put ok f42_26p (gNm (by decide)) q4_20 dX9_readEdge_113 rfl rfl (g_mem (fun M14 eM14 => ?_))
          have h := h M14 eM14
          exact g_vret ok hZ dX9_readEdge_116 h
      · have h := h.1 z
        refine g_aload_n ok dX9_readEdge_73 rfl rfl ?_
        refine g_iload_n ok dX9_readEdge_74 rfl rfl ?_
        refine g_callVi (st := []) (as := [.inl x11]) ok rfl (k_X9_isOld h) s_X9_isOld rfl (by decide) (gNm (by decide)) cl42 sel_X9_isOld ins_X9_isOld (gle rfl) rfl q5_125 dX9_readEdge_75 ?_
        intro r16 M15 h
        refine g_if_eq (tgt := 89) ok dX9_readEdge_78 (by decide) (fun z => ?_) (fun z => ?_)
        · have h := h.1 z
          refine g_aload_n ok dX9_readEdge_89 rfl rfl ?_
          refine g_get (w := .inl (M15 42 25)) ok f42_25 (gNm (by decide)) q4_19 dX9_readEdge_90 rfl ?_
          refine g_if_ge (tgt := 116) ok dX9_readEdge_93 (by decide) (fun z => ?_) (fun z => ?_)
          · have h := h.2 z
            exact g_vret ok hZ dX9_readEdge_116 h
          · have h := h.1 z
            refine g_aload_n ok dX9_readEdge_96 rfl rfl ?_
            refine g_get (w := .inr 58) ok f42_27 (gNm (by decide)) q4_21 dX9_readEdge_97 rfl ?_
            refine g_aload_n ok dX9_readEdge_100 rfl rfl ?_
            refine g_get (w := .inl (M15 42 26)) ok f42_26 (gNm (by decide)) q4_20 dX9_readEdge_101 rfl ?_
            refine g_iload_n ok dX9_readEdge_104 rfl rfl ?_
            have hb := h.1
            have h := h.2
            refine g_iast ok a58 (gNm (by decide)) dX9_readEdge_105 hb (g_mem (fun M17 eM17 => ?_))
            have h := h M17 eM17
            refine g_aload_n ok dX9_readEdge_106 rfl rfl ?_
            refine g_dup ok dX9_readEdge_107 ?_
            refine g_get (w := .inl (M17 42 26)) ok f42_26 (gNm (by decide)) q4_20 dX9_readEdge_108 rfl ?_
            refine g_iconst (v := 1) ok dX9_readEdge_111 (by decide) ?_
            refine g_iadd ok dX9_readEdge_112 ?_
            refine g_put ok f42_26p (gNm (by decide)) q4_20 dX9_readEdge_113 rfl rfl (g_mem (fun M18 eM18 => ?_))
            have h := h M18 eM18
            exact g_vret ok hZ dX9_readEdge_116 h
        · have h := h.2 z
          refine g_aload_n ok dX9_readEdge_81 rfl rfl ?_
          refine g_aload_n ok dX9_readEdge_82 rfl rfl ?_
          refine g_get (w := .inl (M15 42 24)) ok f42_24 (gNm (by decide)) q4_18 dX9_readEdge_83 rfl ?_
          refine g_put ok f42_25p (gNm (by decide)) q4_19 dX9_readEdge_86 rfl rfl (g_mem (fun M19 eM19 => ?_))
          have h := h M19 eM19
          refine g_aload_n ok dX9_readEdge_89 rfl rfl ?_
          refine g_get (w := .inl (M19 42 25)) ok f42_25 (gNm (by decide)) q4_19 dX9_readEdge_90 rfl ?_
          refine g_if_ge (tgt := 116) ok dX9_readEdge_93 (by decide) (fun z => ?_) (fun z => ?_)
          · have h := h.2 z
            exact g_vret ok hZ dX9_readEdge_116 h
          · have h := h.1 z
            refine g_aload_n ok dX9_readEdge_96 rfl rfl ?_
            refine g_get (w := .inr 58) ok f42_27 (gNm (by decide)) q4_21 dX9_readEdge_97 rfl ?_
            refine g_aload_n ok dX9_readEdge_100 rfl rfl ?_
            refine g_get (w := .inl (M19 42 26)) ok f42_26 (gNm (by decide)) q4_20 dX9_readEdge_101 rfl ?_
            refine g_iload_n ok dX9_readEdge_104 rfl rfl ?_
            have hb := h.1
            have h := h.2
            refine g_iast ok a58 (gNm (by decide)) dX9_readEdge_105 hb (g_mem (fun M20 eM20 => ?_))
            have h := h M20 eM20
            refine g_aload_n ok dX9_readEdge_106 rfl rfl ?_
            refine g_dup ok dX9_readEdge_107 ?_
            refine g_get (w := .inl (M20 42 26)) ok f42_26 (gNm (by decide)) q4_20 dX9_readEdge_108 rfl ?_
            refine g_iconst (v := 1) ok dX9_readEdge_111 (by decide) ?_
            refine g_iadd ok dX9_readEdge_112 ?_
            refine g_put ok f42_26p (gNm (by decide)) q4_20 dX9_readEdge_113 rfl rfl (g_mem (fun M21 eM21 => ?_))
            have h := h M21 eM21
            exact g_vret ok hZ dX9_readEdge_116 h
  · have h := h.1 z
    refine g_aload_n ok dX9_readEdge_14 rfl rfl ?_
    refine g_aload_n ok dX9_readEdge_15 rfl rfl ?_
    refine g_get (w := .inl (M1 42 24)) ok f42_24 (gNm (by decide)) q4_18 dX9_readEdge_16 rfl ?_
    refine g_put ok f42_25p (gNm (by decide)) q4_19 dX9_readEdge_19 rfl rfl (g_mem (fun M22 eM22 => ?_))
    have h := h M22 eM22
    exact g_vret ok hZ dX9_readEdge_22 h
theorem dX9_readEdges_0 : decode cX9_readEdges 0 = .ok (.aload_n 0, 1) := by decide +kernel
theorem dX9_readEdges_1 : decode cX9_readEdges 1 = .ok (.iconst 0, 1) := by decide +kernel
theorem dX9_readEdges_2 : decode cX9_readEdges 2 = .ok (.putfield 194, 3) := by decide +kernel
theorem dX9_readEdges_5 : decode cX9_readEdges 5 = .ok (.aload_n 0, 1) := by decide +kernel
theorem dX9_readEdges_6 : decode cX9_readEdges 6 = .ok (.iconst (-1), 1) := by decide +kernel
theorem dX9_readEdges_7 : decode cX9_readEdges 7 = .ok (.putfield 200, 3) := by decide +kernel
theorem dX9_readEdges_10 : decode cX9_readEdges 10 = .ok (.aload_n 0, 1) := by decide +kernel
theorem dX9_readEdges_11 : decode cX9_readEdges 11 = .ok (.iconst 0, 1) := by decide +kernel
theorem dX9_readEdges_12 : decode cX9_readEdges 12 = .ok (.putfield 203, 3) := by decide +kernel
theorem dX9_readEdges_15 : decode cX9_readEdges 15 = .ok (.aload_n 0, 1) := by decide +kernel
theorem dX9_readEdges_16 : decode cX9_readEdges 16 = .ok (.invokevirtual 216, 3) := by decide +kernel
theorem dX9_readEdges_19 : decode cX9_readEdges 19 = .ok (.aload_n 0, 1) := by decide +kernel
theorem dX9_readEdges_20 : decode cX9_readEdges 20 = .ok (.getfield 200, 3) := by decide +kernel
theorem dX9_readEdges_23 : decode cX9_readEdges 23 = .ok (.ifCond .ge 51, 3) := by decide +kernel
theorem dX9_readEdges_26 : decode cX9_readEdges 26 = .ok (.aload_n 0, 1) := by decide +kernel
theorem dX9_readEdges_27 : decode cX9_readEdges 27 = .ok (.getfield 194, 3) := by decide +kernel
theorem dX9_readEdges_30 : decode cX9_readEdges 30 = .ok (.aload_n 0, 1) := by decide +kernel
theorem dX9_readEdges_31 : decode cX9_readEdges 31 = .ok (.getfield 191, 3) := by decide +kernel
theorem dX9_readEdges_34 : decode cX9_readEdges 34 = .ok (.if_icmp .ge 40, 3) := by decide +kernel
theorem dX9_readEdges_37 : decode cX9_readEdges 37 = .ok (.aload_n 0, 1) := by decide +kernel
theorem dX9_readEdges_38 : decode cX9_readEdges 38 = .ok (.bipush 59, 2) := by decide +kernel
theorem dX9_readEdges_40 : decode cX9_readEdges 40 = .ok (.invokevirtual 209, 3) := by decide +kernel
theorem dX9_readEdges_43 : decode cX9_readEdges 43 = .ok (.ifCond .eq 20, 3) := by decide +kernel
theorem dX9_readEdges_46 : decode cX9_readEdges 46 = .ok (.aload_n 0, 1) := by decide +kernel
theorem dX9_readEdges_47 : decode cX9_readEdges 47 = .ok (.dup, 1) := by decide +kernel
theorem dX9_readEdges_48 : decode cX9_readEdges 48 = .ok (.getfield 194, 3) := by decide +kernel
theorem dX9_readEdges_51 : decode cX9_readEdges 51 = .ok (.iconst 1, 1) := by decide +kernel
theorem dX9_readEdges_52 : decode cX9_readEdges 52 = .ok (.iadd, 1) := by decide +kernel
theorem dX9_readEdges_53 : decode cX9_readEdges 53 = .ok (.putfield 194, 3) := by decide +kernel
theorem dX9_readEdges_56 : decode cX9_readEdges 56 = .ok (.aload_n 0, 1) := by decide +kernel
theorem dX9_readEdges_57 : decode cX9_readEdges 57 = .ok (.invokevirtual 216, 3) := by decide +kernel
theorem dX9_readEdges_60 : decode cX9_readEdges 60 = .ok (.goto (-41), 3) := by decide +kernel
theorem dX9_readEdges_63 : decode cX9_readEdges 63 = .ok (.aload_n 0, 1) := by decide +kernel
theorem dX9_readEdges_64 : decode cX9_readEdges 64 = .ok (.aload_n 0, 1) := by decide +kernel
theorem dX9_readEdges_65 : decode cX9_readEdges 65 = .ok (.getfield 194, 3) := by decide +kernel
theorem dX9_readEdges_68 : decode cX9_readEdges 68 = .ok (.putfield 200, 3) := by decide +kernel
theorem dX9_readEdges_71 : decode cX9_readEdges 71 = .ok (.goto (-52), 3) := by decide +kernel
theorem dX9_readEdges_74 : decode cX9_readEdges 74 = .ok (.aload_n 0, 1) := by decide +kernel
theorem dX9_readEdges_75 : decode cX9_readEdges 75 = .ok (.getfield 200, 3) := by decide +kernel
theorem dX9_readEdges_78 : decode cX9_readEdges 78 = .ok (.ifCond .lt 11, 3) := by decide +kernel
theorem dX9_readEdges_81 : decode cX9_readEdges 81 = .ok (.bipush (-100), 2) := by decide +kernel
theorem dX9_readEdges_83 : decode cX9_readEdges 83 = .ok (.aload_n 0, 1) := by decide +kernel
theorem dX9_readEdges_84 : decode cX9_readEdges 84 = .ok (.getfield 200, 3) := by decide +kernel
theorem dX9_readEdges_87 : decode cX9_readEdges 87 = .ok (.isub, 1) := by decide +kernel
theorem dX9_readEdges_88 : decode cX9_readEdges 88 = .ok (.ireturn, 1) := by decide +kernel
theorem dX9_readEdges_89 : decode cX9_readEdges 89 = .ok (.aload_n 0, 1) := by decide +kernel
theorem dX9_readEdges_90 : decode cX9_readEdges 90 = .ok (.invokevirtual 91, 3) := by decide +kernel
theorem dX9_readEdges_93 : decode cX9_readEdges 93 = .ok (.iconst 0, 1) := by decide +kernel
theorem dX9_readEdges_94 : decode cX9_readEdges 94 = .ok (.istore_n 1, 1) := by decide +kernel
theorem dX9_readEdges_95 : decode cX9_readEdges 95 = .ok (.iload_n 1, 1) := by decide +kernel
theorem dX9_readEdges_96 : decode cX9_readEdges 96 = .ok (.aload_n 0, 1) := by decide +kernel
theorem dX9_readEdges_97 : decode cX9_readEdges 97 = .ok (.getfield 203, 3) := by decide +kernel
theorem dX9_readEdges_100 : decode cX9_readEdges 100 = .ok (.if_icmp .ge 19, 3) := by decide +kernel
theorem dX9_readEdges_103 : decode cX9_readEdges 103 = .ok (.aload_n 0, 1) := by decide +kernel
theorem dX9_readEdges_104 : decode cX9_readEdges 104 = .ok (.aload_n 0, 1) := by decide +kernel
theorem dX9_readEdges_105 : decode cX9_readEdges 105 = .ok (.getfield 56, 3) := by decide +kernel
theorem dX9_readEdges_108 : decode cX9_readEdges 108 = .ok (.iload_n 1, 1) := by decide +kernel
theorem dX9_readEdges_109 : decode cX9_readEdges 109 = .ok (.iaload, 1) := by decide +kernel
theorem dX9_readEdges_110 : decode cX9_readEdges 110 = .ok (.invokevirtual 94, 3) := by decide +kernel
theorem dX9_readEdges_113 : decode cX9_readEdges 113 = .ok (.iinc 1 1, 3) := by decide +kernel
theorem dX9_readEdges_116 : decode cX9_readEdges 116 = .ok (.goto (-21), 3) := by decide +kernel
theorem dX9_readEdges_119 : decode cX9_readEdges 119 = .ok (.aload_n 0, 1) := by decide +kernel
theorem dX9_readEdges_120 : decode cX9_readEdges 120 = .ok (.getfield 203, 3) := by decide +kernel
theorem dX9_readEdges_123 : decode cX9_readEdges 123 = .ok (.ireturn, 1) := by decide +kernel
theorem s_X9_readEdges : gSt yX9_readEdges cX9_readEdges 2 (some .int) 0 := ⟨q5_108, q1_10, ⟨by decide, by decide, by decide +kernel⟩, by decide⟩
theorem sel_X9_readEdges : Cond.selects yX9_readEdges.cls yX9_readEdges yX9_readEdges ∈ gT := q5_107
theorem ins_X9_readEdges : Cond.instanceMethod yX9_readEdges ∈ gT := q5_106
def w_X9_readEdges_L19 (Q : Int32 → gM → Prop) (K74 : gM → Prop) : Nat → gM → Prop
  | 0, _ => False
  | n + 1, M => gbr (((M 42 25) : Int32) < 0) (gbr (((M 42 24) : Int32) < (M 42 22)) (w_X9_isAt 59 M (fun (r7 : Int32) (M6 : gM) => gbr ((r7 : Int32) = 0) (∀ M8 : gM, M8 = gst M6 42 25 (M6 42 24) → (w_X9_readEdges_L19 Q K74 n M8)) (∀ M9 : gM, M9 = gst M6 42 24 ((M6 42 24) + 1) → (w_X9_readEdge M9 (fun (M10 : gM) => w_X9_readEdges_L19 Q K74 n M10))))) (K74 M)) (K74 M)
def w_X9_readEdges_L95 (Q : Int32 → gM → Prop) (K119 : Int32 → gM → Prop) : Nat → Int32 → gM → Prop
  | 0, _, _ => False
  | n + 1, v1, M => gbr ((v1 : Int32) < (M 42 26)) (vp_in v1 24 ∧ (w_X9_append (M 58 (Int32.toNatClampNeg v1)) M (fun (M16 : gM) => ∀ x18 : Int32, x18 = (v1 + 1) → (w_X9_readEdges_L95 Q K119 n (x18) M16)))) (K119 (v1) M)
def w_X9_readEdges  (M : gM) (Q : Int32 → gM → Prop) : Prop := ∀ M1 : gM, M1 = gst M 42 24 0 → (∀ M2 : gM, M2 = gst M1 42 25 (-1) → (∀ M3 : gM, M3 = gst M2 42 26 0 → (w_X9_readEdge M3 (fun (M4 : gM) => ∃ nf, w_X9_readEdges_L19 Q (fun (M13 : gM) => gbr (((M13 42 25) : Int32) < 0) (w_X9_keep M13 (fun (M14 : gM) => ∃ nf, w_X9_readEdges_L95 Q (fun (x19 : Int32) (M20 : gM) => Q (M20 42 26) M20)  nf 0 M14)) (Q ((-100) - (M13 42 25)) M13))  nf  M4))))
set_option maxRecDepth 100000 in
set_option maxHeartbeats 4000000 in
theorem w_X9_readEdges_L19_w {X : gX} (ok : gOk X cX9_readEdges yX9_readEdges.cls 4 2 (some .int) gN) {Q : Int32 → gM → Prop} (hZ : gZi X Q) {K74 : gM → Prop}  (hK74 : ∀  (u1 : Option gV) (M : gM), K74 M → gW X 74 [some (.inr 42), u1] [] M) : ∀ (n : Nat)  (u1 : Option gV) (M : gM), w_X9_readEdges_L19 Q K74 n M → gW X 19 [some (.inr 42), u1] [] M
  | 0, _, _, h => h.elim
  | n + 1, u1, M, h => by
    have ih := fun  (u1 : Option gV) (M : gM) h => w_X9_readEdges_L19_w ok hZ  hK74 n  u1 M h
    rw [w_X9_readEdges_L19.eq_2] at h
    refine g_aload_n ok dX9_readEdges_19 rfl rfl ?_
    refine g_get (w := .inl (M 42 25)) ok f42_25 (gNm (by decide)) q4_19 dX9_readEdges_20 rfl ?_
    refine g_if_ge (tgt := 74) ok dX9_readEdges_23 (by decide) (fun z => ?_) (fun z => ?_)
    · have h := h.2 z
      exact hK74 (u1) M h
    · have h := h.1 z
      refine g_aload_n ok dX9_readEdges_26 rfl rfl ?_
      refine g_get (w := .inl (M 42 24)) ok f42_24 (gNm (by decide)) q4_18 dX9_readEdges_27 rfl ?_
      refine g_aload_n ok dX9_readEdges_30 rfl rfl ?_
      refine g_get (w := .inl (M 42 22)) ok f42_22 (gNm (by decide)) q4_16 dX9_readEdges_31 rfl ?_
      refine g_icmp_ge (tgt := 74) ok dX9_readEdges_34 (by decide) (fun z => ?_) (fun z => ?_)
      · have h := h.2 z
        exact hK74 (u1) M h
      · have h := h.1 z
        refine g_aload_n ok dX9_readEdges_37 rfl rfl ?_
        refine g_bipush (v := 59) ok dX9_readEdges_38 (by decide) ?_
        refine g_callVi (st := []) (as := [.inl 59]) ok rfl (k_X9_isAt h) s_X9_isAt rfl (by decide) (gNm (by decide)) cl42 sel_X9_isAt ins_X9_isAt (gle rfl) rfl q5_121 dX9_readEdges_40 ?_
        intro r7 M6 h
        refine g_if_eq (tgt := 63) ok dX9_readEdges_43 (by decide) (fun z => ?_) (fun z => ?_)
        · have h := h.1 z
          refine g_aload_n ok dX9_readEdges_63 rfl rfl ?_
          refine g_aload_n ok dX9_readEdges_64 rfl rfl ?_
          refine g_get (w := .inl (M6 42 24)) ok f42_24 (gNm (by decide)) q4_18 dX9_readEdges_65 rfl ?_
          refine g_put ok f42_25p (gNm (by decide)) q4_19 dX9_readEdges_68 rfl rfl (g_mem (fun M8 eM8 => ?_))
          have h := h M8 eM8
          refine g_goto (tgt := 19) ok dX9_readEdges_71 (by decide) ?_
          exact ih (u1) M8 h
        · have h := h.2 z
          refine g_aload_n ok dX9_readEdges_46 rfl rfl ?_
          refine g_dup ok dX9_readEdges_47 ?_
          refine g_get (w := .inl (M6 42 24)) ok f42_24 (gNm (by decide)) q4_18 dX9_readEdges_48 rfl ?_
          refine g_iconst (v := 1) ok dX9_readEdges_51 (by decide) ?_
          refine g_iadd ok dX9_readEdges_52 ?_
          refine g_put ok f42_24p (gNm (by decide)) q4_18 dX9_readEdges_53 rfl rfl (g_mem (fun M9 eM9 => ?_))
          have h := h M9 eM9
          refine g_aload_n ok dX9_readEdges_56 rfl rfl ?_
          refine g_callVv (st := []) (as := []) ok rfl (k_X9_readEdge h) s_X9_readEdge rfl (by decide) (gNm (by decide)) cl42 sel_X9_readEdge ins_X9_readEdge (gle rfl) rfl q5_109 dX9_readEdges_57 ?_
          intro M10 h
          refine g_goto (tgt := 19) ok dX9_readEdges_60 (by decide) ?_
          exact ih (u1) M10 h
set_option maxRecDepth 100000 in
set_option maxHeartbeats 4000000 in
theorem w_X9_readEdges_L95_w {X : gX} (ok : gOk X cX9_readEdges yX9_readEdges.cls 4 2 (some .int) gN) {Q : Int32 → gM → Prop} (hZ : gZi X Q) {K119 : Int32 → gM → Prop}  (hK119 : ∀ (v1 : Int32)  (M : gM), K119 v1 M → gW X 119 [some (.inr 42), some (.inl v1)] [] M) : ∀ (n : Nat) (v1 : Int32)  (M : gM), w_X9_readEdges_L95 Q K119 n v1 M → gW X 95 [some (.inr 42), some (.inl v1)] [] M
  | 0, _, _, h => h.elim
  | n + 1, v1, M, h => by
    have ih := fun (v1 : Int32)  (M : gM) h => w_X9_readEdges_L95_w ok hZ  hK119 n v1  M h
    rw [w_X9_readEdges_L95.eq_2] at h
    refine g_iload_n ok dX9_readEdges_95 rfl rfl ?_
    refine g_aload_n ok dX9_readEdges_96 rfl rfl ?_
    refine g_get (w := .inl (M 42 26)) ok f42_26 (gNm (by decide)) q4_20 dX9_readEdges_97 rfl ?_
    refine g_icmp_ge (tgt := 119) ok dX9_readEdges_100 (by decide) (fun z => ?_) (fun z => ?_)
    · have h := h.2 z
      exact hK119 (v1) M h
    · have h := h.1 z
      refine g_aload_n ok dX9_readEdges_103 rfl rfl ?_
      refine g_aload_n ok dX9_readEdges_104 rfl rfl ?_
      refine g_get (w := .inr 58) ok f42_27 (gNm (by decide)) q4_21 dX9_readEdges_105 rfl ?_
      refine g_iload_n ok dX9_readEdges_108 rfl rfl ?_
      have hb := h.1
      have h := h.2
      refine g_iald (w := (M 58 (Int32.toNatClampNeg v1))) ok a58 (gNm (by decide)) dX9_readEdges_109 hb rfl ?_
      refine g_callVv (st := []) (as := [.inl (M 58 (Int32.toNatClampNeg v1))]) ok rfl (k_X9_append h) s_X9_append rfl (by decide) (gNm (by decide)) cl42 sel_X9_append ins_X9_append (gle rfl) rfl q4_118 dX9_readEdges_110 ?_
      intro M16 h
      obtain ⟨x18, ex18⟩ : ∃ y : Int32, y = (v1 + 1) := ⟨_, rfl⟩
      have h := h x18 ex18
      refine g_iinc (v := x18) (lv1 := [some (.inr 42), some (.inl x18)]) ok dX9_readEdges_113 rfl (by rw [ex18]; rfl) rfl ?_
      refine g_goto (tgt := 95) ok dX9_readEdges_116 (by decide) ?_
      exact ih (x18) M16 h
set_option maxRecDepth 100000 in
set_option maxHeartbeats 4000000 in
theorem k_X9_readEdges  {M : gM} {Q : Int32 → gM → Prop} (h : w_X9_readEdges  M Q) : gCi gN 4 yX9_readEdges cX9_readEdges 2 .int [.inr 42] M Q := by
  refine gCi_of (by decide) gNn (gle rfl) (fun X ok hZ => ?_)
  show gW X 0 [some (.inr 42), none] [] M
  unfold w_X9_readEdges at h
  refine g_aload_n ok dX9_readEdges_0 rfl rfl ?_
  refine g_iconst (v := 0) ok dX9_readEdges_1 (by decide) ?_
  refine g_put ok f42_24p (gNm (by decide)) q4_18 dX9_readEdges_2 rfl rfl (g_mem (fun M1 eM1 => ?_))
  have h := h M1 eM1
  refine g_aload_n ok dX9_readEdges_5 rfl rfl ?_
  refine g_iconst (v := (-1)) ok dX9_readEdges_6 (by decide) ?_
  refine g_put ok f42_25p (gNm (by decide)) q4_19 dX9_readEdges_7 rfl rfl (g_mem (fun M2 eM2 => ?_))
  have h := h M2 eM2
  refine g_aload_n ok dX9_readEdges_10 rfl rfl ?_
  refine g_iconst (v := 0) ok dX9_readEdges_11 (by decide) ?_
  refine g_put ok f42_26p (gNm (by decide)) q4_20 dX9_readEdges_12 rfl rfl (g_mem (fun M3 eM3 => ?_))
  have h := h M3 eM3
  refine g_aload_n ok dX9_readEdges_15 rfl rfl ?_
  refine g_callVv (st := []) (as := []) ok rfl (k_X9_readEdge h) s_X9_readEdge rfl (by decide) (gNm (by decide)) cl42 sel_X9_readEdge ins_X9_readEdge (gle rfl) rfl q5_109 dX9_readEdges_16 ?_
  intro M4 h
  obtain ⟨nf, h⟩ := h
  refine w_X9_readEdges_L19_w ok hZ  ?_ nf  (none) M4 h
  · intro  u12 M13 h
    refine g_aload_n ok dX9_readEdges_74 rfl rfl ?_
    refine g_get (w := .inl (M13 42 25)) ok f42_25 (gNm (by decide)) q4_19 dX9_readEdges_75 rfl ?_
    refine g_if_lt (tgt := 89) ok dX9_readEdges_78 (by decide) (fun z => ?_) (fun z => ?_)
    · have h := h.1 z
      refine g_aload_n ok dX9_readEdges_89 rfl rfl ?_
      refine g_callVv (st := []) (as := []) ok rfl (k_X9_keep h) s_X9_keep rfl (by decide) (gNm (by decide)) cl42 sel_X9_keep ins_X9_keep (gle rfl) rfl q4_114 dX9_readEdges_90 ?_
      intro M14 h
      refine g_iconst (v := 0) ok dX9_readEdges_93 (by decide) ?_
      refine g_istore_n (lv1 := [some (.inr 42), some (.inl 0)]) ok dX9_readEdges_94 rfl (glt rfl) rfl ?_
      obtain ⟨nf, h⟩ := h
      refine w_X9_readEdges_L95_w ok hZ  ?_ nf 0  M14 h
      · intro x19  M20 h
        refine g_aload_n ok dX9_readEdges_119 rfl rfl ?_
        refine g_get (w := .inl (M20 42 26)) ok f42_26 (gNm (by decide)) q4_20 dX9_readEdges_120 rfl ?_
        exact g_iret ok hZ dX9_readEdges_123 h
    · have h := h.2 z
      refine g_bipush (v := (-100)) ok dX9_readEdges_81 (by decide) ?_
      refine g_aload_n ok dX9_readEdges_83 rfl rfl ?_
      refine g_get (w := .inl (M13 42 25)) ok f42_25 (gNm (by decide)) q4_19 dX9_readEdges_84 rfl ?_
      refine g_isub ok dX9_readEdges_87 ?_
      exact g_iret ok hZ dX9_readEdges_88 h
