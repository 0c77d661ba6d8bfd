theorem dX9_grow_0 : decode cX9_grow 0 = .ok (.aload_n 0, 1) := by decide +kernel
theorem dX9_grow_1 : decode cX9_grow 1 = .ok (.iload_n 1, 1) := by decide +kernel
theorem dX9_grow_2 : decode cX9_grow 2 = .ok (.invokevirtual 83, 3) := by decide +kernel
theorem dX9_grow_5 : decode cX9_grow 5 = .ok (.ifCond .eq 6, 3) := by decide +kernel
theorem dX9_grow_8 : decode cX9_grow 8 = .ok (.bipush (-3), 2) := by decide +kernel
theorem dX9_grow_10 : decode cX9_grow 10 = .ok (.ireturn, 1) := by decide +kernel
theorem dX9_grow_11 : decode cX9_grow 11 = .ok (.iload_n 1, 1) := by decide +kernel
theorem dX9_grow_12 : decode cX9_grow 12 = .ok (.istore_n 2, 1) := by decide +kernel
theorem dX9_grow_13 : decode cX9_grow 13 = .ok (.aload_n 0, 1) := by decide +kernel
theorem dX9_grow_14 : decode cX9_grow 14 = .ok (.iload_n 2, 1) := by decide +kernel
theorem dX9_grow_15 : decode cX9_grow 15 = .ok (.invokevirtual 126, 3) := by decide +kernel
theorem dX9_grow_18 : decode cX9_grow 18 = .ok (.ifCond .eq 74, 3) := by decide +kernel
theorem dX9_grow_21 : decode cX9_grow 21 = .ok (.aload_n 0, 1) := by decide +kernel
theorem dX9_grow_22 : decode cX9_grow 22 = .ok (.iload_n 2, 1) := by decide +kernel
theorem dX9_grow_23 : decode cX9_grow 23 = .ok (.invokevirtual 126, 3) := by decide +kernel
theorem dX9_grow_26 : decode cX9_grow 26 = .ok (.istore_n 3, 1) := by decide +kernel
theorem dX9_grow_27 : decode cX9_grow 27 = .ok (.iconst 0, 1) := by decide +kernel
theorem dX9_grow_28 : decode cX9_grow 28 = .ok (.istore 4, 2) := by decide +kernel
theorem dX9_grow_30 : decode cX9_grow 30 = .ok (.iconst 1, 1) := by decide +kernel
theorem dX9_grow_31 : decode cX9_grow 31 = .ok (.istore 5, 2) := by decide +kernel
theorem dX9_grow_33 : decode cX9_grow 33 = .ok (.iload 5, 2) := by decide +kernel
theorem dX9_grow_35 : decode cX9_grow 35 = .ok (.aload_n 0, 1) := by decide +kernel
theorem dX9_grow_36 : decode cX9_grow 36 = .ok (.getfield 59, 3) := by decide +kernel
theorem dX9_grow_39 : decode cX9_grow 39 = .ok (.if_icmp .ge 43, 3) := by decide +kernel
theorem dX9_grow_42 : decode cX9_grow 42 = .ok (.aload_n 0, 1) := by decide +kernel
theorem dX9_grow_43 : decode cX9_grow 43 = .ok (.iload 5, 2) := by decide +kernel
theorem dX9_grow_45 : decode cX9_grow 45 = .ok (.invokevirtual 116, 3) := by decide +kernel
theorem dX9_grow_48 : decode cX9_grow 48 = .ok (.iload_n 3, 1) := by decide +kernel
theorem dX9_grow_49 : decode cX9_grow 49 = .ok (.iand, 1) := by decide +kernel
theorem dX9_grow_50 : decode cX9_grow 50 = .ok (.invokestatic 119, 3) := by decide +kernel
theorem dX9_grow_53 : decode cX9_grow 53 = .ok (.aload_n 0, 1) := by decide +kernel
theorem dX9_grow_54 : decode cX9_grow 54 = .ok (.iload 4, 2) := by decide +kernel
theorem dX9_grow_56 : decode cX9_grow 56 = .ok (.invokevirtual 116, 3) := by decide +kernel
theorem dX9_grow_59 : decode cX9_grow 59 = .ok (.iload_n 3, 1) := by decide +kernel
theorem dX9_grow_60 : decode cX9_grow 60 = .ok (.iand, 1) := by decide +kernel
theorem dX9_grow_61 : decode cX9_grow 61 = .ok (.invokestatic 119, 3) := by decide +kernel
theorem dX9_grow_64 : decode cX9_grow 64 = .ok (.if_icmp .le 8, 3) := by decide +kernel
theorem dX9_grow_67 : decode cX9_grow 67 = .ok (.iload 5, 2) := by decide +kernel
theorem dX9_grow_69 : decode cX9_grow 69 = .ok (.goto 5, 3) := by decide +kernel
theorem dX9_grow_72 : decode cX9_grow 72 = .ok (.iload 4, 2) := by decide +kernel
theorem dX9_grow_74 : decode cX9_grow 74 = .ok (.istore 4, 2) := by decide +kernel
theorem dX9_grow_76 : decode cX9_grow 76 = .ok (.iinc 5 1, 3) := by decide +kernel
theorem dX9_grow_79 : decode cX9_grow 79 = .ok (.goto (-46), 3) := by decide +kernel
theorem dX9_grow_82 : decode cX9_grow 82 = .ok (.iload_n 2, 1) := by decide +kernel
theorem dX9_grow_83 : decode cX9_grow 83 = .ok (.iconst 1, 1) := by decide +kernel
theorem dX9_grow_84 : decode cX9_grow 84 = .ok (.iload 4, 2) := by decide +kernel
theorem dX9_grow_86 : decode cX9_grow 86 = .ok (.ishl, 1) := by decide +kernel
theorem dX9_grow_87 : decode cX9_grow 87 = .ok (.ior, 1) := by decide +kernel
theorem dX9_grow_88 : decode cX9_grow 88 = .ok (.istore_n 2, 1) := by decide +kernel
theorem dX9_grow_89 : decode cX9_grow 89 = .ok (.goto (-76), 3) := by decide +kernel
theorem dX9_grow_92 : decode cX9_grow 92 = .ok (.iload_n 2, 1) := by decide +kernel
theorem dX9_grow_93 : decode cX9_grow 93 = .ok (.ireturn, 1) := by decide +kernel
theorem s_X9_grow : gSt yX9_grow cX9_grow 6 (some .int) 1 := ⟨q4_216, q1_10, ⟨by decide, by decide, by decide +kernel⟩, by decide⟩
theorem sel_X9_grow : Cond.selects yX9_grow.cls yX9_grow yX9_grow ∈ gT := q4_215
theorem ins_X9_grow : Cond.instanceMethod yX9_grow ∈ gT := q4_214
def w_X9_grow_L33 (Q : Int32 → gM → Prop) (K82 : Int32 → Int32 → gM → Prop) (v1 : Int32) (v2 : Int32) (v3 : Int32) : Nat → Int32 → Int32 → gM → Prop
  | 0, _, _, _ => False
  | n + 1, v4, v5, M => gbr ((v5 : Int32) < (M 42 0)) (w_X9_edgesWith v5 M (fun (r8 : Int32) (M7 : gM) => w_X9_bits (r8 &&& v3) M7 (fun (r10 : Int32) (M9 : gM) => w_X9_edgesWith v4 M9 (fun (r12 : Int32) (M11 : gM) => w_X9_bits (r12 &&& v3) M11 (fun (r14 : Int32) (M13 : gM) => gbr ((r14 : Int32) < r10) (∀ x16 : Int32, x16 = (v5 + 1) → (w_X9_grow_L33 Q K82 v1 v2 v3 n (v5) (x16) M13)) (∀ x15 : Int32, x15 = (v5 + 1) → (w_X9_grow_L33 Q K82 v1 v2 v3 n (v4) (x15) M13))))))) (K82 (v4) (v5) M)
def w_X9_grow_L13 (Q : Int32 → gM → Prop) (K92 : Int32 → gM → Prop) (v1 : Int32) : Nat → Int32 → gM → Prop
  | 0, _, _ => False
  | n + 1, v2, M => w_X9_missedBy v2 M (fun (r4 : Int32) (M3 : gM) => gbr ((r4 : Int32) = 0) (K92 (v2) M3) (w_X9_missedBy v2 M3 (fun (r6 : Int32) (M5 : gM) => ∃ nf, w_X9_grow_L33 Q (fun (x17 : Int32) (x18 : Int32) (M19 : gM) => ∀ x20 : Int32, x20 = (v2 ||| (1 <<< (x17 &&& 31))) → (w_X9_grow_L13 Q K92 v1 n (x20) M19)) v1 v2 r6 nf 0 1 M5)))
def w_X9_grow (p1 : Int32) (M : gM) (Q : Int32 → gM → Prop) : Prop := w_X9_noSet p1 M (fun (r2 : Int32) (M1 : gM) => gbr ((r2 : Int32) = 0) (∃ nf, w_X9_grow_L13 Q (fun (x21 : Int32) (M25 : gM) => Q x21 M25) p1 nf p1 M1) (Q (-3) M1))
set_option maxRecDepth 100000 in
set_option maxHeartbeats 4000000 in
theorem w_X9_grow_L33_w {X : gX} (ok : gOk X cX9_grow yX9_grow.cls 2 6 (some .int) gN) {Q : Int32 → gM → Prop} (hZ : gZi X Q) {K82 : Int32 → Int32 → gM → Prop} (v1 : Int32) (v2 : Int32) (v3 : Int32) (hK82 : ∀ (v4 : Int32) (v5 : Int32)  (M : gM), K82 v4 v5 M → gW X 82 [some (.inr 42), some (.inl v1), some (.inl v2), some (.inl v3), some (.inl v4), some (.inl v5)] [] M) : ∀ (n : Nat) (v4 : Int32) (v5 : Int32)  (M : gM), w_X9_grow_L33 Q K82 v1 v2 v3 n v4 v5 M → gW X 33 [some (.inr 42), some (.inl v1), some (.inl v2), some (.inl v3), some (.inl v4), some (.inl v5)] [] M
  | 0, _, _, _, h => h.elim
  | n + 1, v4, v5, M, h => by
    have ih := fun (v4 : Int32) (v5 : Int32)  (M : gM) h => w_X9_grow_L33_w ok hZ v1 v2 v3 hK82 n v4 v5  M h
    rw [w_X9_grow_L33.eq_2] at h
    refine g_iload ok dX9_grow_33 rfl ?_
    refine g_aload_n ok dX9_grow_35 rfl rfl ?_
    refine g_get (w := .inl (M 42 0)) ok f42_0 (gNm (by decide)) q3_234 dX9_grow_36 rfl ?_
    refine g_icmp_ge (tgt := 82) ok dX9_grow_39 (by decide) (fun z => ?_) (fun z => ?_)
    · have h := h.2 z
      exact hK82 (v4) (v5) M h
    · have h := h.1 z
      refine g_aload_n ok dX9_grow_42 rfl rfl ?_
      refine g_iload ok dX9_grow_43 rfl ?_
      refine g_callVi (st := []) (as := [.inl v5]) ok rfl (k_X9_edgesWith h) s_X9_edgesWith rfl (by decide) (gNm (by decide)) cl42 sel_X9_edgesWith ins_X9_edgesWith (gle rfl) rfl q4_158 dX9_grow_45 ?_
      intro r8 M7 h
      refine g_iload_n ok dX9_grow_48 rfl rfl ?_
      refine g_iand ok dX9_grow_49 ?_
      refine g_callSi (st := []) (as := [.inl (r8 &&& v3)]) ok rfl (k_X9_bits h) s_X9_bits rfl (by decide) stt_X9_bits (gle rfl) rfl q4_162 dX9_grow_50 ?_
      intro r10 M9 h
      refine g_aload_n ok dX9_grow_53 rfl rfl ?_
      refine g_iload ok dX9_grow_54 rfl ?_
      refine g_callVi (st := [.inl r10]) (as := [.inl v4]) ok rfl (k_X9_edgesWith h) s_X9_edgesWith rfl (by decide) (gNm (by decide)) cl42 sel_X9_edgesWith ins_X9_edgesWith (gle rfl) rfl q4_158 dX9_grow_56 ?_
      intro r12 M11 h
      refine g_iload_n ok dX9_grow_59 rfl rfl ?_
      refine g_iand ok dX9_grow_60 ?_
      refine g_callSi (st := [.inl r10]) (as := [.inl (r12 &&& v3)]) ok rfl (k_X9_bits h) s_X9_bits rfl (by decide) stt_X9_bits (gle rfl) rfl q4_162 dX9_grow_61 ?_
      intro r14 M13 h
      refine g_icmp_le (tgt := 72) ok dX9_grow_64 (by decide) (fun z => ?_) (fun z => ?_)
      · have h := h.2 z
        refine g_iload ok dX9_grow_72 rfl ?_
        refine g_istore (lv1 := [some (.inr 42), some (.inl v1), some (.inl v2), some (.inl v3), some (.inl v4), some (.inl v5)]) ok dX9_grow_74 (glt rfl) rfl ?_
        obtain ⟨x15, ex15⟩ : ∃ y : Int32, y = (v5 + 1) := ⟨_, rfl⟩
        have h := h x15 ex15
        refine g_iinc (v := x15) (lv1 := [some (.inr 42), some (.inl v1), some (.inl v2), some (.inl v3), some (.inl v4), some (.inl x15)]) ok dX9_grow_76 rfl (by rw [ex15]; rfl) rfl ?_
        refine g_goto (tgt := 33) ok dX9_grow_79 (by decide) ?_
        exact ih (v4) (x15) M13 h
      · have h := h.1 z
        refine g_iload ok dX9_grow_67 rfl ?_
        refine g_goto (tgt := 74) ok dX9_grow_69 (by decide) ?_
        refine g_istore (lv1 := [some (.inr 42), some (.inl v1), some (.inl v2), some (.inl v3), some (.inl v5), some (.inl v5)]) ok dX9_grow_74 (glt rfl) rfl ?_
        obtain ⟨x16, ex16⟩ : ∃ y : Int32, y = (v5 + 1) := ⟨_, rfl⟩
        have h := h x16 ex16
        refine g_iinc (v := x16) (lv1 := [some (.inr 42), some (.inl v1), some (.inl v2), some (.inl v3), some (.inl v5), some (.inl x16)]) ok dX9_grow_76 rfl (by rw [ex16]; rfl) rfl ?_
        refine g_goto (tgt := 33) ok dX9_grow_79 (by decide) ?_
        exact ih (v5) (x16) M13 h
set_option maxRecDepth 100000 in
set_option maxHeartbeats 4000000 in
theorem w_X9_grow_L13_w {X : gX} (ok : gOk X cX9_grow yX9_grow.cls 2 6 (some .int) gN) {Q : Int32 → gM → Prop} (hZ : gZi X Q) {K92 : Int32 → gM → Prop} (v1 : Int32) (hK92 : ∀ (v2 : Int32) (u3 : Option gV) (u4 : Option gV) (u5 : Option gV) (M : gM), K92 v2 M → gW X 92 [some (.inr 42), some (.inl v1), some (.inl v2), u3, u4, u5] [] M) : ∀ (n : Nat) (v2 : Int32) (u3 : Option gV) (u4 : Option gV) (u5 : Option gV) (M : gM), w_X9_grow_L13 Q K92 v1 n v2 M → gW X 13 [some (.inr 42), some (.inl v1), some (.inl v2), u3, u4, u5] [] M
  | 0, _, _, _, _, _, h => h.elim
  | n + 1, v2, u3, u4, u5, M, h => by
    have ih := fun (v2 : Int32) (u3 : Option gV) (u4 : Option gV) (u5 : Option gV) (M : gM) h => w_X9_grow_L13_w ok hZ v1 hK92 n v2 u3 u4 u5 M h
    rw [w_X9_grow_L13.eq_2] at h
    refine g_aload_n ok dX9_grow_13 rfl rfl ?_
    refine g_iload_n ok dX9_grow_14 rfl rfl ?_
    refine g_callVi (st := []) (as := [.inl v2]) ok rfl (k_X9_missedBy h) s_X9_missedBy rfl (by decide) (gNm (by decide)) cl42 sel_X9_missedBy ins_X9_missedBy (gle rfl) rfl q4_189 dX9_grow_15 ?_
    intro r4 M3 h
    refine g_if_eq (tgt := 92) ok dX9_grow_18 (by decide) (fun z => ?_) (fun z => ?_)
    · have h := h.1 z
      exact hK92 (v2) (u3) (u4) (u5) M3 h
    · have h := h.2 z
      refine g_aload_n ok dX9_grow_21 rfl rfl ?_
      refine g_iload_n ok dX9_grow_22 rfl rfl ?_
      refine g_callVi (st := []) (as := [.inl v2]) ok rfl (k_X9_missedBy h) s_X9_missedBy rfl (by decide) (gNm (by decide)) cl42 sel_X9_missedBy ins_X9_missedBy (gle rfl) rfl q4_189 dX9_grow_23 ?_
      intro r6 M5 h
      refine g_istore_n (lv1 := [some (.inr 42), some (.inl v1), some (.inl v2), some (.inl r6), u4, u5]) ok dX9_grow_26 rfl (glt rfl) rfl ?_
      refine g_iconst (v := 0) ok dX9_grow_27 (by decide) ?_
      refine g_istore (lv1 := [some (.inr 42), some (.inl v1), some (.inl v2), some (.inl r6), some (.inl 0), u5]) ok dX9_grow_28 (glt rfl) rfl ?_
      refine g_iconst (v := 1) ok dX9_grow_30 (by decide) ?_
      refine g_istore (lv1 := [some (.inr 42), some (.inl v1), some (.inl v2), some (.inl r6), some (.inl 0), some (.inl 1)]) ok dX9_grow_31 (glt rfl) rfl ?_
      obtain ⟨nf, h⟩ := h
      refine w_X9_grow_L33_w ok hZ v1 v2 r6 ?_ nf 0 1  M5 h
      · intro x17 x18  M19 h
        refine g_iload_n ok dX9_grow_82 rfl rfl ?_
        refine g_iconst (v := 1) ok dX9_grow_83 (by decide) ?_
        refine g_iload ok dX9_grow_84 rfl ?_
        refine g_ishl ok dX9_grow_86 ?_
        refine g_ior ok dX9_grow_87 ?_
        refine g_nm (fun x20 ex20 => ?_)
        have h := h x20 ex20
        refine g_istore_n (lv1 := [some (.inr 42), some (.inl v1), some (.inl x20), some (.inl r6), some (.inl x17), some (.inl x18)]) ok dX9_grow_88 rfl (glt rfl) rfl ?_
        refine g_goto (tgt := 13) ok dX9_grow_89 (by decide) ?_
        exact ih (x20) (some (.inl r6)) (some (.inl x17)) (some (.inl x18)) M19 h
set_option maxRecDepth 100000 in
set_option maxHeartbeats 4000000 in
theorem k_X9_grow {p1 : Int32} {M : gM} {Q : Int32 → gM → Prop} (h : w_X9_grow p1 M Q) : gCi gN 2 yX9_grow cX9_grow 6 .int [.inr 42, .inl p1] M Q := by
  refine gCi_of (by decide) gNn (gle rfl) (fun X ok hZ => ?_)
  show gW X 0 [some (.inr 42), some (.inl p1), none, none, none, none] [] M
  unfold w_X9_grow at h
  refine g_aload_n ok dX9_grow_0 rfl rfl ?_
  refine g_iload_n ok dX9_grow_1 rfl rfl ?_
  refine g_callVi (st := []) (as := [.inl p1]) ok rfl (k_X9_noSet h) s_X9_noSet rfl (by decide) (gNm (by decide)) cl42 sel_X9_noSet ins_X9_noSet (gle rfl) rfl q4_98 dX9_grow_2 ?_
  intro r2 M1 h
  refine g_if_eq (tgt := 11) ok dX9_grow_5 (by decide) (fun z => ?_) (fun z => ?_)
  · have h := h.1 z
    refine g_iload_n ok dX9_grow_11 rfl rfl ?_
    refine g_istore_n (lv1 := [some (.inr 42), some (.inl p1), some (.inl p1), none, none, none]) ok dX9_grow_12 rfl (glt rfl) rfl ?_
    obtain ⟨nf, h⟩ := h
    refine w_X9_grow_L13_w ok hZ p1 ?_ nf p1 (none) (none) (none) M1 h
    · intro x21 u22 u23 u24 M25 h
      refine g_iload_n ok dX9_grow_92 rfl rfl ?_
      exact g_iret ok hZ dX9_grow_93 h
  · have h := h.2 z
    refine g_bipush (v := (-3)) ok dX9_grow_8 (by decide) ?_
    exact g_iret ok hZ dX9_grow_10 h
theorem dX9_toTry_0 : decode cX9_toTry 0 = .ok (.iconst (-1), 1) := by decide +kernel
theorem dX9_toTry_1 : decode cX9_toTry 1 = .ok (.istore_n 3, 1) := by decide +kernel
theorem dX9_toTry_2 : decode cX9_toTry 2 = .ok (.iconst 0, 1) := by decide +kernel
theorem dX9_toTry_3 : decode cX9_toTry 3 = .ok (.istore 4, 2) := by decide +kernel
theorem dX9_toTry_5 : decode cX9_toTry 5 = .ok (.iload 4, 2) := by decide +kernel
theorem dX9_toTry_7 : decode cX9_toTry 7 = .ok (.aload_n 0, 1) := by decide +kernel
theorem dX9_toTry_8 : decode cX9_toTry 8 = .ok (.invokevirtual 80, 3) := by decide +kernel
theorem dX9_toTry_11 : decode cX9_toTry 11 = .ok (.if_icmp .ge 70, 3) := by decide +kernel
theorem dX9_toTry_14 : decode cX9_toTry 14 = .ok (.aload_n 0, 1) := by decide +kernel
theorem dX9_toTry_15 : decode cX9_toTry 15 = .ok (.getfield 7, 3) := by decide +kernel
theorem dX9_toTry_18 : decode cX9_toTry 18 = .ok (.iload 4, 2) := by decide +kernel
theorem dX9_toTry_20 : decode cX9_toTry 20 = .ok (.iaload, 1) := by decide +kernel
theorem dX9_toTry_21 : decode cX9_toTry 21 = .ok (.iload_n 1, 1) := by decide +kernel
theorem dX9_toTry_22 : decode cX9_toTry 22 = .ok (.iand, 1) := by decide +kernel
theorem dX9_toTry_23 : decode cX9_toTry 23 = .ok (.ifCond .ne 37, 3) := by decide +kernel
theorem dX9_toTry_26 : decode cX9_toTry 26 = .ok (.iload_n 3, 1) := by decide +kernel
theorem dX9_toTry_27 : decode cX9_toTry 27 = .ok (.ifCond .lt 29, 3) := by decide +kernel
theorem dX9_toTry_30 : decode cX9_toTry 30 = .ok (.aload_n 0, 1) := by decide +kernel
theorem dX9_toTry_31 : decode cX9_toTry 31 = .ok (.getfield 7, 3) := by decide +kernel
theorem dX9_toTry_34 : decode cX9_toTry 34 = .ok (.iload 4, 2) := by decide +kernel
theorem dX9_toTry_36 : decode cX9_toTry 36 = .ok (.iaload, 1) := by decide +kernel
theorem dX9_toTry_37 : decode cX9_toTry 37 = .ok (.iload_n 2, 1) := by decide +kernel
theorem dX9_toTry_38 : decode cX9_toTry 38 = .ok (.iand, 1) := by decide +kernel
theorem dX9_toTry_39 : decode cX9_toTry 39 = .ok (.invokestatic 119, 3) := by decide +kernel
theorem dX9_toTry_42 : decode cX9_toTry 42 = .ok (.aload_n 0, 1) := by decide +kernel
theorem dX9_toTry_43 : decode cX9_toTry 43 = .ok (.getfield 7, 3) := by decide +kernel
theorem dX9_toTry_46 : decode cX9_toTry 46 = .ok (.iload_n 3, 1) := by decide +kernel
theorem dX9_toTry_47 : decode cX9_toTry 47 = .ok (.iaload, 1) := by decide +kernel
theorem dX9_toTry_48 : decode cX9_toTry 48 = .ok (.iload_n 2, 1) := by decide +kernel
theorem dX9_toTry_49 : decode cX9_toTry 49 = .ok (.iand, 1) := by decide +kernel
theorem dX9_toTry_50 : decode cX9_toTry 50 = .ok (.invokestatic 119, 3) := by decide +kernel
theorem dX9_toTry_53 : decode cX9_toTry 53 = .ok (.if_icmp .ge 7, 3) := by decide +kernel
theorem dX9_toTry_56 : decode cX9_toTry 56 = .ok (.iconst 1, 1) := by decide +kernel
theorem dX9_toTry_57 : decode cX9_toTry 57 = .ok (.goto 4, 3) := by decide +kernel
theorem dX9_toTry_60 : decode cX9_toTry 60 = .ok (.iconst 0, 1) := by decide +kernel
theorem dX9_toTry_61 : decode cX9_toTry 61 = .ok (.istore 5, 2) := by decide +kernel
theorem dX9_toTry_63 : decode cX9_toTry 63 = .ok (.iload 5, 2) := by decide +kernel
theorem dX9_toTry_65 : decode cX9_toTry 65 = .ok (.ifCond .eq 8, 3) := by decide +kernel
theorem dX9_toTry_68 : decode cX9_toTry 68 = .ok (.iload 4, 2) := by decide +kernel
theorem dX9_toTry_70 : decode cX9_toTry 70 = .ok (.goto 4, 3) := by decide +kernel
theorem dX9_toTry_73 : decode cX9_toTry 73 = .ok (.iload_n 3, 1) := by decide +kernel
theorem dX9_toTry_74 : decode cX9_toTry 74 = .ok (.istore_n 3, 1) := by decide +kernel
theorem dX9_toTry_75 : decode cX9_toTry 75 = .ok (.iinc 4 1, 3) := by decide +kernel
theorem dX9_toTry_78 : decode cX9_toTry 78 = .ok (.goto (-73), 3) := by decide +kernel
theorem dX9_toTry_81 : decode cX9_toTry 81 = .ok (.aload_n 0, 1) := by decide +kernel
theorem dX9_toTry_82 : decode cX9_toTry 82 = .ok (.getfield 7, 3) := by decide +kernel
theorem dX9_toTry_85 : decode cX9_toTry 85 = .ok (.iload_n 3, 1) := by decide +kernel
theorem dX9_toTry_86 : decode cX9_toTry 86 = .ok (.iaload, 1) := by decide +kernel
theorem dX9_toTry_87 : decode cX9_toTry 87 = .ok (.iload_n 2, 1) := by decide +kernel
theorem dX9_toTry_88 : decode cX9_toTry 88 = .ok (.iand, 1) := by decide +kernel
theorem dX9_toTry_89 : decode cX9_toTry 89 = .ok (.ireturn, 1) := by decide +kernel
theorem s_X9_toTry : gSt yX9_toTry cX9_toTry 6 (some .int) 2 := ⟨q4_232, q1_10, ⟨by decide, by decide, by decide +kernel⟩, by decide⟩
theorem sel_X9_toTry : Cond.selects yX9_toTry.cls yX9_toTry yX9_toTry ∈ gT := qs_37
theorem ins_X9_toTry : Cond.instanceMethod yX9_toTry ∈ gT := q4_231
def w_X9_toTry_L5 (Q : Int32 → gM → Prop) (K81 : Int32 → Int32 → gM → Prop) (v1 : Int32) (v2 : Int32) : Nat → Int32 → Int32 → gM → Prop
  | 0, _, _, _ => False
  | n + 1, v3, v4, M => w_X9_many M (fun (r2 : Int32) (M1 : gM) => gbr ((v4 : Int32) < r2) (vp_in v4 25 ∧ (gbr ((((M1 43 (Int32.toNatClampNeg v4)) &&& v1) : Int32) = 0) (gbr ((v3 : Int32) < 0) (∀ x4 : Int32, x4 = (v4 + 1) → (w_X9_toTry_L5 Q K81 v1 v2 n (v4) (x4) M1)) (vp_in v4 25 ∧ (w_X9_bits ((M1 43 (Int32.toNatClampNeg v4)) &&& v2) M1 (fun (r6 : Int32) (M5 : gM) => vp_in v3 25 ∧ (w_X9_bits ((M5 43 (Int32.toNatClampNeg v3)) &&& v2) M5 (fun (r8 : Int32) (M7 : gM) => gbr ((r6 : Int32) < r8) (∀ x10 : Int32, x10 = (v4 + 1) → (w_X9_toTry_L5 Q K81 v1 v2 n (v4) (x10) M7)) (∀ x9 : Int32, x9 = (v4 + 1) → (w_X9_toTry_L5 Q K81 v1 v2 n (v3) (x9) M7)))))))) (∀ x3 : Int32, x3 = (v4 + 1) → (w_X9_toTry_L5 Q K81 v1 v2 n (v3) (x3) M1)))) (K81 (v3) (v4) M1))
def w_X9_toTry (p1 : Int32) (p2 : Int32) (M : gM) (Q : Int32 → gM → Prop) : Prop := ∃ nf, w_X9_toTry_L5 Q (fun (x11 : Int32) (x12 : Int32) (M14 : gM) => vp_in x11 25 ∧ (Q ((M14 43 (Int32.toNatClampNeg x11)) &&& p2) M14)) p1 p2 nf (-1) 0 M
set_option maxRecDepth 100000 in
set_option maxHeartbeats 4000000 in
theorem w_X9_toTry_L5_w {X : gX} (ok : gOk X cX9_toTry yX9_toTry.cls 1 6 (some .int) gN) {Q : Int32 → gM → Prop} (hZ : gZi X Q) {K81 : Int32 → Int32 → gM → Prop} (v1 : Int32) (v2 : Int32) (hK81 : ∀ (v3 : Int32) (v4 : Int32) (u5 : Option gV) (M : gM), K81 v3 v4 M → gW X 81 [some (.inr 42), some (.inl v1), some (.inl v2), some (.inl v3), some (.inl v4), u5] [] M) : ∀ (n : Nat) (v3 : Int32) (v4 : Int32) (u5 : Option gV) (M : gM), w_X9_toTry_L5 Q K81 v1 v2 n v3 v4 M → gW X 5 [some (.inr 42), some (.inl v1), some (.inl v2), some (.inl v3), some (.inl v4), u5] [] M
  | 0, _, _, _, _, h => h.elim
  | n + 1, v3, v4, u5, M, h => by
    have ih := fun (v3 : Int32) (v4 : Int32) (u5 : Option gV) (M : gM) h => w_X9_toTry_L5_w ok hZ v1 v2 hK81 n v3 v4 u5 M h
    rw [w_X9_toTry_L5.eq_2] at h
    refine g_iload ok dX9_toTry_5 rfl ?_
    refine g_aload_n ok dX9_toTry_7 rfl rfl ?_
    refine g_callVi (st := [.inl v4]) (as := []) ok rfl (k_X9_many h) s_X9_many rfl (by decide) (gNm (by decide)) cl42 sel_X9_many ins_X9_many (gle rfl) rfl q4_110 dX9_toTry_8 ?_
    intro r2 M1 h
    refine g_icmp_ge (tgt := 81) ok dX9_toTry_11 (by decide) (fun z => ?_) (fun z => ?_)
    · have h := h.2 z
      exact hK81 (v3) (v4) (u5) M1 h
    · have h := h.1 z
      refine g_aload_n ok dX9_toTry_14 rfl rfl ?_
      refine g_get (w := .inr 43) ok f42_1 (gNm (by decide)) q3_235 dX9_toTry_15 rfl ?_
      refine g_iload ok dX9_toTry_18 rfl ?_
      have hb := h.1
      have h := h.2
      refine g_iald (w := (M1 43 (Int32.toNatClampNeg v4))) ok a43 (gNm (by decide)) dX9_toTry_20 hb rfl ?_
      refine g_iload_n ok dX9_toTry_21 rfl rfl ?_
      refine g_iand ok dX9_toTry_22 ?_
      refine g_if_ne (tgt := 60) ok dX9_toTry_23 (by decide) (fun z => ?_) (fun z => ?_)
      · have h := h.2 z
        refine g_iconst (v := 0) ok dX9_toTry_60 (by decide) ?_
        refine g_istore (lv1 := [some (.inr 42), some (.inl v1), some (.inl v2), some (.inl v3), some (.inl v4), some (.inl 0)]) ok dX9_toTry_61 (glt rfl) rfl ?_
        refine g_iload ok dX9_toTry_63 rfl ?_
        refine g_if_eq (tgt := 73) ok dX9_toTry_65 (by decide) (fun z => ?_) (fun z => ?_)
        · refine g_iload_n ok dX9_toTry_73 rfl rfl ?_
          refine g_istore_n (lv1 := [some (.inr 42), some (.inl v1), some (.inl v2), some (.inl v3), some (.inl v4), some (.inl 0)]) ok dX9_toTry_74 rfl (glt rfl) rfl ?_
          obtain ⟨x3, ex3⟩ : ∃ y : Int32, y = (v4 + 1) := ⟨_, rfl⟩
          have h := h x3 ex3
          refine g_iinc (v := x3) (lv1 := [some (.inr 42), some (.inl v1), some (.inl v2), some (.inl v3), some (.inl x3), some (.inl 0)]) ok dX9_toTry_75 rfl (by rw [ex3]; rfl) rfl ?_
          refine g_goto (tgt := 5) ok dX9_toTry_78 (by decide) ?_
          exact ih (v3) (x3) (some (.inl 0)) M1 h
        · exact absurd (by decide) z
      · have h := h.1 z
        refine g_iload_n ok dX9_toTry_26 rfl rfl ?_
        refine g_if_lt (tgt := 56) ok dX9_toTry_27 (by decide) (fun z => ?_) (fun z => ?_)
        · have h := h.1 z
          refine g_iconst (v := 1) ok dX9_toTry_56 (by decide) ?_
          refine g_goto (tgt := 61) ok dX9_toTry_57 (by decide) ?_
          refine g_istore (lv1 := [some (.inr 42), some (.inl v1), some (.inl v2), some (.inl v3), some (.inl v4), some (.inl 1)]) ok dX9_toTry_61 (glt rfl) rfl ?_
          refine g_iload ok dX9_toTry_63 rfl ?_
          refine g_if_eq (tgt := 73) ok dX9_toTry_65 (by decide) (fun z => ?_) (fun z => ?_)
          · exact absurd z (by decide)
          · refine g_iload ok dX9_toTry_68 rfl ?_
            refine g_goto (tgt := 74) ok dX9_toTry_70 (by decide) ?_
            refine g_istore_n (lv1 := [some (.inr 42), some (.inl v1), some (.inl v2), some (.inl v4), some (.inl v4), some (.inl 1)]) ok dX9_toTry_74 rfl (glt rfl) rfl ?_
            obtain ⟨x4, ex4⟩ : ∃ y : Int32, y = (v4 + 1) := ⟨_, rfl⟩
            have h := h x4 ex4
            refine g_iinc (v := x4) (lv1 := [some (.inr 42), some (.inl v1), some (.inl v2), some (.inl v4), some (.inl x4), some (.inl 1)]) ok dX9_toTry_75 rfl (by rw [ex4]; rfl) rfl ?_
            refine g_goto (tgt := 5) ok dX9_toTry_78 (by decide) ?_
            exact ih (v4) (x4) (some (.inl 1)) M1 h
        · have h := h.2 z
          refine g_aload_n ok dX9_toTry_30 rfl rfl ?_
          refine g_get (w := .inr 43) ok f42_1 (gNm (by decide)) q3_235 dX9_toTry_31 rfl ?_
          refine g_iload ok dX9_toTry_34 rfl ?_
          have hb := h.1
          have h := h.2
          refine g_iald (w := (M1 43 (Int32.toNatClampNeg v4))) ok a43 (gNm (by decide)) dX9_toTry_36 hb rfl ?_
          refine g_iload_n ok dX9_toTry_37 rfl rfl ?_
          refine g_iand ok dX9_toTry_38 ?_
          refine g_callSi (st := []) (as := [.inl ((M1 43 (Int32.toNatClampNeg v4)) &&& v2)]) ok rfl (k_X9_bits h) s_X9_bits rfl (by decide) stt_X9_bits (gle rfl) rfl q4_162 dX9_toTry_39 ?_
          intro r6 M5 h
          refine g_aload_n ok dX9_toTry_42 rfl rfl ?_
          refine g_get (w := .inr 43) ok f42_1 (gNm (by decide)) q3_235 dX9_toTry_43 rfl ?_
          refine g_iload_n ok dX9_toTry_46 rfl rfl ?_
          have hb := h.1
          have h := h.2
          refine g_iald (w := (M5 43 (Int32.toNatClampNeg v3))) ok a43 (gNm (by decide)) dX9_toTry_47 hb rfl ?_
          refine g_iload_n ok dX9_toTry_48 rfl rfl ?_
          refine g_iand ok dX9_toTry_49 ?_
          refine g_callSi (st := [.inl r6]) (as := [.inl ((M5 43 (Int32.toNatClampNeg v3)) &&& v2)]) ok rfl (k_X9_bits h) s_X9_bits rfl (by decide) stt_X9_bits (gle rfl) rfl q4_162 dX9_toTry_50 ?_
          intro r8 M7 h
          refine g_icmp_ge (tgt := 60) ok dX9_toTry_53 (by decide) (fun z => ?_) (fun z => ?_)
          · have h := h.2 z
            refine g_iconst (v := 0) ok dX9_toTry_60 (by decide) ?_
            refine g_istore (lv1 := [some (.inr 42), some (.inl v1), some (.inl v2), some (.inl v3), some (.inl v4), some (.inl 0)]) ok dX9_toTry_61 (glt rfl) rfl ?_
            refine g_iload ok dX9_toTry_63 rfl ?_
            refine g_if_eq (tgt := 73) ok dX9_toTry_65 (by decide) (fun z => ?_) (fun z => ?_)
            · refine g_iload_n ok dX9_toTry_73 rfl rfl ?_
              refine g_istore_n (lv1 := [some (.inr 42), some (.inl v1), some (.inl v2), some (.inl v3), some (.inl v4), some (.inl 0)]) ok dX9_toTry_74 rfl (glt rfl) rfl ?_
              obtain ⟨x9, ex9⟩ : ∃ y : Int32, y = (v4 + 1) := ⟨_, rfl⟩
              have h := h x9 ex9
              refine g_iinc (v := x9) (lv1 := [some (.inr 42), some (.inl v1), some (.inl v2), some (.inl v3), some (.inl x9), some (.inl 0)]) ok dX9_toTry_75 rfl (by rw [ex9]; rfl) rfl ?_
              refine g_goto (tgt := 5) ok dX9_toTry_78 (by decide) ?_
              exact ih (v3) (x9) (some (.inl 0)) M7 h
            · exact absurd (by decide) z
          · have h := h.1 z
            refine g_iconst (v := 1) ok dX9_toTry_56 (by decide) ?_
            refine g_goto (tgt := 61) ok dX9_toTry_57 (by decide) ?_
            refine g_istore (lv1 := [some (.inr 42), some (.inl v1), some (.inl v2), some (.inl v3), some (.inl v4), some (.inl 1)]) ok dX9_toTry_61 (glt rfl) rfl ?_
            refine g_iload ok dX9_toTry_63 rfl ?_
            refine g_if_eq (tgt := 73) ok dX9_toTry_65 (by decide) (fun z => ?_) (fun z => ?_)
            · exact absurd z (by decide)
            · refine g_iload ok dX9_toTry_68 rfl ?_
              refine g_goto (tgt := 74) ok dX9_toTry_70 (by decide) ?_
              refine g_istore_n (lv1 := [some (.inr 42), some (.inl v1), some (.inl v2), some (.inl v4), some (.inl v4), some (.inl 1)]) ok dX9_toTry_74 rfl (glt rfl) rfl ?_
              obtain ⟨x10, ex10⟩ : ∃ y : Int32, y = (v4 + 1) := ⟨_, rfl⟩
              have h := h x10 ex10
              refine g_iinc (v := x10) (lv1 := [some (.inr 42), some (.inl v1), some (.inl v2), some (.inl v4), some (.inl x10), some (.inl 1)]) ok dX9_toTry_75 rfl (by rw [ex10]; rfl) rfl ?_
              refine g_goto (tgt := 5) ok dX9_toTry_78 (by decide) ?_
              exact ih (v4) (x10) (some (.inl 1)) M7 h
set_option maxRecDepth 100000 in
set_option maxHeartbeats 4000000 in
theorem k_X9_toTry {p1 : Int32} {p2 : Int32} {M : gM} {Q : Int32 → gM → Prop} (h : w_X9_toTry p1 p2 M Q) : gCi gN 1 yX9_toTry cX9_toTry 6 .int [.inr 42, .inl p1, .inl p2] M Q := by
  refine gCi_of (by decide) gNn (gle rfl) (fun X ok hZ => ?_)
  show gW X 0 [some (.inr 42), some (.inl p1), some (.inl p2), none, none, none] [] M
  unfold w_X9_toTry at h
  refine g_iconst (v := (-1)) ok dX9_toTry_0 (by decide) ?_
  refine g_istore_n (lv1 := [some (.inr 42), some (.inl p1), some (.inl p2), some (.inl (-1)), none, none]) ok dX9_toTry_1 rfl (glt rfl) rfl ?_
  refine g_iconst (v := 0) ok dX9_toTry_2 (by decide) ?_
  refine g_istore (lv1 := [some (.inr 42), some (.inl p1), some (.inl p2), some (.inl (-1)), some (.inl 0), none]) ok dX9_toTry_3 (glt rfl) rfl ?_
  obtain ⟨nf, h⟩ := h
  refine w_X9_toTry_L5_w ok hZ p1 p2 ?_ nf (-1) 0 (none) M h
  · intro x11 x12 u13 M14 h
    refine g_aload_n ok dX9_toTry_81 rfl rfl ?_
    refine g_get (w := .inr 43) ok f42_1 (gNm (by decide)) q3_235 dX9_toTry_82 rfl ?_
    refine g_iload_n ok dX9_toTry_85 rfl rfl ?_
    have hb := h.1
    have h := h.2
    refine g_iald (w := (M14 43 (Int32.toNatClampNeg x11))) ok a43 (gNm (by decide)) dX9_toTry_86 hb rfl ?_
    refine g_iload_n ok dX9_toTry_87 rfl rfl ?_
    refine g_iand ok dX9_toTry_88 ?_
    exact g_iret ok hZ dX9_toTry_89 h
theorem dX9_visit_0 : decode cX9_visit 0 = .ok (.aload_n 0, 1) := by decide +kernel
theorem dX9_visit_1 : decode cX9_visit 1 = .ok (.dup, 1) := by decide +kernel
theorem dX9_visit_2 : decode cX9_visit 2 = .ok (.getfield 132, 3) := by decide +kernel
theorem dX9_visit_5 : decode cX9_visit 5 = .ok (.iconst 1, 1) := by decide +kernel
theorem dX9_visit_6 : decode cX9_visit 6 = .ok (.iadd, 1) := by decide +kernel
theorem dX9_visit_7 : decode cX9_visit 7 = .ok (.putfield 132, 3) := by decide +kernel
theorem dX9_visit_10 : decode cX9_visit 10 = .ok (.aload_n 0, 1) := by decide +kernel
theorem dX9_visit_11 : decode cX9_visit 11 = .ok (.getfield 28, 3) := by decide +kernel
theorem dX9_visit_14 : decode cX9_visit 14 = .ok (.iload_n 1, 1) := by decide +kernel
theorem dX9_visit_15 : decode cX9_visit 15 = .ok (.iaload, 1) := by decide +kernel
theorem dX9_visit_16 : decode cX9_visit 16 = .ok (.istore_n 2, 1) := by decide +kernel
theorem dX9_visit_17 : decode cX9_visit 17 = .ok (.aload_n 0, 1) := by decide +kernel
theorem dX9_visit_18 : decode cX9_visit 18 = .ok (.iload_n 2, 1) := by decide +kernel
theorem dX9_visit_19 : decode cX9_visit 19 = .ok (.invokevirtual 126, 3) := by decide +kernel
theorem dX9_visit_22 : decode cX9_visit 22 = .ok (.ifCond .ne 51, 3) := by decide +kernel
theorem dX9_visit_25 : decode cX9_visit 25 = .ok (.aload_n 0, 1) := by decide +kernel
theorem dX9_visit_26 : decode cX9_visit 26 = .ok (.getfield 22, 3) := by decide +kernel
theorem dX9_visit_29 : decode cX9_visit 29 = .ok (.aload_n 0, 1) := by decide +kernel
theorem dX9_visit_30 : decode cX9_visit 30 = .ok (.getfield 135, 3) := by decide +kernel
theorem dX9_visit_33 : decode cX9_visit 33 = .ok (.iload_n 2, 1) := by decide +kernel
theorem dX9_visit_34 : decode cX9_visit 34 = .ok (.iastore, 1) := by decide +kernel
theorem dX9_visit_35 : decode cX9_visit 35 = .ok (.aload_n 0, 1) := by decide +kernel
theorem dX9_visit_36 : decode cX9_visit 36 = .ok (.getfield 25, 3) := by decide +kernel
theorem dX9_visit_39 : decode cX9_visit 39 = .ok (.aload_n 0, 1) := by decide +kernel
theorem dX9_visit_40 : decode cX9_visit 40 = .ok (.getfield 135, 3) := by decide +kernel
theorem dX9_visit_43 : decode cX9_visit 43 = .ok (.aload_n 0, 1) := by decide +kernel
theorem dX9_visit_44 : decode cX9_visit 44 = .ok (.getfield 132, 3) := by decide +kernel
theorem dX9_visit_47 : decode cX9_visit 47 = .ok (.aload_n 0, 1) := by decide +kernel
theorem dX9_visit_48 : decode cX9_visit 48 = .ok (.getfield 138, 3) := by decide +kernel
theorem dX9_visit_51 : decode cX9_visit 51 = .ok (.isub, 1) := by decide +kernel
theorem dX9_visit_52 : decode cX9_visit 52 = .ok (.iastore, 1) := by decide +kernel
theorem dX9_visit_53 : decode cX9_visit 53 = .ok (.aload_n 0, 1) := by decide +kernel
theorem dX9_visit_54 : decode cX9_visit 54 = .ok (.aload_n 0, 1) := by decide +kernel
theorem dX9_visit_55 : decode cX9_visit 55 = .ok (.getfield 132, 3) := by decide +kernel
theorem dX9_visit_58 : decode cX9_visit 58 = .ok (.putfield 138, 3) := by decide +kernel
theorem dX9_visit_61 : decode cX9_visit 61 = .ok (.aload_n 0, 1) := by decide +kernel
theorem dX9_visit_62 : decode cX9_visit 62 = .ok (.dup, 1) := by decide +kernel
theorem dX9_visit_63 : decode cX9_visit 63 = .ok (.getfield 135, 3) := by decide +kernel
theorem dX9_visit_66 : decode cX9_visit 66 = .ok (.iconst 1, 1) := by decide +kernel
theorem dX9_visit_67 : decode cX9_visit 67 = .ok (.iadd, 1) := by decide +kernel
theorem dX9_visit_68 : decode cX9_visit 68 = .ok (.putfield 135, 3) := by decide +kernel
theorem dX9_visit_71 : decode cX9_visit 71 = .ok (.iconst 0, 1) := by decide +kernel
theorem dX9_visit_72 : decode cX9_visit 72 = .ok (.ireturn, 1) := by decide +kernel
theorem dX9_visit_73 : decode cX9_visit 73 = .ok (.aload_n 0, 1) := by decide +kernel
theorem dX9_visit_74 : decode cX9_visit 74 = .ok (.iload_n 2, 1) := by decide +kernel
theorem dX9_visit_75 : decode cX9_visit 75 = .ok (.aload_n 0, 1) := by decide +kernel
theorem dX9_visit_76 : decode cX9_visit 76 = .ok (.getfield 31, 3) := by decide +kernel
theorem dX9_visit_79 : decode cX9_visit 79 = .ok (.iload_n 1, 1) := by decide +kernel
theorem dX9_visit_80 : decode cX9_visit 80 = .ok (.iaload, 1) := by decide +kernel
theorem dX9_visit_81 : decode cX9_visit 81 = .ok (.invokevirtual 141, 3) := by decide +kernel
theorem dX9_visit_84 : decode cX9_visit 84 = .ok (.istore_n 3, 1) := by decide +kernel
theorem dX9_visit_85 : decode cX9_visit 85 = .ok (.aload_n 0, 1) := by decide +kernel
theorem dX9_visit_86 : decode cX9_visit 86 = .ok (.getfield 34, 3) := by decide +kernel
theorem dX9_visit_89 : decode cX9_visit 89 = .ok (.iload_n 1, 1) := by decide +kernel
theorem dX9_visit_90 : decode cX9_visit 90 = .ok (.iload_n 3, 1) := by decide +kernel
theorem dX9_visit_91 : decode cX9_visit 91 = .ok (.iastore, 1) := by decide +kernel
theorem dX9_visit_92 : decode cX9_visit 92 = .ok (.aload_n 0, 1) := by decide +kernel
theorem dX9_visit_93 : decode cX9_visit 93 = .ok (.getfield 31, 3) := by decide +kernel
theorem dX9_visit_96 : decode cX9_visit 96 = .ok (.iload_n 1, 1) := by decide +kernel
theorem dX9_visit_97 : decode cX9_visit 97 = .ok (.dup2, 1) := by decide +kernel
theorem dX9_visit_98 : decode cX9_visit 98 = .ok (.iaload, 1) := by decide +kernel
theorem dX9_visit_99 : decode cX9_visit 99 = .ok (.iload_n 3, 1) := by decide +kernel
theorem dX9_visit_100 : decode cX9_visit 100 = .ok (.iconst (-1), 1) := by decide +kernel
theorem dX9_visit_101 : decode cX9_visit 101 = .ok (.ixor, 1) := by decide +kernel
theorem dX9_visit_102 : decode cX9_visit 102 = .ok (.iand, 1) := by decide +kernel
theorem dX9_visit_103 : decode cX9_visit 103 = .ok (.iastore, 1) := by decide +kernel
theorem dX9_visit_104 : decode cX9_visit 104 = .ok (.aload_n 0, 1) := by decide +kernel
theorem dX9_visit_105 : decode cX9_visit 105 = .ok (.getfield 37, 3) := by decide +kernel
theorem dX9_visit_108 : decode cX9_visit 108 = .ok (.iload_n 1, 1) := by decide +kernel
theorem dX9_visit_109 : decode cX9_visit 109 = .ok (.iconst 0, 1) := by decide +kernel
theorem dX9_visit_110 : decode cX9_visit 110 = .ok (.iastore, 1) := by decide +kernel
theorem dX9_visit_111 : decode cX9_visit 111 = .ok (.iload_n 3, 1) := by decide +kernel
theorem dX9_visit_112 : decode cX9_visit 112 = .ok (.ifCond .eq 7, 3) := by decide +kernel
theorem dX9_visit_115 : decode cX9_visit 115 = .ok (.iconst 1, 1) := by decide +kernel
theorem dX9_visit_116 : decode cX9_visit 116 = .ok (.goto 4, 3) := by decide +kernel
theorem dX9_visit_119 : decode cX9_visit 119 = .ok (.iconst 0, 1) := by decide +kernel
theorem dX9_visit_120 : decode cX9_visit 120 = .ok (.ireturn, 1) := by decide +kernel
theorem s_X9_visit : gSt yX9_visit cX9_visit 4 (some .boolean) 1 := ⟨q4_228, q1_10, ⟨by decide, by decide, by decide +kernel⟩, by decide⟩
theorem sel_X9_visit : Cond.selects yX9_visit.cls yX9_visit yX9_visit ∈ gT := qs_36
theorem ins_X9_visit : Cond.instanceMethod yX9_visit ∈ gT := q4_227
def w_X9_visit (p1 : Int32) (M : gM) (Q : Int32 → gM → Prop) : Prop := ∀ M1 : gM, M1 = gst M 42 8 ((M 42 8) + 1) → (vp_in p1 16 ∧ (∀ x2 : Int32, x2 = (M1 49 (Int32.toNatClampNeg p1)) → (w_X9_missedBy x2 M1 (fun (r4 : Int32) (M3 : gM) => gbr ((r4 : Int32) = 0) (vp_in (M3 42 7) 4000 ∧ ∀ M10 : gM, M10 = gst M3 47 (Int32.toNatClampNeg (M3 42 7)) x2 → (vp_in (M10 42 7) 4000 ∧ ∀ M11 : gM, M11 = gst M10 48 (Int32.toNatClampNeg (M10 42 7)) ((M10 42 8) - (M10 42 16)) → (∀ M12 : gM, M12 = gst M11 42 16 (M11 42 8) → (∀ M13 : gM, M13 = gst M12 42 7 ((M12 42 7) + 1) → (Q 0 M13))))) (vp_in p1 16 ∧ (w_X9_toTry x2 (M3 50 (Int32.toNatClampNeg p1)) M3 (fun (r6 : Int32) (M5 : gM) => vp_in p1 16 ∧ ∀ M7 : gM, M7 = gst M5 51 (Int32.toNatClampNeg p1) r6 → (vp_in p1 16 ∧ (vp_in p1 16 ∧ ∀ M8 : gM, M8 = gst M7 50 (Int32.toNatClampNeg p1) ((M7 50 (Int32.toNatClampNeg p1)) &&& (r6 ^^^ (-1))) → (vp_in p1 16 ∧ ∀ M9 : gM, M9 = gst M8 52 (Int32.toNatClampNeg p1) 0 → (gbr ((r6 : Int32) = 0) (Q 0 M9) (Q 1 M9))))))))))))
set_option maxRecDepth 100000 in
set_option maxHeartbeats 4000000 in
theorem k_X9_visit {p1 : Int32} {M : gM} {Q : Int32 → gM → Prop} (h : w_X9_visit p1 M Q) : gCi gN 2 yX9_visit cX9_visit 4 .boolean [.inr 42, .inl p1] M Q := by
  refine gCi_of (by decide) gNn (gle rfl) (fun X ok hZ => ?_)
  show gW X 0 [some (.inr 42), some (.inl p1), none, none] [] M
  unfold w_X9_visit at h
  refine g_aload_n ok dX9_visit_0 rfl rfl ?_
  refine g_dup ok dX9_visit_1 ?_
  refine g_get (w := .inl (M 42 8)) ok f42_8 (gNm (by decide)) q4_2 dX9_visit_2 rfl ?_
  refine g_iconst (v := 1) ok dX9_visit_5 (by decide) ?_
  refine g_iadd ok dX9_visit_6 ?_
  refine g_put ok f42_8p (gNm (by decide)) q4_2 dX9_visit_7 rfl rfl (g_mem (fun M1 eM1 => ?_))
  have h := h M1 eM1
  refine g_aload_n ok dX9_visit_10 rfl rfl ?_
  refine g_get (w := .inr 49) ok f42_12 (gNm (by decide)) q4_6 dX9_visit_11 rfl ?_
  refine g_iload_n ok dX9_visit_14 rfl rfl ?_
  have hb := h.1
  have h := h.2
  refine g_iald (w := (M1 49 (Int32.toNatClampNeg p1))) ok a49 (gNm (by decide)) dX9_visit_15 hb rfl ?_
  refine g_nm (fun x2 ex2 => ?_)
  have h := h x2 ex2
  refine g_istore_n (lv1 := [some (.inr 42), some (.inl p1), some (.inl x2), none]) ok dX9_visit_16 rfl (glt rfl) rfl ?_
  refine g_aload_n ok dX9_visit_17 rfl rfl ?_
  refine g_iload_n ok dX9_visit_18 rfl rfl ?_
  refine g_callVi (st := []) (as := [.inl x2]) ok rfl (k_X9_missedBy h) s_X9_missedBy rfl (by decide) (gNm (by decide)) cl42 sel_X9_missedBy ins_X9_missedBy (gle rfl) rfl q4_189 dX9_visit_19 ?_
  intro r4 M3 h
  refine g_if_ne (tgt := 73) ok dX9_visit_22 (by decide) (fun z => ?_) (fun z => ?_)
  · have h := h.2 z
    refine g_aload_n ok dX9_visit_73 rfl rfl ?_
    refine g_iload_n ok dX9_visit_74 rfl rfl ?_
    refine g_aload_n ok dX9_visit_75 rfl rfl ?_
    refine g_get (w := .inr 50) ok f42_13 (gNm (by decide)) q4_7 dX9_visit_76 rfl ?_
    refine g_iload_n ok dX9_visit_79 rfl rfl ?_
    have hb := h.1
    have h := h.2
    refine g_iald (w := (M3 50 (Int32.toNatClampNeg p1))) ok a50 (gNm (by decide)) dX9_visit_80 hb rfl ?_
    refine g_callVi (st := []) (as := [.inl x2, .inl (M3 50 (Int32.toNatClampNeg p1))]) ok rfl (k_X9_toTry h) s_X9_toTry rfl (by decide) (gNm (by decide)) cl42 sel_X9_toTry ins_X9_toTry (gle rfl) rfl q4_229 dX9_visit_81 ?_
    intro r6 M5 h
    refine g_istore_n (lv1 := [some (.inr 42), some (.inl p1), some (.inl x2), some (.inl r6)]) ok dX9_visit_84 rfl (glt rfl) rfl ?_
    refine g_aload_n ok dX9_visit_85 rfl rfl ?_
    refine g_get (w := .inr 51) ok f42_14 (gNm (by decide)) q4_8 dX9_visit_86 rfl ?_
    refine g_iload_n ok dX9_visit_89 rfl rfl ?_
    refine g_iload_n ok dX9_visit_90 rfl rfl ?_
    have hb := h.1
    have h := h.2
    refine g_iast ok a51 (gNm (by decide)) dX9_visit_91 hb (g_mem (fun M7 eM7 => ?_))
    have h := h M7 eM7
    refine g_aload_n ok dX9_visit_92 rfl rfl ?_
    refine g_get (w := .inr 50) ok f42_13 (gNm (by decide)) q4_7 dX9_visit_93 rfl ?_
    refine g_iload_n ok dX9_visit_96 rfl rfl ?_
    refine g_dup2 ok dX9_visit_97 ?_
    have hb := h.1
    have h := h.2
    refine g_iald (w := (M7 50 (Int32.toNatClampNeg p1))) ok a50 (gNm (by decide)) dX9_visit_98 hb rfl ?_
    refine g_iload_n ok dX9_visit_99 rfl rfl ?_
    refine g_iconst (v := (-1)) ok dX9_visit_100 (by decide) ?_
    refine g_ixor ok dX9_visit_101 ?_
    refine g_iand ok dX9_visit_102 ?_
    have hb := h.1
    have h := h.2
    refine g_iast ok a50 (gNm (by decide)) dX9_visit_103 hb (g_mem (fun M8 eM8 => ?_))
    have h := h M8 eM8
    refine g_aload_n ok dX9_visit_104 rfl rfl ?_
    refine g_get (w := .inr 52) ok f42_15 (gNm (by decide)) q4_9 dX9_visit_105 rfl ?_
    refine g_iload_n ok dX9_visit_108 rfl rfl ?_
    refine g_iconst (v := 0) ok dX9_visit_109 (by decide) ?_
    have hb := h.1
    have h := h.2
    refine g_iast ok a52 (gNm (by decide)) dX9_visit_110 hb (g_mem (fun M9 eM9 => ?_))
    have h := h M9 eM9
    refine g_iload_n ok dX9_visit_111 rfl rfl ?_
    refine g_if_eq (tgt := 119) ok dX9_visit_112 (by decide) (fun z => ?_) (fun z => ?_)
    · have h := h.1 z
      refine g_iconst (v := 0) ok dX9_visit_119 (by decide) ?_
      exact g_zret ok hZ dX9_visit_120 (by decide) h
    · have h := h.2 z
      refine g_iconst (v := 1) ok dX9_visit_115 (by decide) ?_
      refine g_goto (tgt := 120) ok dX9_visit_116 (by decide) ?_
      exact g_zret ok hZ dX9_visit_120 (by decide) h
  · have h := h.1 z
    refine g_aload_n ok dX9_visit_25 rfl rfl ?_
    refine g_get (w := .inr 47) ok f42_10 (gNm (by decide)) q4_4 dX9_visit_26 rfl ?_
    refine g_aload_n ok dX9_visit_29 rfl rfl ?_
    refine g_get (w := .inl (M3 42 7)) ok f42_7 (gNm (by decide)) q4_1 dX9_visit_30 rfl ?_
    refine g_iload_n ok dX9_visit_33 rfl rfl ?_
    have hb := h.1
    have h := h.2
    refine g_iast ok a47 (gNm (by decide)) dX9_visit_34 hb (g_mem (fun M10 eM10 => ?_))
    have h := h M10 eM10
    refine g_aload_n ok dX9_visit_35 rfl rfl ?_
    refine g_get (w := .inr 48) ok f42_11 (gNm (by decide)) q4_5 dX9_visit_36 rfl ?_
    refine g_aload_n ok dX9_visit_39 rfl rfl ?_
    refine g_get (w := .inl (M10 42 7)) ok f42_7 (gNm (by decide)) q4_1 dX9_visit_40 rfl ?_
    refine g_aload_n ok dX9_visit_43 rfl rfl ?_
    refine g_get (w := .inl (M10 42 8)) ok f42_8 (gNm (by decide)) q4_2 dX9_visit_44 rfl ?_
    refine g_aload_n ok dX9_visit_47 rfl rfl ?_
    refine g_get (w := .inl (M10 42 16)) ok f42_16 (gNm (by decide)) q4_10 dX9_visit_48 rfl ?_
    refine g_isub ok dX9_visit_51 ?_
    have hb := h.1
    have h := h.2
    refine g_iast ok a48 (gNm (by decide)) dX9_visit_52 hb (g_mem (fun M11 eM11 => ?_))
    have h := h M11 eM11
    refine g_aload_n ok dX9_visit_53 rfl rfl ?_
    refine g_aload_n ok dX9_visit_54 rfl rfl ?_
    refine g_get (w := .inl (M11 42 8)) ok f42_8 (gNm (by decide)) q4_2 dX9_visit_55 rfl ?_
    refine g_put ok f42_16p (gNm (by decide)) q4_10 dX9_visit_58 rfl rfl (g_mem (fun M12 eM12 => ?_))
    have h := h M12 eM12
    refine g_aload_n ok dX9_visit_61 rfl rfl ?_
    refine g_dup ok dX9_visit_62 ?_
    refine g_get (w := .inl (M12 42 7)) ok f42_7 (gNm (by decide)) q4_1 dX9_visit_63 rfl ?_
    refine g_iconst (v := 1) ok dX9_visit_66 (by decide) ?_
    refine g_iadd ok dX9_visit_67 ?_
    refine g_put ok f42_7p (gNm (by decide)) q4_1 dX9_visit_68 rfl rfl (g_mem (fun M13 eM13 => ?_))
    have h := h M13 eM13
    refine g_iconst (v := 0) ok dX9_visit_71 (by decide) ?_
    exact g_zret ok hZ dX9_visit_72 (by decide) h
theorem dX9_lowest_0 : decode cX9_lowest 0 = .ok (.iload_n 0, 1) := by decide +kernel
theorem dX9_lowest_1 : decode cX9_lowest 1 = .ok (.iload_n 0, 1) := by decide +kernel
theorem dX9_lowest_2 : decode cX9_lowest 2 = .ok (.ineg, 1) := by decide +kernel
theorem dX9_lowest_3 : decode cX9_lowest 3 = .ok (.iand, 1) := by decide +kernel
theorem dX9_lowest_4 : decode cX9_lowest 4 = .ok (.ireturn, 1) := by decide +kernel
theorem s_X9_lowest : gSt yX9_lowest cX9_lowest 1 (some .int) 1 := ⟨q4_235, q1_10, ⟨by decide, by decide, by decide +kernel⟩, by decide⟩
theorem stt_X9_lowest : Cond.static yX9_lowest ∈ gT := q4_234
def w_X9_lowest (p0 : Int32) (M : gM) (Q : Int32 → gM → Prop) : Prop := Q (p0 &&& (-p0)) M
set_option maxRecDepth 100000 in
set_option maxHeartbeats 4000000 in
theorem k_X9_lowest {p0 : Int32} {M : gM} {Q : Int32 → gM → Prop} (h : w_X9_lowest p0 M Q) : gCi gN 0 yX9_lowest cX9_lowest 1 .int [.inl p0] M Q := by
  refine gCi_of (by decide) gNn (gle rfl) (fun X ok hZ => ?_)
  show gW X 0 [some (.inl p0)] [] M
  unfold w_X9_lowest at h
  refine g_iload_n ok dX9_lowest_0 rfl rfl ?_
  refine g_iload_n ok dX9_lowest_1 rfl rfl ?_
  refine g_ineg ok dX9_lowest_2 ?_
  refine g_iand ok dX9_lowest_3 ?_
  exact g_iret ok hZ dX9_lowest_4 h
theorem dX9_search_0 : decode cX9_search 0 = .ok (.aload_n 0, 1) := by decide +kernel
theorem dX9_search_1 : decode cX9_search 1 = .ok (.iconst 0, 1) := by decide +kernel
theorem dX9_search_2 : decode cX9_search 2 = .ok (.putfield 135, 3) := by decide +kernel
theorem dX9_search_5 : decode cX9_search 5 = .ok (.aload_n 0, 1) := by decide +kernel
theorem dX9_search_6 : decode cX9_search 6 = .ok (.iconst 0, 1) := by decide +kernel
theorem dX9_search_7 : decode cX9_search 7 = .ok (.putfield 132, 3) := by decide +kernel
theorem dX9_search_10 : decode cX9_search 10 = .ok (.aload_n 0, 1) := by decide +kernel
theorem dX9_search_11 : decode cX9_search 11 = .ok (.iconst 0, 1) := by decide +kernel
theorem dX9_search_12 : decode cX9_search 12 = .ok (.putfield 138, 3) := by decide +kernel
theorem dX9_search_15 : decode cX9_search 15 = .ok (.aload_n 0, 1) := by decide +kernel
theorem dX9_search_16 : decode cX9_search 16 = .ok (.iconst 0, 1) := by decide +kernel
theorem dX9_search_17 : decode cX9_search 17 = .ok (.putfield 144, 3) := by decide +kernel
theorem dX9_search_20 : decode cX9_search 20 = .ok (.aload_n 0, 1) := by decide +kernel
theorem dX9_search_21 : decode cX9_search 21 = .ok (.getfield 28, 3) := by decide +kernel
theorem dX9_search_24 : decode cX9_search 24 = .ok (.iconst 0, 1) := by decide +kernel
theorem dX9_search_25 : decode cX9_search 25 = .ok (.iconst 0, 1) := by decide +kernel
theorem dX9_search_26 : decode cX9_search 26 = .ok (.iastore, 1) := by decide +kernel
theorem dX9_search_27 : decode cX9_search 27 = .ok (.aload_n 0, 1) := by decide +kernel
theorem dX9_search_28 : decode cX9_search 28 = .ok (.getfield 31, 3) := by decide +kernel
theorem dX9_search_31 : decode cX9_search 31 = .ok (.iconst 0, 1) := by decide +kernel
theorem dX9_search_32 : decode cX9_search 32 = .ok (.aload_n 0, 1) := by decide +kernel
theorem dX9_search_33 : decode cX9_search 33 = .ok (.invokevirtual 70, 3) := by decide +kernel
theorem dX9_search_36 : decode cX9_search 36 = .ok (.iastore, 1) := by decide +kernel
theorem dX9_search_37 : decode cX9_search 37 = .ok (.aload_n 0, 1) := by decide +kernel
theorem dX9_search_38 : decode cX9_search 38 = .ok (.iconst 0, 1) := by decide +kernel
theorem dX9_search_39 : decode cX9_search 39 = .ok (.invokevirtual 148, 3) := by decide +kernel
theorem dX9_search_42 : decode cX9_search 42 = .ok (.ifCond .eq 7, 3) := by decide +kernel
theorem dX9_search_45 : decode cX9_search 45 = .ok (.iconst 0, 1) := by decide +kernel
theorem dX9_search_46 : decode cX9_search 46 = .ok (.goto 4, 3) := by decide +kernel
theorem dX9_search_49 : decode cX9_search 49 = .ok (.iconst (-1), 1) := by decide +kernel
theorem dX9_search_50 : decode cX9_search 50 = .ok (.istore_n 1, 1) := by decide +kernel
theorem dX9_search_51 : decode cX9_search 51 = .ok (.iload_n 1, 1) := by decide +kernel
theorem dX9_search_52 : decode cX9_search 52 = .ok (.ifCond .lt 166, 3) := by decide +kernel
theorem dX9_search_55 : decode cX9_search 55 = .ok (.aload_n 0, 1) := by decide +kernel
theorem dX9_search_56 : decode cX9_search 56 = .ok (.getfield 144, 3) := by decide +kernel
theorem dX9_search_59 : decode cX9_search 59 = .ok (.ifCond .ne 159, 3) := by decide +kernel
theorem dX9_search_62 : decode cX9_search 62 = .ok (.aload_n 0, 1) := by decide +kernel
theorem dX9_search_63 : decode cX9_search 63 = .ok (.getfield 31, 3) := by decide +kernel
theorem dX9_search_66 : decode cX9_search 66 = .ok (.iload_n 1, 1) := by decide +kernel
theorem dX9_search_67 : decode cX9_search 67 = .ok (.dup2, 1) := by decide +kernel
theorem dX9_search_68 : decode cX9_search 68 = .ok (.iaload, 1) := by decide +kernel
theorem dX9_search_69 : decode cX9_search 69 = .ok (.aload_n 0, 1) := by decide +kernel
theorem dX9_search_70 : decode cX9_search 70 = .ok (.getfield 37, 3) := by decide +kernel
theorem dX9_search_73 : decode cX9_search 73 = .ok (.iload_n 1, 1) := by decide +kernel
theorem dX9_search_74 : decode cX9_search 74 = .ok (.iaload, 1) := by decide +kernel
theorem dX9_search_75 : decode cX9_search 75 = .ok (.ior, 1) := by decide +kernel
theorem dX9_search_76 : decode cX9_search 76 = .ok (.iastore, 1) := by decide +kernel
theorem dX9_search_77 : decode cX9_search 77 = .ok (.aload_n 0, 1) := by decide +kernel
theorem dX9_search_78 : decode cX9_search 78 = .ok (.getfield 37, 3) := by decide +kernel
theorem dX9_search_81 : decode cX9_search 81 = .ok (.iload_n 1, 1) := by decide +kernel
theorem dX9_search_82 : decode cX9_search 82 = .ok (.aload_n 0, 1) := by decide +kernel
theorem dX9_search_83 : decode cX9_search 83 = .ok (.getfield 34, 3) := by decide +kernel
theorem dX9_search_86 : decode cX9_search 86 = .ok (.iload_n 1, 1) := by decide +kernel
theorem dX9_search_87 : decode cX9_search 87 = .ok (.iaload, 1) := by decide +kernel
theorem dX9_search_88 : decode cX9_search 88 = .ok (.invokestatic 151, 3) := by decide +kernel
theorem dX9_search_91 : decode cX9_search 91 = .ok (.iastore, 1) := by decide +kernel
theorem dX9_search_92 : decode cX9_search 92 = .ok (.aload_n 0, 1) := by decide +kernel
theorem dX9_search_93 : decode cX9_search 93 = .ok (.getfield 34, 3) := by decide +kernel
theorem dX9_search_96 : decode cX9_search 96 = .ok (.iload_n 1, 1) := by decide +kernel
theorem dX9_search_97 : decode cX9_search 97 = .ok (.dup2, 1) := by decide +kernel
theorem dX9_search_98 : decode cX9_search 98 = .ok (.iaload, 1) := by decide +kernel
theorem dX9_search_99 : decode cX9_search 99 = .ok (.aload_n 0, 1) := by decide +kernel
theorem dX9_search_100 : decode cX9_search 100 = .ok (.getfield 37, 3) := by decide +kernel
theorem dX9_search_103 : decode cX9_search 103 = .ok (.iload_n 1, 1) := by decide +kernel
theorem dX9_search_104 : decode cX9_search 104 = .ok (.iaload, 1) := by decide +kernel
theorem dX9_search_105 : decode cX9_search 105 = .ok (.iconst (-1), 1) := by decide +kernel
theorem dX9_search_106 : decode cX9_search 106 = .ok (.ixor, 1) := by decide +kernel
theorem dX9_search_107 : decode cX9_search 107 = .ok (.iand, 1) := by decide +kernel
theorem dX9_search_108 : decode cX9_search 108 = .ok (.iastore, 1) := by decide +kernel
theorem dX9_search_109 : decode cX9_search 109 = .ok (.aload_n 0, 1) := by decide +kernel
theorem dX9_search_110 : decode cX9_search 110 = .ok (.getfield 37, 3) := by decide +kernel
theorem dX9_search_113 : decode cX9_search 113 = .ok (.iload_n 1, 1) := by decide +kernel
theorem dX9_search_114 : decode cX9_search 114 = .ok (.iaload, 1) := by decide +kernel
theorem dX9_search_115 : decode cX9_search 115 = .ok (.ifCond .ne 9, 3) := by decide +kernel
theorem dX9_search_118 : decode cX9_search 118 = .ok (.iinc 1 (-1), 3) := by decide +kernel
theorem dX9_search_121 : decode cX9_search 121 = .ok (.goto (-70), 3) := by decide +kernel
theorem dX9_search_124 : decode cX9_search 124 = .ok (.aload_n 0, 1) := by decide +kernel
theorem dX9_search_125 : decode cX9_search 125 = .ok (.aload_n 0, 1) := by decide +kernel
theorem dX9_search_126 : decode cX9_search 126 = .ok (.getfield 28, 3) := by decide +kernel
theorem dX9_search_129 : decode cX9_search 129 = .ok (.iload_n 1, 1) := by decide +kernel
theorem dX9_search_130 : decode cX9_search 130 = .ok (.iaload, 1) := by decide +kernel
theorem dX9_search_131 : decode cX9_search 131 = .ok (.aload_n 0, 1) := by decide +kernel
theorem dX9_search_132 : decode cX9_search 132 = .ok (.getfield 37, 3) := by decide +kernel
theorem dX9_search_135 : decode cX9_search 135 = .ok (.iload_n 1, 1) := by decide +kernel
theorem dX9_search_136 : decode cX9_search 136 = .ok (.iaload, 1) := by decide +kernel
theorem dX9_search_137 : decode cX9_search 137 = .ok (.ior, 1) := by decide +kernel
theorem dX9_search_138 : decode cX9_search 138 = .ok (.invokevirtual 129, 3) := by decide +kernel
theorem dX9_search_141 : decode cX9_search 141 = .ok (.ifCond .eq (-90), 3) := by decide +kernel
theorem dX9_search_144 : decode cX9_search 144 = .ok (.aload_n 0, 1) := by decide +kernel
theorem dX9_search_145 : decode cX9_search 145 = .ok (.getfield 132, 3) := by decide +kernel
theorem dX9_search_148 : decode cX9_search 148 = .ok (.sipush 4000, 3) := by decide +kernel
theorem dX9_search_151 : decode cX9_search 151 = .ok (.if_icmp .ne 11, 3) := by decide +kernel
theorem dX9_search_154 : decode cX9_search 154 = .ok (.aload_n 0, 1) := by decide +kernel
theorem dX9_search_155 : decode cX9_search 155 = .ok (.iconst 1, 1) := by decide +kernel
theorem dX9_search_156 : decode cX9_search 156 = .ok (.putfield 144, 3) := by decide +kernel
theorem dX9_search_159 : decode cX9_search 159 = .ok (.goto (-108), 3) := by decide +kernel
theorem dX9_search_162 : decode cX9_search 162 = .ok (.aload_n 0, 1) := by decide +kernel
theorem dX9_search_163 : decode cX9_search 163 = .ok (.getfield 28, 3) := by decide +kernel
theorem dX9_search_166 : decode cX9_search 166 = .ok (.iload_n 1, 1) := by decide +kernel
theorem dX9_search_167 : decode cX9_search 167 = .ok (.iconst 1, 1) := by decide +kernel
theorem dX9_search_168 : decode cX9_search 168 = .ok (.iadd, 1) := by decide +kernel
theorem dX9_search_169 : decode cX9_search 169 = .ok (.aload_n 0, 1) := by decide +kernel
theorem dX9_search_170 : decode cX9_search 170 = .ok (.getfield 28, 3) := by decide +kernel
theorem dX9_search_173 : decode cX9_search 173 = .ok (.iload_n 1, 1) := by decide +kernel
theorem dX9_search_174 : decode cX9_search 174 = .ok (.iaload, 1) := by decide +kernel
theorem dX9_search_175 : decode cX9_search 175 = .ok (.aload_n 0, 1) := by decide +kernel
theorem dX9_search_176 : decode cX9_search 176 = .ok (.getfield 37, 3) := by decide +kernel
theorem dX9_search_179 : decode cX9_search 179 = .ok (.iload_n 1, 1) := by decide +kernel
theorem dX9_search_180 : decode cX9_search 180 = .ok (.iaload, 1) := by decide +kernel
theorem dX9_search_181 : decode cX9_search 181 = .ok (.ior, 1) := by decide +kernel
theorem dX9_search_182 : decode cX9_search 182 = .ok (.iastore, 1) := by decide +kernel
theorem dX9_search_183 : decode cX9_search 183 = .ok (.aload_n 0, 1) := by decide +kernel
theorem dX9_search_184 : decode cX9_search 184 = .ok (.getfield 31, 3) := by decide +kernel
theorem dX9_search_187 : decode cX9_search 187 = .ok (.iload_n 1, 1) := by decide +kernel
theorem dX9_search_188 : decode cX9_search 188 = .ok (.iconst 1, 1) := by decide +kernel
theorem dX9_search_189 : decode cX9_search 189 = .ok (.iadd, 1) := by decide +kernel
theorem dX9_search_190 : decode cX9_search 190 = .ok (.aload_n 0, 1) := by decide +kernel
theorem dX9_search_191 : decode cX9_search 191 = .ok (.getfield 31, 3) := by decide +kernel
theorem dX9_search_194 : decode cX9_search 194 = .ok (.iload_n 1, 1) := by decide +kernel
theorem dX9_search_195 : decode cX9_search 195 = .ok (.iaload, 1) := by decide +kernel
theorem dX9_search_196 : decode cX9_search 196 = .ok (.iastore, 1) := by decide +kernel
theorem dX9_search_197 : decode cX9_search 197 = .ok (.iload_n 1, 1) := by decide +kernel
theorem dX9_search_198 : decode cX9_search 198 = .ok (.aload_n 0, 1) := by decide +kernel
theorem dX9_search_199 : decode cX9_search 199 = .ok (.iload_n 1, 1) := by decide +kernel
theorem dX9_search_200 : decode cX9_search 200 = .ok (.iconst 1, 1) := by decide +kernel
theorem dX9_search_201 : decode cX9_search 201 = .ok (.iadd, 1) := by decide +kernel
theorem dX9_search_202 : decode cX9_search 202 = .ok (.invokevirtual 148, 3) := by decide +kernel
theorem dX9_search_205 : decode cX9_search 205 = .ok (.ifCond .eq 7, 3) := by decide +kernel
theorem dX9_search_208 : decode cX9_search 208 = .ok (.iconst 1, 1) := by decide +kernel
theorem dX9_search_209 : decode cX9_search 209 = .ok (.goto 4, 3) := by decide +kernel
theorem dX9_search_212 : decode cX9_search 212 = .ok (.iconst 0, 1) := by decide +kernel
theorem dX9_search_213 : decode cX9_search 213 = .ok (.iadd, 1) := by decide +kernel
theorem dX9_search_214 : decode cX9_search 214 = .ok (.istore_n 1, 1) := by decide +kernel
theorem dX9_search_215 : decode cX9_search 215 = .ok (.goto (-164), 3) := by decide +kernel
theorem dX9_search_218 : decode cX9_search 218 = .ok (.return_, 1) := by decide +kernel
theorem s_X9_search : gSt yX9_search cX9_search 2 none 0 := ⟨q4_224, q1_10, ⟨by decide, by decide, by decide +kernel⟩, by decide⟩
theorem sel_X9_search : Cond.selects yX9_search.cls yX9_search yX9_search ∈ gT := qs_35
theorem ins_X9_search : Cond.instanceMethod yX9_search ∈ gT := q4_223
def w_X9_search_L51 (Q : gM → Prop) (K218 : Int32 → gM → Prop) : Nat → Int32 → gM → Prop
  | 0, _, _ => False
  | n + 1, v1, M => gbr ((v1 : Int32) < 0) (K218 (v1) M) (gbr (((M 42 9) : Int32) = 0) (vp_in v1 16 ∧ (vp_in v1 16 ∧ (vp_in v1 16 ∧ ∀ M11 : gM, M11 = gst M 50 (Int32.toNatClampNeg v1) ((M 50 (Int32.toNatClampNeg v1)) ||| (M 52 (Int32.toNatClampNeg v1))) → (vp_in v1 16 ∧ (w_X9_lowest (M11 51 (Int32.toNatClampNeg v1)) M11 (fun (r13 : Int32) (M12 : gM) => vp_in v1 16 ∧ ∀ M14 : gM, M14 = gst M12 52 (Int32.toNatClampNeg v1) r13 → (vp_in v1 16 ∧ (vp_in v1 16 ∧ (vp_in v1 16 ∧ ∀ M15 : gM, M15 = gst M14 51 (Int32.toNatClampNeg v1) ((M14 51 (Int32.toNatClampNeg v1)) &&& ((M14 52 (Int32.toNatClampNeg v1)) ^^^ (-1))) → (vp_in v1 16 ∧ (gbr (((M15 52 (Int32.toNatClampNeg v1)) : Int32) = 0) (∀ x25 : Int32, x25 = (v1 + (-1)) → (w_X9_search_L51 Q K218 n (x25) M15)) (vp_in v1 16 ∧ (vp_in v1 16 ∧ (w_X9_haveAllPrivate ((M15 49 (Int32.toNatClampNeg v1)) ||| (M15 52 (Int32.toNatClampNeg v1))) M15 (fun (r17 : Int32) (M16 : gM) => gbr ((r17 : Int32) = 0) (w_X9_search_L51 Q K218 n (v1) M16) (gbr (((M16 42 8) : Int32) = 4000) (∀ M24 : gM, M24 = gst M16 42 9 1 → (w_X9_search_L51 Q K218 n (v1) M24)) (vp_in v1 16 ∧ (vp_in v1 16 ∧ (vp_in (v1 + 1) 16 ∧ ∀ M18 : gM, M18 = gst M16 49 (Int32.toNatClampNeg (v1 + 1)) ((M16 49 (Int32.toNatClampNeg v1)) ||| (M16 52 (Int32.toNatClampNeg v1))) → (vp_in v1 16 ∧ (vp_in (v1 + 1) 16 ∧ ∀ M19 : gM, M19 = gst M18 50 (Int32.toNatClampNeg (v1 + 1)) (M18 50 (Int32.toNatClampNeg v1)) → (w_X9_visit (v1 + 1) M19 (fun (r21 : Int32) (M20 : gM) => gbr ((r21 : Int32) = 0) (∀ x22 : Int32, x22 = (v1 + 0) → (w_X9_search_L51 Q K218 n (x22) M20)) (∀ x23 : Int32, x23 = (v1 + 1) → (w_X9_search_L51 Q K218 n (x23) M20))))))))))))))))))))))))) (K218 (v1) M))
def w_X9_search  (M : gM) (Q : gM → Prop) : Prop := ∀ M1 : gM, M1 = gst M 42 7 0 → (∀ M2 : gM, M2 = gst M1 42 8 0 → (∀ M3 : gM, M3 = gst M2 42 16 0 → (∀ M4 : gM, M4 = gst M3 42 9 0 → (vp_in 0 16 ∧ ∀ M5 : gM, M5 = gst M4 49 (Int32.toNatClampNeg 0) 0 → (w_X9_whole M5 (fun (r7 : Int32) (M6 : gM) => vp_in 0 16 ∧ ∀ M8 : gM, M8 = gst M6 50 (Int32.toNatClampNeg 0) r7 → (w_X9_visit 0 M8 (fun (r10 : Int32) (M9 : gM) => gbr ((r10 : Int32) = 0) (∃ nf, w_X9_search_L51 Q (fun (x26 : Int32) (M27 : gM) => Q M27)  nf (-1) M9) (∃ nf, w_X9_search_L51 Q (fun (x28 : Int32) (M29 : gM) => Q M29)  nf 0 M9)))))))))
set_option maxRecDepth 100000 in
set_option maxHeartbeats 4000000 in
theorem w_X9_search_L51_w {X : gX} (ok : gOk X cX9_search yX9_search.cls 3 2 none gN) {Q : gM → Prop} (hZ : gZv X Q) {K218 : Int32 → gM → Prop}  (hK218 : ∀ (v1 : Int32)  (M : gM), K218 v1 M → gW X 218 [some (.inr 42), some (.inl v1)] [] M) : ∀ (n : Nat) (v1 : Int32)  (M : gM), w_X9_search_L51 Q K218 n v1 M → gW X 51 [some (.inr 42), some (.inl v1)] [] M
  | 0, _, _, h => h.elim
  | n + 1, v1, M, h => by
    have ih := fun (v1 : Int32)  (M : gM) h => w_X9_search_L51_w ok hZ  hK218 n v1  M h
    rw [w_X9_search_L51.eq_2] at h
    refine g_iload_n ok dX9_search_51 rfl rfl ?_
    refine g_if_lt (tgt := 218) ok dX9_search_52 (by decide) (fun z => ?_) (fun z => ?_)
    · have h := h.1 z
      exact hK218 (v1) M h
    · have h := h.2 z
      refine g_aload_n ok dX9_search_55 rfl rfl ?_
      refine g_get (w := .inl (M 42 9)) ok f42_9 (gNm (by decide)) q4_3 dX9_search_56 rfl ?_
      refine g_if_ne (tgt := 218) ok dX9_search_59 (by decide) (fun z => ?_) (fun z => ?_)
      · have h := h.2 z
        exact hK218 (v1) M h
      · have h := h.1 z
        refine g_aload_n ok dX9_search_62 rfl rfl ?_
        refine g_get (w := .inr 50) ok f42_13 (gNm (by decide)) q4_7 dX9_search_63 rfl ?_
        refine g_iload_n ok dX9_search_66 rfl rfl ?_
        refine g_dup2 ok dX9_search_67 ?_
        have hb := h.1
        have h := h.2
        refine g_iald (w := (M 50 (Int32.toNatClampNeg v1))) ok a50 (gNm (by decide)) dX9_search_68 hb rfl ?_
        refine g_aload_n ok dX9_search_69 rfl rfl ?_
        refine g_get (w := .inr 52) ok f42_15 (gNm (by decide)) q4_9 dX9_search_70 rfl ?_
        refine g_iload_n ok dX9_search_73 rfl rfl ?_
        have hb := h.1
        have h := h.2
        refine g_iald (w := (M 52 (Int32.toNatClampNeg v1))) ok a52 (gNm (by decide)) dX9_search_74 hb rfl ?_
        refine g_ior ok dX9_search_75 ?_
        have hb := h.1
        have h := h.2
        refine g_iast ok a50 (gNm (by decide)) dX9_search_76 hb (g_mem (fun M11 eM11 => ?_))
        have h := h M11 eM11
        refine g_aload_n ok dX9_search_77 rfl rfl ?_
        refine g_get (w := .inr 52) ok f42_15 (gNm (by decide)) q4_9 dX9_search_78 rfl ?_
        refine g_iload_n ok dX9_search_81 rfl rfl ?_
        refine g_aload_n ok dX9_search_82 rfl rfl ?_
        refine g_get (w := .inr 51) ok f42_14 (gNm (by decide)) q4_8 dX9_search_83 rfl ?_
        refine g_iload_n ok dX9_search_86 rfl rfl ?_
        have hb := h.1
        have h := h.2
        refine g_iald (w := (M11 51 (Int32.toNatClampNeg v1))) ok a51 (gNm (by decide)) dX9_search_87 hb rfl ?_
        refine g_callSi (st := [.inl v1, .inr 52]) (as := [.inl (M11 51 (Int32.toNatClampNeg v1))]) ok rfl (k_X9_lowest h) s_X9_lowest rfl (by decide) stt_X9_lowest (gle rfl) rfl q4_233 dX9_search_88 ?_
        intro r13 M12 h
        have hb := h.1
        have h := h.2
        refine g_iast ok a52 (gNm (by decide)) dX9_search_91 hb (g_mem (fun M14 eM14 => ?_))
        have h := h M14 eM14
        refine g_aload_n ok dX9_search_92 rfl rfl ?_
        refine g_get (w := .inr 51) ok f42_14 (gNm (by decide)) q4_8 dX9_search_93 rfl ?_
        refine g_iload_n ok dX9_search_96 rfl rfl ?_
        refine g_dup2 ok dX9_search_97 ?_
        have hb := h.1
        have h := h.2
        refine g_iald (w := (M14 51 (Int32.toNatClampNeg v1))) ok a51 (gNm (by decide)) dX9_search_98 hb rfl ?_
        refine g_aload_n ok dX9_search_99 rfl rfl ?_
        refine g_get (w := .inr 52) ok f42_15 (gNm (by decide)) q4_9 dX9_search_100 rfl ?_
        refine g_iload_n ok dX9_search_103 rfl rfl ?_
        have hb := h.1
        have h := h.2
        refine g_iald (w := (M14 52 (Int32.toNatClampNeg v1))) ok a52 (gNm (by decide)) dX9_search_104 hb rfl ?_
        refine g_iconst (v := (-1)) ok dX9_search_105 (by decide) ?_
        refine g_ixor ok dX9_search_106 ?_
        refine g_iand ok dX9_search_107 ?_
        have hb := h.1
        have h := h.2
        refine g_iast ok a51 (gNm (by decide)) dX9_search_108 hb (g_mem (fun M15 eM15 => ?_))
        have h := h M15 eM15
        refine g_aload_n ok dX9_search_109 rfl rfl ?_
        refine g_get (w := .inr 52) ok f42_15 (gNm (by decide)) q4_9 dX9_search_110 rfl ?_
        refine g_iload_n ok dX9_search_113 rfl rfl ?_
        have hb := h.1
        have h := h.2
        refine g_iald (w := (M15 52 (Int32.toNatClampNeg v1))) ok a52 (gNm (by decide)) dX9_search_114 hb rfl ?_
        refine g_if_ne (tgt := 124) ok dX9_search_115 (by decide) (fun z => ?_) (fun z => ?_)
        · have h := h.2 z
          refine g_aload_n ok dX9_search_124 rfl rfl ?_
          refine g_aload_n ok dX9_search_125 rfl rfl ?_
          refine g_get (w := .inr 49) ok f42_12 (gNm (by decide)) q4_6 dX9_search_126 rfl ?_
          refine g_iload_n ok dX9_search_129 rfl rfl ?_
          have hb := h.1
          have h := h.2
          refine g_iald (w := (M15 49 (Int32.toNatClampNeg v1))) ok a49 (gNm (by decide)) dX9_search_130 hb rfl ?_
          refine g_aload_n ok dX9_search_131 rfl rfl ?_
          refine g_get (w := .inr 52) ok f42_15 (gNm (by decide)) q4_9 dX9_search_132 rfl ?_
          refine g_iload_n ok dX9_search_135 rfl rfl ?_
          have hb := h.1
          have h := h.2
          refine g_iald (w := (M15 52 (Int32.toNatClampNeg v1))) ok a52 (gNm (by decide)) dX9_search_136 hb rfl ?_
          refine g_ior ok dX9_search_137 ?_
          refine g_callVi (st := []) (as := [.inl ((M15 49 (Int32.toNatClampNeg v1)) ||| (M15 52 (Int32.toNatClampNeg v1)))]) ok rfl (k_X9_haveAllPrivate h) s_X9_haveAllPrivate rfl (by decide) (gNm (by decide)) cl42 sel_X9_haveAllPrivate ins_X9_haveAllPrivate (gle rfl) rfl q4_205 dX9_search_138 ?_
          intro r17 M16 h
          refine g_if_eq (tgt := 51) ok dX9_search_141 (by decide) (fun z => ?_) (fun z => ?_)
          · have h := h.1 z
            exact ih (v1) M16 h
          · have h := h.2 z
            refine g_aload_n ok dX9_search_144 rfl rfl ?_
            refine g_get (w := .inl (M16 42 8)) ok f42_8 (gNm (by decide)) q4_2 dX9_search_145 rfl ?_
            refine g_sipush (v := 4000) ok dX9_search_148 (by decide) ?_
            refine g_icmp_ne (tgt := 162) ok dX9_search_151 (by decide) (fun z => ?_) (fun z => ?_)
            · have h := h.2 z
              refine g_aload_n ok dX9_search_162 rfl rfl ?_
              refine g_get (w := .inr 49) ok f42_12 (gNm (by decide)) q4_6 dX9_search_163 rfl ?_
              refine g_iload_n ok dX9_search_166 rfl rfl ?_
              refine g_iconst (v := 1) ok dX9_search_167 (by decide) ?_
              refine g_iadd ok dX9_search_168 ?_
              refine g_aload_n ok dX9_search_169 rfl rfl ?_
              refine g_get (w := .inr 49) ok f42_12 (gNm (by decide)) q4_6 dX9_search_170 rfl ?_
              refine g_iload_n ok dX9_search_173 rfl rfl ?_
              have hb := h.1
              have h := h.2
              refine g_iald (w := (M16 49 (Int32.toNatClampNeg v1))) ok a49 (gNm (by decide)) dX9_search_174 hb rfl ?_
              refine g_aload_n ok dX9_search_175 rfl rfl ?_
              refine g_get (w := .inr 52) ok f42_15 (gNm (by decide)) q4_9 dX9_search_176 rfl ?_
              refine g_iload_n ok dX9_search_179 rfl rfl ?_
              have hb := h.1
              have h := h.2
              refine g_iald (w := (M16 52 (Int32.toNatClampNeg v1))) ok a52 (gNm (by decide)) dX9_search_180 hb rfl ?_
              refine g_ior ok dX9_search_181 ?_
              have hb := h.1
              have h := h.2
              refine g_iast ok a49 (gNm (by decide)) dX9_search_182 hb (g_mem (fun M18 eM18 => ?_))
              have h := h M18 eM18
              refine g_aload_n ok dX9_search_183 rfl rfl ?_
              refine g_get (w := .inr 50) ok f42_13 (gNm (by decide)) q4_7 dX9_search_184 rfl ?_
              refine g_iload_n ok dX9_search_187 rfl rfl ?_
              refine g_iconst (v := 1) ok dX9_search_188 (by decide) ?_
              refine g_iadd ok dX9_search_189 ?_
              refine g_aload_n ok dX9_search_190 rfl rfl ?_
              refine g_get (w := .inr 50) ok f42_13 (gNm (by decide)) q4_7 dX9_search_191 rfl ?_
              refine g_iload_n ok dX9_search_194 rfl rfl ?_
              have hb := h.1
              have h := h.2
              refine g_iald (w := (M18 50 (Int32.toNatClampNeg v1))) ok a50 (gNm (by decide)) dX9_search_195 hb rfl ?_
              have hb := h.1
              have h := h.2
              refine g_iast ok a50 (gNm (by decide)) dX9_search_196 hb (g_mem (fun M19 eM19 => ?_))
              have h := h M19 eM19
              refine g_iload_n ok dX9_search_197 rfl rfl ?_
              refine g_aload_n ok dX9_search_198 rfl rfl ?_
              refine g_iload_n ok dX9_search_199 rfl rfl ?_
              refine g_iconst (v := 1) ok dX9_search_200 (by decide) ?_
              refine g_iadd ok dX9_search_201 ?_
              refine g_callVi (st := [.inl v1]) (as := [.inl (v1 + 1)]) ok rfl (k_X9_visit h) s_X9_visit rfl (by decide) (gNm (by decide)) cl42 sel_X9_visit ins_X9_visit (gle rfl) rfl q4_225 dX9_search_202 ?_
              intro r21 M20 h
              refine g_if_eq (tgt := 212) ok dX9_search_205 (by decide) (fun z => ?_) (fun z => ?_)
              · have h := h.1 z
                refine g_iconst (v := 0) ok dX9_search_212 (by decide) ?_
                refine g_iadd ok dX9_search_213 ?_
                refine g_nm (fun x22 ex22 => ?_)
                have h := h x22 ex22
                refine g_istore_n (lv1 := [some (.inr 42), some (.inl x22)]) ok dX9_search_214 rfl (glt rfl) rfl ?_
                refine g_goto (tgt := 51) ok dX9_search_215 (by decide) ?_
                exact ih (x22) M20 h
              · have h := h.2 z
                refine g_iconst (v := 1) ok dX9_search_208 (by decide) ?_
                refine g_goto (tgt := 213) ok dX9_search_209 (by decide) ?_
                refine g_iadd ok dX9_search_213 ?_
                refine g_nm (fun x23 ex23 => ?_)
                have h := h x23 ex23
                refine g_istore_n (lv1 := [some (.inr 42), some (.inl x23)]) ok dX9_search_214 rfl (glt rfl) rfl ?_
                refine g_goto (tgt := 51) ok dX9_search_215 (by decide) ?_
                exact ih (x23) M20 h
            · have h := h.1 z
              refine g_aload_n ok dX9_search_154 rfl rfl ?_
              refine g_iconst (v := 1) ok dX9_search_155 (by decide) ?_
              refine g_put ok f42_9p (gNm (by decide)) q4_3 dX9_search_156 (by decide) (by decide) (g_mem (fun M24 eM24 => ?_))
              have h := h M24 eM24
              refine g_goto (tgt := 51) ok dX9_search_159 (by decide) ?_
              exact ih (v1) M24 h
        · have h := h.1 z
          obtain ⟨x25, ex25⟩ : ∃ y : Int32, y = (v1 + (-1)) := ⟨_, rfl⟩
          have h := h x25 ex25
          refine g_iinc (v := x25) (lv1 := [some (.inr 42), some (.inl x25)]) ok dX9_search_118 rfl (by rw [ex25]; rfl) rfl ?_
          refine g_goto (tgt := 51) ok dX9_search_121 (by decide) ?_
          exact ih (x25) M15 h
set_option maxRecDepth 100000 in
set_option maxHeartbeats 4000000 in
theorem k_X9_search  {M : gM} {Q : gM → Prop} (h : w_X9_search  M Q) : gCv gN 3 yX9_search cX9_search 2 [.inr 42] M Q := by
  refine gCv_of (by decide) gNn (gle rfl) (fun X ok hZ => ?_)
  show gW X 0 [some (.inr 42), none] [] M
  unfold w_X9_search at h
  refine g_aload_n ok dX9_search_0 rfl rfl ?_
  refine g_iconst (v := 0) ok dX9_search_1 (by decide) ?_
  refine g_put ok f42_7p (gNm (by decide)) q4_1 dX9_search_2 rfl rfl (g_mem (fun M1 eM1 => ?_))
  have h := h M1 eM1
  refine g_aload_n ok dX9_search_5 rfl rfl ?_
  refine g_iconst (v := 0) ok dX9_search_6 (by decide) ?_
  refine g_put ok f42_8p (gNm (by decide)) q4_2 dX9_search_7 rfl rfl (g_mem (fun M2 eM2 => ?_))
  have h := h M2 eM2
  refine g_aload_n ok dX9_search_10 rfl rfl ?_
  refine g_iconst (v := 0) ok dX9_search_11 (by decide) ?_
  refine g_put ok f42_16p (gNm (by decide)) q4_10 dX9_search_12 rfl rfl (g_mem (fun M3 eM3 => ?_))
  have h := h M3 eM3
  refine g_aload_n ok dX9_search_15 rfl rfl ?_
  refine g_iconst (v := 0) ok dX9_search_16 (by decide) ?_
  refine g_put ok f42_9p (gNm (by decide)) q4_3 dX9_search_17 (by decide) (by decide) (g_mem (fun M4 eM4 => ?_))
  have h := h M4 eM4
  refine g_aload_n ok dX9_search_20 rfl rfl ?_
  refine g_get (w := .inr 49) ok f42_12 (gNm (by decide)) q4_6 dX9_search_21 rfl ?_
  refine g_iconst (v := 0) ok dX9_search_24 (by decide) ?_
  refine g_iconst (v := 0) ok dX9_search_25 (by decide) ?_
  have hb := h.1
  have h := h.2
  refine g_iast ok a49 (gNm (by decide)) dX9_search_26 hb (g_mem (fun M5 eM5 => ?_))
  have h := h M5 eM5
  refine g_aload_n ok dX9_search_27 rfl rfl ?_
  refine g_get (w := .inr 50) ok f42_13 (gNm (by decide)) q4_7 dX9_search_28 rfl ?_
  refine g_iconst (v := 0) ok dX9_search_31 (by decide) ?_
  refine g_aload_n ok dX9_search_32 rfl rfl ?_
  refine g_callVi (st := [.inl 0, .inr 50]) (as := []) ok rfl (k_X9_whole h) s_X9_whole rfl (by decide) (gNm (by decide)) cl42 sel_X9_whole ins_X9_whole (gle rfl) rfl q4_102 dX9_search_33 ?_
  intro r7 M6 h
  have hb := h.1
  have h := h.2
  refine g_iast ok a50 (gNm (by decide)) dX9_search_36 hb (g_mem (fun M8 eM8 => ?_))
  have h := h M8 eM8
  refine g_aload_n ok dX9_search_37 rfl rfl ?_
  refine g_iconst (v := 0) ok dX9_search_38 (by decide) ?_
  refine g_callVi (st := []) (as := [.inl 0]) ok rfl (k_X9_visit h) s_X9_visit rfl (by decide) (gNm (by decide)) cl42 sel_X9_visit ins_X9_visit (gle rfl) rfl q4_225 dX9_search_39 ?_
  intro r10 M9 h
  refine g_if_eq (tgt := 49) ok dX9_search_42 (by decide) (fun z => ?_) (fun z => ?_)
  · have h := h.1 z
    refine g_iconst (v := (-1)) ok dX9_search_49 (by decide) ?_
    refine g_istore_n (lv1 := [some (.inr 42), some (.inl (-1))]) ok dX9_search_50 rfl (glt rfl) rfl ?_
    obtain ⟨nf, h⟩ := h
    refine w_X9_search_L51_w ok hZ  ?_ nf (-1)  M9 h
    · intro x26  M27 h
      exact g_vret ok hZ dX9_search_218 h
  · have h := h.2 z
    refine g_iconst (v := 0) ok dX9_search_45 (by decide) ?_
    refine g_goto (tgt := 50) ok dX9_search_46 (by decide) ?_
    refine g_istore_n (lv1 := [some (.inr 42), some (.inl 0)]) ok dX9_search_50 rfl (glt rfl) rfl ?_
    obtain ⟨nf, h⟩ := h
    refine w_X9_search_L51_w ok hZ  ?_ nf 0  M9 h
    · intro x28  M29 h
      exact g_vret ok hZ dX9_search_218 h
theorem dX9_sortAnswers_0 : decode cX9_sortAnswers 0 = .ok (.iconst 1, 1) := by decide +kernel
theorem dX9_sortAnswers_1 : decode cX9_sortAnswers 1 = .ok (.istore_n 1, 1) := by decide +kernel
theorem dX9_sortAnswers_2 : decode cX9_sortAnswers 2 = .ok (.iload_n 1, 1) := by decide +kernel
theorem dX9_sortAnswers_3 : decode cX9_sortAnswers 3 = .ok (.aload_n 0, 1) := by decide +kernel
theorem dX9_sortAnswers_4 : decode cX9_sortAnswers 4 = .ok (.getfield 135, 3) := by decide +kernel
theorem dX9_sortAnswers_7 : decode cX9_sortAnswers 7 = .ok (.if_icmp .ge 61, 3) := by decide +kernel
theorem dX9_sortAnswers_10 : decode cX9_sortAnswers 10 = .ok (.aload_n 0, 1) := by decide +kernel
theorem dX9_sortAnswers_11 : decode cX9_sortAnswers 11 = .ok (.getfield 22, 3) := by decide +kernel
theorem dX9_sortAnswers_14 : decode cX9_sortAnswers 14 = .ok (.iload_n 1, 1) := by decide +kernel
theorem dX9_sortAnswers_15 : decode cX9_sortAnswers 15 = .ok (.iaload, 1) := by decide +kernel
theorem dX9_sortAnswers_16 : decode cX9_sortAnswers 16 = .ok (.istore_n 2, 1) := by decide +kernel
theorem dX9_sortAnswers_17 : decode cX9_sortAnswers 17 = .ok (.iload_n 1, 1) := by decide +kernel
theorem dX9_sortAnswers_18 : decode cX9_sortAnswers 18 = .ok (.istore_n 3, 1) := by decide +kernel
theorem dX9_sortAnswers_19 : decode cX9_sortAnswers 19 = .ok (.iload_n 3, 1) := by decide +kernel
theorem dX9_sortAnswers_20 : decode cX9_sortAnswers 20 = .ok (.ifCond .le 35, 3) := by decide +kernel
theorem dX9_sortAnswers_23 : decode cX9_sortAnswers 23 = .ok (.aload_n 0, 1) := by decide +kernel
theorem dX9_sortAnswers_24 : decode cX9_sortAnswers 24 = .ok (.getfield 22, 3) := by decide +kernel
theorem dX9_sortAnswers_27 : decode cX9_sortAnswers 27 = .ok (.iload_n 3, 1) := by decide +kernel
theorem dX9_sortAnswers_28 : decode cX9_sortAnswers 28 = .ok (.iconst 1, 1) := by decide +kernel
theorem dX9_sortAnswers_29 : decode cX9_sortAnswers 29 = .ok (.isub, 1) := by decide +kernel
theorem dX9_sortAnswers_30 : decode cX9_sortAnswers 30 = .ok (.iaload, 1) := by decide +kernel
theorem dX9_sortAnswers_31 : decode cX9_sortAnswers 31 = .ok (.iload_n 2, 1) := by decide +kernel
theorem dX9_sortAnswers_32 : decode cX9_sortAnswers 32 = .ok (.if_icmp .le 23, 3) := by decide +kernel
theorem dX9_sortAnswers_35 : decode cX9_sortAnswers 35 = .ok (.aload_n 0, 1) := by decide +kernel
theorem dX9_sortAnswers_36 : decode cX9_sortAnswers 36 = .ok (.getfield 22, 3) := by decide +kernel
theorem dX9_sortAnswers_39 : decode cX9_sortAnswers 39 = .ok (.iload_n 3, 1) := by decide +kernel
theorem dX9_sortAnswers_40 : decode cX9_sortAnswers 40 = .ok (.aload_n 0, 1) := by decide +kernel
theorem dX9_sortAnswers_41 : decode cX9_sortAnswers 41 = .ok (.getfield 22, 3) := by decide +kernel
theorem dX9_sortAnswers_44 : decode cX9_sortAnswers 44 = .ok (.iload_n 3, 1) := by decide +kernel
theorem dX9_sortAnswers_45 : decode cX9_sortAnswers 45 = .ok (.iconst 1, 1) := by decide +kernel
theorem dX9_sortAnswers_46 : decode cX9_sortAnswers 46 = .ok (.isub, 1) := by decide +kernel
theorem dX9_sortAnswers_47 : decode cX9_sortAnswers 47 = .ok (.iaload, 1) := by decide +kernel
theorem dX9_sortAnswers_48 : decode cX9_sortAnswers 48 = .ok (.iastore, 1) := by decide +kernel
theorem dX9_sortAnswers_49 : decode cX9_sortAnswers 49 = .ok (.iinc 3 (-1), 3) := by decide +kernel
theorem dX9_sortAnswers_52 : decode cX9_sortAnswers 52 = .ok (.goto (-33), 3) := by decide +kernel
theorem dX9_sortAnswers_55 : decode cX9_sortAnswers 55 = .ok (.aload_n 0, 1) := by decide +kernel
theorem dX9_sortAnswers_56 : decode cX9_sortAnswers 56 = .ok (.getfield 22, 3) := by decide +kernel
theorem dX9_sortAnswers_59 : decode cX9_sortAnswers 59 = .ok (.iload_n 3, 1) := by decide +kernel
theorem dX9_sortAnswers_60 : decode cX9_sortAnswers 60 = .ok (.iload_n 2, 1) := by decide +kernel
theorem dX9_sortAnswers_61 : decode cX9_sortAnswers 61 = .ok (.iastore, 1) := by decide +kernel
theorem dX9_sortAnswers_62 : decode cX9_sortAnswers 62 = .ok (.iinc 1 1, 3) := by decide +kernel
theorem dX9_sortAnswers_65 : decode cX9_sortAnswers 65 = .ok (.goto (-63), 3) := by decide +kernel
theorem dX9_sortAnswers_68 : decode cX9_sortAnswers 68 = .ok (.return_, 1) := by decide +kernel
theorem s_X9_sortAnswers : gSt yX9_sortAnswers cX9_sortAnswers 4 none 0 := ⟨q4_239, q1_10, ⟨by decide, by decide, by decide +kernel⟩, by decide⟩
theorem sel_X9_sortAnswers : Cond.selects yX9_sortAnswers.cls yX9_sortAnswers yX9_sortAnswers ∈ gT := qs_38
theorem ins_X9_sortAnswers : Cond.instanceMethod yX9_sortAnswers ∈ gT := q4_238
def w_X9_sortAnswers_L19 (Q : gM → Prop) (K55 : Int32 → gM → Prop) (v1 : Int32) (v2 : Int32) : Nat → Int32 → gM → Prop
  | 0, _, _ => False
  | n + 1, v3, M => gbr ((0 : Int32) < v3) (vp_in (v3 - 1) 4000 ∧ (gbr ((v2 : Int32) < (M 47 (Int32.toNatClampNeg (v3 - 1)))) (vp_in (v3 - 1) 4000 ∧ (vp_in v3 4000 ∧ ∀ M2 : gM, M2 = gst M 47 (Int32.toNatClampNeg v3) (M 47 (Int32.toNatClampNeg (v3 - 1))) → (∀ x3 : Int32, x3 = (v3 + (-1)) → (w_X9_sortAnswers_L19 Q K55 v1 v2 n (x3) M2)))) (K55 (v3) M))) (K55 (v3) M)
def w_X9_sortAnswers_L2 (Q : gM → Prop) (K68 : Int32 → gM → Prop) : Nat → Int32 → gM → Prop
  | 0, _, _ => False
  | n + 1, v1, M => gbr ((v1 : Int32) < (M 42 7)) (vp_in v1 4000 ∧ (∀ x1 : Int32, x1 = (M 47 (Int32.toNatClampNeg v1)) → (∃ nf, w_X9_sortAnswers_L19 Q (fun (x4 : Int32) (M5 : gM) => vp_in x4 4000 ∧ ∀ M6 : gM, M6 = gst M5 47 (Int32.toNatClampNeg x4) x1 → (∀ x7 : Int32, x7 = (v1 + 1) → (w_X9_sortAnswers_L2 Q K68 n (x7) M6))) v1 x1 nf v1 M))) (K68 (v1) M)
def w_X9_sortAnswers  (M : gM) (Q : gM → Prop) : Prop := ∃ nf, w_X9_sortAnswers_L2 Q (fun (x8 : Int32) (M11 : gM) => Q M11)  nf 1 M
set_option maxRecDepth 100000 in
set_option maxHeartbeats 4000000 in
theorem w_X9_sortAnswers_L19_w {X : gX} (ok : gOk X cX9_sortAnswers yX9_sortAnswers.cls 0 4 none gN) {Q : gM → Prop} (hZ : gZv X Q) {K55 : Int32 → gM → Prop} (v1 : Int32) (v2 : Int32) (hK55 : ∀ (v3 : Int32)  (M : gM), K55 v3 M → gW X 55 [some (.inr 42), some (.inl v1), some (.inl v2), some (.inl v3)] [] M) : ∀ (n : Nat) (v3 : Int32)  (M : gM), w_X9_sortAnswers_L19 Q K55 v1 v2 n v3 M → gW X 19 [some (.inr 42), some (.inl v1), some (.inl v2), some (.inl v3)] [] M
  | 0, _, _, h => h.elim
  | n + 1, v3, M, h => by
    have ih := fun (v3 : Int32)  (M : gM) h => w_X9_sortAnswers_L19_w ok hZ v1 v2 hK55 n v3  M h
    rw [w_X9_sortAnswers_L19.eq_2] at h
    refine g_iload_n ok dX9_sortAnswers_19 rfl rfl ?_
    refine g_if_le (tgt := 55) ok dX9_sortAnswers_20 (by decide) (fun z => ?_) (fun z => ?_)
    · have h := h.2 z
      exact hK55 (v3) M h
    · have h := h.1 z
      refine g_aload_n ok dX9_sortAnswers_23 rfl rfl ?_
      refine g_get (w := .inr 47) ok f42_10 (gNm (by decide)) q4_4 dX9_sortAnswers_24 rfl ?_
      refine g_iload_n ok dX9_sortAnswers_27 rfl rfl ?_
      refine g_iconst (v := 1) ok dX9_sortAnswers_28 (by decide) ?_
      refine g_isub ok dX9_sortAnswers_29 ?_
      have hb := h.1
      have h := h.2
      refine g_iald (w := (M 47 (Int32.toNatClampNeg (v3 - 1)))) ok a47 (gNm (by decide)) dX9_sortAnswers_30 hb rfl ?_
      refine g_iload_n ok dX9_sortAnswers_31 rfl rfl ?_
      refine g_icmp_le (tgt := 55) ok dX9_sortAnswers_32 (by decide) (fun z => ?_) (fun z => ?_)
      · have h := h.2 z
        exact hK55 (v3) M h
      · have h := h.1 z
        refine g_aload_n ok dX9_sortAnswers_35 rfl rfl ?_
        refine g_get (w := .inr 47) ok f42_10 (gNm (by decide)) q4_4 dX9_sortAnswers_36 rfl ?_
        refine g_iload_n ok dX9_sortAnswers_39 rfl rfl ?_
        refine g_aload_n ok dX9_sortAnswers_40 rfl rfl ?_
        refine g_get (w := .inr 47) ok f42_10 (gNm (by decide)) q4_4 dX9_sortAnswers_41 rfl ?_
        refine g_iload_n ok dX9_sortAnswers_44 rfl rfl ?_
        refine g_iconst (v := 1) ok dX9_sortAnswers_45 (by decide) ?_
        refine g_isub ok dX9_sortAnswers_46 ?_
        have hb := h.1
        have h := h.2
        refine g_iald (w := (M 47 (Int32.toNatClampNeg (v3 - 1)))) ok a47 (gNm (by decide)) dX9_sortAnswers_47 hb rfl ?_
        have hb := h.1
        have h := h.2
        refine g_iast ok a47 (gNm (by decide)) dX9_sortAnswers_48 hb (g_mem (fun M2 eM2 => ?_))
        have h := h M2 eM2
        obtain ⟨x3, ex3⟩ : ∃ y : Int32, y = (v3 + (-1)) := ⟨_, rfl⟩
        have h := h x3 ex3
        refine g_iinc (v := x3) (lv1 := [some (.inr 42), some (.inl v1), some (.inl v2), some (.inl x3)]) ok dX9_sortAnswers_49 rfl (by rw [ex3]; rfl) rfl ?_
        refine g_goto (tgt := 19) ok dX9_sortAnswers_52 (by decide) ?_
        exact ih (x3) M2 h
set_option maxRecDepth 100000 in
set_option maxHeartbeats 4000000 in
theorem w_X9_sortAnswers_L2_w {X : gX} (ok : gOk X cX9_sortAnswers yX9_sortAnswers.cls 0 4 none gN) {Q : gM → Prop} (hZ : gZv X Q) {K68 : Int32 → gM → Prop}  (hK68 : ∀ (v1 : Int32) (u2 : Option gV) (u3 : Option gV) (M : gM), K68 v1 M → gW X 68 [some (.inr 42), some (.inl v1), u2, u3] [] M) : ∀ (n : Nat) (v1 : Int32) (u2 : Option gV) (u3 : Option gV) (M : gM), w_X9_sortAnswers_L2 Q K68 n v1 M → gW X 2 [some (.inr 42), some (.inl v1), u2, u3] [] M
  | 0, _, _, _, _, h => h.elim
  | n + 1, v1, u2, u3, M, h => by
    have ih := fun (v1 : Int32) (u2 : Option gV) (u3 : Option gV) (M : gM) h => w_X9_sortAnswers_L2_w ok hZ  hK68 n v1 u2 u3 M h
    rw [w_X9_sortAnswers_L2.eq_2] at h
    refine g_iload_n ok dX9_sortAnswers_2 rfl rfl ?_
    refine g_aload_n ok dX9_sortAnswers_3 rfl rfl ?_
    refine g_get (w := .inl (M 42 7)) ok f42_7 (gNm (by decide)) q4_1 dX9_sortAnswers_4 rfl ?_
    refine g_icmp_ge (tgt := 68) ok dX9_sortAnswers_7 (by decide) (fun z => ?_) (fun z => ?_)
    · have h := h.2 z
      exact hK68 (v1) (u2) (u3) M h
    · have h := h.1 z
      refine g_aload_n ok dX9_sortAnswers_10 rfl rfl ?_
      refine g_get (w := .inr 47) ok f42_10 (gNm (by decide)) q4_4 dX9_sortAnswers_11 rfl ?_
      refine g_iload_n ok dX9_sortAnswers_14 rfl rfl ?_
      have hb := h.1
      have h := h.2
      refine g_iald (w := (M 47 (Int32.toNatClampNeg v1))) ok a47 (gNm (by decide)) dX9_sortAnswers_15 hb rfl ?_
      refine g_nm (fun x1 ex1 => ?_)
      have h := h x1 ex1
      refine g_istore_n (lv1 := [some (.inr 42), some (.inl v1), some (.inl x1), u3]) ok dX9_sortAnswers_16 rfl (glt rfl) rfl ?_
      refine g_iload_n ok dX9_sortAnswers_17 rfl rfl ?_
      refine g_istore_n (lv1 := [some (.inr 42), some (.inl v1), some (.inl x1), some (.inl v1)]) ok dX9_sortAnswers_18 rfl (glt rfl) rfl ?_
      obtain ⟨nf, h⟩ := h
      refine w_X9_sortAnswers_L19_w ok hZ v1 x1 ?_ nf v1  M h
      · intro x4  M5 h
        refine g_aload_n ok dX9_sortAnswers_55 rfl rfl ?_
        refine g_get (w := .inr 47) ok f42_10 (gNm (by decide)) q4_4 dX9_sortAnswers_56 rfl ?_
        refine g_iload_n ok dX9_sortAnswers_59 rfl rfl ?_
        refine g_iload_n ok dX9_sortAnswers_60 rfl rfl ?_
        have hb := h.1
        have h := h.2
        refine g_iast ok a47 (gNm (by decide)) dX9_sortAnswers_61 hb (g_mem (fun M6 eM6 => ?_))
        have h := h M6 eM6
        obtain ⟨x7, ex7⟩ : ∃ y : Int32, y = (v1 + 1) := ⟨_, rfl⟩
        have h := h x7 ex7
        refine g_iinc (v := x7) (lv1 := [some (.inr 42), some (.inl x7), some (.inl x1), some (.inl x4)]) ok dX9_sortAnswers_62 rfl (by rw [ex7]; rfl) rfl ?_
        refine g_goto (tgt := 2) ok dX9_sortAnswers_65 (by decide) ?_
        exact ih (x7) (some (.inl x1)) (some (.inl x4)) M6 h
set_option maxRecDepth 100000 in
set_option maxHeartbeats 4000000 in
theorem k_X9_sortAnswers  {M : gM} {Q : gM → Prop} (h : w_X9_sortAnswers  M Q) : gCv gN 0 yX9_sortAnswers cX9_sortAnswers 4 [.inr 42] M Q := by
  refine gCv_of (by decide) gNn (gle rfl) (fun X ok hZ => ?_)
  show gW X 0 [some (.inr 42), none, none, none] [] M
  unfold w_X9_sortAnswers at h
  refine g_iconst (v := 1) ok dX9_sortAnswers_0 (by decide) ?_
  refine g_istore_n (lv1 := [some (.inr 42), some (.inl 1), none, none]) ok dX9_sortAnswers_1 rfl (glt rfl) rfl ?_
  obtain ⟨nf, h⟩ := h
  refine w_X9_sortAnswers_L2_w ok hZ  ?_ nf 1 (none) (none) M h
  · intro x8 u9 u10 M11 h
    exact g_vret ok hZ dX9_sortAnswers_68 h
theorem dX9_dualize_0 : decode cX9_dualize 0 = .ok (.aload_n 0, 1) := by decide +kernel
theorem dX9_dualize_1 : decode cX9_dualize 1 = .ok (.invokevirtual 80, 3) := by decide +kernel
theorem dX9_dualize_4 : decode cX9_dualize 4 = .ok (.ifCond .ne 6, 3) := by decide +kernel
theorem dX9_dualize_7 : decode cX9_dualize 7 = .ok (.bipush (-3), 2) := by decide +kernel
theorem dX9_dualize_9 : decode cX9_dualize 9 = .ok (.ireturn, 1) := by decide +kernel
theorem dX9_dualize_10 : decode cX9_dualize 10 = .ok (.aload_n 0, 1) := by decide +kernel
theorem dX9_dualize_11 : decode cX9_dualize 11 = .ok (.invokevirtual 154, 3) := by decide +kernel
theorem dX9_dualize_14 : decode cX9_dualize 14 = .ok (.aload_n 0, 1) := by decide +kernel
theorem dX9_dualize_15 : decode cX9_dualize 15 = .ok (.getfield 144, 3) := by decide +kernel
theorem dX9_dualize_18 : decode cX9_dualize 18 = .ok (.ifCond .eq 6, 3) := by decide +kernel
theorem dX9_dualize_21 : decode cX9_dualize 21 = .ok (.bipush (-6), 2) := by decide +kernel
theorem dX9_dualize_23 : decode cX9_dualize 23 = .ok (.ireturn, 1) := by decide +kernel
theorem dX9_dualize_24 : decode cX9_dualize 24 = .ok (.aload_n 0, 1) := by decide +kernel
theorem dX9_dualize_25 : decode cX9_dualize 25 = .ok (.getfield 135, 3) := by decide +kernel
theorem dX9_dualize_28 : decode cX9_dualize 28 = .ok (.bipush 24, 2) := by decide +kernel
theorem dX9_dualize_30 : decode cX9_dualize 30 = .ok (.if_icmp .le 6, 3) := by decide +kernel
theorem dX9_dualize_33 : decode cX9_dualize 33 = .ok (.bipush (-5), 2) := by decide +kernel
theorem dX9_dualize_35 : decode cX9_dualize 35 = .ok (.ireturn, 1) := by decide +kernel
theorem dX9_dualize_36 : decode cX9_dualize 36 = .ok (.aload_n 0, 1) := by decide +kernel
theorem dX9_dualize_37 : decode cX9_dualize 37 = .ok (.invokevirtual 157, 3) := by decide +kernel
theorem dX9_dualize_40 : decode cX9_dualize 40 = .ok (.aload_n 0, 1) := by decide +kernel
theorem dX9_dualize_41 : decode cX9_dualize 41 = .ok (.invokevirtual 91, 3) := by decide +kernel
theorem dX9_dualize_44 : decode cX9_dualize 44 = .ok (.iconst 0, 1) := by decide +kernel
theorem dX9_dualize_45 : decode cX9_dualize 45 = .ok (.istore_n 1, 1) := by decide +kernel
theorem dX9_dualize_46 : decode cX9_dualize 46 = .ok (.iload_n 1, 1) := by decide +kernel
theorem dX9_dualize_47 : decode cX9_dualize 47 = .ok (.aload_n 0, 1) := by decide +kernel
theorem dX9_dualize_48 : decode cX9_dualize 48 = .ok (.getfield 135, 3) := by decide +kernel
theorem dX9_dualize_51 : decode cX9_dualize 51 = .ok (.if_icmp .ge 21, 3) := by decide +kernel
theorem dX9_dualize_54 : decode cX9_dualize 54 = .ok (.aload_n 0, 1) := by decide +kernel
theorem dX9_dualize_55 : decode cX9_dualize 55 = .ok (.getfield 7, 3) := by decide +kernel
theorem dX9_dualize_58 : decode cX9_dualize 58 = .ok (.iload_n 1, 1) := by decide +kernel
theorem dX9_dualize_59 : decode cX9_dualize 59 = .ok (.aload_n 0, 1) := by decide +kernel
theorem dX9_dualize_60 : decode cX9_dualize 60 = .ok (.getfield 22, 3) := by decide +kernel
theorem dX9_dualize_63 : decode cX9_dualize 63 = .ok (.iload_n 1, 1) := by decide +kernel
theorem dX9_dualize_64 : decode cX9_dualize 64 = .ok (.iaload, 1) := by decide +kernel
theorem dX9_dualize_65 : decode cX9_dualize 65 = .ok (.iastore, 1) := by decide +kernel
theorem dX9_dualize_66 : decode cX9_dualize 66 = .ok (.iinc 1 1, 3) := by decide +kernel
theorem dX9_dualize_69 : decode cX9_dualize 69 = .ok (.goto (-23), 3) := by decide +kernel
theorem dX9_dualize_72 : decode cX9_dualize 72 = .ok (.aload_n 0, 1) := by decide +kernel
theorem dX9_dualize_73 : decode cX9_dualize 73 = .ok (.getfield 7, 3) := by decide +kernel
theorem dX9_dualize_76 : decode cX9_dualize 76 = .ok (.bipush 24, 2) := by decide +kernel
theorem dX9_dualize_78 : decode cX9_dualize 78 = .ok (.aload_n 0, 1) := by decide +kernel
theorem dX9_dualize_79 : decode cX9_dualize 79 = .ok (.getfield 135, 3) := by decide +kernel
theorem dX9_dualize_82 : decode cX9_dualize 82 = .ok (.iastore, 1) := by decide +kernel
theorem dX9_dualize_83 : decode cX9_dualize 83 = .ok (.aload_n 0, 1) := by decide +kernel
theorem dX9_dualize_84 : decode cX9_dualize 84 = .ok (.getfield 135, 3) := by decide +kernel
theorem dX9_dualize_87 : decode cX9_dualize 87 = .ok (.ireturn, 1) := by decide +kernel
theorem s_X9_dualize : gSt yX9_dualize cX9_dualize 2 (some .int) 0 := ⟨q4_220, q1_10, ⟨by decide, by decide, by decide +kernel⟩, by decide⟩
theorem sel_X9_dualize : Cond.selects yX9_dualize.cls yX9_dualize yX9_dualize ∈ gT := q4_219
theorem ins_X9_dualize : Cond.instanceMethod yX9_dualize ∈ gT := q4_218
def w_X9_dualize_L46 (Q : Int32 → gM → Prop) (K72 : Int32 → gM → Prop) : Nat → Int32 → gM → Prop
  | 0, _, _ => False
  | n + 1, v1, M => gbr ((v1 : Int32) < (M 42 7)) (vp_in v1 4000 ∧ (vp_in v1 25 ∧ ∀ M9 : gM, M9 = gst M 43 (Int32.toNatClampNeg v1) (M 47 (Int32.toNatClampNeg v1)) → (∀ x10 : Int32, x10 = (v1 + 1) → (w_X9_dualize_L46 Q K72 n (x10) M9)))) (K72 (v1) M)
def w_X9_dualize  (M : gM) (Q : Int32 → gM → Prop) : Prop := w_X9_many M (fun (r2 : Int32) (M1 : gM) => gbr ((r2 : Int32) = 0) (Q (-3) M1) (w_X9_search M1 (fun (M3 : gM) => gbr (((M3 42 9) : Int32) = 0) (gbr ((24 : Int32) < (M3 42 7)) (Q (-5) M3) (w_X9_sortAnswers M3 (fun (M5 : gM) => w_X9_keep M5 (fun (M7 : gM) => ∃ nf, w_X9_dualize_L46 Q (fun (x11 : Int32) (M12 : gM) => vp_in 24 25 ∧ ∀ M13 : gM, M13 = gst M12 43 (Int32.toNatClampNeg 24) (M12 42 7) → (Q (M13 42 7) M13))  nf 0 M7)))) (Q (-6) M3))))
set_option maxRecDepth 100000 in
set_option maxHeartbeats 4000000 in
theorem w_X9_dualize_L46_w {X : gX} (ok : gOk X cX9_dualize yX9_dualize.cls 4 2 (some .int) gN) {Q : Int32 → gM → Prop} (hZ : gZi X Q) {K72 : Int32 → gM → Prop}  (hK72 : ∀ (v1 : Int32)  (M : gM), K72 v1 M → gW X 72 [some (.inr 42), some (.inl v1)] [] M) : ∀ (n : Nat) (v1 : Int32)  (M : gM), w_X9_dualize_L46 Q K72 n v1 M → gW X 46 [some (.inr 42), some (.inl v1)] [] M
  | 0, _, _, h => h.elim
  | n + 1, v1, M, h => by
    have ih := fun (v1 : Int32)  (M : gM) h => w_X9_dualize_L46_w ok hZ  hK72 n v1  M h
    rw [w_X9_dualize_L46.eq_2] at h
    refine g_iload_n ok dX9_dualize_46 rfl rfl ?_
    refine g_aload_n ok dX9_dualize_47 rfl rfl ?_
    refine g_get (w := .inl (M 42 7)) ok f42_7 (gNm (by decide)) q4_1 dX9_dualize_48 rfl ?_
    refine g_icmp_ge (tgt := 72) ok dX9_dualize_51 (by decide) (fun z => ?_) (fun z => ?_)
    · have h := h.2 z
      exact hK72 (v1) M h
    · have h := h.1 z
      refine g_aload_n ok dX9_dualize_54 rfl rfl ?_
      refine g_get (w := .inr 43) ok f42_1 (gNm (by decide)) q3_235 dX9_dualize_55 rfl ?_
      refine g_iload_n ok dX9_dualize_58 rfl rfl ?_
      refine g_aload_n ok dX9_dualize_59 rfl rfl ?_
      refine g_get (w := .inr 47) ok f42_10 (gNm (by decide)) q4_4 dX9_dualize_60 rfl ?_
      refine g_iload_n ok dX9_dualize_63 rfl rfl ?_
      have hb := h.1
      have h := h.2
      refine g_iald (w := (M 47 (Int32.toNatClampNeg v1))) ok a47 (gNm (by decide)) dX9_dualize_64 hb rfl ?_
      have hb := h.1
      have h := h.2
      refine g_iast ok a43 (gNm (by decide)) dX9_dualize_65 hb (g_mem (fun M9 eM9 => ?_))
      have h := h M9 eM9
      obtain ⟨x10, ex10⟩ : ∃ y : Int32, y = (v1 + 1) := ⟨_, rfl⟩
      have h := h x10 ex10
      refine g_iinc (v := x10) (lv1 := [some (.inr 42), some (.inl x10)]) ok dX9_dualize_66 rfl (by rw [ex10]; rfl) rfl ?_
      refine g_goto (tgt := 46) ok dX9_dualize_69 (by decide) ?_
      exact ih (x10) M9 h
set_option maxRecDepth 100000 in
set_option maxHeartbeats 4000000 in
theorem k_X9_dualize  {M : gM} {Q : Int32 → gM → Prop} (h : w_X9_dualize  M Q) : gCi gN 4 yX9_dualize cX9_dualize 2 .int [.inr 42] M Q := by
  refine gCi_of (by decide) gNn (gle rfl) (fun X ok hZ => ?_)
  show gW X 0 [some (.inr 42), none] [] M
  unfold w_X9_dualize at h
  refine g_aload_n ok dX9_dualize_0 rfl rfl ?_
  refine g_callVi (st := []) (as := []) ok rfl (k_X9_many h) s_X9_many rfl (by decide) (gNm (by decide)) cl42 sel_X9_many ins_X9_many (gle rfl) rfl q4_110 dX9_dualize_1 ?_
  intro r2 M1 h
  refine g_if_ne (tgt := 10) ok dX9_dualize_4 (by decide) (fun z => ?_) (fun z => ?_)
  · have h := h.2 z
    refine g_aload_n ok dX9_dualize_10 rfl rfl ?_
    refine g_callVv (st := []) (as := []) ok rfl (k_X9_search h) s_X9_search rfl (by decide) (gNm (by decide)) cl42 sel_X9_search ins_X9_search (gle rfl) rfl q4_221 dX9_dualize_11 ?_
    intro M3 h
    refine g_aload_n ok dX9_dualize_14 rfl rfl ?_
    refine g_get (w := .inl (M3 42 9)) ok f42_9 (gNm (by decide)) q4_3 dX9_dualize_15 rfl ?_
    refine g_if_eq (tgt := 24) ok dX9_dualize_18 (by decide) (fun z => ?_) (fun z => ?_)
    · have h := h.1 z
      refine g_aload_n ok dX9_dualize_24 rfl rfl ?_
      refine g_get (w := .inl (M3 42 7)) ok f42_7 (gNm (by decide)) q4_1 dX9_dualize_25 rfl ?_
      refine g_bipush (v := 24) ok dX9_dualize_28 (by decide) ?_
      refine g_icmp_le (tgt := 36) ok dX9_dualize_30 (by decide) (fun z => ?_) (fun z => ?_)
      · have h := h.2 z
        refine g_aload_n ok dX9_dualize_36 rfl rfl ?_
        refine g_callVv (st := []) (as := []) ok rfl (k_X9_sortAnswers h) s_X9_sortAnswers rfl (by decide) (gNm (by decide)) cl42 sel_X9_sortAnswers ins_X9_sortAnswers (gle rfl) rfl q4_236 dX9_dualize_37 ?_
        intro M5 h
        refine g_aload_n ok dX9_dualize_40 rfl rfl ?_
        refine g_callVv (st := []) (as := []) ok rfl (k_X9_keep h) s_X9_keep rfl (by decide) (gNm (by decide)) cl42 sel_X9_keep ins_X9_keep (gle rfl) rfl q4_114 dX9_dualize_41 ?_
        intro M7 h
        refine g_iconst (v := 0) ok dX9_dualize_44 (by decide) ?_
        refine g_istore_n (lv1 := [some (.inr 42), some (.inl 0)]) ok dX9_dualize_45 rfl (glt rfl) rfl ?_
        obtain ⟨nf, h⟩ := h
        refine w_X9_dualize_L46_w ok hZ  ?_ nf 0  M7 h
        · intro x11  M12 h
          refine g_aload_n ok dX9_dualize_72 rfl rfl ?_
          refine g_get (w := .inr 43) ok f42_1 (gNm (by decide)) q3_235 dX9_dualize_73 rfl ?_
          refine g_bipush (v := 24) ok dX9_dualize_76 (by decide) ?_
          refine g_aload_n ok dX9_dualize_78 rfl rfl ?_
          refine g_get (w := .inl (M12 42 7)) ok f42_7 (gNm (by decide)) q4_1 dX9_dualize_79 rfl ?_
          have hb := h.1
          have h := h.2
          refine g_iast ok a43 (gNm (by decide)) dX9_dualize_82 hb (g_mem (fun M13 eM13 => ?_))
          have h := h M13 eM13
          refine g_aload_n ok dX9_dualize_83 rfl rfl ?_
          refine g_get (w := .inl (M13 42 7)) ok f42_7 (gNm (by decide)) q4_1 dX9_dualize_84 rfl ?_
          exact g_iret ok hZ dX9_dualize_87 h
      · have h := h.1 z
        refine g_bipush (v := (-5)) ok dX9_dualize_33 (by decide) ?_
        exact g_iret ok hZ dX9_dualize_35 h
    · have h := h.2 z
      refine g_bipush (v := (-6)) ok dX9_dualize_21 (by decide) ?_
      exact g_iret ok hZ dX9_dualize_23 h
  · have h := h.1 z
    refine g_bipush (v := (-3)) ok dX9_dualize_7 (by decide) ?_
    exact g_iret ok hZ dX9_dualize_9 h
theorem dX9_answerCount_0 : decode cX9_answerCount 0 = .ok (.aload_n 0, 1) := by decide +kernel
theorem dX9_answerCount_1 : decode cX9_answerCount 1 = .ok (.invokevirtual 154, 3) := by decide +kernel
theorem dX9_answerCount_4 : decode cX9_answerCount 4 = .ok (.aload_n 0, 1) := by decide +kernel
theorem dX9_answerCount_5 : decode cX9_answerCount 5 = .ok (.getfield 144, 3) := by decide +kernel
theorem dX9_answerCount_8 : decode cX9_answerCount 8 = .ok (.ifCond .eq 8, 3) := by decide +kernel
theorem dX9_answerCount_11 : decode cX9_answerCount 11 = .ok (.bipush (-6), 2) := by decide +kernel
theorem dX9_answerCount_13 : decode cX9_answerCount 13 = .ok (.goto 7, 3) := by decide +kernel
theorem dX9_answerCount_16 : decode cX9_answerCount 16 = .ok (.aload_n 0, 1) := by decide +kernel
theorem dX9_answerCount_17 : decode cX9_answerCount 17 = .ok (.getfield 135, 3) := by decide +kernel
theorem dX9_answerCount_20 : decode cX9_answerCount 20 = .ok (.ireturn, 1) := by decide +kernel
theorem s_X9_answerCount : gSt yX9_answerCount cX9_answerCount 1 (some .int) 0 := ⟨q5_3, q1_10, ⟨by decide, by decide, by decide +kernel⟩, by decide⟩
theorem sel_X9_answerCount : Cond.selects yX9_answerCount.cls yX9_answerCount yX9_answerCount ∈ gT := q5_2
theorem ins_X9_answerCount : Cond.instanceMethod yX9_answerCount ∈ gT := q5_1
def w_X9_answerCount  (M : gM) (Q : Int32 → gM → Prop) : Prop := w_X9_search M (fun (M1 : gM) => gbr (((M1 42 9) : Int32) = 0) (Q (M1 42 7) M1) (Q (-6) M1))
set_option maxRecDepth 100000 in
set_option maxHeartbeats 4000000 in
theorem k_X9_answerCount  {M : gM} {Q : Int32 → gM → Prop} (h : w_X9_answerCount  M Q) : gCi gN 4 yX9_answerCount cX9_answerCount 1 .int [.inr 42] M Q := by
  refine gCi_of (by decide) gNn (gle rfl) (fun X ok hZ => ?_)
  show gW X 0 [some (.inr 42)] [] M
  unfold w_X9_answerCount at h
  refine g_aload_n ok dX9_answerCount_0 rfl rfl ?_
  refine g_callVv (st := []) (as := []) ok rfl (k_X9_search h) s_X9_search rfl (by decide) (gNm (by decide)) cl42 sel_X9_search ins_X9_search (gle rfl) rfl q4_221 dX9_answerCount_1 ?_
  intro M1 h
  refine g_aload_n ok dX9_answerCount_4 rfl rfl ?_
  refine g_get (w := .inl (M1 42 9)) ok f42_9 (gNm (by decide)) q4_3 dX9_answerCount_5 rfl ?_
  refine g_if_eq (tgt := 16) ok dX9_answerCount_8 (by decide) (fun z => ?_) (fun z => ?_)
  · have h := h.1 z
    refine g_aload_n ok dX9_answerCount_16 rfl rfl ?_
    refine g_get (w := .inl (M1 42 7)) ok f42_7 (gNm (by decide)) q4_1 dX9_answerCount_17 rfl ?_
    exact g_iret ok hZ dX9_answerCount_20 h
  · have h := h.2 z
    refine g_bipush (v := (-6)) ok dX9_answerCount_11 (by decide) ?_
    refine g_goto (tgt := 20) ok dX9_answerCount_13 (by decide) ?_
    exact g_iret ok hZ dX9_answerCount_20 h
theorem dX9_answer_0 : decode cX9_answer 0 = .ok (.iload_n 1, 1) := by decide +kernel
theorem dX9_answer_1 : decode cX9_answer 1 = .ok (.ifCond .ge 6, 3) := by decide +kernel
theorem dX9_answer_4 : decode cX9_answer 4 = .ok (.bipush (-3), 2) := by decide +kernel
theorem dX9_answer_6 : decode cX9_answer 6 = .ok (.ireturn, 1) := by decide +kernel
theorem dX9_answer_7 : decode cX9_answer 7 = .ok (.aload_n 0, 1) := by decide +kernel
theorem dX9_answer_8 : decode cX9_answer 8 = .ok (.invokevirtual 154, 3) := by decide +kernel
theorem dX9_answer_11 : decode cX9_answer 11 = .ok (.aload_n 0, 1) := by decide +kernel
theorem dX9_answer_12 : decode cX9_answer 12 = .ok (.getfield 144, 3) := by decide +kernel
theorem dX9_answer_15 : decode cX9_answer 15 = .ok (.ifCond .eq 8, 3) := by decide +kernel
theorem dX9_answer_18 : decode cX9_answer 18 = .ok (.bipush (-6), 2) := by decide +kernel
theorem dX9_answer_20 : decode cX9_answer 20 = .ok (.goto 22, 3) := by decide +kernel
theorem dX9_answer_23 : decode cX9_answer 23 = .ok (.iload_n 1, 1) := by decide +kernel
theorem dX9_answer_24 : decode cX9_answer 24 = .ok (.aload_n 0, 1) := by decide +kernel
theorem dX9_answer_25 : decode cX9_answer 25 = .ok (.getfield 135, 3) := by decide +kernel
theorem dX9_answer_28 : decode cX9_answer 28 = .ok (.if_icmp .ge 12, 3) := by decide +kernel
theorem dX9_answer_31 : decode cX9_answer 31 = .ok (.aload_n 0, 1) := by decide +kernel
theorem dX9_answer_32 : decode cX9_answer 32 = .ok (.getfield 22, 3) := by decide +kernel
theorem dX9_answer_35 : decode cX9_answer 35 = .ok (.iload_n 1, 1) := by decide +kernel
theorem dX9_answer_36 : decode cX9_answer 36 = .ok (.iaload, 1) := by decide +kernel
theorem dX9_answer_37 : decode cX9_answer 37 = .ok (.goto 5, 3) := by decide +kernel
theorem dX9_answer_40 : decode cX9_answer 40 = .ok (.bipush (-7), 2) := by decide +kernel
theorem dX9_answer_42 : decode cX9_answer 42 = .ok (.ireturn, 1) := by decide +kernel
theorem s_X9_answer : gSt yX9_answer cX9_answer 2 (some .int) 1 := ⟨q5_7, q1_10, ⟨by decide, by decide, by decide +kernel⟩, by decide⟩
theorem sel_X9_answer : Cond.selects yX9_answer.cls yX9_answer yX9_answer ∈ gT := q5_6
theorem ins_X9_answer : Cond.instanceMethod yX9_answer ∈ gT := q5_5
def w_X9_answer (p1 : Int32) (M : gM) (Q : Int32 → gM → Prop) : Prop := gbr ((p1 : Int32) < 0) (Q (-3) M) (w_X9_search M (fun (M1 : gM) => gbr (((M1 42 9) : Int32) = 0) (gbr ((p1 : Int32) < (M1 42 7)) (vp_in p1 4000 ∧ (Q (M1 47 (Int32.toNatClampNeg p1)) M1)) (Q (-7) M1)) (Q (-6) M1)))
set_option maxRecDepth 100000 in
set_option maxHeartbeats 4000000 in
theorem k_X9_answer {p1 : Int32} {M : gM} {Q : Int32 → gM → Prop} (h : w_X9_answer p1 M Q) : gCi gN 4 yX9_answer cX9_answer 2 .int [.inr 42, .inl p1] M Q := by
  refine gCi_of (by decide) gNn (gle rfl) (fun X ok hZ => ?_)
  show gW X 0 [some (.inr 42), some (.inl p1)] [] M
  unfold w_X9_answer at h
  refine g_iload_n ok dX9_answer_0 rfl rfl ?_
  refine g_if_ge (tgt := 7) ok dX9_answer_1 (by decide) (fun z => ?_) (fun z => ?_)
  · have h := h.2 z
    refine g_aload_n ok dX9_answer_7 rfl rfl ?_
    refine g_callVv (st := []) (as := []) ok rfl (k_X9_search h) s_X9_search rfl (by decide) (gNm (by decide)) cl42 sel_X9_search ins_X9_search (gle rfl) rfl q4_221 dX9_answer_8 ?_
    intro M1 h
    refine g_aload_n ok dX9_answer_11 rfl rfl ?_
    refine g_get (w := .inl (M1 42 9)) ok f42_9 (gNm (by decide)) q4_3 dX9_answer_12 rfl ?_
    refine g_if_eq (tgt := 23) ok dX9_answer_15 (by decide) (fun z => ?_) (fun z => ?_)
    · have h := h.1 z
      refine g_iload_n ok dX9_answer_23 rfl rfl ?_
      refine g_aload_n ok dX9_answer_24 rfl rfl ?_
      refine g_get (w := .inl (M1 42 7)) ok f42_7 (gNm (by decide)) q4_1 dX9_answer_25 rfl ?_
      refine g_icmp_ge (tgt := 40) ok dX9_answer_28 (by decide) (fun z => ?_) (fun z => ?_)
      · have h := h.2 z
        refine g_bipush (v := (-7)) ok dX9_answer_40 (by decide) ?_
        exact g_iret ok hZ dX9_answer_42 h
      · have h := h.1 z
        refine g_aload_n ok dX9_answer_31 rfl rfl ?_
        refine g_get (w := .inr 47) ok f42_10 (gNm (by decide)) q4_4 dX9_answer_32 rfl ?_
        refine g_iload_n ok dX9_answer_35 rfl rfl ?_
        have hb := h.1
        have h := h.2
        refine g_iald (w := (M1 47 (Int32.toNatClampNeg p1))) ok a47 (gNm (by decide)) dX9_answer_36 hb rfl ?_
        refine g_goto (tgt := 42) ok dX9_answer_37 (by decide) ?_
        exact g_iret ok hZ dX9_answer_42 h
    · have h := h.2 z
      refine g_bipush (v := (-6)) ok dX9_answer_18 (by decide) ?_
      refine g_goto (tgt := 42) ok dX9_answer_20 (by decide) ?_
      exact g_iret ok hZ dX9_answer_42 h
  · have h := h.1 z
    refine g_bipush (v := (-3)) ok dX9_answer_4 (by decide) ?_
    exact g_iret ok hZ dX9_answer_6 h
theorem dX9_delay_0 : decode cX9_delay 0 = .ok (.iload_n 1, 1) := by decide +kernel
theorem dX9_delay_1 : decode cX9_delay 1 = .ok (.ifCond .ge 6, 3) := by decide +kernel
theorem dX9_delay_4 : decode cX9_delay 4 = .ok (.bipush (-3), 2) := by decide +kernel
theorem dX9_delay_6 : decode cX9_delay 6 = .ok (.ireturn, 1) := by decide +kernel
theorem dX9_delay_7 : decode cX9_delay 7 = .ok (.aload_n 0, 1) := by decide +kernel
theorem dX9_delay_8 : decode cX9_delay 8 = .ok (.invokevirtual 154, 3) := by decide +kernel
theorem dX9_delay_11 : decode cX9_delay 11 = .ok (.aload_n 0, 1) := by decide +kernel
theorem dX9_delay_12 : decode cX9_delay 12 = .ok (.getfield 144, 3) := by decide +kernel
theorem dX9_delay_15 : decode cX9_delay 15 = .ok (.ifCond .eq 8, 3) := by decide +kernel
theorem dX9_delay_18 : decode cX9_delay 18 = .ok (.bipush (-6), 2) := by decide +kernel
theorem dX9_delay_20 : decode cX9_delay 20 = .ok (.goto 22, 3) := by decide +kernel
theorem dX9_delay_23 : decode cX9_delay 23 = .ok (.iload_n 1, 1) := by decide +kernel
theorem dX9_delay_24 : decode cX9_delay 24 = .ok (.aload_n 0, 1) := by decide +kernel
theorem dX9_delay_25 : decode cX9_delay 25 = .ok (.getfield 135, 3) := by decide +kernel
theorem dX9_delay_28 : decode cX9_delay 28 = .ok (.if_icmp .ge 12, 3) := by decide +kernel
theorem dX9_delay_31 : decode cX9_delay 31 = .ok (.aload_n 0, 1) := by decide +kernel
theorem dX9_delay_32 : decode cX9_delay 32 = .ok (.getfield 25, 3) := by decide +kernel
theorem dX9_delay_35 : decode cX9_delay 35 = .ok (.iload_n 1, 1) := by decide +kernel
theorem dX9_delay_36 : decode cX9_delay 36 = .ok (.iaload, 1) := by decide +kernel
theorem dX9_delay_37 : decode cX9_delay 37 = .ok (.goto 5, 3) := by decide +kernel
theorem dX9_delay_40 : decode cX9_delay 40 = .ok (.bipush (-7), 2) := by decide +kernel
theorem dX9_delay_42 : decode cX9_delay 42 = .ok (.ireturn, 1) := by decide +kernel
theorem s_X9_delay : gSt yX9_delay cX9_delay 2 (some .int) 1 := ⟨q5_11, q1_10, ⟨by decide, by decide, by decide +kernel⟩, by decide⟩
theorem sel_X9_delay : Cond.selects yX9_delay.cls yX9_delay yX9_delay ∈ gT := q5_10
theorem ins_X9_delay : Cond.instanceMethod yX9_delay ∈ gT := q5_9
def w_X9_delay (p1 : Int32) (M : gM) (Q : Int32 → gM → Prop) : Prop := gbr ((p1 : Int32) < 0) (Q (-3) M) (w_X9_search M (fun (M1 : gM) => gbr (((M1 42 9) : Int32) = 0) (gbr ((p1 : Int32) < (M1 42 7)) (vp_in p1 4000 ∧ (Q (M1 48 (Int32.toNatClampNeg p1)) M1)) (Q (-7) M1)) (Q (-6) M1)))
set_option maxRecDepth 100000 in
set_option maxHeartbeats 4000000 in
theorem k_X9_delay {p1 : Int32} {M : gM} {Q : Int32 → gM → Prop} (h : w_X9_delay p1 M Q) : gCi gN 4 yX9_delay cX9_delay 2 .int [.inr 42, .inl p1] M Q := by
  refine gCi_of (by decide) gNn (gle rfl) (fun X ok hZ => ?_)
  show gW X 0 [some (.inr 42), some (.inl p1)] [] M
  unfold w_X9_delay at h
  refine g_iload_n ok dX9_delay_0 rfl rfl ?_
  refine g_if_ge (tgt := 7) ok dX9_delay_1 (by decide) (fun z => ?_) (fun z => ?_)
  · have h := h.2 z
    refine g_aload_n ok dX9_delay_7 rfl rfl ?_
    refine g_callVv (st := []) (as := []) ok rfl (k_X9_search h) s_X9_search rfl (by decide) (gNm (by decide)) cl42 sel_X9_search ins_X9_search (gle rfl) rfl q4_221 dX9_delay_8 ?_
    intro M1 h
    refine g_aload_n ok dX9_delay_11 rfl rfl ?_
    refine g_get (w := .inl (M1 42 9)) ok f42_9 (gNm (by decide)) q4_3 dX9_delay_12 rfl ?_
    refine g_if_eq (tgt := 23) ok dX9_delay_15 (by decide) (fun z => ?_) (fun z => ?_)
    · have h := h.1 z
      refine g_iload_n ok dX9_delay_23 rfl rfl ?_
      refine g_aload_n ok dX9_delay_24 rfl rfl ?_
      refine g_get (w := .inl (M1 42 7)) ok f42_7 (gNm (by decide)) q4_1 dX9_delay_25 rfl ?_
      refine g_icmp_ge (tgt := 40) ok dX9_delay_28 (by decide) (fun z => ?_) (fun z => ?_)
      · have h := h.2 z
        refine g_bipush (v := (-7)) ok dX9_delay_40 (by decide) ?_
        exact g_iret ok hZ dX9_delay_42 h
      · have h := h.1 z
        refine g_aload_n ok dX9_delay_31 rfl rfl ?_
        refine g_get (w := .inr 48) ok f42_11 (gNm (by decide)) q4_5 dX9_delay_32 rfl ?_
        refine g_iload_n ok dX9_delay_35 rfl rfl ?_
        have hb := h.1
        have h := h.2
        refine g_iald (w := (M1 48 (Int32.toNatClampNeg p1))) ok a48 (gNm (by decide)) dX9_delay_36 hb rfl ?_
        refine g_goto (tgt := 42) ok dX9_delay_37 (by decide) ?_
        exact g_iret ok hZ dX9_delay_42 h
    · have h := h.2 z
      refine g_bipush (v := (-6)) ok dX9_delay_18 (by decide) ?_
      refine g_goto (tgt := 42) ok dX9_delay_20 (by decide) ?_
      exact g_iret ok hZ dX9_delay_42 h
  · have h := h.1 z
    refine g_bipush (v := (-3)) ok dX9_delay_4 (by decide) ?_
    exact g_iret ok hZ dX9_delay_6 h
theorem dX9_visits_0 : decode cX9_visits 0 = .ok (.aload_n 0, 1) := by decide +kernel
theorem dX9_visits_1 : decode cX9_visits 1 = .ok (.invokevirtual 154, 3) := by decide +kernel
theorem dX9_visits_4 : decode cX9_visits 4 = .ok (.aload_n 0, 1) := by decide +kernel
theorem dX9_visits_5 : decode cX9_visits 5 = .ok (.getfield 144, 3) := by decide +kernel
theorem dX9_visits_8 : decode cX9_visits 8 = .ok (.ifCond .eq 8, 3) := by decide +kernel
theorem dX9_visits_11 : decode cX9_visits 11 = .ok (.bipush (-6), 2) := by decide +kernel
theorem dX9_visits_13 : decode cX9_visits 13 = .ok (.goto 7, 3) := by decide +kernel
theorem dX9_visits_16 : decode cX9_visits 16 = .ok (.aload_n 0, 1) := by decide +kernel
theorem dX9_visits_17 : decode cX9_visits 17 = .ok (.getfield 132, 3) := by decide +kernel
theorem dX9_visits_20 : decode cX9_visits 20 = .ok (.ireturn, 1) := by decide +kernel
theorem s_X9_visits : gSt yX9_visits cX9_visits 1 (some .int) 0 := ⟨q5_15, q1_10, ⟨by decide, by decide, by decide +kernel⟩, by decide⟩
theorem sel_X9_visits : Cond.selects yX9_visits.cls yX9_visits yX9_visits ∈ gT := q5_14
theorem ins_X9_visits : Cond.instanceMethod yX9_visits ∈ gT := q5_13
def w_X9_visits  (M : gM) (Q : Int32 → gM → Prop) : Prop := w_X9_search M (fun (M1 : gM) => gbr (((M1 42 9) : Int32) = 0) (Q (M1 42 8) M1) (Q (-6) M1))
set_option maxRecDepth 100000 in
set_option maxHeartbeats 4000000 in
theorem k_X9_visits  {M : gM} {Q : Int32 → gM → Prop} (h : w_X9_visits  M Q) : gCi gN 4 yX9_visits cX9_visits 1 .int [.inr 42] M Q := by
  refine gCi_of (by decide) gNn (gle rfl) (fun X ok hZ => ?_)
  show gW X 0 [some (.inr 42)] [] M
  unfold w_X9_visits at h
  refine g_aload_n ok dX9_visits_0 rfl rfl ?_
  refine g_callVv (st := []) (as := []) ok rfl (k_X9_search h) s_X9_search rfl (by decide) (gNm (by decide)) cl42 sel_X9_search ins_X9_search (gle rfl) rfl q4_221 dX9_visits_1 ?_
  intro M1 h
  refine g_aload_n ok dX9_visits_4 rfl rfl ?_
  refine g_get (w := .inl (M1 42 9)) ok f42_9 (gNm (by decide)) q4_3 dX9_visits_5 rfl ?_
  refine g_if_eq (tgt := 16) ok dX9_visits_8 (by decide) (fun z => ?_) (fun z => ?_)
  · have h := h.1 z
    refine g_aload_n ok dX9_visits_16 rfl rfl ?_
    refine g_get (w := .inl (M1 42 8)) ok f42_8 (gNm (by decide)) q4_2 dX9_visits_17 rfl ?_
    exact g_iret ok hZ dX9_visits_20 h
  · have h := h.2 z
    refine g_bipush (v := (-6)) ok dX9_visits_11 (by decide) ?_
    refine g_goto (tgt := 20) ok dX9_visits_13 (by decide) ?_
    exact g_iret ok hZ dX9_visits_20 h
theorem dX9_next_0 : decode cX9_next 0 = .ok (.iload_n 1, 1) := by decide +kernel
theorem dX9_next_1 : decode cX9_next 1 = .ok (.iconst (-1), 1) := by decide +kernel
theorem dX9_next_2 : decode cX9_next 2 = .ok (.aload_n 0, 1) := by decide +kernel
theorem dX9_next_3 : decode cX9_next 3 = .ok (.invokevirtual 70, 3) := by decide +kernel
theorem dX9_next_6 : decode cX9_next 6 = .ok (.invokestatic 66, 3) := by decide +kernel
theorem dX9_next_9 : decode cX9_next 9 = .ok (.ifCond .ne 6, 3) := by decide +kernel
theorem dX9_next_12 : decode cX9_next 12 = .ok (.bipush (-3), 2) := by decide +kernel
theorem dX9_next_14 : decode cX9_next 14 = .ok (.ireturn, 1) := by decide +kernel
theorem dX9_next_15 : decode cX9_next 15 = .ok (.aload_n 0, 1) := by decide +kernel
theorem dX9_next_16 : decode cX9_next 16 = .ok (.invokevirtual 154, 3) := by decide +kernel
theorem dX9_next_19 : decode cX9_next 19 = .ok (.bipush (-7), 2) := by decide +kernel
theorem dX9_next_21 : decode cX9_next 21 = .ok (.istore_n 2, 1) := by decide +kernel
theorem dX9_next_22 : decode cX9_next 22 = .ok (.iconst 0, 1) := by decide +kernel
theorem dX9_next_23 : decode cX9_next 23 = .ok (.istore_n 3, 1) := by decide +kernel
theorem dX9_next_24 : decode cX9_next 24 = .ok (.iload_n 3, 1) := by decide +kernel
theorem dX9_next_25 : decode cX9_next 25 = .ok (.aload_n 0, 1) := by decide +kernel
theorem dX9_next_26 : decode cX9_next 26 = .ok (.getfield 135, 3) := by decide +kernel
theorem dX9_next_29 : decode cX9_next 29 = .ok (.if_icmp .ge 44, 3) := by decide +kernel
theorem dX9_next_32 : decode cX9_next 32 = .ok (.aload_n 0, 1) := by decide +kernel
theorem dX9_next_33 : decode cX9_next 33 = .ok (.getfield 22, 3) := by decide +kernel
theorem dX9_next_36 : decode cX9_next 36 = .ok (.iload_n 3, 1) := by decide +kernel
theorem dX9_next_37 : decode cX9_next 37 = .ok (.iaload, 1) := by decide +kernel
theorem dX9_next_38 : decode cX9_next 38 = .ok (.iload_n 1, 1) := by decide +kernel
theorem dX9_next_39 : decode cX9_next 39 = .ok (.if_icmp .le 26, 3) := by decide +kernel
theorem dX9_next_42 : decode cX9_next 42 = .ok (.iload_n 2, 1) := by decide +kernel
theorem dX9_next_43 : decode cX9_next 43 = .ok (.ifCond .lt 13, 3) := by decide +kernel
theorem dX9_next_46 : decode cX9_next 46 = .ok (.aload_n 0, 1) := by decide +kernel
theorem dX9_next_47 : decode cX9_next 47 = .ok (.getfield 22, 3) := by decide +kernel
theorem dX9_next_50 : decode cX9_next 50 = .ok (.iload_n 3, 1) := by decide +kernel
theorem dX9_next_51 : decode cX9_next 51 = .ok (.iaload, 1) := by decide +kernel
theorem dX9_next_52 : decode cX9_next 52 = .ok (.iload_n 2, 1) := by decide +kernel
theorem dX9_next_53 : decode cX9_next 53 = .ok (.if_icmp .ge 12, 3) := by decide +kernel
theorem dX9_next_56 : decode cX9_next 56 = .ok (.aload_n 0, 1) := by decide +kernel
theorem dX9_next_57 : decode cX9_next 57 = .ok (.getfield 22, 3) := by decide +kernel
theorem dX9_next_60 : decode cX9_next 60 = .ok (.iload_n 3, 1) := by decide +kernel
theorem dX9_next_61 : decode cX9_next 61 = .ok (.iaload, 1) := by decide +kernel
theorem dX9_next_62 : decode cX9_next 62 = .ok (.goto 4, 3) := by decide +kernel
theorem dX9_next_65 : decode cX9_next 65 = .ok (.iload_n 2, 1) := by decide +kernel
theorem dX9_next_66 : decode cX9_next 66 = .ok (.istore_n 2, 1) := by decide +kernel
theorem dX9_next_67 : decode cX9_next 67 = .ok (.iinc 3 1, 3) := by decide +kernel
theorem dX9_next_70 : decode cX9_next 70 = .ok (.goto (-46), 3) := by decide +kernel
theorem dX9_next_73 : decode cX9_next 73 = .ok (.aload_n 0, 1) := by decide +kernel
theorem dX9_next_74 : decode cX9_next 74 = .ok (.getfield 144, 3) := by decide +kernel
theorem dX9_next_77 : decode cX9_next 77 = .ok (.ifCond .eq 8, 3) := by decide +kernel
theorem dX9_next_80 : decode cX9_next 80 = .ok (.bipush (-6), 2) := by decide +kernel
theorem dX9_next_82 : decode cX9_next 82 = .ok (.goto 4, 3) := by decide +kernel
theorem dX9_next_85 : decode cX9_next 85 = .ok (.iload_n 2, 1) := by decide +kernel
theorem dX9_next_86 : decode cX9_next 86 = .ok (.ireturn, 1) := by decide +kernel
theorem s_X9_next : gSt yX9_next cX9_next 4 (some .int) 1 := ⟨q5_19, q1_10, ⟨by decide, by decide, by decide +kernel⟩, by decide⟩
theorem sel_X9_next : Cond.selects yX9_next.cls yX9_next yX9_next ∈ gT := q5_18
theorem ins_X9_next : Cond.instanceMethod yX9_next ∈ gT := q5_17
def w_X9_next_L24 (Q : Int32 → gM → Prop) (K73 : Int32 → Int32 → gM → Prop) (v1 : Int32) : Nat → Int32 → Int32 → gM → Prop
  | 0, _, _, _ => False
  | n + 1, v2, v3, M => gbr ((v3 : Int32) < (M 42 7)) (vp_in v3 4000 ∧ (gbr ((v1 : Int32) < (M 47 (Int32.toNatClampNeg v3))) (gbr ((v2 : Int32) < 0) (vp_in v3 4000 ∧ (∀ x8 : Int32, x8 = (M 47 (Int32.toNatClampNeg v3)) → (∀ x9 : Int32, x9 = (v3 + 1) → (w_X9_next_L24 Q K73 v1 n (x8) (x9) M)))) (vp_in v3 4000 ∧ (gbr (((M 47 (Int32.toNatClampNeg v3)) : Int32) < v2) (vp_in v3 4000 ∧ (∀ x11 : Int32, x11 = (M 47 (Int32.toNatClampNeg v3)) → (∀ x12 : Int32, x12 = (v3 + 1) → (w_X9_next_L24 Q K73 v1 n (x11) (x12) M)))) (∀ x10 : Int32, x10 = (v3 + 1) → (w_X9_next_L24 Q K73 v1 n (v2) (x10) M))))) (∀ x7 : Int32, x7 = (v3 + 1) → (w_X9_next_L24 Q K73 v1 n (v2) (x7) M)))) (K73 (v2) (v3) M)
def w_X9_next (p1 : Int32) (M : gM) (Q : Int32 → gM → Prop) : Prop := w_X9_whole M (fun (r2 : Int32) (M1 : gM) => w_X9_in p1 (-1) r2 M1 (fun (r4 : Int32) (M3 : gM) => gbr ((r4 : Int32) = 0) (Q (-3) M3) (w_X9_search M3 (fun (M5 : gM) => ∃ nf, w_X9_next_L24 Q (fun (x13 : Int32) (x14 : Int32) (M15 : gM) => gbr (((M15 42 9) : Int32) = 0) (Q x13 M15) (Q (-6) M15)) p1 nf (-7) 0 M5))))
set_option maxRecDepth 100000 in
set_option maxHeartbeats 4000000 in
theorem w_X9_next_L24_w {X : gX} (ok : gOk X cX9_next yX9_next.cls 4 4 (some .int) gN) {Q : Int32 → gM → Prop} (hZ : gZi X Q) {K73 : Int32 → Int32 → gM → Prop} (v1 : Int32) (hK73 : ∀ (v2 : Int32) (v3 : Int32)  (M : gM), K73 v2 v3 M → gW X 73 [some (.inr 42), some (.inl v1), some (.inl v2), some (.inl v3)] [] M) : ∀ (n : Nat) (v2 : Int32) (v3 : Int32)  (M : gM), w_X9_next_L24 Q K73 v1 n v2 v3 M → gW X 24 [some (.inr 42), some (.inl v1), some (.inl v2), some (.inl v3)] [] M
  | 0, _, _, _, h => h.elim
  | n + 1, v2, v3, M, h => by
    have ih := fun (v2 : Int32) (v3 : Int32)  (M : gM) h => w_X9_next_L24_w ok hZ v1 hK73 n v2 v3  M h
    rw [w_X9_next_L24.eq_2] at h
    refine g_iload_n ok dX9_next_24 rfl rfl ?_
    refine g_aload_n ok dX9_next_25 rfl rfl ?_
    refine g_get (w := .inl (M 42 7)) ok f42_7 (gNm (by decide)) q4_1 dX9_next_26 rfl ?_
    refine g_icmp_ge (tgt := 73) ok dX9_next_29 (by decide) (fun z => ?_) (fun z => ?_)
    · have h := h.2 z
      exact hK73 (v2) (v3) M h
    · have h := h.1 z
      refine g_aload_n ok dX9_next_32 rfl rfl ?_
      refine g_get (w := .inr 47) ok f42_10 (gNm (by decide)) q4_4 dX9_next_33 rfl ?_
      refine g_iload_n ok dX9_next_36 rfl rfl ?_
      have hb := h.1
      have h := h.2
      refine g_iald (w := (M 47 (Int32.toNatClampNeg v3))) ok a47 (gNm (by decide)) dX9_next_37 hb rfl ?_
      refine g_iload_n ok dX9_next_38 rfl rfl ?_
      refine g_icmp_le (tgt := 65) ok dX9_next_39 (by decide) (fun z => ?_) (fun z => ?_)
      · have h := h.2 z
        refine g_iload_n ok dX9_next_65 rfl rfl ?_
        refine g_istore_n (lv1 := [some (.inr 42), some (.inl v1), some (.inl v2), some (.inl v3)]) ok dX9_next_66 rfl (glt rfl) rfl ?_
        obtain ⟨x7, ex7⟩ : ∃ y : Int32, y = (v3 + 1) := ⟨_, rfl⟩
        have h := h x7 ex7
        refine g_iinc (v := x7) (lv1 := [some (.inr 42), some (.inl v1), some (.inl v2), some (.inl x7)]) ok dX9_next_67 rfl (by rw [ex7]; rfl) rfl ?_
        refine g_goto (tgt := 24) ok dX9_next_70 (by decide) ?_
        exact ih (v2) (x7) M h
      · have h := h.1 z
        refine g_iload_n ok dX9_next_42 rfl rfl ?_
        refine g_if_lt (tgt := 56) ok dX9_next_43 (by decide) (fun z => ?_) (fun z => ?_)
        · have h := h.1 z
          refine g_aload_n ok dX9_next_56 rfl rfl ?_
          refine g_get (w := .inr 47) ok f42_10 (gNm (by decide)) q4_4 dX9_next_57 rfl ?_
          refine g_iload_n ok dX9_next_60 rfl rfl ?_
          have hb := h.1
          have h := h.2
          refine g_iald (w := (M 47 (Int32.toNatClampNeg v3))) ok a47 (gNm (by decide)) dX9_next_61 hb rfl ?_
          refine g_goto (tgt := 66) ok dX9_next_62 (by decide) ?_
          refine g_nm (fun x8 ex8 => ?_)
          have h := h x8 ex8
          refine g_istore_n (lv1 := [some (.inr 42), some (.inl v1), some (.inl x8), some (.inl v3)]) ok dX9_next_66 rfl (glt rfl) rfl ?_
          obtain ⟨x9, ex9⟩ : ∃ y : Int32, y = (v3 + 1) := ⟨_, rfl⟩
          have h := h x9 ex9
          refine g_iinc (v := x9) (lv1 := [some (.inr 42), some (.inl v1), some (.inl x8), some (.inl x9)]) ok dX9_next_67 rfl (by rw [ex9]; rfl) rfl ?_
          refine g_goto (tgt := 24) ok dX9_next_70 (by decide) ?_
          exact ih (x8) (x9) M h
        · have h := h.2 z
          refine g_aload_n ok dX9_next_46 rfl rfl ?_
          refine g_get (w := .inr 47) ok f42_10 (gNm (by decide)) q4_4 dX9_next_47 rfl ?_
          refine g_iload_n ok dX9_next_50 rfl rfl ?_
          have hb := h.1
          have h := h.2
          refine g_iald (w := (M 47 (Int32.toNatClampNeg v3))) ok a47 (gNm (by decide)) dX9_next_51 hb rfl ?_
          refine g_iload_n ok dX9_next_52 rfl rfl ?_
          refine g_icmp_ge (tgt := 65) ok dX9_next_53 (by decide) (fun z => ?_) (fun z => ?_)
          · have h := h.2 z
            refine g_iload_n ok dX9_next_65 rfl rfl ?_
            refine g_istore_n (lv1 := [some (.inr 42), some (.inl v1), some (.inl v2), some (.inl v3)]) ok dX9_next_66 rfl (glt rfl) rfl ?_
            obtain ⟨x10, ex10⟩ : ∃ y : Int32, y = (v3 + 1) := ⟨_, rfl⟩
            have h := h x10 ex10
            refine g_iinc (v := x10) (lv1 := [some (.inr 42), some (.inl v1), some (.inl v2), some (.inl x10)]) ok dX9_next_67 rfl (by rw [ex10]; rfl) rfl ?_
            refine g_goto (tgt := 24) ok dX9_next_70 (by decide) ?_
            exact ih (v2) (x10) M h
          · have h := h.1 z
            refine g_aload_n ok dX9_next_56 rfl rfl ?_
            refine g_get (w := .inr 47) ok f42_10 (gNm (by decide)) q4_4 dX9_next_57 rfl ?_
            refine g_iload_n ok dX9_next_60 rfl rfl ?_
            have hb := h.1
            have h := h.2
            refine g_iald (w := (M 47 (Int32.toNatClampNeg v3))) ok a47 (gNm (by decide)) dX9_next_61 hb rfl ?_
            refine g_goto (tgt := 66) ok dX9_next_62 (by decide) ?_
            refine g_nm (fun x11 ex11 => ?_)
            have h := h x11 ex11
            refine g_istore_n (lv1 := [some (.inr 42), some (.inl v1), some (.inl x11), some (.inl v3)]) ok dX9_next_66 rfl (glt rfl) rfl ?_
            obtain ⟨x12, ex12⟩ : ∃ y : Int32, y = (v3 + 1) := ⟨_, rfl⟩
            have h := h x12 ex12
            refine g_iinc (v := x12) (lv1 := [some (.inr 42), some (.inl v1), some (.inl x11), some (.inl x12)]) ok dX9_next_67 rfl (by rw [ex12]; rfl) rfl ?_
            refine g_goto (tgt := 24) ok dX9_next_70 (by decide) ?_
            exact ih (x11) (x12) M h
set_option maxRecDepth 100000 in
set_option maxHeartbeats 4000000 in
theorem k_X9_next {p1 : Int32} {M : gM} {Q : Int32 → gM → Prop} (h : w_X9_next p1 M Q) : gCi gN 4 yX9_next cX9_next 4 .int [.inr 42, .inl p1] M Q := by
  refine gCi_of (by decide) gNn (gle rfl) (fun X ok hZ => ?_)
  show gW X 0 [some (.inr 42), some (.inl p1), none, none] [] M
  unfold w_X9_next at h
  refine g_iload_n ok dX9_next_0 rfl rfl ?_
  refine g_iconst (v := (-1)) ok dX9_next_1 (by decide) ?_
  refine g_aload_n ok dX9_next_2 rfl rfl ?_
  refine g_callVi (st := [.inl (-1), .inl p1]) (as := []) ok rfl (k_X9_whole h) s_X9_whole rfl (by decide) (gNm (by decide)) cl42 sel_X9_whole ins_X9_whole (gle rfl) rfl q4_102 dX9_next_3 ?_
  intro r2 M1 h
  refine g_callSi (st := []) (as := [.inl p1, .inl (-1), .inl r2]) ok rfl (k_X9_in h) s_X9_in rfl (by decide) stt_X9_in (gle rfl) rfl q4_83 dX9_next_6 ?_
  intro r4 M3 h
  refine g_if_ne (tgt := 15) ok dX9_next_9 (by decide) (fun z => ?_) (fun z => ?_)
  · have h := h.2 z
    refine g_aload_n ok dX9_next_15 rfl rfl ?_
    refine g_callVv (st := []) (as := []) ok rfl (k_X9_search h) s_X9_search rfl (by decide) (gNm (by decide)) cl42 sel_X9_search ins_X9_search (gle rfl) rfl q4_221 dX9_next_16 ?_
    intro M5 h
    refine g_bipush (v := (-7)) ok dX9_next_19 (by decide) ?_
    refine g_istore_n (lv1 := [some (.inr 42), some (.inl p1), some (.inl (-7)), none]) ok dX9_next_21 rfl (glt rfl) rfl ?_
    refine g_iconst (v := 0) ok dX9_next_22 (by decide) ?_
    refine g_istore_n (lv1 := [some (.inr 42), some (.inl p1), some (.inl (-7)), some (.inl 0)]) ok dX9_next_23 rfl (glt rfl) rfl ?_
    obtain ⟨nf, h⟩ := h
    refine w_X9_next_L24_w ok hZ p1 ?_ nf (-7) 0  M5 h
    · intro x13 x14  M15 h
      refine g_aload_n ok dX9_next_73 rfl rfl ?_
      refine g_get (w := .inl (M15 42 9)) ok f42_9 (gNm (by decide)) q4_3 dX9_next_74 rfl ?_
      refine g_if_eq (tgt := 85) ok dX9_next_77 (by decide) (fun z => ?_) (fun z => ?_)
      · have h := h.1 z
        refine g_iload_n ok dX9_next_85 rfl rfl ?_
        exact g_iret ok hZ dX9_next_86 h
      · have h := h.2 z
        refine g_bipush (v := (-6)) ok dX9_next_80 (by decide) ?_
        refine g_goto (tgt := 86) ok dX9_next_82 (by decide) ?_
        exact g_iret ok hZ dX9_next_86 h
  · have h := h.1 z
    refine g_bipush (v := (-3)) ok dX9_next_12 (by decide) ?_
    exact g_iret ok hZ dX9_next_14 h
theorem dX9_answersOfSize_0 : decode cX9_answersOfSize 0 = .ok (.iload_n 1, 1) := by decide +kernel
theorem dX9_answersOfSize_1 : decode cX9_answersOfSize 1 = .ok (.iconst 0, 1) := by decide +kernel
theorem dX9_answersOfSize_2 : decode cX9_answersOfSize 2 = .ok (.aload_n 0, 1) := by decide +kernel
theorem dX9_answersOfSize_3 : decode cX9_answersOfSize 3 = .ok (.getfield 59, 3) := by decide +kernel
theorem dX9_answersOfSize_6 : decode cX9_answersOfSize 6 = .ok (.invokestatic 66, 3) := by decide +kernel
theorem dX9_answersOfSize_9 : decode cX9_answersOfSize 9 = .ok (.ifCond .ne 6, 3) := by decide +kernel
theorem dX9_answersOfSize_12 : decode cX9_answersOfSize 12 = .ok (.bipush (-3), 2) := by decide +kernel
theorem dX9_answersOfSize_14 : decode cX9_answersOfSize 14 = .ok (.ireturn, 1) := by decide +kernel
theorem dX9_answersOfSize_15 : decode cX9_answersOfSize 15 = .ok (.aload_n 0, 1) := by decide +kernel
theorem dX9_answersOfSize_16 : decode cX9_answersOfSize 16 = .ok (.invokevirtual 154, 3) := by decide +kernel
theorem dX9_answersOfSize_19 : decode cX9_answersOfSize 19 = .ok (.iconst 0, 1) := by decide +kernel
theorem dX9_answersOfSize_20 : decode cX9_answersOfSize 20 = .ok (.istore_n 2, 1) := by decide +kernel
theorem dX9_answersOfSize_21 : decode cX9_answersOfSize 21 = .ok (.iconst 0, 1) := by decide +kernel
theorem dX9_answersOfSize_22 : decode cX9_answersOfSize 22 = .ok (.istore_n 3, 1) := by decide +kernel
theorem dX9_answersOfSize_23 : decode cX9_answersOfSize 23 = .ok (.iload_n 3, 1) := by decide +kernel
theorem dX9_answersOfSize_24 : decode cX9_answersOfSize 24 = .ok (.aload_n 0, 1) := by decide +kernel
theorem dX9_answersOfSize_25 : decode cX9_answersOfSize 25 = .ok (.getfield 135, 3) := by decide +kernel
theorem dX9_answersOfSize_28 : decode cX9_answersOfSize 28 = .ok (.if_icmp .ge 30, 3) := by decide +kernel
theorem dX9_answersOfSize_31 : decode cX9_answersOfSize 31 = .ok (.iload_n 2, 1) := by decide +kernel
theorem dX9_answersOfSize_32 : decode cX9_answersOfSize 32 = .ok (.aload_n 0, 1) := by decide +kernel
theorem dX9_answersOfSize_33 : decode cX9_answersOfSize 33 = .ok (.getfield 22, 3) := by decide +kernel
theorem dX9_answersOfSize_36 : decode cX9_answersOfSize 36 = .ok (.iload_n 3, 1) := by decide +kernel
theorem dX9_answersOfSize_37 : decode cX9_answersOfSize 37 = .ok (.iaload, 1) := by decide +kernel
theorem dX9_answersOfSize_38 : decode cX9_answersOfSize 38 = .ok (.invokestatic 119, 3) := by decide +kernel
theorem dX9_answersOfSize_41 : decode cX9_answersOfSize 41 = .ok (.iload_n 1, 1) := by decide +kernel
theorem dX9_answersOfSize_42 : decode cX9_answersOfSize 42 = .ok (.if_icmp .ne 7, 3) := by decide +kernel
theorem dX9_answersOfSize_45 : decode cX9_answersOfSize 45 = .ok (.iconst 1, 1) := by decide +kernel
theorem dX9_answersOfSize_46 : decode cX9_answersOfSize 46 = .ok (.goto 4, 3) := by decide +kernel
theorem dX9_answersOfSize_49 : decode cX9_answersOfSize 49 = .ok (.iconst 0, 1) := by decide +kernel
theorem dX9_answersOfSize_50 : decode cX9_answersOfSize 50 = .ok (.iadd, 1) := by decide +kernel
theorem dX9_answersOfSize_51 : decode cX9_answersOfSize 51 = .ok (.istore_n 2, 1) := by decide +kernel
theorem dX9_answersOfSize_52 : decode cX9_answersOfSize 52 = .ok (.iinc 3 1, 3) := by decide +kernel
theorem dX9_answersOfSize_55 : decode cX9_answersOfSize 55 = .ok (.goto (-32), 3) := by decide +kernel
theorem dX9_answersOfSize_58 : decode cX9_answersOfSize 58 = .ok (.aload_n 0, 1) := by decide +kernel
theorem dX9_answersOfSize_59 : decode cX9_answersOfSize 59 = .ok (.getfield 144, 3) := by decide +kernel
theorem dX9_answersOfSize_62 : decode cX9_answersOfSize 62 = .ok (.ifCond .eq 8, 3) := by decide +kernel
theorem dX9_answersOfSize_65 : decode cX9_answersOfSize 65 = .ok (.bipush (-6), 2) := by decide +kernel
theorem dX9_answersOfSize_67 : decode cX9_answersOfSize 67 = .ok (.goto 4, 3) := by decide +kernel
theorem dX9_answersOfSize_70 : decode cX9_answersOfSize 70 = .ok (.iload_n 2, 1) := by decide +kernel
theorem dX9_answersOfSize_71 : decode cX9_answersOfSize 71 = .ok (.ireturn, 1) := by decide +kernel
theorem s_X9_answersOfSize : gSt yX9_answersOfSize cX9_answersOfSize 4 (some .int) 1 := ⟨q5_23, q1_10, ⟨by decide, by decide, by decide +kernel⟩, by decide⟩
theorem sel_X9_answersOfSize : Cond.selects yX9_answersOfSize.cls yX9_answersOfSize yX9_answersOfSize ∈ gT := q5_22
theorem ins_X9_answersOfSize : Cond.instanceMethod yX9_answersOfSize ∈ gT := q5_21
def w_X9_answersOfSize_L23 (Q : Int32 → gM → Prop) (K58 : Int32 → Int32 → gM → Prop) (v1 : Int32) : Nat → Int32 → Int32 → gM → Prop
  | 0, _, _, _ => False
  | n + 1, v2, v3, M => gbr ((v3 : Int32) < (M 42 7)) (vp_in v3 4000 ∧ (w_X9_bits (M 47 (Int32.toNatClampNeg v3)) M (fun (r6 : Int32) (M5 : gM) => gbr ((r6 : Int32) = v1) (∀ x9 : Int32, x9 = (v2 + 1) → (∀ x10 : Int32, x10 = (v3 + 1) → (w_X9_answersOfSize_L23 Q K58 v1 n (x9) (x10) M5))) (∀ x7 : Int32, x7 = (v2 + 0) → (∀ x8 : Int32, x8 = (v3 + 1) → (w_X9_answersOfSize_L23 Q K58 v1 n (x7) (x8) M5)))))) (K58 (v2) (v3) M)
def w_X9_answersOfSize (p1 : Int32) (M : gM) (Q : Int32 → gM → Prop) : Prop := w_X9_in p1 0 (M 42 0) M (fun (r2 : Int32) (M1 : gM) => gbr ((r2 : Int32) = 0) (Q (-3) M1) (w_X9_search M1 (fun (M3 : gM) => ∃ nf, w_X9_answersOfSize_L23 Q (fun (x11 : Int32) (x12 : Int32) (M13 : gM) => gbr (((M13 42 9) : Int32) = 0) (Q x11 M13) (Q (-6) M13)) p1 nf 0 0 M3)))
set_option maxRecDepth 100000 in
set_option maxHeartbeats 4000000 in
theorem w_X9_answersOfSize_L23_w {X : gX} (ok : gOk X cX9_answersOfSize yX9_answersOfSize.cls 4 4 (some .int) gN) {Q : Int32 → gM → Prop} (hZ : gZi X Q) {K58 : Int32 → Int32 → gM → Prop} (v1 : Int32) (hK58 : ∀ (v2 : Int32) (v3 : Int32)  (M : gM), K58 v2 v3 M → gW X 58 [some (.inr 42), some (.inl v1), some (.inl v2), some (.inl v3)] [] M) : ∀ (n : Nat) (v2 : Int32) (v3 : Int32)  (M : gM), w_X9_answersOfSize_L23 Q K58 v1 n v2 v3 M → gW X 23 [some (.inr 42), some (.inl v1), some (.inl v2), some (.inl v3)] [] M
  | 0, _, _, _, h => h.elim
  | n + 1, v2, v3, M, h => by
    have ih := fun (v2 : Int32) (v3 : Int32)  (M : gM) h => w_X9_answersOfSize_L23_w ok hZ v1 hK58 n v2 v3  M h
    rw [w_X9_answersOfSize_L23.eq_2] at h
    refine g_iload_n ok dX9_answersOfSize_23 rfl rfl ?_
    refine g_aload_n ok dX9_answersOfSize_24 rfl rfl ?_
    refine g_get (w := .inl (M 42 7)) ok f42_7 (gNm (by decide)) q4_1 dX9_answersOfSize_25 rfl ?_
    refine g_icmp_ge (tgt := 58) ok dX9_answersOfSize_28 (by decide) (fun z => ?_) (fun z => ?_)
    · have h := h.2 z
      exact hK58 (v2) (v3) M h
    · have h := h.1 z
      refine g_iload_n ok dX9_answersOfSize_31 rfl rfl ?_
      refine g_aload_n ok dX9_answersOfSize_32 rfl rfl ?_
      refine g_get (w := .inr 47) ok f42_10 (gNm (by decide)) q4_4 dX9_answersOfSize_33 rfl ?_
      refine g_iload_n ok dX9_answersOfSize_36 rfl rfl ?_
      have hb := h.1
      have h := h.2
      refine g_iald (w := (M 47 (Int32.toNatClampNeg v3))) ok a47 (gNm (by decide)) dX9_answersOfSize_37 hb rfl ?_
      refine g_callSi (st := [.inl v2]) (as := [.inl (M 47 (Int32.toNatClampNeg v3))]) ok rfl (k_X9_bits h) s_X9_bits rfl (by decide) stt_X9_bits (gle rfl) rfl q4_162 dX9_answersOfSize_38 ?_
      intro r6 M5 h
      refine g_iload_n ok dX9_answersOfSize_41 rfl rfl ?_
      refine g_icmp_ne (tgt := 49) ok dX9_answersOfSize_42 (by decide) (fun z => ?_) (fun z => ?_)
      · have h := h.2 z
        refine g_iconst (v := 0) ok dX9_answersOfSize_49 (by decide) ?_
        refine g_iadd ok dX9_answersOfSize_50 ?_
        refine g_nm (fun x7 ex7 => ?_)
        have h := h x7 ex7
        refine g_istore_n (lv1 := [some (.inr 42), some (.inl v1), some (.inl x7), some (.inl v3)]) ok dX9_answersOfSize_51 rfl (glt rfl) rfl ?_
        obtain ⟨x8, ex8⟩ : ∃ y : Int32, y = (v3 + 1) := ⟨_, rfl⟩
        have h := h x8 ex8
        refine g_iinc (v := x8) (lv1 := [some (.inr 42), some (.inl v1), some (.inl x7), some (.inl x8)]) ok dX9_answersOfSize_52 rfl (by rw [ex8]; rfl) rfl ?_
        refine g_goto (tgt := 23) ok dX9_answersOfSize_55 (by decide) ?_
        exact ih (x7) (x8) M5 h
      · have h := h.1 z
        refine g_iconst (v := 1) ok dX9_answersOfSize_45 (by decide) ?_
        refine g_goto (tgt := 50) ok dX9_answersOfSize_46 (by decide) ?_
        refine g_iadd ok dX9_answersOfSize_50 ?_
        refine g_nm (fun x9 ex9 => ?_)
        have h := h x9 ex9
        refine g_istore_n (lv1 := [some (.inr 42), some (.inl v1), some (.inl x9), some (.inl v3)]) ok dX9_answersOfSize_51 rfl (glt rfl) rfl ?_
        obtain ⟨x10, ex10⟩ : ∃ y : Int32, y = (v3 + 1) := ⟨_, rfl⟩
        have h := h x10 ex10
        refine g_iinc (v := x10) (lv1 := [some (.inr 42), some (.inl v1), some (.inl x9), some (.inl x10)]) ok dX9_answersOfSize_52 rfl (by rw [ex10]; rfl) rfl ?_
        refine g_goto (tgt := 23) ok dX9_answersOfSize_55 (by decide) ?_
        exact ih (x9) (x10) M5 h
set_option maxRecDepth 100000 in
set_option maxHeartbeats 4000000 in
theorem k_X9_answersOfSize {p1 : Int32} {M : gM} {Q : Int32 → gM → Prop} (h : w_X9_answersOfSize p1 M Q) : gCi gN 4 yX9_answersOfSize cX9_answersOfSize 4 .int [.inr 42, .inl p1] M Q := by
  refine gCi_of (by decide) gNn (gle rfl) (fun X ok hZ => ?_)
  show gW X 0 [some (.inr 42), some (.inl p1), none, none] [] M
  unfold w_X9_answersOfSize at h
  refine g_iload_n ok dX9_answersOfSize_0 rfl rfl ?_
  refine g_iconst (v := 0) ok dX9_answersOfSize_1 (by decide) ?_
  refine g_aload_n ok dX9_answersOfSize_2 rfl rfl ?_
  refine g_get (w := .inl (M 42 0)) ok f42_0 (gNm (by decide)) q3_234 dX9_answersOfSize_3 rfl ?_
  refine g_callSi (st := []) (as := [.inl p1, .inl 0, .inl (M 42 0)]) ok rfl (k_X9_in h) s_X9_in rfl (by decide) stt_X9_in (gle rfl) rfl q4_83 dX9_answersOfSize_6 ?_
  intro r2 M1 h
  refine g_if_ne (tgt := 15) ok dX9_answersOfSize_9 (by decide) (fun z => ?_) (fun z => ?_)
  · have h := h.2 z
    refine g_aload_n ok dX9_answersOfSize_15 rfl rfl ?_
    refine g_callVv (st := []) (as := []) ok rfl (k_X9_search h) s_X9_search rfl (by decide) (gNm (by decide)) cl42 sel_X9_search ins_X9_search (gle rfl) rfl q4_221 dX9_answersOfSize_16 ?_
    intro M3 h
    refine g_iconst (v := 0) ok dX9_answersOfSize_19 (by decide) ?_
    refine g_istore_n (lv1 := [some (.inr 42), some (.inl p1), some (.inl 0), none]) ok dX9_answersOfSize_20 rfl (glt rfl) rfl ?_
    refine g_iconst (v := 0) ok dX9_answersOfSize_21 (by decide) ?_
    refine g_istore_n (lv1 := [some (.inr 42), some (.inl p1), some (.inl 0), some (.inl 0)]) ok dX9_answersOfSize_22 rfl (glt rfl) rfl ?_
    obtain ⟨nf, h⟩ := h
    refine w_X9_answersOfSize_L23_w ok hZ p1 ?_ nf 0 0  M3 h
    · intro x11 x12  M13 h
      refine g_aload_n ok dX9_answersOfSize_58 rfl rfl ?_
      refine g_get (w := .inl (M13 42 9)) ok f42_9 (gNm (by decide)) q4_3 dX9_answersOfSize_59 rfl ?_
      refine g_if_eq (tgt := 70) ok dX9_answersOfSize_62 (by decide) (fun z => ?_) (fun z => ?_)
      · have h := h.1 z
        refine g_iload_n ok dX9_answersOfSize_70 rfl rfl ?_
        exact g_iret ok hZ dX9_answersOfSize_71 h
      · have h := h.2 z
        refine g_bipush (v := (-6)) ok dX9_answersOfSize_65 (by decide) ?_
        refine g_goto (tgt := 71) ok dX9_answersOfSize_67 (by decide) ?_
        exact g_iret ok hZ dX9_answersOfSize_71 h
  · have h := h.1 z
    refine g_bipush (v := (-3)) ok dX9_answersOfSize_12 (by decide) ?_
    exact g_iret ok hZ dX9_answersOfSize_14 h
theorem dX9_answersWith_0 : decode cX9_answersWith 0 = .ok (.aload_n 0, 1) := by decide +kernel
theorem dX9_answersWith_1 : decode cX9_answersWith 1 = .ok (.iload_n 1, 1) := by decide +kernel
theorem dX9_answersWith_2 : decode cX9_answersWith 2 = .ok (.invokevirtual 113, 3) := by decide +kernel
theorem dX9_answersWith_5 : decode cX9_answersWith 5 = .ok (.ifCond .eq 5, 3) := by decide +kernel
theorem dX9_answersWith_8 : decode cX9_answersWith 8 = .ok (.iconst (-1), 1) := by decide +kernel
theorem dX9_answersWith_9 : decode cX9_answersWith 9 = .ok (.ireturn, 1) := by decide +kernel
theorem dX9_answersWith_10 : decode cX9_answersWith 10 = .ok (.aload_n 0, 1) := by decide +kernel
theorem dX9_answersWith_11 : decode cX9_answersWith 11 = .ok (.invokevirtual 154, 3) := by decide +kernel
theorem dX9_answersWith_14 : decode cX9_answersWith 14 = .ok (.iconst 0, 1) := by decide +kernel
theorem dX9_answersWith_15 : decode cX9_answersWith 15 = .ok (.istore_n 2, 1) := by decide +kernel
theorem dX9_answersWith_16 : decode cX9_answersWith 16 = .ok (.iconst 0, 1) := by decide +kernel
theorem dX9_answersWith_17 : decode cX9_answersWith 17 = .ok (.istore_n 3, 1) := by decide +kernel
theorem dX9_answersWith_18 : decode cX9_answersWith 18 = .ok (.iload_n 3, 1) := by decide +kernel
theorem dX9_answersWith_19 : decode cX9_answersWith 19 = .ok (.aload_n 0, 1) := by decide +kernel
theorem dX9_answersWith_20 : decode cX9_answersWith 20 = .ok (.getfield 135, 3) := by decide +kernel
theorem dX9_answersWith_23 : decode cX9_answersWith 23 = .ok (.if_icmp .ge 22, 3) := by decide +kernel
theorem dX9_answersWith_26 : decode cX9_answersWith 26 = .ok (.iload_n 2, 1) := by decide +kernel
theorem dX9_answersWith_27 : decode cX9_answersWith 27 = .ok (.aload_n 0, 1) := by decide +kernel
theorem dX9_answersWith_28 : decode cX9_answersWith 28 = .ok (.getfield 22, 3) := by decide +kernel
theorem dX9_answersWith_31 : decode cX9_answersWith 31 = .ok (.iload_n 3, 1) := by decide +kernel
theorem dX9_answersWith_32 : decode cX9_answersWith 32 = .ok (.iaload, 1) := by decide +kernel
theorem dX9_answersWith_33 : decode cX9_answersWith 33 = .ok (.iload_n 1, 1) := by decide +kernel
theorem dX9_answersWith_34 : decode cX9_answersWith 34 = .ok (.ishr, 1) := by decide +kernel
theorem dX9_answersWith_35 : decode cX9_answersWith 35 = .ok (.iconst 1, 1) := by decide +kernel
theorem dX9_answersWith_36 : decode cX9_answersWith 36 = .ok (.iand, 1) := by decide +kernel
theorem dX9_answersWith_37 : decode cX9_answersWith 37 = .ok (.iadd, 1) := by decide +kernel
theorem dX9_answersWith_38 : decode cX9_answersWith 38 = .ok (.istore_n 2, 1) := by decide +kernel
theorem dX9_answersWith_39 : decode cX9_answersWith 39 = .ok (.iinc 3 1, 3) := by decide +kernel
theorem dX9_answersWith_42 : decode cX9_answersWith 42 = .ok (.goto (-24), 3) := by decide +kernel
theorem dX9_answersWith_45 : decode cX9_answersWith 45 = .ok (.aload_n 0, 1) := by decide +kernel
theorem dX9_answersWith_46 : decode cX9_answersWith 46 = .ok (.getfield 144, 3) := by decide +kernel
theorem dX9_answersWith_49 : decode cX9_answersWith 49 = .ok (.ifCond .eq 8, 3) := by decide +kernel
theorem dX9_answersWith_52 : decode cX9_answersWith 52 = .ok (.bipush (-6), 2) := by decide +kernel
theorem dX9_answersWith_54 : decode cX9_answersWith 54 = .ok (.goto 4, 3) := by decide +kernel
theorem dX9_answersWith_57 : decode cX9_answersWith 57 = .ok (.iload_n 2, 1) := by decide +kernel
theorem dX9_answersWith_58 : decode cX9_answersWith 58 = .ok (.ireturn, 1) := by decide +kernel
theorem s_X9_answersWith : gSt yX9_answersWith cX9_answersWith 4 (some .int) 1 := ⟨q5_27, q1_10, ⟨by decide, by decide, by decide +kernel⟩, by decide⟩
theorem sel_X9_answersWith : Cond.selects yX9_answersWith.cls yX9_answersWith yX9_answersWith ∈ gT := q5_26
theorem ins_X9_answersWith : Cond.instanceMethod yX9_answersWith ∈ gT := q5_25
def w_X9_answersWith_L18 (Q : Int32 → gM → Prop) (K45 : Int32 → Int32 → gM → Prop) (v1 : Int32) : Nat → Int32 → Int32 → gM → Prop
  | 0, _, _, _ => False
  | n + 1, v2, v3, M => gbr ((v3 : Int32) < (M 42 7)) (vp_in v3 4000 ∧ (∀ x5 : Int32, x5 = (v2 + (((M 47 (Int32.toNatClampNeg v3)) >>> (v1 &&& 31)) &&& 1)) → (∀ x6 : Int32, x6 = (v3 + 1) → (w_X9_answersWith_L18 Q K45 v1 n (x5) (x6) M)))) (K45 (v2) (v3) M)
def w_X9_answersWith (p1 : Int32) (M : gM) (Q : Int32 → gM → Prop) : Prop := w_X9_noVertex p1 M (fun (r2 : Int32) (M1 : gM) => gbr ((r2 : Int32) = 0) (w_X9_search M1 (fun (M3 : gM) => ∃ nf, w_X9_answersWith_L18 Q (fun (x7 : Int32) (x8 : Int32) (M9 : gM) => gbr (((M9 42 9) : Int32) = 0) (Q x7 M9) (Q (-6) M9)) p1 nf 0 0 M3)) (Q (-1) M1))
set_option maxRecDepth 100000 in
set_option maxHeartbeats 4000000 in
theorem w_X9_answersWith_L18_w {X : gX} (ok : gOk X cX9_answersWith yX9_answersWith.cls 4 4 (some .int) gN) {Q : Int32 → gM → Prop} (hZ : gZi X Q) {K45 : Int32 → Int32 → gM → Prop} (v1 : Int32) (hK45 : ∀ (v2 : Int32) (v3 : Int32)  (M : gM), K45 v2 v3 M → gW X 45 [some (.inr 42), some (.inl v1), some (.inl v2), some (.inl v3)] [] M) : ∀ (n : Nat) (v2 : Int32) (v3 : Int32)  (M : gM), w_X9_answersWith_L18 Q K45 v1 n v2 v3 M → gW X 18 [some (.inr 42), some (.inl v1), some (.inl v2), some (.inl v3)] [] M
  | 0, _, _, _, h => h.elim
  | n + 1, v2, v3, M, h => by
    have ih := fun (v2 : Int32) (v3 : Int32)  (M : gM) h => w_X9_answersWith_L18_w ok hZ v1 hK45 n v2 v3  M h
    rw [w_X9_answersWith_L18.eq_2] at h
    refine g_iload_n ok dX9_answersWith_18 rfl rfl ?_
    refine g_aload_n ok dX9_answersWith_19 rfl rfl ?_
    refine g_get (w := .inl (M 42 7)) ok f42_7 (gNm (by decide)) q4_1 dX9_answersWith_20 rfl ?_
    refine g_icmp_ge (tgt := 45) ok dX9_answersWith_23 (by decide) (fun z => ?_) (fun z => ?_)
    · have h := h.2 z
      exact hK45 (v2) (v3) M h
    · have h := h.1 z
      refine g_iload_n ok dX9_answersWith_26 rfl rfl ?_
      refine g_aload_n ok dX9_answersWith_27 rfl rfl ?_
      refine g_get (w := .inr 47) ok f42_10 (gNm (by decide)) q4_4 dX9_answersWith_28 rfl ?_
      refine g_iload_n ok dX9_answersWith_31 rfl rfl ?_
      have hb := h.1
      have h := h.2
      refine g_iald (w := (M 47 (Int32.toNatClampNeg v3))) ok a47 (gNm (by decide)) dX9_answersWith_32 hb rfl ?_
      refine g_iload_n ok dX9_answersWith_33 rfl rfl ?_
      refine g_ishr ok dX9_answersWith_34 ?_
      refine g_iconst (v := 1) ok dX9_answersWith_35 (by decide) ?_
      refine g_iand ok dX9_answersWith_36 ?_
      refine g_iadd ok dX9_answersWith_37 ?_
      refine g_nm (fun x5 ex5 => ?_)
      have h := h x5 ex5
      refine g_istore_n (lv1 := [some (.inr 42), some (.inl v1), some (.inl x5), some (.inl v3)]) ok dX9_answersWith_38 rfl (glt rfl) rfl ?_
      obtain ⟨x6, ex6⟩ : ∃ y : Int32, y = (v3 + 1) := ⟨_, rfl⟩
      have h := h x6 ex6
      refine g_iinc (v := x6) (lv1 := [some (.inr 42), some (.inl v1), some (.inl x5), some (.inl x6)]) ok dX9_answersWith_39 rfl (by rw [ex6]; rfl) rfl ?_
      refine g_goto (tgt := 18) ok dX9_answersWith_42 (by decide) ?_
      exact ih (x5) (x6) M h
set_option maxRecDepth 100000 in
set_option maxHeartbeats 4000000 in
theorem k_X9_answersWith {p1 : Int32} {M : gM} {Q : Int32 → gM → Prop} (h : w_X9_answersWith p1 M Q) : gCi gN 4 yX9_answersWith cX9_answersWith 4 .int [.inr 42, .inl p1] M Q := by
  refine gCi_of (by decide) gNn (gle rfl) (fun X ok hZ => ?_)
  show gW X 0 [some (.inr 42), some (.inl p1), none, none] [] M
  unfold w_X9_answersWith at h
  refine g_aload_n ok dX9_answersWith_0 rfl rfl ?_
  refine g_iload_n ok dX9_answersWith_1 rfl rfl ?_
  refine g_callVi (st := []) (as := [.inl p1]) ok rfl (k_X9_noVertex h) s_X9_noVertex rfl (by decide) (gNm (by decide)) cl42 sel_X9_noVertex ins_X9_noVertex (gle rfl) rfl q4_154 dX9_answersWith_2 ?_
  intro r2 M1 h
  refine g_if_eq (tgt := 10) ok dX9_answersWith_5 (by decide) (fun z => ?_) (fun z => ?_)
  · have h := h.1 z
    refine g_aload_n ok dX9_answersWith_10 rfl rfl ?_
    refine g_callVv (st := []) (as := []) ok rfl (k_X9_search h) s_X9_search rfl (by decide) (gNm (by decide)) cl42 sel_X9_search ins_X9_search (gle rfl) rfl q4_221 dX9_answersWith_11 ?_
    intro M3 h
    refine g_iconst (v := 0) ok dX9_answersWith_14 (by decide) ?_
    refine g_istore_n (lv1 := [some (.inr 42), some (.inl p1), some (.inl 0), none]) ok dX9_answersWith_15 rfl (glt rfl) rfl ?_
    refine g_iconst (v := 0) ok dX9_answersWith_16 (by decide) ?_
    refine g_istore_n (lv1 := [some (.inr 42), some (.inl p1), some (.inl 0), some (.inl 0)]) ok dX9_answersWith_17 rfl (glt rfl) rfl ?_
    obtain ⟨nf, h⟩ := h
    refine w_X9_answersWith_L18_w ok hZ p1 ?_ nf 0 0  M3 h
    · intro x7 x8  M9 h
      refine g_aload_n ok dX9_answersWith_45 rfl rfl ?_
      refine g_get (w := .inl (M9 42 9)) ok f42_9 (gNm (by decide)) q4_3 dX9_answersWith_46 rfl ?_
      refine g_if_eq (tgt := 57) ok dX9_answersWith_49 (by decide) (fun z => ?_) (fun z => ?_)
      · have h := h.1 z
        refine g_iload_n ok dX9_answersWith_57 rfl rfl ?_
        exact g_iret ok hZ dX9_answersWith_58 h
      · have h := h.2 z
        refine g_bipush (v := (-6)) ok dX9_answersWith_52 (by decide) ?_
        refine g_goto (tgt := 58) ok dX9_answersWith_54 (by decide) ?_
        exact g_iret ok hZ dX9_answersWith_58 h
  · have h := h.2 z
    refine g_iconst (v := (-1)) ok dX9_answersWith_8 (by decide) ?_
    exact g_iret ok hZ dX9_answersWith_9 h
theorem dX9_weighs_0 : decode cX9_weighs 0 = .ok (.iconst 0, 1) := by decide +kernel
theorem dX9_weighs_1 : decode cX9_weighs 1 = .ok (.istore_n 2, 1) := by decide +kernel
theorem dX9_weighs_2 : decode cX9_weighs 2 = .ok (.iconst 0, 1) := by decide +kernel
theorem dX9_weighs_3 : decode cX9_weighs 3 = .ok (.istore_n 3, 1) := by decide +kernel
theorem dX9_weighs_4 : decode cX9_weighs 4 = .ok (.iload_n 3, 1) := by decide +kernel
theorem dX9_weighs_5 : decode cX9_weighs 5 = .ok (.aload_n 0, 1) := by decide +kernel
theorem dX9_weighs_6 : decode cX9_weighs 6 = .ok (.getfield 59, 3) := by decide +kernel
theorem dX9_weighs_9 : decode cX9_weighs 9 = .ok (.if_icmp .ge 24, 3) := by decide +kernel
theorem dX9_weighs_12 : decode cX9_weighs 12 = .ok (.iload_n 2, 1) := by decide +kernel
theorem dX9_weighs_13 : decode cX9_weighs 13 = .ok (.iload_n 1, 1) := by decide +kernel
theorem dX9_weighs_14 : decode cX9_weighs 14 = .ok (.iload_n 3, 1) := by decide +kernel
theorem dX9_weighs_15 : decode cX9_weighs 15 = .ok (.ishr, 1) := by decide +kernel
theorem dX9_weighs_16 : decode cX9_weighs 16 = .ok (.iconst 1, 1) := by decide +kernel
theorem dX9_weighs_17 : decode cX9_weighs 17 = .ok (.iand, 1) := by decide +kernel
theorem dX9_weighs_18 : decode cX9_weighs 18 = .ok (.aload_n 0, 1) := by decide +kernel
theorem dX9_weighs_19 : decode cX9_weighs 19 = .ok (.getfield 13, 3) := by decide +kernel
theorem dX9_weighs_22 : decode cX9_weighs 22 = .ok (.iload_n 3, 1) := by decide +kernel
theorem dX9_weighs_23 : decode cX9_weighs 23 = .ok (.iaload, 1) := by decide +kernel
theorem dX9_weighs_24 : decode cX9_weighs 24 = .ok (.imul, 1) := by decide +kernel
theorem dX9_weighs_25 : decode cX9_weighs 25 = .ok (.iadd, 1) := by decide +kernel
theorem dX9_weighs_26 : decode cX9_weighs 26 = .ok (.istore_n 2, 1) := by decide +kernel
theorem dX9_weighs_27 : decode cX9_weighs 27 = .ok (.iinc 3 1, 3) := by decide +kernel
theorem dX9_weighs_30 : decode cX9_weighs 30 = .ok (.goto (-26), 3) := by decide +kernel
theorem dX9_weighs_33 : decode cX9_weighs 33 = .ok (.iload_n 2, 1) := by decide +kernel
theorem dX9_weighs_34 : decode cX9_weighs 34 = .ok (.ireturn, 1) := by decide +kernel
theorem s_X9_weighs : gSt yX9_weighs cX9_weighs 4 (some .int) 1 := ⟨q5_35, q1_10, ⟨by decide, by decide, by decide +kernel⟩, by decide⟩
theorem sel_X9_weighs : Cond.selects yX9_weighs.cls yX9_weighs yX9_weighs ∈ gT := qs_39
theorem ins_X9_weighs : Cond.instanceMethod yX9_weighs ∈ gT := q5_34
def w_X9_weighs_L4 (Q : Int32 → gM → Prop) (K33 : Int32 → Int32 → gM → Prop) (v1 : Int32) : Nat → Int32 → Int32 → gM → Prop
  | 0, _, _, _ => False
  | n + 1, v2, v3, M => gbr ((v3 : Int32) < (M 42 0)) (vp_in v3 14 ∧ (∀ x1 : Int32, x1 = (v2 + (((v1 >>> (v3 &&& 31)) &&& 1) * (M 44 (Int32.toNatClampNeg v3)))) → (∀ x2 : Int32, x2 = (v3 + 1) → (w_X9_weighs_L4 Q K33 v1 n (x1) (x2) M)))) (K33 (v2) (v3) M)
def w_X9_weighs (p1 : Int32) (M : gM) (Q : Int32 → gM → Prop) : Prop := ∃ nf, w_X9_weighs_L4 Q (fun (x3 : Int32) (x4 : Int32) (M5 : gM) => Q x3 M5) p1 nf 0 0 M
set_option maxRecDepth 100000 in
set_option maxHeartbeats 4000000 in
theorem w_X9_weighs_L4_w {X : gX} (ok : gOk X cX9_weighs yX9_weighs.cls 0 4 (some .int) gN) {Q : Int32 → gM → Prop} (hZ : gZi X Q) {K33 : Int32 → Int32 → gM → Prop} (v1 : Int32) (hK33 : ∀ (v2 : Int32) (v3 : Int32)  (M : gM), K33 v2 v3 M → gW X 33 [some (.inr 42), some (.inl v1), some (.inl v2), some (.inl v3)] [] M) : ∀ (n : Nat) (v2 : Int32) (v3 : Int32)  (M : gM), w_X9_weighs_L4 Q K33 v1 n v2 v3 M → gW X 4 [some (.inr 42), some (.inl v1), some (.inl v2), some (.inl v3)] [] M
  | 0, _, _, _, h => h.elim
  | n + 1, v2, v3, M, h => by
    have ih := fun (v2 : Int32) (v3 : Int32)  (M : gM) h => w_X9_weighs_L4_w ok hZ v1 hK33 n v2 v3  M h
    rw [w_X9_weighs_L4.eq_2] at h
    refine g_iload_n ok dX9_weighs_4 rfl rfl ?_
    refine g_aload_n ok dX9_weighs_5 rfl rfl ?_
    refine g_get (w := .inl (M 42 0)) ok f42_0 (gNm (by decide)) q3_234 dX9_weighs_6 rfl ?_
    refine g_icmp_ge (tgt := 33) ok dX9_weighs_9 (by decide) (fun z => ?_) (fun z => ?_)
    · have h := h.2 z
      exact hK33 (v2) (v3) M h
    · have h := h.1 z
      refine g_iload_n ok dX9_weighs_12 rfl rfl ?_
      refine g_iload_n ok dX9_weighs_13 rfl rfl ?_
      refine g_iload_n ok dX9_weighs_14 rfl rfl ?_
      refine g_ishr ok dX9_weighs_15 ?_
      refine g_iconst (v := 1) ok dX9_weighs_16 (by decide) ?_
      refine g_iand ok dX9_weighs_17 ?_
      refine g_aload_n ok dX9_weighs_18 rfl rfl ?_
      refine g_get (w := .inr 44) ok f42_2 (gNm (by decide)) q3_236 dX9_weighs_19 rfl ?_
      refine g_iload_n ok dX9_weighs_22 rfl rfl ?_
      have hb := h.1
      have h := h.2
      refine g_iald (w := (M 44 (Int32.toNatClampNeg v3))) ok a44 (gNm (by decide)) dX9_weighs_23 hb rfl ?_
      refine g_imul ok dX9_weighs_24 ?_
      refine g_iadd ok dX9_weighs_25 ?_
      refine g_nm (fun x1 ex1 => ?_)
      have h := h x1 ex1
      refine g_istore_n (lv1 := [some (.inr 42), some (.inl v1), some (.inl x1), some (.inl v3)]) ok dX9_weighs_26 rfl (glt rfl) rfl ?_
      obtain ⟨x2, ex2⟩ : ∃ y : Int32, y = (v3 + 1) := ⟨_, rfl⟩
      have h := h x2 ex2
      refine g_iinc (v := x2) (lv1 := [some (.inr 42), some (.inl v1), some (.inl x1), some (.inl x2)]) ok dX9_weighs_27 rfl (by rw [ex2]; rfl) rfl ?_
      refine g_goto (tgt := 4) ok dX9_weighs_30 (by decide) ?_
      exact ih (x1) (x2) M h
set_option maxRecDepth 100000 in
set_option maxHeartbeats 4000000 in
theorem k_X9_weighs {p1 : Int32} {M : gM} {Q : Int32 → gM → Prop} (h : w_X9_weighs p1 M Q) : gCi gN 0 yX9_weighs cX9_weighs 4 .int [.inr 42, .inl p1] M Q := by
  refine gCi_of (by decide) gNn (gle rfl) (fun X ok hZ => ?_)
  show gW X 0 [some (.inr 42), some (.inl p1), none, none] [] M
  unfold w_X9_weighs at h
  refine g_iconst (v := 0) ok dX9_weighs_0 (by decide) ?_
  refine g_istore_n (lv1 := [some (.inr 42), some (.inl p1), some (.inl 0), none]) ok dX9_weighs_1 rfl (glt rfl) rfl ?_
  refine g_iconst (v := 0) ok dX9_weighs_2 (by decide) ?_
  refine g_istore_n (lv1 := [some (.inr 42), some (.inl p1), some (.inl 0), some (.inl 0)]) ok dX9_weighs_3 rfl (glt rfl) rfl ?_
  obtain ⟨nf, h⟩ := h
  refine w_X9_weighs_L4_w ok hZ p1 ?_ nf 0 0  M h
  · intro x3 x4  M5 h
    refine g_iload_n ok dX9_weighs_33 rfl rfl ?_
    exact g_iret ok hZ dX9_weighs_34 h
