theorem dX9_lightest_0 : decode cX9_lightest 0 = .ok (.iload_n 1, 1) := by decide +kernel
theorem dX9_lightest_1 : decode cX9_lightest 1 = .ok (.ifCond .ge 6, 3) := by decide +kernel
theorem dX9_lightest_4 : decode cX9_lightest 4 = .ok (.bipush (-3), 2) := by decide +kernel
theorem dX9_lightest_6 : decode cX9_lightest 6 = .ok (.ireturn, 1) := by decide +kernel
theorem dX9_lightest_7 : decode cX9_lightest 7 = .ok (.aload_n 0, 1) := by decide +kernel
theorem dX9_lightest_8 : decode cX9_lightest 8 = .ok (.invokevirtual 154, 3) := by decide +kernel
theorem dX9_lightest_11 : decode cX9_lightest 11 = .ok (.aload_n 0, 1) := by decide +kernel
theorem dX9_lightest_12 : decode cX9_lightest 12 = .ok (.getfield 144, 3) := by decide +kernel
theorem dX9_lightest_15 : decode cX9_lightest 15 = .ok (.ifCond .eq 6, 3) := by decide +kernel
theorem dX9_lightest_18 : decode cX9_lightest 18 = .ok (.bipush (-6), 2) := by decide +kernel
theorem dX9_lightest_20 : decode cX9_lightest 20 = .ok (.ireturn, 1) := by decide +kernel
theorem dX9_lightest_21 : decode cX9_lightest 21 = .ok (.iconst 0, 1) := by decide +kernel
theorem dX9_lightest_22 : decode cX9_lightest 22 = .ok (.istore_n 2, 1) := by decide +kernel
theorem dX9_lightest_23 : decode cX9_lightest 23 = .ok (.iload_n 2, 1) := by decide +kernel
theorem dX9_lightest_24 : decode cX9_lightest 24 = .ok (.aload_n 0, 1) := by decide +kernel
theorem dX9_lightest_25 : decode cX9_lightest 25 = .ok (.getfield 135, 3) := by decide +kernel
theorem dX9_lightest_28 : decode cX9_lightest 28 = .ok (.if_icmp .ge 105, 3) := by decide +kernel
theorem dX9_lightest_31 : decode cX9_lightest 31 = .ok (.aload_n 0, 1) := by decide +kernel
theorem dX9_lightest_32 : decode cX9_lightest 32 = .ok (.aload_n 0, 1) := by decide +kernel
theorem dX9_lightest_33 : decode cX9_lightest 33 = .ok (.getfield 22, 3) := by decide +kernel
theorem dX9_lightest_36 : decode cX9_lightest 36 = .ok (.iload_n 2, 1) := by decide +kernel
theorem dX9_lightest_37 : decode cX9_lightest 37 = .ok (.iaload, 1) := by decide +kernel
theorem dX9_lightest_38 : decode cX9_lightest 38 = .ok (.invokevirtual 160, 3) := by decide +kernel
theorem dX9_lightest_41 : decode cX9_lightest 41 = .ok (.istore_n 3, 1) := by decide +kernel
theorem dX9_lightest_42 : decode cX9_lightest 42 = .ok (.iconst 0, 1) := by decide +kernel
theorem dX9_lightest_43 : decode cX9_lightest 43 = .ok (.istore 4, 2) := by decide +kernel
theorem dX9_lightest_45 : decode cX9_lightest 45 = .ok (.iconst 0, 1) := by decide +kernel
theorem dX9_lightest_46 : decode cX9_lightest 46 = .ok (.istore 5, 2) := by decide +kernel
theorem dX9_lightest_48 : decode cX9_lightest 48 = .ok (.iload 5, 2) := by decide +kernel
theorem dX9_lightest_50 : decode cX9_lightest 50 = .ok (.aload_n 0, 1) := by decide +kernel
theorem dX9_lightest_51 : decode cX9_lightest 51 = .ok (.getfield 135, 3) := by decide +kernel
theorem dX9_lightest_54 : decode cX9_lightest 54 = .ok (.if_icmp .ge 60, 3) := by decide +kernel
theorem dX9_lightest_57 : decode cX9_lightest 57 = .ok (.aload_n 0, 1) := by decide +kernel
theorem dX9_lightest_58 : decode cX9_lightest 58 = .ok (.aload_n 0, 1) := by decide +kernel
theorem dX9_lightest_59 : decode cX9_lightest 59 = .ok (.getfield 22, 3) := by decide +kernel
theorem dX9_lightest_62 : decode cX9_lightest 62 = .ok (.iload 5, 2) := by decide +kernel
theorem dX9_lightest_64 : decode cX9_lightest 64 = .ok (.iaload, 1) := by decide +kernel
theorem dX9_lightest_65 : decode cX9_lightest 65 = .ok (.invokevirtual 160, 3) := by decide +kernel
theorem dX9_lightest_68 : decode cX9_lightest 68 = .ok (.istore 6, 2) := by decide +kernel
theorem dX9_lightest_70 : decode cX9_lightest 70 = .ok (.iload 4, 2) := by decide +kernel
theorem dX9_lightest_72 : decode cX9_lightest 72 = .ok (.iload 6, 2) := by decide +kernel
theorem dX9_lightest_74 : decode cX9_lightest 74 = .ok (.iload_n 3, 1) := by decide +kernel
theorem dX9_lightest_75 : decode cX9_lightest 75 = .ok (.if_icmp .lt 25, 3) := by decide +kernel
theorem dX9_lightest_78 : decode cX9_lightest 78 = .ok (.iload 6, 2) := by decide +kernel
theorem dX9_lightest_80 : decode cX9_lightest 80 = .ok (.iload_n 3, 1) := by decide +kernel
theorem dX9_lightest_81 : decode cX9_lightest 81 = .ok (.if_icmp .ne 23, 3) := by decide +kernel
theorem dX9_lightest_84 : decode cX9_lightest 84 = .ok (.aload_n 0, 1) := by decide +kernel
theorem dX9_lightest_85 : decode cX9_lightest 85 = .ok (.getfield 22, 3) := by decide +kernel
theorem dX9_lightest_88 : decode cX9_lightest 88 = .ok (.iload 5, 2) := by decide +kernel
theorem dX9_lightest_90 : decode cX9_lightest 90 = .ok (.iaload, 1) := by decide +kernel
theorem dX9_lightest_91 : decode cX9_lightest 91 = .ok (.aload_n 0, 1) := by decide +kernel
theorem dX9_lightest_92 : decode cX9_lightest 92 = .ok (.getfield 22, 3) := by decide +kernel
theorem dX9_lightest_95 : decode cX9_lightest 95 = .ok (.iload_n 2, 1) := by decide +kernel
theorem dX9_lightest_96 : decode cX9_lightest 96 = .ok (.iaload, 1) := by decide +kernel
theorem dX9_lightest_97 : decode cX9_lightest 97 = .ok (.if_icmp .ge 7, 3) := by decide +kernel
theorem dX9_lightest_100 : decode cX9_lightest 100 = .ok (.iconst 1, 1) := by decide +kernel
theorem dX9_lightest_101 : decode cX9_lightest 101 = .ok (.goto 4, 3) := by decide +kernel
theorem dX9_lightest_104 : decode cX9_lightest 104 = .ok (.iconst 0, 1) := by decide +kernel
theorem dX9_lightest_105 : decode cX9_lightest 105 = .ok (.iadd, 1) := by decide +kernel
theorem dX9_lightest_106 : decode cX9_lightest 106 = .ok (.istore 4, 2) := by decide +kernel
theorem dX9_lightest_108 : decode cX9_lightest 108 = .ok (.iinc 5 1, 3) := by decide +kernel
theorem dX9_lightest_111 : decode cX9_lightest 111 = .ok (.goto (-63), 3) := by decide +kernel
theorem dX9_lightest_114 : decode cX9_lightest 114 = .ok (.iload 4, 2) := by decide +kernel
theorem dX9_lightest_116 : decode cX9_lightest 116 = .ok (.iload_n 1, 1) := by decide +kernel
theorem dX9_lightest_117 : decode cX9_lightest 117 = .ok (.if_icmp .ne 10, 3) := by decide +kernel
theorem dX9_lightest_120 : decode cX9_lightest 120 = .ok (.aload_n 0, 1) := by decide +kernel
theorem dX9_lightest_121 : decode cX9_lightest 121 = .ok (.getfield 22, 3) := by decide +kernel
theorem dX9_lightest_124 : decode cX9_lightest 124 = .ok (.iload_n 2, 1) := by decide +kernel
theorem dX9_lightest_125 : decode cX9_lightest 125 = .ok (.iaload, 1) := by decide +kernel
theorem dX9_lightest_126 : decode cX9_lightest 126 = .ok (.ireturn, 1) := by decide +kernel
theorem dX9_lightest_127 : decode cX9_lightest 127 = .ok (.iinc 2 1, 3) := by decide +kernel
theorem dX9_lightest_130 : decode cX9_lightest 130 = .ok (.goto (-107), 3) := by decide +kernel
theorem dX9_lightest_133 : decode cX9_lightest 133 = .ok (.bipush (-7), 2) := by decide +kernel
theorem dX9_lightest_135 : decode cX9_lightest 135 = .ok (.ireturn, 1) := by decide +kernel
theorem s_X9_lightest : gSt yX9_lightest cX9_lightest 7 (some .int) 1 := ⟨q5_31, q1_10, ⟨by decide, by decide, by decide +kernel⟩, by decide⟩
theorem sel_X9_lightest : Cond.selects yX9_lightest.cls yX9_lightest yX9_lightest ∈ gT := q5_30
theorem ins_X9_lightest : Cond.instanceMethod yX9_lightest ∈ gT := q5_29
def w_X9_lightest_L48 (Q : Int32 → gM → Prop) (K114 : Int32 → Int32 → gM → Prop) (v1 : Int32) (v2 : Int32) (v3 : Int32) : Nat → Int32 → Int32 → gM → Prop
  | 0, _, _, _ => False
  | n + 1, v4, v5, M => gbr ((v5 : Int32) < (M 42 7)) (vp_in v5 4000 ∧ (w_X9_weighs (M 47 (Int32.toNatClampNeg v5)) M (fun (r6 : Int32) (M5 : gM) => gbr ((r6 : Int32) < v3) (∀ x7 : Int32, x7 = (v4 + 1) → (∀ x8 : Int32, x8 = (v5 + 1) → (w_X9_lightest_L48 Q K114 v1 v2 v3 n (x7) (x8) M5))) (gbr ((r6 : Int32) = v3) (vp_in v5 4000 ∧ (vp_in v2 4000 ∧ (gbr (((M5 47 (Int32.toNatClampNeg v5)) : Int32) < (M5 47 (Int32.toNatClampNeg v2))) (∀ x13 : Int32, x13 = (v4 + 1) → (∀ x14 : Int32, x14 = (v5 + 1) → (w_X9_lightest_L48 Q K114 v1 v2 v3 n (x13) (x14) M5))) (∀ x11 : Int32, x11 = (v4 + 0) → (∀ x12 : Int32, x12 = (v5 + 1) → (w_X9_lightest_L48 Q K114 v1 v2 v3 n (x11) (x12) M5)))))) (∀ x9 : Int32, x9 = (v4 + 0) → (∀ x10 : Int32, x10 = (v5 + 1) → (w_X9_lightest_L48 Q K114 v1 v2 v3 n (x9) (x10) M5))))))) (K114 (v4) (v5) M)
def w_X9_lightest_L23 (Q : Int32 → gM → Prop) (K133 : Int32 → gM → Prop) (K120 : Int32 → gM → Prop) (v1 : Int32) : Nat → Int32 → gM → Prop
  | 0, _, _ => False
  | n + 1, v2, M => gbr ((v2 : Int32) < (M 42 7)) (vp_in v2 4000 ∧ (w_X9_weighs (M 47 (Int32.toNatClampNeg v2)) M (fun (r4 : Int32) (M3 : gM) => ∃ nf, w_X9_lightest_L48 Q (fun (x15 : Int32) (x16 : Int32) (M18 : gM) => gbr ((x15 : Int32) = v1) (K120 (v2) M18) (∀ x19 : Int32, x19 = (v2 + 1) → (w_X9_lightest_L23 Q K133 K120 v1 n (x19) M18))) v1 v2 r4 nf 0 0 M3))) (K133 (v2) M)
def w_X9_lightest (p1 : Int32) (M : gM) (Q : Int32 → gM → Prop) : Prop := gbr ((p1 : Int32) < 0) (Q (-3) M) (w_X9_search M (fun (M1 : gM) => gbr (((M1 42 9) : Int32) = 0) (∃ nf, w_X9_lightest_L23 Q (fun (x20 : Int32) (M25 : gM) => Q (-7) M25) (fun (x26 : Int32) (M31 : gM) => vp_in x26 4000 ∧ (Q (M31 47 (Int32.toNatClampNeg x26)) M31)) p1 nf 0 M1) (Q (-6) M1)))
set_option maxRecDepth 100000 in
set_option maxHeartbeats 4000000 in
theorem w_X9_lightest_L48_w {X : gX} (ok : gOk X cX9_lightest yX9_lightest.cls 4 7 (some .int) gN) {Q : Int32 → gM → Prop} (hZ : gZi X Q) {K114 : Int32 → Int32 → gM → Prop} (v1 : Int32) (v2 : Int32) (v3 : Int32) (hK114 : ∀ (v4 : Int32) (v5 : Int32) (u6 : Option gV) (M : gM), K114 v4 v5 M → gW X 114 [some (.inr 42), some (.inl v1), some (.inl v2), some (.inl v3), some (.inl v4), some (.inl v5), u6] [] M) : ∀ (n : Nat) (v4 : Int32) (v5 : Int32) (u6 : Option gV) (M : gM), w_X9_lightest_L48 Q K114 v1 v2 v3 n v4 v5 M → gW X 48 [some (.inr 42), some (.inl v1), some (.inl v2), some (.inl v3), some (.inl v4), some (.inl v5), u6] [] M
  | 0, _, _, _, _, h => h.elim
  | n + 1, v4, v5, u6, M, h => by
    have ih := fun (v4 : Int32) (v5 : Int32) (u6 : Option gV) (M : gM) h => w_X9_lightest_L48_w ok hZ v1 v2 v3 hK114 n v4 v5 u6 M h
    rw [w_X9_lightest_L48.eq_2] at h
    refine g_iload ok dX9_lightest_48 rfl ?_
    refine g_aload_n ok dX9_lightest_50 rfl rfl ?_
    refine g_get (w := .inl (M 42 7)) ok f42_7 (gNm (by decide)) q4_1 dX9_lightest_51 rfl ?_
    refine g_icmp_ge (tgt := 114) ok dX9_lightest_54 (by decide) (fun z => ?_) (fun z => ?_)
    · have h := h.2 z
      exact hK114 (v4) (v5) (u6) M h
    · have h := h.1 z
      refine g_aload_n ok dX9_lightest_57 rfl rfl ?_
      refine g_aload_n ok dX9_lightest_58 rfl rfl ?_
      refine g_get (w := .inr 47) ok f42_10 (gNm (by decide)) q4_4 dX9_lightest_59 rfl ?_
      refine g_iload ok dX9_lightest_62 rfl ?_
      have hb := h.1
      have h := h.2
      refine g_iald (w := (M 47 (Int32.toNatClampNeg v5))) ok a47 (gNm (by decide)) dX9_lightest_64 hb rfl ?_
      refine g_callVi (st := []) (as := [.inl (M 47 (Int32.toNatClampNeg v5))]) ok rfl (k_X9_weighs h) s_X9_weighs rfl (by decide) (gNm (by decide)) cl42 sel_X9_weighs ins_X9_weighs (gle rfl) rfl q5_32 dX9_lightest_65 ?_
      intro r6 M5 h
      refine g_istore (lv1 := [some (.inr 42), some (.inl v1), some (.inl v2), some (.inl v3), some (.inl v4), some (.inl v5), some (.inl r6)]) ok dX9_lightest_68 (glt rfl) rfl ?_
      refine g_iload ok dX9_lightest_70 rfl ?_
      refine g_iload ok dX9_lightest_72 rfl ?_
      refine g_iload_n ok dX9_lightest_74 rfl rfl ?_
      refine g_icmp_lt (tgt := 100) ok dX9_lightest_75 (by decide) (fun z => ?_) (fun z => ?_)
      · have h := h.1 z
        refine g_iconst (v := 1) ok dX9_lightest_100 (by decide) ?_
        refine g_goto (tgt := 105) ok dX9_lightest_101 (by decide) ?_
        refine g_iadd ok dX9_lightest_105 ?_
        refine g_nm (fun x7 ex7 => ?_)
        have h := h x7 ex7
        refine g_istore (lv1 := [some (.inr 42), some (.inl v1), some (.inl v2), some (.inl v3), some (.inl x7), some (.inl v5), some (.inl r6)]) ok dX9_lightest_106 (glt rfl) rfl ?_
        obtain ⟨x8, ex8⟩ : ∃ y : Int32, y = (v5 + 1) := ⟨_, rfl⟩
        have h := h x8 ex8
        refine g_iinc (v := x8) (lv1 := [some (.inr 42), some (.inl v1), some (.inl v2), some (.inl v3), some (.inl x7), some (.inl x8), some (.inl r6)]) ok dX9_lightest_108 rfl (by rw [ex8]; rfl) rfl ?_
        refine g_goto (tgt := 48) ok dX9_lightest_111 (by decide) ?_
        exact ih (x7) (x8) (some (.inl r6)) M5 h
      · have h := h.2 z
        refine g_iload ok dX9_lightest_78 rfl ?_
        refine g_iload_n ok dX9_lightest_80 rfl rfl ?_
        refine g_icmp_ne (tgt := 104) ok dX9_lightest_81 (by decide) (fun z => ?_) (fun z => ?_)
        · have h := h.2 z
          refine g_iconst (v := 0) ok dX9_lightest_104 (by decide) ?_
          refine g_iadd ok dX9_lightest_105 ?_
          refine g_nm (fun x9 ex9 => ?_)
          have h := h x9 ex9
          refine g_istore (lv1 := [some (.inr 42), some (.inl v1), some (.inl v2), some (.inl v3), some (.inl x9), some (.inl v5), some (.inl r6)]) ok dX9_lightest_106 (glt rfl) rfl ?_
          obtain ⟨x10, ex10⟩ : ∃ y : Int32, y = (v5 + 1) := ⟨_, rfl⟩
          have h := h x10 ex10
          refine g_iinc (v := x10) (lv1 := [some (.inr 42), some (.inl v1), some (.inl v2), some (.inl v3), some (.inl x9), some (.inl x10), some (.inl r6)]) ok dX9_lightest_108 rfl (by rw [ex10]; rfl) rfl ?_
          refine g_goto (tgt := 48) ok dX9_lightest_111 (by decide) ?_
          exact ih (x9) (x10) (some (.inl r6)) M5 h
        · have h := h.1 z
          refine g_aload_n ok dX9_lightest_84 rfl rfl ?_
          refine g_get (w := .inr 47) ok f42_10 (gNm (by decide)) q4_4 dX9_lightest_85 rfl ?_
          refine g_iload ok dX9_lightest_88 rfl ?_
          have hb := h.1
          have h := h.2
          refine g_iald (w := (M5 47 (Int32.toNatClampNeg v5))) ok a47 (gNm (by decide)) dX9_lightest_90 hb rfl ?_
          refine g_aload_n ok dX9_lightest_91 rfl rfl ?_
          refine g_get (w := .inr 47) ok f42_10 (gNm (by decide)) q4_4 dX9_lightest_92 rfl ?_
          refine g_iload_n ok dX9_lightest_95 rfl rfl ?_
          have hb := h.1
          have h := h.2
          refine g_iald (w := (M5 47 (Int32.toNatClampNeg v2))) ok a47 (gNm (by decide)) dX9_lightest_96 hb rfl ?_
          refine g_icmp_ge (tgt := 104) ok dX9_lightest_97 (by decide) (fun z => ?_) (fun z => ?_)
          · have h := h.2 z
            refine g_iconst (v := 0) ok dX9_lightest_104 (by decide) ?_
            refine g_iadd ok dX9_lightest_105 ?_
            refine g_nm (fun x11 ex11 => ?_)
            have h := h x11 ex11
            refine g_istore (lv1 := [some (.inr 42), some (.inl v1), some (.inl v2), some (.inl v3), some (.inl x11), some (.inl v5), some (.inl r6)]) ok dX9_lightest_106 (glt rfl) rfl ?_
            obtain ⟨x12, ex12⟩ : ∃ y : Int32, y = (v5 + 1) := ⟨_, rfl⟩
            have h := h x12 ex12
            refine g_iinc (v := x12) (lv1 := [some (.inr 42), some (.inl v1), some (.inl v2), some (.inl v3), some (.inl x11), some (.inl x12), some (.inl r6)]) ok dX9_lightest_108 rfl (by rw [ex12]; rfl) rfl ?_
            refine g_goto (tgt := 48) ok dX9_lightest_111 (by decide) ?_
            exact ih (x11) (x12) (some (.inl r6)) M5 h
          · have h := h.1 z
            refine g_iconst (v := 1) ok dX9_lightest_100 (by decide) ?_
            refine g_goto (tgt := 105) ok dX9_lightest_101 (by decide) ?_
            refine g_iadd ok dX9_lightest_105 ?_
            refine g_nm (fun x13 ex13 => ?_)
            have h := h x13 ex13
            refine g_istore (lv1 := [some (.inr 42), some (.inl v1), some (.inl v2), some (.inl v3), some (.inl x13), some (.inl v5), some (.inl r6)]) ok dX9_lightest_106 (glt rfl) rfl ?_
            obtain ⟨x14, ex14⟩ : ∃ y : Int32, y = (v5 + 1) := ⟨_, rfl⟩
            have h := h x14 ex14
            refine g_iinc (v := x14) (lv1 := [some (.inr 42), some (.inl v1), some (.inl v2), some (.inl v3), some (.inl x13), some (.inl x14), some (.inl r6)]) ok dX9_lightest_108 rfl (by rw [ex14]; rfl) rfl ?_
            refine g_goto (tgt := 48) ok dX9_lightest_111 (by decide) ?_
            exact ih (x13) (x14) (some (.inl r6)) M5 h
set_option maxRecDepth 100000 in
set_option maxHeartbeats 4000000 in
theorem w_X9_lightest_L23_w {X : gX} (ok : gOk X cX9_lightest yX9_lightest.cls 4 7 (some .int) gN) {Q : Int32 → gM → Prop} (hZ : gZi X Q) {K133 : Int32 → gM → Prop} {K120 : Int32 → gM → Prop} (v1 : Int32) (hK133 : ∀ (v2 : Int32) (u3 : Option gV) (u4 : Option gV) (u5 : Option gV) (u6 : Option gV) (M : gM), K133 v2 M → gW X 133 [some (.inr 42), some (.inl v1), some (.inl v2), u3, u4, u5, u6] [] M) (hK120 : ∀ (v2 : Int32) (u3 : Option gV) (u4 : Option gV) (u5 : Option gV) (u6 : Option gV) (M : gM), K120 v2 M → gW X 120 [some (.inr 42), some (.inl v1), some (.inl v2), u3, u4, u5, u6] [] M) : ∀ (n : Nat) (v2 : Int32) (u3 : Option gV) (u4 : Option gV) (u5 : Option gV) (u6 : Option gV) (M : gM), w_X9_lightest_L23 Q K133 K120 v1 n v2 M → gW X 23 [some (.inr 42), some (.inl v1), some (.inl v2), u3, u4, u5, u6] [] M
  | 0, _, _, _, _, _, _, h => h.elim
  | n + 1, v2, u3, u4, u5, u6, M, h => by
    have ih := fun (v2 : Int32) (u3 : Option gV) (u4 : Option gV) (u5 : Option gV) (u6 : Option gV) (M : gM) h => w_X9_lightest_L23_w ok hZ v1 hK133 hK120 n v2 u3 u4 u5 u6 M h
    rw [w_X9_lightest_L23.eq_2] at h
    refine g_iload_n ok dX9_lightest_23 rfl rfl ?_
    refine g_aload_n ok dX9_lightest_24 rfl rfl ?_
    refine g_get (w := .inl (M 42 7)) ok f42_7 (gNm (by decide)) q4_1 dX9_lightest_25 rfl ?_
    refine g_icmp_ge (tgt := 133) ok dX9_lightest_28 (by decide) (fun z => ?_) (fun z => ?_)
    · have h := h.2 z
      exact hK133 (v2) (u3) (u4) (u5) (u6) M h
    · have h := h.1 z
      refine g_aload_n ok dX9_lightest_31 rfl rfl ?_
      refine g_aload_n ok dX9_lightest_32 rfl rfl ?_
      refine g_get (w := .inr 47) ok f42_10 (gNm (by decide)) q4_4 dX9_lightest_33 rfl ?_
      refine g_iload_n ok dX9_lightest_36 rfl rfl ?_
      have hb := h.1
      have h := h.2
      refine g_iald (w := (M 47 (Int32.toNatClampNeg v2))) ok a47 (gNm (by decide)) dX9_lightest_37 hb rfl ?_
      refine g_callVi (st := []) (as := [.inl (M 47 (Int32.toNatClampNeg v2))]) ok rfl (k_X9_weighs h) s_X9_weighs rfl (by decide) (gNm (by decide)) cl42 sel_X9_weighs ins_X9_weighs (gle rfl) rfl q5_32 dX9_lightest_38 ?_
      intro r4 M3 h
      refine g_istore_n (lv1 := [some (.inr 42), some (.inl v1), some (.inl v2), some (.inl r4), u4, u5, u6]) ok dX9_lightest_41 rfl (glt rfl) rfl ?_
      refine g_iconst (v := 0) ok dX9_lightest_42 (by decide) ?_
      refine g_istore (lv1 := [some (.inr 42), some (.inl v1), some (.inl v2), some (.inl r4), some (.inl 0), u5, u6]) ok dX9_lightest_43 (glt rfl) rfl ?_
      refine g_iconst (v := 0) ok dX9_lightest_45 (by decide) ?_
      refine g_istore (lv1 := [some (.inr 42), some (.inl v1), some (.inl v2), some (.inl r4), some (.inl 0), some (.inl 0), u6]) ok dX9_lightest_46 (glt rfl) rfl ?_
      obtain ⟨nf, h⟩ := h
      refine w_X9_lightest_L48_w ok hZ v1 v2 r4 ?_ nf 0 0 (u6) M3 h
      · intro x15 x16 u17 M18 h
        refine g_iload ok dX9_lightest_114 rfl ?_
        refine g_iload_n ok dX9_lightest_116 rfl rfl ?_
        refine g_icmp_ne (tgt := 127) ok dX9_lightest_117 (by decide) (fun z => ?_) (fun z => ?_)
        · have h := h.2 z
          obtain ⟨x19, ex19⟩ : ∃ y : Int32, y = (v2 + 1) := ⟨_, rfl⟩
          have h := h x19 ex19
          refine g_iinc (v := x19) (lv1 := [some (.inr 42), some (.inl v1), some (.inl x19), some (.inl r4), some (.inl x15), some (.inl x16), u17]) ok dX9_lightest_127 rfl (by rw [ex19]; rfl) rfl ?_
          refine g_goto (tgt := 23) ok dX9_lightest_130 (by decide) ?_
          exact ih (x19) (some (.inl r4)) (some (.inl x15)) (some (.inl x16)) (u17) M18 h
        · have h := h.1 z
          exact hK120 (v2) (some (.inl r4)) (some (.inl x15)) (some (.inl x16)) (u17) M18 h
set_option maxRecDepth 100000 in
set_option maxHeartbeats 4000000 in
theorem k_X9_lightest {p1 : Int32} {M : gM} {Q : Int32 → gM → Prop} (h : w_X9_lightest p1 M Q) : gCi gN 4 yX9_lightest cX9_lightest 7 .int [.inr 42, .inl p1] M Q := by
  refine gCi_of (by decide) gNn (gle rfl) (fun X ok hZ => ?_)
  show gW X 0 [some (.inr 42), some (.inl p1), none, none, none, none, none] [] M
  unfold w_X9_lightest at h
  refine g_iload_n ok dX9_lightest_0 rfl rfl ?_
  refine g_if_ge (tgt := 7) ok dX9_lightest_1 (by decide) (fun z => ?_) (fun z => ?_)
  · have h := h.2 z
    refine g_aload_n ok dX9_lightest_7 rfl rfl ?_
    refine g_callVv (st := []) (as := []) ok rfl (k_X9_search h) s_X9_search rfl (by decide) (gNm (by decide)) cl42 sel_X9_search ins_X9_search (gle rfl) rfl q4_221 dX9_lightest_8 ?_
    intro M1 h
    refine g_aload_n ok dX9_lightest_11 rfl rfl ?_
    refine g_get (w := .inl (M1 42 9)) ok f42_9 (gNm (by decide)) q4_3 dX9_lightest_12 rfl ?_
    refine g_if_eq (tgt := 21) ok dX9_lightest_15 (by decide) (fun z => ?_) (fun z => ?_)
    · have h := h.1 z
      refine g_iconst (v := 0) ok dX9_lightest_21 (by decide) ?_
      refine g_istore_n (lv1 := [some (.inr 42), some (.inl p1), some (.inl 0), none, none, none, none]) ok dX9_lightest_22 rfl (glt rfl) rfl ?_
      obtain ⟨nf, h⟩ := h
      refine w_X9_lightest_L23_w ok hZ p1 ?_ ?_ nf 0 (none) (none) (none) (none) M1 h
      · intro x20 u21 u22 u23 u24 M25 h
        refine g_bipush (v := (-7)) ok dX9_lightest_133 (by decide) ?_
        exact g_iret ok hZ dX9_lightest_135 h
      · intro x26 u27 u28 u29 u30 M31 h
        refine g_aload_n ok dX9_lightest_120 rfl rfl ?_
        refine g_get (w := .inr 47) ok f42_10 (gNm (by decide)) q4_4 dX9_lightest_121 rfl ?_
        refine g_iload_n ok dX9_lightest_124 rfl rfl ?_
        have hb := h.1
        have h := h.2
        refine g_iald (w := (M31 47 (Int32.toNatClampNeg x26))) ok a47 (gNm (by decide)) dX9_lightest_125 hb rfl ?_
        exact g_iret ok hZ dX9_lightest_126 h
    · have h := h.2 z
      refine g_bipush (v := (-6)) ok dX9_lightest_18 (by decide) ?_
      exact g_iret ok hZ dX9_lightest_20 h
  · have h := h.1 z
    refine g_bipush (v := (-3)) ok dX9_lightest_4 (by decide) ?_
    exact g_iret ok hZ dX9_lightest_6 h
theorem dX9_weightOf_0 : decode cX9_weightOf 0 = .ok (.aload_n 0, 1) := by decide +kernel
theorem dX9_weightOf_1 : decode cX9_weightOf 1 = .ok (.iload_n 1, 1) := by decide +kernel
theorem dX9_weightOf_2 : decode cX9_weightOf 2 = .ok (.invokevirtual 83, 3) := by decide +kernel
theorem dX9_weightOf_5 : decode cX9_weightOf 5 = .ok (.ifCond .eq 8, 3) := by decide +kernel
theorem dX9_weightOf_8 : decode cX9_weightOf 8 = .ok (.bipush (-3), 2) := by decide +kernel
theorem dX9_weightOf_10 : decode cX9_weightOf 10 = .ok (.goto 8, 3) := by decide +kernel
theorem dX9_weightOf_13 : decode cX9_weightOf 13 = .ok (.aload_n 0, 1) := by decide +kernel
theorem dX9_weightOf_14 : decode cX9_weightOf 14 = .ok (.iload_n 1, 1) := by decide +kernel
theorem dX9_weightOf_15 : decode cX9_weightOf 15 = .ok (.invokevirtual 160, 3) := by decide +kernel
theorem dX9_weightOf_18 : decode cX9_weightOf 18 = .ok (.ireturn, 1) := by decide +kernel
theorem s_X9_weightOf : gSt yX9_weightOf cX9_weightOf 2 (some .int) 1 := ⟨q5_39, q1_10, ⟨by decide, by decide, by decide +kernel⟩, by decide⟩
theorem sel_X9_weightOf : Cond.selects yX9_weightOf.cls yX9_weightOf yX9_weightOf ∈ gT := q5_38
theorem ins_X9_weightOf : Cond.instanceMethod yX9_weightOf ∈ gT := q5_37
def w_X9_weightOf (p1 : Int32) (M : gM) (Q : Int32 → gM → Prop) : Prop := w_X9_noSet p1 M (fun (r2 : Int32) (M1 : gM) => gbr ((r2 : Int32) = 0) (w_X9_weighs p1 M1 (fun (r4 : Int32) (M3 : gM) => Q r4 M3)) (Q (-3) M1))
set_option maxRecDepth 100000 in
set_option maxHeartbeats 4000000 in
theorem k_X9_weightOf {p1 : Int32} {M : gM} {Q : Int32 → gM → Prop} (h : w_X9_weightOf p1 M Q) : gCi gN 2 yX9_weightOf cX9_weightOf 2 .int [.inr 42, .inl p1] M Q := by
  refine gCi_of (by decide) gNn (gle rfl) (fun X ok hZ => ?_)
  show gW X 0 [some (.inr 42), some (.inl p1)] [] M
  unfold w_X9_weightOf at h
  refine g_aload_n ok dX9_weightOf_0 rfl rfl ?_
  refine g_iload_n ok dX9_weightOf_1 rfl rfl ?_
  refine g_callVi (st := []) (as := [.inl p1]) ok rfl (k_X9_noSet h) s_X9_noSet rfl (by decide) (gNm (by decide)) cl42 sel_X9_noSet ins_X9_noSet (gle rfl) rfl q4_98 dX9_weightOf_2 ?_
  intro r2 M1 h
  refine g_if_eq (tgt := 13) ok dX9_weightOf_5 (by decide) (fun z => ?_) (fun z => ?_)
  · have h := h.1 z
    refine g_aload_n ok dX9_weightOf_13 rfl rfl ?_
    refine g_iload_n ok dX9_weightOf_14 rfl rfl ?_
    refine g_callVi (st := []) (as := [.inl p1]) ok rfl (k_X9_weighs h) s_X9_weighs rfl (by decide) (gNm (by decide)) cl42 sel_X9_weighs ins_X9_weighs (gle rfl) rfl q5_32 dX9_weightOf_15 ?_
    intro r4 M3 h
    exact g_iret ok hZ dX9_weightOf_18 h
  · have h := h.2 z
    refine g_bipush (v := (-3)) ok dX9_weightOf_8 (by decide) ?_
    refine g_goto (tgt := 18) ok dX9_weightOf_10 (by decide) ?_
    exact g_iret ok hZ dX9_weightOf_18 h
theorem dX9_hitting_0 : decode cX9_hitting 0 = .ok (.iconst 0, 1) := by decide +kernel
theorem dX9_hitting_1 : decode cX9_hitting 1 = .ok (.istore_n 2, 1) := by decide +kernel
theorem dX9_hitting_2 : decode cX9_hitting 2 = .ok (.iconst 0, 1) := by decide +kernel
theorem dX9_hitting_3 : decode cX9_hitting 3 = .ok (.istore_n 3, 1) := by decide +kernel
theorem dX9_hitting_4 : decode cX9_hitting 4 = .ok (.iload_n 3, 1) := by decide +kernel
theorem dX9_hitting_5 : decode cX9_hitting 5 = .ok (.aload_n 0, 1) := by decide +kernel
theorem dX9_hitting_6 : decode cX9_hitting 6 = .ok (.invokevirtual 70, 3) := by decide +kernel
theorem dX9_hitting_9 : decode cX9_hitting 9 = .ok (.if_icmp .gt 37, 3) := by decide +kernel
theorem dX9_hitting_12 : decode cX9_hitting 12 = .ok (.iload_n 2, 1) := by decide +kernel
theorem dX9_hitting_13 : decode cX9_hitting 13 = .ok (.iload_n 1, 1) := by decide +kernel
theorem dX9_hitting_14 : decode cX9_hitting 14 = .ok (.ifCond .lt 11, 3) := by decide +kernel
theorem dX9_hitting_17 : decode cX9_hitting 17 = .ok (.iload_n 3, 1) := by decide +kernel
theorem dX9_hitting_18 : decode cX9_hitting 18 = .ok (.invokestatic 119, 3) := by decide +kernel
theorem dX9_hitting_21 : decode cX9_hitting 21 = .ok (.iload_n 1, 1) := by decide +kernel
theorem dX9_hitting_22 : decode cX9_hitting 22 = .ok (.if_icmp .ne 15, 3) := by decide +kernel
theorem dX9_hitting_25 : decode cX9_hitting 25 = .ok (.aload_n 0, 1) := by decide +kernel
theorem dX9_hitting_26 : decode cX9_hitting 26 = .ok (.iload_n 3, 1) := by decide +kernel
theorem dX9_hitting_27 : decode cX9_hitting 27 = .ok (.invokevirtual 126, 3) := by decide +kernel
theorem dX9_hitting_30 : decode cX9_hitting 30 = .ok (.ifCond .ne 7, 3) := by decide +kernel
theorem dX9_hitting_33 : decode cX9_hitting 33 = .ok (.iconst 1, 1) := by decide +kernel
theorem dX9_hitting_34 : decode cX9_hitting 34 = .ok (.goto 4, 3) := by decide +kernel
theorem dX9_hitting_37 : decode cX9_hitting 37 = .ok (.iconst 0, 1) := by decide +kernel
theorem dX9_hitting_38 : decode cX9_hitting 38 = .ok (.iadd, 1) := by decide +kernel
theorem dX9_hitting_39 : decode cX9_hitting 39 = .ok (.istore_n 2, 1) := by decide +kernel
theorem dX9_hitting_40 : decode cX9_hitting 40 = .ok (.iinc 3 1, 3) := by decide +kernel
theorem dX9_hitting_43 : decode cX9_hitting 43 = .ok (.goto (-39), 3) := by decide +kernel
theorem dX9_hitting_46 : decode cX9_hitting 46 = .ok (.iload_n 2, 1) := by decide +kernel
theorem dX9_hitting_47 : decode cX9_hitting 47 = .ok (.ireturn, 1) := by decide +kernel
theorem s_X9_hitting : gSt yX9_hitting cX9_hitting 4 (some .int) 1 := ⟨q5_47, q1_10, ⟨by decide, by decide, by decide +kernel⟩, by decide⟩
theorem sel_X9_hitting : Cond.selects yX9_hitting.cls yX9_hitting yX9_hitting ∈ gT := qs_40
theorem ins_X9_hitting : Cond.instanceMethod yX9_hitting ∈ gT := q5_46
def w_X9_hitting_L4 (Q : Int32 → gM → Prop) (K46 : Int32 → Int32 → gM → Prop) (v1 : Int32) : Nat → Int32 → Int32 → gM → Prop
  | 0, _, _, _ => False
  | n + 1, v2, v3, M => w_X9_whole M (fun (r2 : Int32) (M1 : gM) => gbr ((r2 : Int32) < v3) (K46 (v2) (v3) M1) (gbr ((v1 : Int32) < 0) (w_X9_missedBy v3 M1 (fun (r4 : Int32) (M3 : gM) => gbr ((r4 : Int32) = 0) (∀ x7 : Int32, x7 = (v2 + 1) → (∀ x8 : Int32, x8 = (v3 + 1) → (w_X9_hitting_L4 Q K46 v1 n (x7) (x8) M3))) (∀ x5 : Int32, x5 = (v2 + 0) → (∀ x6 : Int32, x6 = (v3 + 1) → (w_X9_hitting_L4 Q K46 v1 n (x5) (x6) M3))))) (w_X9_bits v3 M1 (fun (r10 : Int32) (M9 : gM) => gbr ((r10 : Int32) = v1) (w_X9_missedBy v3 M9 (fun (r14 : Int32) (M13 : gM) => gbr ((r14 : Int32) = 0) (∀ x17 : Int32, x17 = (v2 + 1) → (∀ x18 : Int32, x18 = (v3 + 1) → (w_X9_hitting_L4 Q K46 v1 n (x17) (x18) M13))) (∀ x15 : Int32, x15 = (v2 + 0) → (∀ x16 : Int32, x16 = (v3 + 1) → (w_X9_hitting_L4 Q K46 v1 n (x15) (x16) M13))))) (∀ x11 : Int32, x11 = (v2 + 0) → (∀ x12 : Int32, x12 = (v3 + 1) → (w_X9_hitting_L4 Q K46 v1 n (x11) (x12) M9)))))))
def w_X9_hitting (p1 : Int32) (M : gM) (Q : Int32 → gM → Prop) : Prop := ∃ nf, w_X9_hitting_L4 Q (fun (x19 : Int32) (x20 : Int32) (M21 : gM) => Q x19 M21) p1 nf 0 0 M
set_option maxRecDepth 100000 in
set_option maxHeartbeats 4000000 in
theorem w_X9_hitting_L4_w {X : gX} (ok : gOk X cX9_hitting yX9_hitting.cls 2 4 (some .int) gN) {Q : Int32 → gM → Prop} (hZ : gZi X Q) {K46 : Int32 → Int32 → gM → Prop} (v1 : Int32) (hK46 : ∀ (v2 : Int32) (v3 : Int32)  (M : gM), K46 v2 v3 M → gW X 46 [some (.inr 42), some (.inl v1), some (.inl v2), some (.inl v3)] [] M) : ∀ (n : Nat) (v2 : Int32) (v3 : Int32)  (M : gM), w_X9_hitting_L4 Q K46 v1 n v2 v3 M → gW X 4 [some (.inr 42), some (.inl v1), some (.inl v2), some (.inl v3)] [] M
  | 0, _, _, _, h => h.elim
  | n + 1, v2, v3, M, h => by
    have ih := fun (v2 : Int32) (v3 : Int32)  (M : gM) h => w_X9_hitting_L4_w ok hZ v1 hK46 n v2 v3  M h
    rw [w_X9_hitting_L4.eq_2] at h
    refine g_iload_n ok dX9_hitting_4 rfl rfl ?_
    refine g_aload_n ok dX9_hitting_5 rfl rfl ?_
    refine g_callVi (st := [.inl v3]) (as := []) ok rfl (k_X9_whole h) s_X9_whole rfl (by decide) (gNm (by decide)) cl42 sel_X9_whole ins_X9_whole (gle rfl) rfl q4_102 dX9_hitting_6 ?_
    intro r2 M1 h
    refine g_icmp_gt (tgt := 46) ok dX9_hitting_9 (by decide) (fun z => ?_) (fun z => ?_)
    · have h := h.1 z
      exact hK46 (v2) (v3) M1 h
    · have h := h.2 z
      refine g_iload_n ok dX9_hitting_12 rfl rfl ?_
      refine g_iload_n ok dX9_hitting_13 rfl rfl ?_
      refine g_if_lt (tgt := 25) ok dX9_hitting_14 (by decide) (fun z => ?_) (fun z => ?_)
      · have h := h.1 z
        refine g_aload_n ok dX9_hitting_25 rfl rfl ?_
        refine g_iload_n ok dX9_hitting_26 rfl rfl ?_
        refine g_callVi (st := [.inl v2]) (as := [.inl v3]) ok rfl (k_X9_missedBy h) s_X9_missedBy rfl (by decide) (gNm (by decide)) cl42 sel_X9_missedBy ins_X9_missedBy (gle rfl) rfl q4_189 dX9_hitting_27 ?_
        intro r4 M3 h
        refine g_if_ne (tgt := 37) ok dX9_hitting_30 (by decide) (fun z => ?_) (fun z => ?_)
        · have h := h.2 z
          refine g_iconst (v := 0) ok dX9_hitting_37 (by decide) ?_
          refine g_iadd ok dX9_hitting_38 ?_
          refine g_nm (fun x5 ex5 => ?_)
          have h := h x5 ex5
          refine g_istore_n (lv1 := [some (.inr 42), some (.inl v1), some (.inl x5), some (.inl v3)]) ok dX9_hitting_39 rfl (glt rfl) rfl ?_
          obtain ⟨x6, ex6⟩ : ∃ y : Int32, y = (v3 + 1) := ⟨_, rfl⟩
          have h := h x6 ex6
          refine g_iinc (v := x6) (lv1 := [some (.inr 42), some (.inl v1), some (.inl x5), some (.inl x6)]) ok dX9_hitting_40 rfl (by rw [ex6]; rfl) rfl ?_
          refine g_goto (tgt := 4) ok dX9_hitting_43 (by decide) ?_
          exact ih (x5) (x6) M3 h
        · have h := h.1 z
          refine g_iconst (v := 1) ok dX9_hitting_33 (by decide) ?_
          refine g_goto (tgt := 38) ok dX9_hitting_34 (by decide) ?_
          refine g_iadd ok dX9_hitting_38 ?_
          refine g_nm (fun x7 ex7 => ?_)
          have h := h x7 ex7
          refine g_istore_n (lv1 := [some (.inr 42), some (.inl v1), some (.inl x7), some (.inl v3)]) ok dX9_hitting_39 rfl (glt rfl) rfl ?_
          obtain ⟨x8, ex8⟩ : ∃ y : Int32, y = (v3 + 1) := ⟨_, rfl⟩
          have h := h x8 ex8
          refine g_iinc (v := x8) (lv1 := [some (.inr 42), some (.inl v1), some (.inl x7), some (.inl x8)]) ok dX9_hitting_40 rfl (by rw [ex8]; rfl) rfl ?_
          refine g_goto (tgt := 4) ok dX9_hitting_43 (by decide) ?_
          exact ih (x7) (x8) M3 h
      · have h := h.2 z
        refine g_iload_n ok dX9_hitting_17 rfl rfl ?_
        refine g_callSi (st := [.inl v2]) (as := [.inl v3]) ok rfl (k_X9_bits h) s_X9_bits rfl (by decide) stt_X9_bits (gle rfl) rfl q4_162 dX9_hitting_18 ?_
        intro r10 M9 h
        refine g_iload_n ok dX9_hitting_21 rfl rfl ?_
        refine g_icmp_ne (tgt := 37) ok dX9_hitting_22 (by decide) (fun z => ?_) (fun z => ?_)
        · have h := h.2 z
          refine g_iconst (v := 0) ok dX9_hitting_37 (by decide) ?_
          refine g_iadd ok dX9_hitting_38 ?_
          refine g_nm (fun x11 ex11 => ?_)
          have h := h x11 ex11
          refine g_istore_n (lv1 := [some (.inr 42), some (.inl v1), some (.inl x11), some (.inl v3)]) ok dX9_hitting_39 rfl (glt rfl) rfl ?_
          obtain ⟨x12, ex12⟩ : ∃ y : Int32, y = (v3 + 1) := ⟨_, rfl⟩
          have h := h x12 ex12
          refine g_iinc (v := x12) (lv1 := [some (.inr 42), some (.inl v1), some (.inl x11), some (.inl x12)]) ok dX9_hitting_40 rfl (by rw [ex12]; rfl) rfl ?_
          refine g_goto (tgt := 4) ok dX9_hitting_43 (by decide) ?_
          exact ih (x11) (x12) M9 h
        · have h := h.1 z
          refine g_aload_n ok dX9_hitting_25 rfl rfl ?_
          refine g_iload_n ok dX9_hitting_26 rfl rfl ?_
          refine g_callVi (st := [.inl v2]) (as := [.inl v3]) ok rfl (k_X9_missedBy h) s_X9_missedBy rfl (by decide) (gNm (by decide)) cl42 sel_X9_missedBy ins_X9_missedBy (gle rfl) rfl q4_189 dX9_hitting_27 ?_
          intro r14 M13 h
          refine g_if_ne (tgt := 37) ok dX9_hitting_30 (by decide) (fun z => ?_) (fun z => ?_)
          · have h := h.2 z
            refine g_iconst (v := 0) ok dX9_hitting_37 (by decide) ?_
            refine g_iadd ok dX9_hitting_38 ?_
            refine g_nm (fun x15 ex15 => ?_)
            have h := h x15 ex15
            refine g_istore_n (lv1 := [some (.inr 42), some (.inl v1), some (.inl x15), some (.inl v3)]) ok dX9_hitting_39 rfl (glt rfl) rfl ?_
            obtain ⟨x16, ex16⟩ : ∃ y : Int32, y = (v3 + 1) := ⟨_, rfl⟩
            have h := h x16 ex16
            refine g_iinc (v := x16) (lv1 := [some (.inr 42), some (.inl v1), some (.inl x15), some (.inl x16)]) ok dX9_hitting_40 rfl (by rw [ex16]; rfl) rfl ?_
            refine g_goto (tgt := 4) ok dX9_hitting_43 (by decide) ?_
            exact ih (x15) (x16) M13 h
          · have h := h.1 z
            refine g_iconst (v := 1) ok dX9_hitting_33 (by decide) ?_
            refine g_goto (tgt := 38) ok dX9_hitting_34 (by decide) ?_
            refine g_iadd ok dX9_hitting_38 ?_
            refine g_nm (fun x17 ex17 => ?_)
            have h := h x17 ex17
            refine g_istore_n (lv1 := [some (.inr 42), some (.inl v1), some (.inl x17), some (.inl v3)]) ok dX9_hitting_39 rfl (glt rfl) rfl ?_
            obtain ⟨x18, ex18⟩ : ∃ y : Int32, y = (v3 + 1) := ⟨_, rfl⟩
            have h := h x18 ex18
            refine g_iinc (v := x18) (lv1 := [some (.inr 42), some (.inl v1), some (.inl x17), some (.inl x18)]) ok dX9_hitting_40 rfl (by rw [ex18]; rfl) rfl ?_
            refine g_goto (tgt := 4) ok dX9_hitting_43 (by decide) ?_
            exact ih (x17) (x18) M13 h
set_option maxRecDepth 100000 in
set_option maxHeartbeats 4000000 in
theorem k_X9_hitting {p1 : Int32} {M : gM} {Q : Int32 → gM → Prop} (h : w_X9_hitting p1 M Q) : gCi gN 2 yX9_hitting cX9_hitting 4 .int [.inr 42, .inl p1] M Q := by
  refine gCi_of (by decide) gNn (gle rfl) (fun X ok hZ => ?_)
  show gW X 0 [some (.inr 42), some (.inl p1), none, none] [] M
  unfold w_X9_hitting at h
  refine g_iconst (v := 0) ok dX9_hitting_0 (by decide) ?_
  refine g_istore_n (lv1 := [some (.inr 42), some (.inl p1), some (.inl 0), none]) ok dX9_hitting_1 rfl (glt rfl) rfl ?_
  refine g_iconst (v := 0) ok dX9_hitting_2 (by decide) ?_
  refine g_istore_n (lv1 := [some (.inr 42), some (.inl p1), some (.inl 0), some (.inl 0)]) ok dX9_hitting_3 rfl (glt rfl) rfl ?_
  obtain ⟨nf, h⟩ := h
  refine w_X9_hitting_L4_w ok hZ p1 ?_ nf 0 0  M h
  · intro x19 x20  M21 h
    refine g_iload_n ok dX9_hitting_46 rfl rfl ?_
    exact g_iret ok hZ dX9_hitting_47 h
theorem dX9_hittingSets_0 : decode cX9_hittingSets 0 = .ok (.iload_n 1, 1) := by decide +kernel
theorem dX9_hittingSets_1 : decode cX9_hittingSets 1 = .ok (.iconst (-1), 1) := by decide +kernel
theorem dX9_hittingSets_2 : decode cX9_hittingSets 2 = .ok (.aload_n 0, 1) := by decide +kernel
theorem dX9_hittingSets_3 : decode cX9_hittingSets 3 = .ok (.getfield 59, 3) := by decide +kernel
theorem dX9_hittingSets_6 : decode cX9_hittingSets 6 = .ok (.invokestatic 66, 3) := by decide +kernel
theorem dX9_hittingSets_9 : decode cX9_hittingSets 9 = .ok (.ifCond .eq 11, 3) := by decide +kernel
theorem dX9_hittingSets_12 : decode cX9_hittingSets 12 = .ok (.aload_n 0, 1) := by decide +kernel
theorem dX9_hittingSets_13 : decode cX9_hittingSets 13 = .ok (.iload_n 1, 1) := by decide +kernel
theorem dX9_hittingSets_14 : decode cX9_hittingSets 14 = .ok (.invokevirtual 163, 3) := by decide +kernel
theorem dX9_hittingSets_17 : decode cX9_hittingSets 17 = .ok (.goto 5, 3) := by decide +kernel
theorem dX9_hittingSets_20 : decode cX9_hittingSets 20 = .ok (.bipush (-3), 2) := by decide +kernel
theorem dX9_hittingSets_22 : decode cX9_hittingSets 22 = .ok (.ireturn, 1) := by decide +kernel
theorem s_X9_hittingSets : gSt yX9_hittingSets cX9_hittingSets 2 (some .int) 1 := ⟨q5_43, q1_10, ⟨by decide, by decide, by decide +kernel⟩, by decide⟩
theorem sel_X9_hittingSets : Cond.selects yX9_hittingSets.cls yX9_hittingSets yX9_hittingSets ∈ gT := q5_42
theorem ins_X9_hittingSets : Cond.instanceMethod yX9_hittingSets ∈ gT := q5_41
def w_X9_hittingSets (p1 : Int32) (M : gM) (Q : Int32 → gM → Prop) : Prop := w_X9_in p1 (-1) (M 42 0) M (fun (r2 : Int32) (M1 : gM) => gbr ((r2 : Int32) = 0) (Q (-3) M1) (w_X9_hitting p1 M1 (fun (r4 : Int32) (M3 : gM) => Q r4 M3)))
set_option maxRecDepth 100000 in
set_option maxHeartbeats 4000000 in
theorem k_X9_hittingSets {p1 : Int32} {M : gM} {Q : Int32 → gM → Prop} (h : w_X9_hittingSets p1 M Q) : gCi gN 3 yX9_hittingSets cX9_hittingSets 2 .int [.inr 42, .inl p1] M Q := by
  refine gCi_of (by decide) gNn (gle rfl) (fun X ok hZ => ?_)
  show gW X 0 [some (.inr 42), some (.inl p1)] [] M
  unfold w_X9_hittingSets at h
  refine g_iload_n ok dX9_hittingSets_0 rfl rfl ?_
  refine g_iconst (v := (-1)) ok dX9_hittingSets_1 (by decide) ?_
  refine g_aload_n ok dX9_hittingSets_2 rfl rfl ?_
  refine g_get (w := .inl (M 42 0)) ok f42_0 (gNm (by decide)) q3_234 dX9_hittingSets_3 rfl ?_
  refine g_callSi (st := []) (as := [.inl p1, .inl (-1), .inl (M 42 0)]) ok rfl (k_X9_in h) s_X9_in rfl (by decide) stt_X9_in (gle rfl) rfl q4_83 dX9_hittingSets_6 ?_
  intro r2 M1 h
  refine g_if_eq (tgt := 20) ok dX9_hittingSets_9 (by decide) (fun z => ?_) (fun z => ?_)
  · have h := h.1 z
    refine g_bipush (v := (-3)) ok dX9_hittingSets_20 (by decide) ?_
    exact g_iret ok hZ dX9_hittingSets_22 h
  · have h := h.2 z
    refine g_aload_n ok dX9_hittingSets_12 rfl rfl ?_
    refine g_iload_n ok dX9_hittingSets_13 rfl rfl ?_
    refine g_callVi (st := []) (as := [.inl p1]) ok rfl (k_X9_hitting h) s_X9_hitting rfl (by decide) (gNm (by decide)) cl42 sel_X9_hitting ins_X9_hitting (gle rfl) rfl q5_44 dX9_hittingSets_14 ?_
    intro r4 M3 h
    refine g_goto (tgt := 22) ok dX9_hittingSets_17 (by decide) ?_
    exact g_iret ok hZ dX9_hittingSets_22 h
theorem dX9_layFamily_0 : decode cX9_layFamily 0 = .ok (.iconst 0, 1) := by decide +kernel
theorem dX9_layFamily_1 : decode cX9_layFamily 1 = .ok (.istore_n 2, 1) := by decide +kernel
theorem dX9_layFamily_2 : decode cX9_layFamily 2 = .ok (.iload_n 2, 1) := by decide +kernel
theorem dX9_layFamily_3 : decode cX9_layFamily 3 = .ok (.aload_n 0, 1) := by decide +kernel
theorem dX9_layFamily_4 : decode cX9_layFamily 4 = .ok (.invokevirtual 70, 3) := by decide +kernel
theorem dX9_layFamily_7 : decode cX9_layFamily 7 = .ok (.if_icmp .gt 33, 3) := by decide +kernel
theorem dX9_layFamily_10 : decode cX9_layFamily 10 = .ok (.aload_n 0, 1) := by decide +kernel
theorem dX9_layFamily_11 : decode cX9_layFamily 11 = .ok (.getfield 40, 3) := by decide +kernel
theorem dX9_layFamily_14 : decode cX9_layFamily 14 = .ok (.iload_n 2, 1) := by decide +kernel
theorem dX9_layFamily_15 : decode cX9_layFamily 15 = .ok (.iload_n 1, 1) := by decide +kernel
theorem dX9_layFamily_16 : decode cX9_layFamily 16 = .ok (.iconst 2, 1) := by decide +kernel
theorem dX9_layFamily_17 : decode cX9_layFamily 17 = .ok (.if_icmp .ne 15, 3) := by decide +kernel
theorem dX9_layFamily_20 : decode cX9_layFamily 20 = .ok (.aload_n 0, 1) := by decide +kernel
theorem dX9_layFamily_21 : decode cX9_layFamily 21 = .ok (.iload_n 2, 1) := by decide +kernel
theorem dX9_layFamily_22 : decode cX9_layFamily 22 = .ok (.invokevirtual 126, 3) := by decide +kernel
theorem dX9_layFamily_25 : decode cX9_layFamily 25 = .ok (.ifCond .ne 7, 3) := by decide +kernel
theorem dX9_layFamily_28 : decode cX9_layFamily 28 = .ok (.iconst 1, 1) := by decide +kernel
theorem dX9_layFamily_29 : decode cX9_layFamily 29 = .ok (.goto 4, 3) := by decide +kernel
theorem dX9_layFamily_32 : decode cX9_layFamily 32 = .ok (.iconst 0, 1) := by decide +kernel
theorem dX9_layFamily_33 : decode cX9_layFamily 33 = .ok (.iastore, 1) := by decide +kernel
theorem dX9_layFamily_34 : decode cX9_layFamily 34 = .ok (.iinc 2 1, 3) := by decide +kernel
theorem dX9_layFamily_37 : decode cX9_layFamily 37 = .ok (.goto (-35), 3) := by decide +kernel
theorem dX9_layFamily_40 : decode cX9_layFamily 40 = .ok (.iconst 0, 1) := by decide +kernel
theorem dX9_layFamily_41 : decode cX9_layFamily 41 = .ok (.istore_n 2, 1) := by decide +kernel
theorem dX9_layFamily_42 : decode cX9_layFamily 42 = .ok (.iload_n 2, 1) := by decide +kernel
theorem dX9_layFamily_43 : decode cX9_layFamily 43 = .ok (.aload_n 0, 1) := by decide +kernel
theorem dX9_layFamily_44 : decode cX9_layFamily 44 = .ok (.invokevirtual 80, 3) := by decide +kernel
theorem dX9_layFamily_47 : decode cX9_layFamily 47 = .ok (.if_icmp .ge 25, 3) := by decide +kernel
theorem dX9_layFamily_50 : decode cX9_layFamily 50 = .ok (.iload_n 1, 1) := by decide +kernel
theorem dX9_layFamily_51 : decode cX9_layFamily 51 = .ok (.ifCond .ne 21, 3) := by decide +kernel
theorem dX9_layFamily_54 : decode cX9_layFamily 54 = .ok (.aload_n 0, 1) := by decide +kernel
theorem dX9_layFamily_55 : decode cX9_layFamily 55 = .ok (.getfield 40, 3) := by decide +kernel
theorem dX9_layFamily_58 : decode cX9_layFamily 58 = .ok (.aload_n 0, 1) := by decide +kernel
theorem dX9_layFamily_59 : decode cX9_layFamily 59 = .ok (.getfield 7, 3) := by decide +kernel
theorem dX9_layFamily_62 : decode cX9_layFamily 62 = .ok (.iload_n 2, 1) := by decide +kernel
theorem dX9_layFamily_63 : decode cX9_layFamily 63 = .ok (.iaload, 1) := by decide +kernel
theorem dX9_layFamily_64 : decode cX9_layFamily 64 = .ok (.iconst 1, 1) := by decide +kernel
theorem dX9_layFamily_65 : decode cX9_layFamily 65 = .ok (.iastore, 1) := by decide +kernel
theorem dX9_layFamily_66 : decode cX9_layFamily 66 = .ok (.iinc 2 1, 3) := by decide +kernel
theorem dX9_layFamily_69 : decode cX9_layFamily 69 = .ok (.goto (-27), 3) := by decide +kernel
theorem dX9_layFamily_72 : decode cX9_layFamily 72 = .ok (.iconst 0, 1) := by decide +kernel
theorem dX9_layFamily_73 : decode cX9_layFamily 73 = .ok (.istore_n 2, 1) := by decide +kernel
theorem dX9_layFamily_74 : decode cX9_layFamily 74 = .ok (.iload_n 2, 1) := by decide +kernel
theorem dX9_layFamily_75 : decode cX9_layFamily 75 = .ok (.aload_n 0, 1) := by decide +kernel
theorem dX9_layFamily_76 : decode cX9_layFamily 76 = .ok (.getfield 135, 3) := by decide +kernel
theorem dX9_layFamily_79 : decode cX9_layFamily 79 = .ok (.if_icmp .ge 26, 3) := by decide +kernel
theorem dX9_layFamily_82 : decode cX9_layFamily 82 = .ok (.iload_n 1, 1) := by decide +kernel
theorem dX9_layFamily_83 : decode cX9_layFamily 83 = .ok (.iconst 1, 1) := by decide +kernel
theorem dX9_layFamily_84 : decode cX9_layFamily 84 = .ok (.if_icmp .ne 21, 3) := by decide +kernel
theorem dX9_layFamily_87 : decode cX9_layFamily 87 = .ok (.aload_n 0, 1) := by decide +kernel
theorem dX9_layFamily_88 : decode cX9_layFamily 88 = .ok (.getfield 40, 3) := by decide +kernel
theorem dX9_layFamily_91 : decode cX9_layFamily 91 = .ok (.aload_n 0, 1) := by decide +kernel
theorem dX9_layFamily_92 : decode cX9_layFamily 92 = .ok (.getfield 22, 3) := by decide +kernel
theorem dX9_layFamily_95 : decode cX9_layFamily 95 = .ok (.iload_n 2, 1) := by decide +kernel
theorem dX9_layFamily_96 : decode cX9_layFamily 96 = .ok (.iaload, 1) := by decide +kernel
theorem dX9_layFamily_97 : decode cX9_layFamily 97 = .ok (.iconst 1, 1) := by decide +kernel
theorem dX9_layFamily_98 : decode cX9_layFamily 98 = .ok (.iastore, 1) := by decide +kernel
theorem dX9_layFamily_99 : decode cX9_layFamily 99 = .ok (.iinc 2 1, 3) := by decide +kernel
theorem dX9_layFamily_102 : decode cX9_layFamily 102 = .ok (.goto (-28), 3) := by decide +kernel
theorem dX9_layFamily_105 : decode cX9_layFamily 105 = .ok (.return_, 1) := by decide +kernel
theorem s_X9_layFamily : gSt yX9_layFamily cX9_layFamily 3 none 1 := ⟨q5_67, q1_10, ⟨by decide, by decide, by decide +kernel⟩, by decide⟩
theorem sel_X9_layFamily : Cond.selects yX9_layFamily.cls yX9_layFamily yX9_layFamily ∈ gT := qs_43
theorem ins_X9_layFamily : Cond.instanceMethod yX9_layFamily ∈ gT := q5_66
def w_X9_layFamily_L2 (Q : gM → Prop) (K40 : Int32 → gM → Prop) (v1 : Int32) : Nat → Int32 → gM → Prop
  | 0, _, _ => False
  | n + 1, v2, M => w_X9_whole M (fun (r2 : Int32) (M1 : gM) => gbr ((r2 : Int32) < v2) (K40 (v2) M1) (gbr ((v1 : Int32) = 2) (w_X9_missedBy v2 M1 (fun (r6 : Int32) (M5 : gM) => gbr ((r6 : Int32) = 0) (vp_in v2 16384 ∧ ∀ M9 : gM, M9 = gst M5 53 (Int32.toNatClampNeg v2) 1 → (∀ x10 : Int32, x10 = (v2 + 1) → (w_X9_layFamily_L2 Q K40 v1 n (x10) M9))) (vp_in v2 16384 ∧ ∀ M7 : gM, M7 = gst M5 53 (Int32.toNatClampNeg v2) 0 → (∀ x8 : Int32, x8 = (v2 + 1) → (w_X9_layFamily_L2 Q K40 v1 n (x8) M7))))) (vp_in v2 16384 ∧ ∀ M3 : gM, M3 = gst M1 53 (Int32.toNatClampNeg v2) 0 → (∀ x4 : Int32, x4 = (v2 + 1) → (w_X9_layFamily_L2 Q K40 v1 n (x4) M3)))))
def w_X9_layFamily_L42 (Q : gM → Prop) (K72 : Int32 → gM → Prop) (v1 : Int32) : Nat → Int32 → gM → Prop
  | 0, _, _ => False
  | n + 1, v2, M => w_X9_many M (fun (r14 : Int32) (M13 : gM) => gbr ((v2 : Int32) < r14) (gbr ((v1 : Int32) = 0) (vp_in v2 25 ∧ (vp_in (M13 43 (Int32.toNatClampNeg v2)) 16384 ∧ ∀ M15 : gM, M15 = gst M13 53 (Int32.toNatClampNeg (M13 43 (Int32.toNatClampNeg v2))) 1 → (∀ x16 : Int32, x16 = (v2 + 1) → (w_X9_layFamily_L42 Q K72 v1 n (x16) M15)))) (K72 (v2) M13)) (K72 (v2) M13))
def w_X9_layFamily_L74 (Q : gM → Prop) (K105 : Int32 → gM → Prop) (v1 : Int32) : Nat → Int32 → gM → Prop
  | 0, _, _ => False
  | n + 1, v2, M => gbr ((v2 : Int32) < (M 42 7)) (gbr ((v1 : Int32) = 1) (vp_in v2 4000 ∧ (vp_in (M 47 (Int32.toNatClampNeg v2)) 16384 ∧ ∀ M19 : gM, M19 = gst M 53 (Int32.toNatClampNeg (M 47 (Int32.toNatClampNeg v2))) 1 → (∀ x20 : Int32, x20 = (v2 + 1) → (w_X9_layFamily_L74 Q K105 v1 n (x20) M19)))) (K105 (v2) M)) (K105 (v2) M)
def w_X9_layFamily (p1 : Int32) (M : gM) (Q : gM → Prop) : Prop := ∃ nf, w_X9_layFamily_L2 Q (fun (x11 : Int32) (M12 : gM) => ∃ nf, w_X9_layFamily_L42 Q (fun (x17 : Int32) (M18 : gM) => ∃ nf, w_X9_layFamily_L74 Q (fun (x21 : Int32) (M22 : gM) => Q M22) p1 nf 0 M18) p1 nf 0 M12) p1 nf 0 M
set_option maxRecDepth 100000 in
set_option maxHeartbeats 4000000 in
theorem w_X9_layFamily_L2_w {X : gX} (ok : gOk X cX9_layFamily yX9_layFamily.cls 2 3 none gN) {Q : gM → Prop} (hZ : gZv X Q) {K40 : Int32 → gM → Prop} (v1 : Int32) (hK40 : ∀ (v2 : Int32)  (M : gM), K40 v2 M → gW X 40 [some (.inr 42), some (.inl v1), some (.inl v2)] [] M) : ∀ (n : Nat) (v2 : Int32)  (M : gM), w_X9_layFamily_L2 Q K40 v1 n v2 M → gW X 2 [some (.inr 42), some (.inl v1), some (.inl v2)] [] M
  | 0, _, _, h => h.elim
  | n + 1, v2, M, h => by
    have ih := fun (v2 : Int32)  (M : gM) h => w_X9_layFamily_L2_w ok hZ v1 hK40 n v2  M h
    rw [w_X9_layFamily_L2.eq_2] at h
    refine g_iload_n ok dX9_layFamily_2 rfl rfl ?_
    refine g_aload_n ok dX9_layFamily_3 rfl rfl ?_
    refine g_callVi (st := [.inl v2]) (as := []) ok rfl (k_X9_whole h) s_X9_whole rfl (by decide) (gNm (by decide)) cl42 sel_X9_whole ins_X9_whole (gle rfl) rfl q4_102 dX9_layFamily_4 ?_
    intro r2 M1 h
    refine g_icmp_gt (tgt := 40) ok dX9_layFamily_7 (by decide) (fun z => ?_) (fun z => ?_)
    · have h := h.1 z
      exact hK40 (v2) M1 h
    · have h := h.2 z
      refine g_aload_n ok dX9_layFamily_10 rfl rfl ?_
      refine g_get (w := .inr 53) ok f42_17 (gNm (by decide)) q4_11 dX9_layFamily_11 rfl ?_
      refine g_iload_n ok dX9_layFamily_14 rfl rfl ?_
      refine g_iload_n ok dX9_layFamily_15 rfl rfl ?_
      refine g_iconst (v := 2) ok dX9_layFamily_16 (by decide) ?_
      refine g_icmp_ne (tgt := 32) ok dX9_layFamily_17 (by decide) (fun z => ?_) (fun z => ?_)
      · have h := h.2 z
        refine g_iconst (v := 0) ok dX9_layFamily_32 (by decide) ?_
        have hb := h.1
        have h := h.2
        refine g_iast ok a53 (gNm (by decide)) dX9_layFamily_33 hb (g_mem (fun M3 eM3 => ?_))
        have h := h M3 eM3
        obtain ⟨x4, ex4⟩ : ∃ y : Int32, y = (v2 + 1) := ⟨_, rfl⟩
        have h := h x4 ex4
        refine g_iinc (v := x4) (lv1 := [some (.inr 42), some (.inl v1), some (.inl x4)]) ok dX9_layFamily_34 rfl (by rw [ex4]; rfl) rfl ?_
        refine g_goto (tgt := 2) ok dX9_layFamily_37 (by decide) ?_
        exact ih (x4) M3 h
      · have h := h.1 z
        refine g_aload_n ok dX9_layFamily_20 rfl rfl ?_
        refine g_iload_n ok dX9_layFamily_21 rfl rfl ?_
        refine g_callVi (st := [.inl v2, .inr 53]) (as := [.inl v2]) ok rfl (k_X9_missedBy h) s_X9_missedBy rfl (by decide) (gNm (by decide)) cl42 sel_X9_missedBy ins_X9_missedBy (gle rfl) rfl q4_189 dX9_layFamily_22 ?_
        intro r6 M5 h
        refine g_if_ne (tgt := 32) ok dX9_layFamily_25 (by decide) (fun z => ?_) (fun z => ?_)
        · have h := h.2 z
          refine g_iconst (v := 0) ok dX9_layFamily_32 (by decide) ?_
          have hb := h.1
          have h := h.2
          refine g_iast ok a53 (gNm (by decide)) dX9_layFamily_33 hb (g_mem (fun M7 eM7 => ?_))
          have h := h M7 eM7
          obtain ⟨x8, ex8⟩ : ∃ y : Int32, y = (v2 + 1) := ⟨_, rfl⟩
          have h := h x8 ex8
          refine g_iinc (v := x8) (lv1 := [some (.inr 42), some (.inl v1), some (.inl x8)]) ok dX9_layFamily_34 rfl (by rw [ex8]; rfl) rfl ?_
          refine g_goto (tgt := 2) ok dX9_layFamily_37 (by decide) ?_
          exact ih (x8) M7 h
        · have h := h.1 z
          refine g_iconst (v := 1) ok dX9_layFamily_28 (by decide) ?_
          refine g_goto (tgt := 33) ok dX9_layFamily_29 (by decide) ?_
          have hb := h.1
          have h := h.2
          refine g_iast ok a53 (gNm (by decide)) dX9_layFamily_33 hb (g_mem (fun M9 eM9 => ?_))
          have h := h M9 eM9
          obtain ⟨x10, ex10⟩ : ∃ y : Int32, y = (v2 + 1) := ⟨_, rfl⟩
          have h := h x10 ex10
          refine g_iinc (v := x10) (lv1 := [some (.inr 42), some (.inl v1), some (.inl x10)]) ok dX9_layFamily_34 rfl (by rw [ex10]; rfl) rfl ?_
          refine g_goto (tgt := 2) ok dX9_layFamily_37 (by decide) ?_
          exact ih (x10) M9 h
set_option maxRecDepth 100000 in
set_option maxHeartbeats 4000000 in
theorem w_X9_layFamily_L42_w {X : gX} (ok : gOk X cX9_layFamily yX9_layFamily.cls 2 3 none gN) {Q : gM → Prop} (hZ : gZv X Q) {K72 : Int32 → gM → Prop} (v1 : Int32) (hK72 : ∀ (v2 : Int32)  (M : gM), K72 v2 M → gW X 72 [some (.inr 42), some (.inl v1), some (.inl v2)] [] M) : ∀ (n : Nat) (v2 : Int32)  (M : gM), w_X9_layFamily_L42 Q K72 v1 n v2 M → gW X 42 [some (.inr 42), some (.inl v1), some (.inl v2)] [] M
  | 0, _, _, h => h.elim
  | n + 1, v2, M, h => by
    have ih := fun (v2 : Int32)  (M : gM) h => w_X9_layFamily_L42_w ok hZ v1 hK72 n v2  M h
    rw [w_X9_layFamily_L42.eq_2] at h
    refine g_iload_n ok dX9_layFamily_42 rfl rfl ?_
    refine g_aload_n ok dX9_layFamily_43 rfl rfl ?_
    refine g_callVi (st := [.inl v2]) (as := []) ok rfl (k_X9_many h) s_X9_many rfl (by decide) (gNm (by decide)) cl42 sel_X9_many ins_X9_many (gle rfl) rfl q4_110 dX9_layFamily_44 ?_
    intro r14 M13 h
    refine g_icmp_ge (tgt := 72) ok dX9_layFamily_47 (by decide) (fun z => ?_) (fun z => ?_)
    · have h := h.2 z
      exact hK72 (v2) M13 h
    · have h := h.1 z
      refine g_iload_n ok dX9_layFamily_50 rfl rfl ?_
      refine g_if_ne (tgt := 72) ok dX9_layFamily_51 (by decide) (fun z => ?_) (fun z => ?_)
      · have h := h.2 z
        exact hK72 (v2) M13 h
      · have h := h.1 z
        refine g_aload_n ok dX9_layFamily_54 rfl rfl ?_
        refine g_get (w := .inr 53) ok f42_17 (gNm (by decide)) q4_11 dX9_layFamily_55 rfl ?_
        refine g_aload_n ok dX9_layFamily_58 rfl rfl ?_
        refine g_get (w := .inr 43) ok f42_1 (gNm (by decide)) q3_235 dX9_layFamily_59 rfl ?_
        refine g_iload_n ok dX9_layFamily_62 rfl rfl ?_
        have hb := h.1
        have h := h.2
        refine g_iald (w := (M13 43 (Int32.toNatClampNeg v2))) ok a43 (gNm (by decide)) dX9_layFamily_63 hb rfl ?_
        refine g_iconst (v := 1) ok dX9_layFamily_64 (by decide) ?_
        have hb := h.1
        have h := h.2
        refine g_iast ok a53 (gNm (by decide)) dX9_layFamily_65 hb (g_mem (fun M15 eM15 => ?_))
        have h := h M15 eM15
        obtain ⟨x16, ex16⟩ : ∃ y : Int32, y = (v2 + 1) := ⟨_, rfl⟩
        have h := h x16 ex16
        refine g_iinc (v := x16) (lv1 := [some (.inr 42), some (.inl v1), some (.inl x16)]) ok dX9_layFamily_66 rfl (by rw [ex16]; rfl) rfl ?_
        refine g_goto (tgt := 42) ok dX9_layFamily_69 (by decide) ?_
        exact ih (x16) M15 h
set_option maxRecDepth 100000 in
set_option maxHeartbeats 4000000 in
theorem w_X9_layFamily_L74_w {X : gX} (ok : gOk X cX9_layFamily yX9_layFamily.cls 2 3 none gN) {Q : gM → Prop} (hZ : gZv X Q) {K105 : Int32 → gM → Prop} (v1 : Int32) (hK105 : ∀ (v2 : Int32)  (M : gM), K105 v2 M → gW X 105 [some (.inr 42), some (.inl v1), some (.inl v2)] [] M) : ∀ (n : Nat) (v2 : Int32)  (M : gM), w_X9_layFamily_L74 Q K105 v1 n v2 M → gW X 74 [some (.inr 42), some (.inl v1), some (.inl v2)] [] M
  | 0, _, _, h => h.elim
  | n + 1, v2, M, h => by
    have ih := fun (v2 : Int32)  (M : gM) h => w_X9_layFamily_L74_w ok hZ v1 hK105 n v2  M h
    rw [w_X9_layFamily_L74.eq_2] at h
    refine g_iload_n ok dX9_layFamily_74 rfl rfl ?_
    refine g_aload_n ok dX9_layFamily_75 rfl rfl ?_
    refine g_get (w := .inl (M 42 7)) ok f42_7 (gNm (by decide)) q4_1 dX9_layFamily_76 rfl ?_
    refine g_icmp_ge (tgt := 105) ok dX9_layFamily_79 (by decide) (fun z => ?_) (fun z => ?_)
    · have h := h.2 z
      exact hK105 (v2) M h
    · have h := h.1 z
      refine g_iload_n ok dX9_layFamily_82 rfl rfl ?_
      refine g_iconst (v := 1) ok dX9_layFamily_83 (by decide) ?_
      refine g_icmp_ne (tgt := 105) ok dX9_layFamily_84 (by decide) (fun z => ?_) (fun z => ?_)
      · have h := h.2 z
        exact hK105 (v2) M h
      · have h := h.1 z
        refine g_aload_n ok dX9_layFamily_87 rfl rfl ?_
        refine g_get (w := .inr 53) ok f42_17 (gNm (by decide)) q4_11 dX9_layFamily_88 rfl ?_
        refine g_aload_n ok dX9_layFamily_91 rfl rfl ?_
        refine g_get (w := .inr 47) ok f42_10 (gNm (by decide)) q4_4 dX9_layFamily_92 rfl ?_
        refine g_iload_n ok dX9_layFamily_95 rfl rfl ?_
        have hb := h.1
        have h := h.2
        refine g_iald (w := (M 47 (Int32.toNatClampNeg v2))) ok a47 (gNm (by decide)) dX9_layFamily_96 hb rfl ?_
        refine g_iconst (v := 1) ok dX9_layFamily_97 (by decide) ?_
        have hb := h.1
        have h := h.2
        refine g_iast ok a53 (gNm (by decide)) dX9_layFamily_98 hb (g_mem (fun M19 eM19 => ?_))
        have h := h M19 eM19
        obtain ⟨x20, ex20⟩ : ∃ y : Int32, y = (v2 + 1) := ⟨_, rfl⟩
        have h := h x20 ex20
        refine g_iinc (v := x20) (lv1 := [some (.inr 42), some (.inl v1), some (.inl x20)]) ok dX9_layFamily_99 rfl (by rw [ex20]; rfl) rfl ?_
        refine g_goto (tgt := 74) ok dX9_layFamily_102 (by decide) ?_
        exact ih (x20) M19 h
set_option maxRecDepth 100000 in
set_option maxHeartbeats 4000000 in
theorem k_X9_layFamily {p1 : Int32} {M : gM} {Q : gM → Prop} (h : w_X9_layFamily p1 M Q) : gCv gN 2 yX9_layFamily cX9_layFamily 3 [.inr 42, .inl p1] M Q := by
  refine gCv_of (by decide) gNn (gle rfl) (fun X ok hZ => ?_)
  show gW X 0 [some (.inr 42), some (.inl p1), none] [] M
  unfold w_X9_layFamily at h
  refine g_iconst (v := 0) ok dX9_layFamily_0 (by decide) ?_
  refine g_istore_n (lv1 := [some (.inr 42), some (.inl p1), some (.inl 0)]) ok dX9_layFamily_1 rfl (glt rfl) rfl ?_
  obtain ⟨nf, h⟩ := h
  refine w_X9_layFamily_L2_w ok hZ p1 ?_ nf 0  M h
  · intro x11  M12 h
    refine g_iconst (v := 0) ok dX9_layFamily_40 (by decide) ?_
    refine g_istore_n (lv1 := [some (.inr 42), some (.inl p1), some (.inl 0)]) ok dX9_layFamily_41 rfl (glt rfl) rfl ?_
    obtain ⟨nf, h⟩ := h
    refine w_X9_layFamily_L42_w ok hZ p1 ?_ nf 0  M12 h
    · intro x17  M18 h
      refine g_iconst (v := 0) ok dX9_layFamily_72 (by decide) ?_
      refine g_istore_n (lv1 := [some (.inr 42), some (.inl p1), some (.inl 0)]) ok dX9_layFamily_73 rfl (glt rfl) rfl ?_
      obtain ⟨nf, h⟩ := h
      refine w_X9_layFamily_L74_w ok hZ p1 ?_ nf 0  M18 h
      · intro x21  M22 h
        exact g_vret ok hZ dX9_layFamily_105 h
theorem dX9_nodeFor_0 : decode cX9_nodeFor 0 = .ok (.iload_n 3, 1) := by decide +kernel
theorem dX9_nodeFor_1 : decode cX9_nodeFor 1 = .ok (.istore 4, 2) := by decide +kernel
theorem dX9_nodeFor_3 : decode cX9_nodeFor 3 = .ok (.iload 4, 2) := by decide +kernel
theorem dX9_nodeFor_5 : decode cX9_nodeFor 5 = .ok (.aload_n 0, 1) := by decide +kernel
theorem dX9_nodeFor_6 : decode cX9_nodeFor 6 = .ok (.getfield 166, 3) := by decide +kernel
theorem dX9_nodeFor_9 : decode cX9_nodeFor 9 = .ok (.if_icmp .ge 36, 3) := by decide +kernel
theorem dX9_nodeFor_12 : decode cX9_nodeFor 12 = .ok (.aload_n 0, 1) := by decide +kernel
theorem dX9_nodeFor_13 : decode cX9_nodeFor 13 = .ok (.getfield 43, 3) := by decide +kernel
theorem dX9_nodeFor_16 : decode cX9_nodeFor 16 = .ok (.iload 4, 2) := by decide +kernel
theorem dX9_nodeFor_18 : decode cX9_nodeFor 18 = .ok (.iaload, 1) := by decide +kernel
theorem dX9_nodeFor_19 : decode cX9_nodeFor 19 = .ok (.iload_n 1, 1) := by decide +kernel
theorem dX9_nodeFor_20 : decode cX9_nodeFor 20 = .ok (.if_icmp .ne 19, 3) := by decide +kernel
theorem dX9_nodeFor_23 : decode cX9_nodeFor 23 = .ok (.aload_n 0, 1) := by decide +kernel
theorem dX9_nodeFor_24 : decode cX9_nodeFor 24 = .ok (.getfield 46, 3) := by decide +kernel
theorem dX9_nodeFor_27 : decode cX9_nodeFor 27 = .ok (.iload 4, 2) := by decide +kernel
theorem dX9_nodeFor_29 : decode cX9_nodeFor 29 = .ok (.iaload, 1) := by decide +kernel
theorem dX9_nodeFor_30 : decode cX9_nodeFor 30 = .ok (.iload_n 2, 1) := by decide +kernel
theorem dX9_nodeFor_31 : decode cX9_nodeFor 31 = .ok (.if_icmp .ne 8, 3) := by decide +kernel
theorem dX9_nodeFor_34 : decode cX9_nodeFor 34 = .ok (.iload 4, 2) := by decide +kernel
theorem dX9_nodeFor_36 : decode cX9_nodeFor 36 = .ok (.iconst 2, 1) := by decide +kernel
theorem dX9_nodeFor_37 : decode cX9_nodeFor 37 = .ok (.iadd, 1) := by decide +kernel
theorem dX9_nodeFor_38 : decode cX9_nodeFor 38 = .ok (.ireturn, 1) := by decide +kernel
theorem dX9_nodeFor_39 : decode cX9_nodeFor 39 = .ok (.iinc 4 1, 3) := by decide +kernel
theorem dX9_nodeFor_42 : decode cX9_nodeFor 42 = .ok (.goto (-39), 3) := by decide +kernel
theorem dX9_nodeFor_45 : decode cX9_nodeFor 45 = .ok (.aload_n 0, 1) := by decide +kernel
theorem dX9_nodeFor_46 : decode cX9_nodeFor 46 = .ok (.getfield 43, 3) := by decide +kernel
theorem dX9_nodeFor_49 : decode cX9_nodeFor 49 = .ok (.aload_n 0, 1) := by decide +kernel
theorem dX9_nodeFor_50 : decode cX9_nodeFor 50 = .ok (.getfield 166, 3) := by decide +kernel
theorem dX9_nodeFor_53 : decode cX9_nodeFor 53 = .ok (.iload_n 1, 1) := by decide +kernel
theorem dX9_nodeFor_54 : decode cX9_nodeFor 54 = .ok (.iastore, 1) := by decide +kernel
theorem dX9_nodeFor_55 : decode cX9_nodeFor 55 = .ok (.aload_n 0, 1) := by decide +kernel
theorem dX9_nodeFor_56 : decode cX9_nodeFor 56 = .ok (.getfield 46, 3) := by decide +kernel
theorem dX9_nodeFor_59 : decode cX9_nodeFor 59 = .ok (.aload_n 0, 1) := by decide +kernel
theorem dX9_nodeFor_60 : decode cX9_nodeFor 60 = .ok (.getfield 166, 3) := by decide +kernel
theorem dX9_nodeFor_63 : decode cX9_nodeFor 63 = .ok (.iload_n 2, 1) := by decide +kernel
theorem dX9_nodeFor_64 : decode cX9_nodeFor 64 = .ok (.iastore, 1) := by decide +kernel
theorem dX9_nodeFor_65 : decode cX9_nodeFor 65 = .ok (.aload_n 0, 1) := by decide +kernel
theorem dX9_nodeFor_66 : decode cX9_nodeFor 66 = .ok (.dup, 1) := by decide +kernel
theorem dX9_nodeFor_67 : decode cX9_nodeFor 67 = .ok (.getfield 166, 3) := by decide +kernel
theorem dX9_nodeFor_70 : decode cX9_nodeFor 70 = .ok (.iconst 1, 1) := by decide +kernel
theorem dX9_nodeFor_71 : decode cX9_nodeFor 71 = .ok (.iadd, 1) := by decide +kernel
theorem dX9_nodeFor_72 : decode cX9_nodeFor 72 = .ok (.putfield 166, 3) := by decide +kernel
theorem dX9_nodeFor_75 : decode cX9_nodeFor 75 = .ok (.aload_n 0, 1) := by decide +kernel
theorem dX9_nodeFor_76 : decode cX9_nodeFor 76 = .ok (.getfield 166, 3) := by decide +kernel
theorem dX9_nodeFor_79 : decode cX9_nodeFor 79 = .ok (.iconst 1, 1) := by decide +kernel
theorem dX9_nodeFor_80 : decode cX9_nodeFor 80 = .ok (.iadd, 1) := by decide +kernel
theorem dX9_nodeFor_81 : decode cX9_nodeFor 81 = .ok (.ireturn, 1) := by decide +kernel
theorem s_X9_nodeFor : gSt yX9_nodeFor cX9_nodeFor 5 (some .int) 3 := ⟨q5_71, q1_10, ⟨by decide, by decide, by decide +kernel⟩, by decide⟩
theorem sel_X9_nodeFor : Cond.selects yX9_nodeFor.cls yX9_nodeFor yX9_nodeFor ∈ gT := qs_44
theorem ins_X9_nodeFor : Cond.instanceMethod yX9_nodeFor ∈ gT := q5_70
def w_X9_nodeFor_L3 (Q : Int32 → gM → Prop) (K45 : Int32 → gM → Prop) (K34 : Int32 → gM → Prop) (v1 : Int32) (v2 : Int32) (v3 : Int32) : Nat → Int32 → gM → Prop
  | 0, _, _ => False
  | n + 1, v4, M => gbr ((v4 : Int32) < (M 42 18)) (vp_in v4 16384 ∧ (gbr (((M 54 (Int32.toNatClampNeg v4)) : Int32) = v1) (vp_in v4 16384 ∧ (gbr (((M 55 (Int32.toNatClampNeg v4)) : Int32) = v2) (K34 (v4) M) (∀ x2 : Int32, x2 = (v4 + 1) → (w_X9_nodeFor_L3 Q K45 K34 v1 v2 v3 n (x2) M)))) (∀ x1 : Int32, x1 = (v4 + 1) → (w_X9_nodeFor_L3 Q K45 K34 v1 v2 v3 n (x1) M)))) (K45 (v4) M)
def w_X9_nodeFor (p1 : Int32) (p2 : Int32) (p3 : Int32) (M : gM) (Q : Int32 → gM → Prop) : Prop := ∃ nf, w_X9_nodeFor_L3 Q (fun (x3 : Int32) (M4 : gM) => vp_in (M4 42 18) 16384 ∧ ∀ M5 : gM, M5 = gst M4 54 (Int32.toNatClampNeg (M4 42 18)) p1 → (vp_in (M5 42 18) 16384 ∧ ∀ M6 : gM, M6 = gst M5 55 (Int32.toNatClampNeg (M5 42 18)) p2 → (∀ M7 : gM, M7 = gst M6 42 18 ((M6 42 18) + 1) → (Q ((M7 42 18) + 1) M7)))) (fun (x8 : Int32) (M9 : gM) => Q (x8 + 2) M9) p1 p2 p3 nf p3 M
set_option maxRecDepth 100000 in
set_option maxHeartbeats 4000000 in
theorem w_X9_nodeFor_L3_w {X : gX} (ok : gOk X cX9_nodeFor yX9_nodeFor.cls 0 5 (some .int) gN) {Q : Int32 → gM → Prop} (hZ : gZi X Q) {K45 : Int32 → gM → Prop} {K34 : Int32 → gM → Prop} (v1 : Int32) (v2 : Int32) (v3 : Int32) (hK45 : ∀ (v4 : Int32)  (M : gM), K45 v4 M → gW X 45 [some (.inr 42), some (.inl v1), some (.inl v2), some (.inl v3), some (.inl v4)] [] M) (hK34 : ∀ (v4 : Int32)  (M : gM), K34 v4 M → gW X 34 [some (.inr 42), some (.inl v1), some (.inl v2), some (.inl v3), some (.inl v4)] [] M) : ∀ (n : Nat) (v4 : Int32)  (M : gM), w_X9_nodeFor_L3 Q K45 K34 v1 v2 v3 n v4 M → gW X 3 [some (.inr 42), some (.inl v1), some (.inl v2), some (.inl v3), some (.inl v4)] [] M
  | 0, _, _, h => h.elim
  | n + 1, v4, M, h => by
    have ih := fun (v4 : Int32)  (M : gM) h => w_X9_nodeFor_L3_w ok hZ v1 v2 v3 hK45 hK34 n v4  M h
    rw [w_X9_nodeFor_L3.eq_2] at h
    refine g_iload ok dX9_nodeFor_3 rfl ?_
    refine g_aload_n ok dX9_nodeFor_5 rfl rfl ?_
    refine g_get (w := .inl (M 42 18)) ok f42_18 (gNm (by decide)) q4_12 dX9_nodeFor_6 rfl ?_
    refine g_icmp_ge (tgt := 45) ok dX9_nodeFor_9 (by decide) (fun z => ?_) (fun z => ?_)
    · have h := h.2 z
      exact hK45 (v4) M h
    · have h := h.1 z
      refine g_aload_n ok dX9_nodeFor_12 rfl rfl ?_
      refine g_get (w := .inr 54) ok f42_19 (gNm (by decide)) q4_13 dX9_nodeFor_13 rfl ?_
      refine g_iload ok dX9_nodeFor_16 rfl ?_
      have hb := h.1
      have h := h.2
      refine g_iald (w := (M 54 (Int32.toNatClampNeg v4))) ok a54 (gNm (by decide)) dX9_nodeFor_18 hb rfl ?_
      refine g_iload_n ok dX9_nodeFor_19 rfl rfl ?_
      refine g_icmp_ne (tgt := 39) ok dX9_nodeFor_20 (by decide) (fun z => ?_) (fun z => ?_)
      · have h := h.2 z
        obtain ⟨x1, ex1⟩ : ∃ y : Int32, y = (v4 + 1) := ⟨_, rfl⟩
        have h := h x1 ex1
        refine g_iinc (v := x1) (lv1 := [some (.inr 42), some (.inl v1), some (.inl v2), some (.inl v3), some (.inl x1)]) ok dX9_nodeFor_39 rfl (by rw [ex1]; rfl) rfl ?_
        refine g_goto (tgt := 3) ok dX9_nodeFor_42 (by decide) ?_
        exact ih (x1) M h
      · have h := h.1 z
        refine g_aload_n ok dX9_nodeFor_23 rfl rfl ?_
        refine g_get (w := .inr 55) ok f42_20 (gNm (by decide)) q4_14 dX9_nodeFor_24 rfl ?_
        refine g_iload ok dX9_nodeFor_27 rfl ?_
        have hb := h.1
        have h := h.2
        refine g_iald (w := (M 55 (Int32.toNatClampNeg v4))) ok a55 (gNm (by decide)) dX9_nodeFor_29 hb rfl ?_
        refine g_iload_n ok dX9_nodeFor_30 rfl rfl ?_
        refine g_icmp_ne (tgt := 39) ok dX9_nodeFor_31 (by decide) (fun z => ?_) (fun z => ?_)
        · have h := h.2 z
          obtain ⟨x2, ex2⟩ : ∃ y : Int32, y = (v4 + 1) := ⟨_, rfl⟩
          have h := h x2 ex2
          refine g_iinc (v := x2) (lv1 := [some (.inr 42), some (.inl v1), some (.inl v2), some (.inl v3), some (.inl x2)]) ok dX9_nodeFor_39 rfl (by rw [ex2]; rfl) rfl ?_
          refine g_goto (tgt := 3) ok dX9_nodeFor_42 (by decide) ?_
          exact ih (x2) M h
        · have h := h.1 z
          exact hK34 (v4) M h
set_option maxRecDepth 100000 in
set_option maxHeartbeats 4000000 in
theorem k_X9_nodeFor {p1 : Int32} {p2 : Int32} {p3 : Int32} {M : gM} {Q : Int32 → gM → Prop} (h : w_X9_nodeFor p1 p2 p3 M Q) : gCi gN 0 yX9_nodeFor cX9_nodeFor 5 .int [.inr 42, .inl p1, .inl p2, .inl p3] M Q := by
  refine gCi_of (by decide) gNn (gle rfl) (fun X ok hZ => ?_)
  show gW X 0 [some (.inr 42), some (.inl p1), some (.inl p2), some (.inl p3), none] [] M
  unfold w_X9_nodeFor at h
  refine g_iload_n ok dX9_nodeFor_0 rfl rfl ?_
  refine g_istore (lv1 := [some (.inr 42), some (.inl p1), some (.inl p2), some (.inl p3), some (.inl p3)]) ok dX9_nodeFor_1 (glt rfl) rfl ?_
  obtain ⟨nf, h⟩ := h
  refine w_X9_nodeFor_L3_w ok hZ p1 p2 p3 ?_ ?_ nf p3  M h
  · intro x3  M4 h
    refine g_aload_n ok dX9_nodeFor_45 rfl rfl ?_
    refine g_get (w := .inr 54) ok f42_19 (gNm (by decide)) q4_13 dX9_nodeFor_46 rfl ?_
    refine g_aload_n ok dX9_nodeFor_49 rfl rfl ?_
    refine g_get (w := .inl (M4 42 18)) ok f42_18 (gNm (by decide)) q4_12 dX9_nodeFor_50 rfl ?_
    refine g_iload_n ok dX9_nodeFor_53 rfl rfl ?_
    have hb := h.1
    have h := h.2
    refine g_iast ok a54 (gNm (by decide)) dX9_nodeFor_54 hb (g_mem (fun M5 eM5 => ?_))
    have h := h M5 eM5
    refine g_aload_n ok dX9_nodeFor_55 rfl rfl ?_
    refine g_get (w := .inr 55) ok f42_20 (gNm (by decide)) q4_14 dX9_nodeFor_56 rfl ?_
    refine g_aload_n ok dX9_nodeFor_59 rfl rfl ?_
    refine g_get (w := .inl (M5 42 18)) ok f42_18 (gNm (by decide)) q4_12 dX9_nodeFor_60 rfl ?_
    refine g_iload_n ok dX9_nodeFor_63 rfl rfl ?_
    have hb := h.1
    have h := h.2
    refine g_iast ok a55 (gNm (by decide)) dX9_nodeFor_64 hb (g_mem (fun M6 eM6 => ?_))
    have h := h M6 eM6
    refine g_aload_n ok dX9_nodeFor_65 rfl rfl ?_
    refine g_dup ok dX9_nodeFor_66 ?_
    refine g_get (w := .inl (M6 42 18)) ok f42_18 (gNm (by decide)) q4_12 dX9_nodeFor_67 rfl ?_
    refine g_iconst (v := 1) ok dX9_nodeFor_70 (by decide) ?_
    refine g_iadd ok dX9_nodeFor_71 ?_
    refine g_put ok f42_18p (gNm (by decide)) q4_12 dX9_nodeFor_72 rfl rfl (g_mem (fun M7 eM7 => ?_))
    have h := h M7 eM7
    refine g_aload_n ok dX9_nodeFor_75 rfl rfl ?_
    refine g_get (w := .inl (M7 42 18)) ok f42_18 (gNm (by decide)) q4_12 dX9_nodeFor_76 rfl ?_
    refine g_iconst (v := 1) ok dX9_nodeFor_79 (by decide) ?_
    refine g_iadd ok dX9_nodeFor_80 ?_
    exact g_iret ok hZ dX9_nodeFor_81 h
  · intro x8  M9 h
    refine g_iload ok dX9_nodeFor_34 rfl ?_
    refine g_iconst (v := 2) ok dX9_nodeFor_36 (by decide) ?_
    refine g_iadd ok dX9_nodeFor_37 ?_
    exact g_iret ok hZ dX9_nodeFor_38 h
theorem dX9_layDiagram_0 : decode cX9_layDiagram 0 = .ok (.aload_n 0, 1) := by decide +kernel
theorem dX9_layDiagram_1 : decode cX9_layDiagram 1 = .ok (.iload_n 1, 1) := by decide +kernel
theorem dX9_layDiagram_2 : decode cX9_layDiagram 2 = .ok (.invokevirtual 169, 3) := by decide +kernel
theorem dX9_layDiagram_5 : decode cX9_layDiagram 5 = .ok (.aload_n 0, 1) := by decide +kernel
theorem dX9_layDiagram_6 : decode cX9_layDiagram 6 = .ok (.iconst 0, 1) := by decide +kernel
theorem dX9_layDiagram_7 : decode cX9_layDiagram 7 = .ok (.putfield 166, 3) := by decide +kernel
theorem dX9_layDiagram_10 : decode cX9_layDiagram 10 = .ok (.aload_n 0, 1) := by decide +kernel
theorem dX9_layDiagram_11 : decode cX9_layDiagram 11 = .ok (.getfield 59, 3) := by decide +kernel
theorem dX9_layDiagram_14 : decode cX9_layDiagram 14 = .ok (.iconst 1, 1) := by decide +kernel
theorem dX9_layDiagram_15 : decode cX9_layDiagram 15 = .ok (.isub, 1) := by decide +kernel
theorem dX9_layDiagram_16 : decode cX9_layDiagram 16 = .ok (.istore_n 2, 1) := by decide +kernel
theorem dX9_layDiagram_17 : decode cX9_layDiagram 17 = .ok (.iload_n 2, 1) := by decide +kernel
theorem dX9_layDiagram_18 : decode cX9_layDiagram 18 = .ok (.ifCond .lt 92, 3) := by decide +kernel
theorem dX9_layDiagram_21 : decode cX9_layDiagram 21 = .ok (.aload_n 0, 1) := by decide +kernel
theorem dX9_layDiagram_22 : decode cX9_layDiagram 22 = .ok (.getfield 166, 3) := by decide +kernel
theorem dX9_layDiagram_25 : decode cX9_layDiagram 25 = .ok (.istore_n 3, 1) := by decide +kernel
theorem dX9_layDiagram_26 : decode cX9_layDiagram 26 = .ok (.iconst 0, 1) := by decide +kernel
theorem dX9_layDiagram_27 : decode cX9_layDiagram 27 = .ok (.istore 4, 2) := by decide +kernel
theorem dX9_layDiagram_29 : decode cX9_layDiagram 29 = .ok (.iload 4, 2) := by decide +kernel
theorem dX9_layDiagram_31 : decode cX9_layDiagram 31 = .ok (.iconst 1, 1) := by decide +kernel
theorem dX9_layDiagram_32 : decode cX9_layDiagram 32 = .ok (.iload_n 2, 1) := by decide +kernel
theorem dX9_layDiagram_33 : decode cX9_layDiagram 33 = .ok (.ishl, 1) := by decide +kernel
theorem dX9_layDiagram_34 : decode cX9_layDiagram 34 = .ok (.if_icmp .ge 58, 3) := by decide +kernel
theorem dX9_layDiagram_37 : decode cX9_layDiagram 37 = .ok (.aload_n 0, 1) := by decide +kernel
theorem dX9_layDiagram_38 : decode cX9_layDiagram 38 = .ok (.getfield 40, 3) := by decide +kernel
theorem dX9_layDiagram_41 : decode cX9_layDiagram 41 = .ok (.iload 4, 2) := by decide +kernel
theorem dX9_layDiagram_43 : decode cX9_layDiagram 43 = .ok (.iconst 1, 1) := by decide +kernel
theorem dX9_layDiagram_44 : decode cX9_layDiagram 44 = .ok (.iload_n 2, 1) := by decide +kernel
theorem dX9_layDiagram_45 : decode cX9_layDiagram 45 = .ok (.ishl, 1) := by decide +kernel
theorem dX9_layDiagram_46 : decode cX9_layDiagram 46 = .ok (.ior, 1) := by decide +kernel
theorem dX9_layDiagram_47 : decode cX9_layDiagram 47 = .ok (.iaload, 1) := by decide +kernel
theorem dX9_layDiagram_48 : decode cX9_layDiagram 48 = .ok (.istore 5, 2) := by decide +kernel
theorem dX9_layDiagram_50 : decode cX9_layDiagram 50 = .ok (.aload_n 0, 1) := by decide +kernel
theorem dX9_layDiagram_51 : decode cX9_layDiagram 51 = .ok (.getfield 40, 3) := by decide +kernel
theorem dX9_layDiagram_54 : decode cX9_layDiagram 54 = .ok (.iload 4, 2) := by decide +kernel
theorem dX9_layDiagram_56 : decode cX9_layDiagram 56 = .ok (.iload 5, 2) := by decide +kernel
theorem dX9_layDiagram_58 : decode cX9_layDiagram 58 = .ok (.ifCond .ne 13, 3) := by decide +kernel
theorem dX9_layDiagram_61 : decode cX9_layDiagram 61 = .ok (.aload_n 0, 1) := by decide +kernel
theorem dX9_layDiagram_62 : decode cX9_layDiagram 62 = .ok (.getfield 40, 3) := by decide +kernel
theorem dX9_layDiagram_65 : decode cX9_layDiagram 65 = .ok (.iload 4, 2) := by decide +kernel
theorem dX9_layDiagram_67 : decode cX9_layDiagram 67 = .ok (.iaload, 1) := by decide +kernel
theorem dX9_layDiagram_68 : decode cX9_layDiagram 68 = .ok (.goto 17, 3) := by decide +kernel
theorem dX9_layDiagram_71 : decode cX9_layDiagram 71 = .ok (.aload_n 0, 1) := by decide +kernel
theorem dX9_layDiagram_72 : decode cX9_layDiagram 72 = .ok (.aload_n 0, 1) := by decide +kernel
theorem dX9_layDiagram_73 : decode cX9_layDiagram 73 = .ok (.getfield 40, 3) := by decide +kernel
theorem dX9_layDiagram_76 : decode cX9_layDiagram 76 = .ok (.iload 4, 2) := by decide +kernel
theorem dX9_layDiagram_78 : decode cX9_layDiagram 78 = .ok (.iaload, 1) := by decide +kernel
theorem dX9_layDiagram_79 : decode cX9_layDiagram 79 = .ok (.iload 5, 2) := by decide +kernel
theorem dX9_layDiagram_81 : decode cX9_layDiagram 81 = .ok (.iload_n 3, 1) := by decide +kernel
theorem dX9_layDiagram_82 : decode cX9_layDiagram 82 = .ok (.invokevirtual 172, 3) := by decide +kernel
theorem dX9_layDiagram_85 : decode cX9_layDiagram 85 = .ok (.iastore, 1) := by decide +kernel
theorem dX9_layDiagram_86 : decode cX9_layDiagram 86 = .ok (.iinc 4 1, 3) := by decide +kernel
theorem dX9_layDiagram_89 : decode cX9_layDiagram 89 = .ok (.goto (-60), 3) := by decide +kernel
theorem dX9_layDiagram_92 : decode cX9_layDiagram 92 = .ok (.aload_n 0, 1) := by decide +kernel
theorem dX9_layDiagram_93 : decode cX9_layDiagram 93 = .ok (.getfield 49, 3) := by decide +kernel
theorem dX9_layDiagram_96 : decode cX9_layDiagram 96 = .ok (.iload_n 2, 1) := by decide +kernel
theorem dX9_layDiagram_97 : decode cX9_layDiagram 97 = .ok (.aload_n 0, 1) := by decide +kernel
theorem dX9_layDiagram_98 : decode cX9_layDiagram 98 = .ok (.getfield 166, 3) := by decide +kernel
theorem dX9_layDiagram_101 : decode cX9_layDiagram 101 = .ok (.iload_n 3, 1) := by decide +kernel
theorem dX9_layDiagram_102 : decode cX9_layDiagram 102 = .ok (.isub, 1) := by decide +kernel
theorem dX9_layDiagram_103 : decode cX9_layDiagram 103 = .ok (.iastore, 1) := by decide +kernel
theorem dX9_layDiagram_104 : decode cX9_layDiagram 104 = .ok (.iinc 2 (-1), 3) := by decide +kernel
theorem dX9_layDiagram_107 : decode cX9_layDiagram 107 = .ok (.goto (-90), 3) := by decide +kernel
theorem dX9_layDiagram_110 : decode cX9_layDiagram 110 = .ok (.return_, 1) := by decide +kernel
theorem s_X9_layDiagram : gSt yX9_layDiagram cX9_layDiagram 6 none 1 := ⟨q5_63, q1_10, ⟨by decide, by decide, by decide +kernel⟩, by decide⟩
theorem sel_X9_layDiagram : Cond.selects yX9_layDiagram.cls yX9_layDiagram yX9_layDiagram ∈ gT := qs_42
theorem ins_X9_layDiagram : Cond.instanceMethod yX9_layDiagram ∈ gT := q5_62
def w_X9_layDiagram_L29 (Q : gM → Prop) (K92 : Int32 → gM → Prop) (v1 : Int32) (v2 : Int32) (v3 : Int32) : Nat → Int32 → gM → Prop
  | 0, _, _ => False
  | n + 1, v4, M => gbr ((v4 : Int32) < (1 <<< (v2 &&& 31))) (vp_in (v4 ||| (1 <<< (v2 &&& 31))) 16384 ∧ (∀ x6 : Int32, x6 = (M 53 (Int32.toNatClampNeg (v4 ||| (1 <<< (v2 &&& 31))))) → (gbr ((x6 : Int32) = 0) (vp_in v4 16384 ∧ (vp_in v4 16384 ∧ ∀ M11 : gM, M11 = gst M 53 (Int32.toNatClampNeg v4) (M 53 (Int32.toNatClampNeg v4)) → (∀ x12 : Int32, x12 = (v4 + 1) → (w_X9_layDiagram_L29 Q K92 v1 v2 v3 n (x12) M11)))) (vp_in v4 16384 ∧ (w_X9_nodeFor (M 53 (Int32.toNatClampNeg v4)) x6 v3 M (fun (r8 : Int32) (M7 : gM) => vp_in v4 16384 ∧ ∀ M9 : gM, M9 = gst M7 53 (Int32.toNatClampNeg v4) r8 → (∀ x10 : Int32, x10 = (v4 + 1) → (w_X9_layDiagram_L29 Q K92 v1 v2 v3 n (x10) M9)))))))) (K92 (v4) M)
def w_X9_layDiagram_L17 (Q : gM → Prop) (K110 : Int32 → gM → Prop) (v1 : Int32) : Nat → Int32 → gM → Prop
  | 0, _, _ => False
  | n + 1, v2, M => gbr ((v2 : Int32) < 0) (K110 (v2) M) (∀ x5 : Int32, x5 = (M 42 18) → (∃ nf, w_X9_layDiagram_L29 Q (fun (x13 : Int32) (M15 : gM) => vp_in v2 14 ∧ ∀ M16 : gM, M16 = gst M15 56 (Int32.toNatClampNeg v2) ((M15 42 18) - x5) → (∀ x17 : Int32, x17 = (v2 + (-1)) → (w_X9_layDiagram_L17 Q K110 v1 n (x17) M16))) v1 v2 x5 nf 0 M))
def w_X9_layDiagram (p1 : Int32) (M : gM) (Q : gM → Prop) : Prop := w_X9_layFamily p1 M (fun (M1 : gM) => ∀ M3 : gM, M3 = gst M1 42 18 0 → (∀ x4 : Int32, x4 = ((M3 42 0) - 1) → (∃ nf, w_X9_layDiagram_L17 Q (fun (x18 : Int32) (M22 : gM) => Q M22) p1 nf x4 M3)))
set_option maxRecDepth 100000 in
set_option maxHeartbeats 4000000 in
theorem w_X9_layDiagram_L29_w {X : gX} (ok : gOk X cX9_layDiagram yX9_layDiagram.cls 3 6 none gN) {Q : gM → Prop} (hZ : gZv X Q) {K92 : Int32 → gM → Prop} (v1 : Int32) (v2 : Int32) (v3 : Int32) (hK92 : ∀ (v4 : Int32) (u5 : Option gV) (M : gM), K92 v4 M → gW X 92 [some (.inr 42), some (.inl v1), some (.inl v2), some (.inl v3), some (.inl v4), u5] [] M) : ∀ (n : Nat) (v4 : Int32) (u5 : Option gV) (M : gM), w_X9_layDiagram_L29 Q K92 v1 v2 v3 n v4 M → gW X 29 [some (.inr 42), some (.inl v1), some (.inl v2), some (.inl v3), some (.inl v4), u5] [] M
  | 0, _, _, _, h => h.elim
  | n + 1, v4, u5, M, h => by
    have ih := fun (v4 : Int32) (u5 : Option gV) (M : gM) h => w_X9_layDiagram_L29_w ok hZ v1 v2 v3 hK92 n v4 u5 M h
    rw [w_X9_layDiagram_L29.eq_2] at h
    refine g_iload ok dX9_layDiagram_29 rfl ?_
    refine g_iconst (v := 1) ok dX9_layDiagram_31 (by decide) ?_
    refine g_iload_n ok dX9_layDiagram_32 rfl rfl ?_
    refine g_ishl ok dX9_layDiagram_33 ?_
    refine g_icmp_ge (tgt := 92) ok dX9_layDiagram_34 (by decide) (fun z => ?_) (fun z => ?_)
    · have h := h.2 z
      exact hK92 (v4) (u5) M h
    · have h := h.1 z
      refine g_aload_n ok dX9_layDiagram_37 rfl rfl ?_
      refine g_get (w := .inr 53) ok f42_17 (gNm (by decide)) q4_11 dX9_layDiagram_38 rfl ?_
      refine g_iload ok dX9_layDiagram_41 rfl ?_
      refine g_iconst (v := 1) ok dX9_layDiagram_43 (by decide) ?_
      refine g_iload_n ok dX9_layDiagram_44 rfl rfl ?_
      refine g_ishl ok dX9_layDiagram_45 ?_
      refine g_ior ok dX9_layDiagram_46 ?_
      have hb := h.1
      have h := h.2
      refine g_iald (w := (M 53 (Int32.toNatClampNeg (v4 ||| (1 <<< (v2 &&& 31)))))) ok a53 (gNm (by decide)) dX9_layDiagram_47 hb rfl ?_
      refine g_nm (fun x6 ex6 => ?_)
      have h := h x6 ex6
      refine g_istore (lv1 := [some (.inr 42), some (.inl v1), some (.inl v2), some (.inl v3), some (.inl v4), some (.inl x6)]) ok dX9_layDiagram_48 (glt rfl) rfl ?_
      refine g_aload_n ok dX9_layDiagram_50 rfl rfl ?_
      refine g_get (w := .inr 53) ok f42_17 (gNm (by decide)) q4_11 dX9_layDiagram_51 rfl ?_
      refine g_iload ok dX9_layDiagram_54 rfl ?_
      refine g_iload ok dX9_layDiagram_56 rfl ?_
      refine g_if_ne (tgt := 71) ok dX9_layDiagram_58 (by decide) (fun z => ?_) (fun z => ?_)
      · have h := h.2 z
        refine g_aload_n ok dX9_layDiagram_71 rfl rfl ?_
        refine g_aload_n ok dX9_layDiagram_72 rfl rfl ?_
        refine g_get (w := .inr 53) ok f42_17 (gNm (by decide)) q4_11 dX9_layDiagram_73 rfl ?_
        refine g_iload ok dX9_layDiagram_76 rfl ?_
        have hb := h.1
        have h := h.2
        refine g_iald (w := (M 53 (Int32.toNatClampNeg v4))) ok a53 (gNm (by decide)) dX9_layDiagram_78 hb rfl ?_
        refine g_iload ok dX9_layDiagram_79 rfl ?_
        refine g_iload_n ok dX9_layDiagram_81 rfl rfl ?_
        refine g_callVi (st := [.inl v4, .inr 53]) (as := [.inl (M 53 (Int32.toNatClampNeg v4)), .inl x6, .inl v3]) ok rfl (k_X9_nodeFor h) s_X9_nodeFor rfl (by decide) (gNm (by decide)) cl42 sel_X9_nodeFor ins_X9_nodeFor (gle rfl) rfl q5_68 dX9_layDiagram_82 ?_
        intro r8 M7 h
        have hb := h.1
        have h := h.2
        refine g_iast ok a53 (gNm (by decide)) dX9_layDiagram_85 hb (g_mem (fun M9 eM9 => ?_))
        have h := h M9 eM9
        obtain ⟨x10, ex10⟩ : ∃ y : Int32, y = (v4 + 1) := ⟨_, rfl⟩
        have h := h x10 ex10
        refine g_iinc (v := x10) (lv1 := [some (.inr 42), some (.inl v1), some (.inl v2), some (.inl v3), some (.inl x10), some (.inl x6)]) ok dX9_layDiagram_86 rfl (by rw [ex10]; rfl) rfl ?_
        refine g_goto (tgt := 29) ok dX9_layDiagram_89 (by decide) ?_
        exact ih (x10) (some (.inl x6)) M9 h
      · have h := h.1 z
        refine g_aload_n ok dX9_layDiagram_61 rfl rfl ?_
        refine g_get (w := .inr 53) ok f42_17 (gNm (by decide)) q4_11 dX9_layDiagram_62 rfl ?_
        refine g_iload ok dX9_layDiagram_65 rfl ?_
        have hb := h.1
        have h := h.2
        refine g_iald (w := (M 53 (Int32.toNatClampNeg v4))) ok a53 (gNm (by decide)) dX9_layDiagram_67 hb rfl ?_
        refine g_goto (tgt := 85) ok dX9_layDiagram_68 (by decide) ?_
        have hb := h.1
        have h := h.2
        refine g_iast ok a53 (gNm (by decide)) dX9_layDiagram_85 hb (g_mem (fun M11 eM11 => ?_))
        have h := h M11 eM11
        obtain ⟨x12, ex12⟩ : ∃ y : Int32, y = (v4 + 1) := ⟨_, rfl⟩
        have h := h x12 ex12
        refine g_iinc (v := x12) (lv1 := [some (.inr 42), some (.inl v1), some (.inl v2), some (.inl v3), some (.inl x12), some (.inl x6)]) ok dX9_layDiagram_86 rfl (by rw [ex12]; rfl) rfl ?_
        refine g_goto (tgt := 29) ok dX9_layDiagram_89 (by decide) ?_
        exact ih (x12) (some (.inl x6)) M11 h
set_option maxRecDepth 100000 in
set_option maxHeartbeats 4000000 in
theorem w_X9_layDiagram_L17_w {X : gX} (ok : gOk X cX9_layDiagram yX9_layDiagram.cls 3 6 none gN) {Q : gM → Prop} (hZ : gZv X Q) {K110 : Int32 → gM → Prop} (v1 : Int32) (hK110 : ∀ (v2 : Int32) (u3 : Option gV) (u4 : Option gV) (u5 : Option gV) (M : gM), K110 v2 M → gW X 110 [some (.inr 42), some (.inl v1), some (.inl v2), u3, u4, u5] [] M) : ∀ (n : Nat) (v2 : Int32) (u3 : Option gV) (u4 : Option gV) (u5 : Option gV) (M : gM), w_X9_layDiagram_L17 Q K110 v1 n v2 M → gW X 17 [some (.inr 42), some (.inl v1), some (.inl v2), u3, u4, u5] [] M
  | 0, _, _, _, _, _, h => h.elim
  | n + 1, v2, u3, u4, u5, M, h => by
    have ih := fun (v2 : Int32) (u3 : Option gV) (u4 : Option gV) (u5 : Option gV) (M : gM) h => w_X9_layDiagram_L17_w ok hZ v1 hK110 n v2 u3 u4 u5 M h
    rw [w_X9_layDiagram_L17.eq_2] at h
    refine g_iload_n ok dX9_layDiagram_17 rfl rfl ?_
    refine g_if_lt (tgt := 110) ok dX9_layDiagram_18 (by decide) (fun z => ?_) (fun z => ?_)
    · have h := h.1 z
      exact hK110 (v2) (u3) (u4) (u5) M h
    · have h := h.2 z
      refine g_aload_n ok dX9_layDiagram_21 rfl rfl ?_
      refine g_get (w := .inl (M 42 18)) ok f42_18 (gNm (by decide)) q4_12 dX9_layDiagram_22 rfl ?_
      refine g_nm (fun x5 ex5 => ?_)
      have h := h x5 ex5
      refine g_istore_n (lv1 := [some (.inr 42), some (.inl v1), some (.inl v2), some (.inl x5), u4, u5]) ok dX9_layDiagram_25 rfl (glt rfl) rfl ?_
      refine g_iconst (v := 0) ok dX9_layDiagram_26 (by decide) ?_
      refine g_istore (lv1 := [some (.inr 42), some (.inl v1), some (.inl v2), some (.inl x5), some (.inl 0), u5]) ok dX9_layDiagram_27 (glt rfl) rfl ?_
      obtain ⟨nf, h⟩ := h
      refine w_X9_layDiagram_L29_w ok hZ v1 v2 x5 ?_ nf 0 (u5) M h
      · intro x13 u14 M15 h
        refine g_aload_n ok dX9_layDiagram_92 rfl rfl ?_
        refine g_get (w := .inr 56) ok f42_21 (gNm (by decide)) q4_15 dX9_layDiagram_93 rfl ?_
        refine g_iload_n ok dX9_layDiagram_96 rfl rfl ?_
        refine g_aload_n ok dX9_layDiagram_97 rfl rfl ?_
        refine g_get (w := .inl (M15 42 18)) ok f42_18 (gNm (by decide)) q4_12 dX9_layDiagram_98 rfl ?_
        refine g_iload_n ok dX9_layDiagram_101 rfl rfl ?_
        refine g_isub ok dX9_layDiagram_102 ?_
        have hb := h.1
        have h := h.2
        refine g_iast ok a56 (gNm (by decide)) dX9_layDiagram_103 hb (g_mem (fun M16 eM16 => ?_))
        have h := h M16 eM16
        obtain ⟨x17, ex17⟩ : ∃ y : Int32, y = (v2 + (-1)) := ⟨_, rfl⟩
        have h := h x17 ex17
        refine g_iinc (v := x17) (lv1 := [some (.inr 42), some (.inl v1), some (.inl x17), some (.inl x5), some (.inl x13), u14]) ok dX9_layDiagram_104 rfl (by rw [ex17]; rfl) rfl ?_
        refine g_goto (tgt := 17) ok dX9_layDiagram_107 (by decide) ?_
        exact ih (x17) (some (.inl x5)) (some (.inl x13)) (u14) M16 h
set_option maxRecDepth 100000 in
set_option maxHeartbeats 4000000 in
theorem k_X9_layDiagram {p1 : Int32} {M : gM} {Q : gM → Prop} (h : w_X9_layDiagram p1 M Q) : gCv gN 3 yX9_layDiagram cX9_layDiagram 6 [.inr 42, .inl p1] M Q := by
  refine gCv_of (by decide) gNn (gle rfl) (fun X ok hZ => ?_)
  show gW X 0 [some (.inr 42), some (.inl p1), none, none, none, none] [] M
  unfold w_X9_layDiagram at h
  refine g_aload_n ok dX9_layDiagram_0 rfl rfl ?_
  refine g_iload_n ok dX9_layDiagram_1 rfl rfl ?_
  refine g_callVv (st := []) (as := [.inl p1]) ok rfl (k_X9_layFamily h) s_X9_layFamily rfl (by decide) (gNm (by decide)) cl42 sel_X9_layFamily ins_X9_layFamily (gle rfl) rfl q5_64 dX9_layDiagram_2 ?_
  intro M1 h
  refine g_aload_n ok dX9_layDiagram_5 rfl rfl ?_
  refine g_iconst (v := 0) ok dX9_layDiagram_6 (by decide) ?_
  refine g_put ok f42_18p (gNm (by decide)) q4_12 dX9_layDiagram_7 rfl rfl (g_mem (fun M3 eM3 => ?_))
  have h := h M3 eM3
  refine g_aload_n ok dX9_layDiagram_10 rfl rfl ?_
  refine g_get (w := .inl (M3 42 0)) ok f42_0 (gNm (by decide)) q3_234 dX9_layDiagram_11 rfl ?_
  refine g_iconst (v := 1) ok dX9_layDiagram_14 (by decide) ?_
  refine g_isub ok dX9_layDiagram_15 ?_
  refine g_nm (fun x4 ex4 => ?_)
  have h := h x4 ex4
  refine g_istore_n (lv1 := [some (.inr 42), some (.inl p1), some (.inl x4), none, none, none]) ok dX9_layDiagram_16 rfl (glt rfl) rfl ?_
  obtain ⟨nf, h⟩ := h
  refine w_X9_layDiagram_L17_w ok hZ p1 ?_ nf x4 (none) (none) (none) M3 h
  · intro x18 u19 u20 u21 M22 h
    exact g_vret ok hZ dX9_layDiagram_110 h
theorem dX9_diagramBarred_0 : decode cX9_diagramBarred 0 = .ok (.aload_n 0, 1) := by decide +kernel
theorem dX9_diagramBarred_1 : decode cX9_diagramBarred 1 = .ok (.iconst 0, 1) := by decide +kernel
theorem dX9_diagramBarred_2 : decode cX9_diagramBarred 2 = .ok (.putfield 135, 3) := by decide +kernel
theorem dX9_diagramBarred_5 : decode cX9_diagramBarred 5 = .ok (.iload_n 1, 1) := by decide +kernel
theorem dX9_diagramBarred_6 : decode cX9_diagramBarred 6 = .ok (.iconst 1, 1) := by decide +kernel
theorem dX9_diagramBarred_7 : decode cX9_diagramBarred 7 = .ok (.if_icmp .ne 17, 3) := by decide +kernel
theorem dX9_diagramBarred_10 : decode cX9_diagramBarred 10 = .ok (.aload_n 0, 1) := by decide +kernel
theorem dX9_diagramBarred_11 : decode cX9_diagramBarred 11 = .ok (.invokevirtual 154, 3) := by decide +kernel
theorem dX9_diagramBarred_14 : decode cX9_diagramBarred 14 = .ok (.aload_n 0, 1) := by decide +kernel
theorem dX9_diagramBarred_15 : decode cX9_diagramBarred 15 = .ok (.getfield 144, 3) := by decide +kernel
theorem dX9_diagramBarred_18 : decode cX9_diagramBarred 18 = .ok (.ifCond .eq 6, 3) := by decide +kernel
theorem dX9_diagramBarred_21 : decode cX9_diagramBarred 21 = .ok (.bipush (-6), 2) := by decide +kernel
theorem dX9_diagramBarred_23 : decode cX9_diagramBarred 23 = .ok (.ireturn, 1) := by decide +kernel
theorem dX9_diagramBarred_24 : decode cX9_diagramBarred 24 = .ok (.aload_n 0, 1) := by decide +kernel
theorem dX9_diagramBarred_25 : decode cX9_diagramBarred 25 = .ok (.iload_n 1, 1) := by decide +kernel
theorem dX9_diagramBarred_26 : decode cX9_diagramBarred 26 = .ok (.invokevirtual 176, 3) := by decide +kernel
theorem dX9_diagramBarred_29 : decode cX9_diagramBarred 29 = .ok (.iconst 0, 1) := by decide +kernel
theorem dX9_diagramBarred_30 : decode cX9_diagramBarred 30 = .ok (.ireturn, 1) := by decide +kernel
theorem s_X9_diagramBarred : gSt yX9_diagramBarred cX9_diagramBarred 2 (some .int) 1 := ⟨q5_59, q1_10, ⟨by decide, by decide, by decide +kernel⟩, by decide⟩
theorem sel_X9_diagramBarred : Cond.selects yX9_diagramBarred.cls yX9_diagramBarred yX9_diagramBarred ∈ gT := qs_41
theorem ins_X9_diagramBarred : Cond.instanceMethod yX9_diagramBarred ∈ gT := q5_58
def w_X9_diagramBarred (p1 : Int32) (M : gM) (Q : Int32 → gM → Prop) : Prop := ∀ M1 : gM, M1 = gst M 42 7 0 → (gbr ((p1 : Int32) = 1) (w_X9_search M1 (fun (M4 : gM) => gbr (((M4 42 9) : Int32) = 0) (w_X9_layDiagram p1 M4 (fun (M6 : gM) => Q 0 M6)) (Q (-6) M4))) (w_X9_layDiagram p1 M1 (fun (M2 : gM) => Q 0 M2)))
set_option maxRecDepth 100000 in
set_option maxHeartbeats 4000000 in
theorem k_X9_diagramBarred {p1 : Int32} {M : gM} {Q : Int32 → gM → Prop} (h : w_X9_diagramBarred p1 M Q) : gCi gN 4 yX9_diagramBarred cX9_diagramBarred 2 .int [.inr 42, .inl p1] M Q := by
  refine gCi_of (by decide) gNn (gle rfl) (fun X ok hZ => ?_)
  show gW X 0 [some (.inr 42), some (.inl p1)] [] M
  unfold w_X9_diagramBarred at h
  refine g_aload_n ok dX9_diagramBarred_0 rfl rfl ?_
  refine g_iconst (v := 0) ok dX9_diagramBarred_1 (by decide) ?_
  refine g_put ok f42_7p (gNm (by decide)) q4_1 dX9_diagramBarred_2 rfl rfl (g_mem (fun M1 eM1 => ?_))
  have h := h M1 eM1
  refine g_iload_n ok dX9_diagramBarred_5 rfl rfl ?_
  refine g_iconst (v := 1) ok dX9_diagramBarred_6 (by decide) ?_
  refine g_icmp_ne (tgt := 24) ok dX9_diagramBarred_7 (by decide) (fun z => ?_) (fun z => ?_)
  · have h := h.2 z
    refine g_aload_n ok dX9_diagramBarred_24 rfl rfl ?_
    refine g_iload_n ok dX9_diagramBarred_25 rfl rfl ?_
    refine g_callVv (st := []) (as := [.inl p1]) ok rfl (k_X9_layDiagram h) s_X9_layDiagram rfl (by decide) (gNm (by decide)) cl42 sel_X9_layDiagram ins_X9_layDiagram (gle rfl) rfl q5_60 dX9_diagramBarred_26 ?_
    intro M2 h
    refine g_iconst (v := 0) ok dX9_diagramBarred_29 (by decide) ?_
    exact g_iret ok hZ dX9_diagramBarred_30 h
  · have h := h.1 z
    refine g_aload_n ok dX9_diagramBarred_10 rfl rfl ?_
    refine g_callVv (st := []) (as := []) ok rfl (k_X9_search h) s_X9_search rfl (by decide) (gNm (by decide)) cl42 sel_X9_search ins_X9_search (gle rfl) rfl q4_221 dX9_diagramBarred_11 ?_
    intro M4 h
    refine g_aload_n ok dX9_diagramBarred_14 rfl rfl ?_
    refine g_get (w := .inl (M4 42 9)) ok f42_9 (gNm (by decide)) q4_3 dX9_diagramBarred_15 rfl ?_
    refine g_if_eq (tgt := 24) ok dX9_diagramBarred_18 (by decide) (fun z => ?_) (fun z => ?_)
    · have h := h.1 z
      refine g_aload_n ok dX9_diagramBarred_24 rfl rfl ?_
      refine g_iload_n ok dX9_diagramBarred_25 rfl rfl ?_
      refine g_callVv (st := []) (as := [.inl p1]) ok rfl (k_X9_layDiagram h) s_X9_layDiagram rfl (by decide) (gNm (by decide)) cl42 sel_X9_layDiagram ins_X9_layDiagram (gle rfl) rfl q5_60 dX9_diagramBarred_26 ?_
      intro M6 h
      refine g_iconst (v := 0) ok dX9_diagramBarred_29 (by decide) ?_
      exact g_iret ok hZ dX9_diagramBarred_30 h
    · have h := h.2 z
      refine g_bipush (v := (-6)) ok dX9_diagramBarred_21 (by decide) ?_
      exact g_iret ok hZ dX9_diagramBarred_23 h
theorem dX9_diagramSize_0 : decode cX9_diagramSize 0 = .ok (.iload_n 1, 1) := by decide +kernel
theorem dX9_diagramSize_1 : decode cX9_diagramSize 1 = .ok (.iconst 0, 1) := by decide +kernel
theorem dX9_diagramSize_2 : decode cX9_diagramSize 2 = .ok (.iconst 2, 1) := by decide +kernel
theorem dX9_diagramSize_3 : decode cX9_diagramSize 3 = .ok (.invokestatic 66, 3) := by decide +kernel
theorem dX9_diagramSize_6 : decode cX9_diagramSize 6 = .ok (.ifCond .ne 6, 3) := by decide +kernel
theorem dX9_diagramSize_9 : decode cX9_diagramSize 9 = .ok (.bipush (-3), 2) := by decide +kernel
theorem dX9_diagramSize_11 : decode cX9_diagramSize 11 = .ok (.ireturn, 1) := by decide +kernel
theorem dX9_diagramSize_12 : decode cX9_diagramSize 12 = .ok (.aload_n 0, 1) := by decide +kernel
theorem dX9_diagramSize_13 : decode cX9_diagramSize 13 = .ok (.iload_n 1, 1) := by decide +kernel
theorem dX9_diagramSize_14 : decode cX9_diagramSize 14 = .ok (.invokevirtual 179, 3) := by decide +kernel
theorem dX9_diagramSize_17 : decode cX9_diagramSize 17 = .ok (.istore_n 2, 1) := by decide +kernel
theorem dX9_diagramSize_18 : decode cX9_diagramSize 18 = .ok (.iload_n 2, 1) := by decide +kernel
theorem dX9_diagramSize_19 : decode cX9_diagramSize 19 = .ok (.ifCond .ge 7, 3) := by decide +kernel
theorem dX9_diagramSize_22 : decode cX9_diagramSize 22 = .ok (.iload_n 2, 1) := by decide +kernel
theorem dX9_diagramSize_23 : decode cX9_diagramSize 23 = .ok (.goto 7, 3) := by decide +kernel
theorem dX9_diagramSize_26 : decode cX9_diagramSize 26 = .ok (.aload_n 0, 1) := by decide +kernel
theorem dX9_diagramSize_27 : decode cX9_diagramSize 27 = .ok (.getfield 166, 3) := by decide +kernel
theorem dX9_diagramSize_30 : decode cX9_diagramSize 30 = .ok (.ireturn, 1) := by decide +kernel
theorem s_X9_diagramSize : gSt yX9_diagramSize cX9_diagramSize 3 (some .int) 1 := ⟨q5_55, q1_10, ⟨by decide, by decide, by decide +kernel⟩, by decide⟩
theorem sel_X9_diagramSize : Cond.selects yX9_diagramSize.cls yX9_diagramSize yX9_diagramSize ∈ gT := q5_54
theorem ins_X9_diagramSize : Cond.instanceMethod yX9_diagramSize ∈ gT := q5_53
def w_X9_diagramSize (p1 : Int32) (M : gM) (Q : Int32 → gM → Prop) : Prop := w_X9_in p1 0 2 M (fun (r2 : Int32) (M1 : gM) => gbr ((r2 : Int32) = 0) (Q (-3) M1) (w_X9_diagramBarred p1 M1 (fun (r4 : Int32) (M3 : gM) => gbr ((r4 : Int32) < 0) (Q r4 M3) (Q (M3 42 18) M3))))
set_option maxRecDepth 100000 in
set_option maxHeartbeats 4000000 in
theorem k_X9_diagramSize {p1 : Int32} {M : gM} {Q : Int32 → gM → Prop} (h : w_X9_diagramSize p1 M Q) : gCi gN 5 yX9_diagramSize cX9_diagramSize 3 .int [.inr 42, .inl p1] M Q := by
  refine gCi_of (by decide) gNn (gle rfl) (fun X ok hZ => ?_)
  show gW X 0 [some (.inr 42), some (.inl p1), none] [] M
  unfold w_X9_diagramSize at h
  refine g_iload_n ok dX9_diagramSize_0 rfl rfl ?_
  refine g_iconst (v := 0) ok dX9_diagramSize_1 (by decide) ?_
  refine g_iconst (v := 2) ok dX9_diagramSize_2 (by decide) ?_
  refine g_callSi (st := []) (as := [.inl p1, .inl 0, .inl 2]) ok rfl (k_X9_in h) s_X9_in rfl (by decide) stt_X9_in (gle rfl) rfl q4_83 dX9_diagramSize_3 ?_
  intro r2 M1 h
  refine g_if_ne (tgt := 12) ok dX9_diagramSize_6 (by decide) (fun z => ?_) (fun z => ?_)
  · have h := h.2 z
    refine g_aload_n ok dX9_diagramSize_12 rfl rfl ?_
    refine g_iload_n ok dX9_diagramSize_13 rfl rfl ?_
    refine g_callVi (st := []) (as := [.inl p1]) ok rfl (k_X9_diagramBarred h) s_X9_diagramBarred rfl (by decide) (gNm (by decide)) cl42 sel_X9_diagramBarred ins_X9_diagramBarred (gle rfl) rfl q5_56 dX9_diagramSize_14 ?_
    intro r4 M3 h
    refine g_istore_n (lv1 := [some (.inr 42), some (.inl p1), some (.inl r4)]) ok dX9_diagramSize_17 rfl (glt rfl) rfl ?_
    refine g_iload_n ok dX9_diagramSize_18 rfl rfl ?_
    refine g_if_ge (tgt := 26) ok dX9_diagramSize_19 (by decide) (fun z => ?_) (fun z => ?_)
    · have h := h.2 z
      refine g_aload_n ok dX9_diagramSize_26 rfl rfl ?_
      refine g_get (w := .inl (M3 42 18)) ok f42_18 (gNm (by decide)) q4_12 dX9_diagramSize_27 rfl ?_
      exact g_iret ok hZ dX9_diagramSize_30 h
    · have h := h.1 z
      refine g_iload_n ok dX9_diagramSize_22 rfl rfl ?_
      refine g_goto (tgt := 30) ok dX9_diagramSize_23 (by decide) ?_
      exact g_iret ok hZ dX9_diagramSize_30 h
  · have h := h.1 z
    refine g_bipush (v := (-3)) ok dX9_diagramSize_9 (by decide) ?_
    exact g_iret ok hZ dX9_diagramSize_11 h
theorem dX9_nodesAt_0 : decode cX9_nodesAt 0 = .ok (.iload_n 1, 1) := by decide +kernel
theorem dX9_nodesAt_1 : decode cX9_nodesAt 1 = .ok (.iconst 0, 1) := by decide +kernel
theorem dX9_nodesAt_2 : decode cX9_nodesAt 2 = .ok (.iconst 2, 1) := by decide +kernel
theorem dX9_nodesAt_3 : decode cX9_nodesAt 3 = .ok (.invokestatic 66, 3) := by decide +kernel
theorem dX9_nodesAt_6 : decode cX9_nodesAt 6 = .ok (.ifCond .ne 6, 3) := by decide +kernel
theorem dX9_nodesAt_9 : decode cX9_nodesAt 9 = .ok (.bipush (-3), 2) := by decide +kernel
theorem dX9_nodesAt_11 : decode cX9_nodesAt 11 = .ok (.ireturn, 1) := by decide +kernel
theorem dX9_nodesAt_12 : decode cX9_nodesAt 12 = .ok (.aload_n 0, 1) := by decide +kernel
theorem dX9_nodesAt_13 : decode cX9_nodesAt 13 = .ok (.iload_n 2, 1) := by decide +kernel
theorem dX9_nodesAt_14 : decode cX9_nodesAt 14 = .ok (.invokevirtual 113, 3) := by decide +kernel
theorem dX9_nodesAt_17 : decode cX9_nodesAt 17 = .ok (.ifCond .eq 5, 3) := by decide +kernel
theorem dX9_nodesAt_20 : decode cX9_nodesAt 20 = .ok (.iconst (-1), 1) := by decide +kernel
theorem dX9_nodesAt_21 : decode cX9_nodesAt 21 = .ok (.ireturn, 1) := by decide +kernel
theorem dX9_nodesAt_22 : decode cX9_nodesAt 22 = .ok (.aload_n 0, 1) := by decide +kernel
theorem dX9_nodesAt_23 : decode cX9_nodesAt 23 = .ok (.iload_n 1, 1) := by decide +kernel
theorem dX9_nodesAt_24 : decode cX9_nodesAt 24 = .ok (.invokevirtual 179, 3) := by decide +kernel
theorem dX9_nodesAt_27 : decode cX9_nodesAt 27 = .ok (.istore_n 3, 1) := by decide +kernel
theorem dX9_nodesAt_28 : decode cX9_nodesAt 28 = .ok (.iload_n 3, 1) := by decide +kernel
theorem dX9_nodesAt_29 : decode cX9_nodesAt 29 = .ok (.ifCond .ge 7, 3) := by decide +kernel
theorem dX9_nodesAt_32 : decode cX9_nodesAt 32 = .ok (.iload_n 3, 1) := by decide +kernel
theorem dX9_nodesAt_33 : decode cX9_nodesAt 33 = .ok (.goto 9, 3) := by decide +kernel
theorem dX9_nodesAt_36 : decode cX9_nodesAt 36 = .ok (.aload_n 0, 1) := by decide +kernel
theorem dX9_nodesAt_37 : decode cX9_nodesAt 37 = .ok (.getfield 49, 3) := by decide +kernel
theorem dX9_nodesAt_40 : decode cX9_nodesAt 40 = .ok (.iload_n 2, 1) := by decide +kernel
theorem dX9_nodesAt_41 : decode cX9_nodesAt 41 = .ok (.iaload, 1) := by decide +kernel
theorem dX9_nodesAt_42 : decode cX9_nodesAt 42 = .ok (.ireturn, 1) := by decide +kernel
theorem s_X9_nodesAt : gSt yX9_nodesAt cX9_nodesAt 4 (some .int) 2 := ⟨q5_75, q1_10, ⟨by decide, by decide, by decide +kernel⟩, by decide⟩
theorem sel_X9_nodesAt : Cond.selects yX9_nodesAt.cls yX9_nodesAt yX9_nodesAt ∈ gT := q5_74
theorem ins_X9_nodesAt : Cond.instanceMethod yX9_nodesAt ∈ gT := q5_73
def w_X9_nodesAt (p1 : Int32) (p2 : Int32) (M : gM) (Q : Int32 → gM → Prop) : Prop := w_X9_in p1 0 2 M (fun (r2 : Int32) (M1 : gM) => gbr ((r2 : Int32) = 0) (Q (-3) M1) (w_X9_noVertex p2 M1 (fun (r4 : Int32) (M3 : gM) => gbr ((r4 : Int32) = 0) (w_X9_diagramBarred p1 M3 (fun (r6 : Int32) (M5 : gM) => gbr ((r6 : Int32) < 0) (Q r6 M5) (vp_in p2 14 ∧ (Q (M5 56 (Int32.toNatClampNeg p2)) M5)))) (Q (-1) M3))))
set_option maxRecDepth 100000 in
set_option maxHeartbeats 4000000 in
theorem k_X9_nodesAt {p1 : Int32} {p2 : Int32} {M : gM} {Q : Int32 → gM → Prop} (h : w_X9_nodesAt p1 p2 M Q) : gCi gN 5 yX9_nodesAt cX9_nodesAt 4 .int [.inr 42, .inl p1, .inl p2] M Q := by
  refine gCi_of (by decide) gNn (gle rfl) (fun X ok hZ => ?_)
  show gW X 0 [some (.inr 42), some (.inl p1), some (.inl p2), none] [] M
  unfold w_X9_nodesAt at h
  refine g_iload_n ok dX9_nodesAt_0 rfl rfl ?_
  refine g_iconst (v := 0) ok dX9_nodesAt_1 (by decide) ?_
  refine g_iconst (v := 2) ok dX9_nodesAt_2 (by decide) ?_
  refine g_callSi (st := []) (as := [.inl p1, .inl 0, .inl 2]) ok rfl (k_X9_in h) s_X9_in rfl (by decide) stt_X9_in (gle rfl) rfl q4_83 dX9_nodesAt_3 ?_
  intro r2 M1 h
  refine g_if_ne (tgt := 12) ok dX9_nodesAt_6 (by decide) (fun z => ?_) (fun z => ?_)
  · have h := h.2 z
    refine g_aload_n ok dX9_nodesAt_12 rfl rfl ?_
    refine g_iload_n ok dX9_nodesAt_13 rfl rfl ?_
    refine g_callVi (st := []) (as := [.inl p2]) ok rfl (k_X9_noVertex h) s_X9_noVertex rfl (by decide) (gNm (by decide)) cl42 sel_X9_noVertex ins_X9_noVertex (gle rfl) rfl q4_154 dX9_nodesAt_14 ?_
    intro r4 M3 h
    refine g_if_eq (tgt := 22) ok dX9_nodesAt_17 (by decide) (fun z => ?_) (fun z => ?_)
    · have h := h.1 z
      refine g_aload_n ok dX9_nodesAt_22 rfl rfl ?_
      refine g_iload_n ok dX9_nodesAt_23 rfl rfl ?_
      refine g_callVi (st := []) (as := [.inl p1]) ok rfl (k_X9_diagramBarred h) s_X9_diagramBarred rfl (by decide) (gNm (by decide)) cl42 sel_X9_diagramBarred ins_X9_diagramBarred (gle rfl) rfl q5_56 dX9_nodesAt_24 ?_
      intro r6 M5 h
      refine g_istore_n (lv1 := [some (.inr 42), some (.inl p1), some (.inl p2), some (.inl r6)]) ok dX9_nodesAt_27 rfl (glt rfl) rfl ?_
      refine g_iload_n ok dX9_nodesAt_28 rfl rfl ?_
      refine g_if_ge (tgt := 36) ok dX9_nodesAt_29 (by decide) (fun z => ?_) (fun z => ?_)
      · have h := h.2 z
        refine g_aload_n ok dX9_nodesAt_36 rfl rfl ?_
        refine g_get (w := .inr 56) ok f42_21 (gNm (by decide)) q4_15 dX9_nodesAt_37 rfl ?_
        refine g_iload_n ok dX9_nodesAt_40 rfl rfl ?_
        have hb := h.1
        have h := h.2
        refine g_iald (w := (M5 56 (Int32.toNatClampNeg p2))) ok a56 (gNm (by decide)) dX9_nodesAt_41 hb rfl ?_
        exact g_iret ok hZ dX9_nodesAt_42 h
      · have h := h.1 z
        refine g_iload_n ok dX9_nodesAt_32 rfl rfl ?_
        refine g_goto (tgt := 42) ok dX9_nodesAt_33 (by decide) ?_
        exact g_iret ok hZ dX9_nodesAt_42 h
    · have h := h.2 z
      refine g_iconst (v := (-1)) ok dX9_nodesAt_20 (by decide) ?_
      exact g_iret ok hZ dX9_nodesAt_21 h
  · have h := h.1 z
    refine g_bipush (v := (-3)) ok dX9_nodesAt_9 (by decide) ?_
    exact g_iret ok hZ dX9_nodesAt_11 h
theorem dX9_isAnswer_0 : decode cX9_isAnswer 0 = .ok (.aload_n 0, 1) := by decide +kernel
theorem dX9_isAnswer_1 : decode cX9_isAnswer 1 = .ok (.iload_n 1, 1) := by decide +kernel
theorem dX9_isAnswer_2 : decode cX9_isAnswer 2 = .ok (.invokevirtual 126, 3) := by decide +kernel
theorem dX9_isAnswer_5 : decode cX9_isAnswer 5 = .ok (.ifCond .ne 15, 3) := by decide +kernel
theorem dX9_isAnswer_8 : decode cX9_isAnswer 8 = .ok (.aload_n 0, 1) := by decide +kernel
theorem dX9_isAnswer_9 : decode cX9_isAnswer 9 = .ok (.iload_n 1, 1) := by decide +kernel
theorem dX9_isAnswer_10 : decode cX9_isAnswer 10 = .ok (.invokevirtual 129, 3) := by decide +kernel
theorem dX9_isAnswer_13 : decode cX9_isAnswer 13 = .ok (.ifCond .eq 7, 3) := by decide +kernel
theorem dX9_isAnswer_16 : decode cX9_isAnswer 16 = .ok (.iconst 1, 1) := by decide +kernel
theorem dX9_isAnswer_17 : decode cX9_isAnswer 17 = .ok (.goto 4, 3) := by decide +kernel
theorem dX9_isAnswer_20 : decode cX9_isAnswer 20 = .ok (.iconst 0, 1) := by decide +kernel
theorem dX9_isAnswer_21 : decode cX9_isAnswer 21 = .ok (.ireturn, 1) := by decide +kernel
theorem s_X9_isAnswer : gSt yX9_isAnswer cX9_isAnswer 2 (some .boolean) 1 := ⟨q5_87, q1_10, ⟨by decide, by decide, by decide +kernel⟩, by decide⟩
theorem sel_X9_isAnswer : Cond.selects yX9_isAnswer.cls yX9_isAnswer yX9_isAnswer ∈ gT := qs_46
theorem ins_X9_isAnswer : Cond.instanceMethod yX9_isAnswer ∈ gT := q5_86
def w_X9_isAnswer (p1 : Int32) (M : gM) (Q : Int32 → gM → Prop) : Prop := w_X9_missedBy p1 M (fun (r2 : Int32) (M1 : gM) => gbr ((r2 : Int32) = 0) (w_X9_haveAllPrivate p1 M1 (fun (r4 : Int32) (M3 : gM) => gbr ((r4 : Int32) = 0) (Q 0 M3) (Q 1 M3))) (Q 0 M1))
set_option maxRecDepth 100000 in
set_option maxHeartbeats 4000000 in
theorem k_X9_isAnswer {p1 : Int32} {M : gM} {Q : Int32 → gM → Prop} (h : w_X9_isAnswer p1 M Q) : gCi gN 3 yX9_isAnswer cX9_isAnswer 2 .boolean [.inr 42, .inl p1] M Q := by
  refine gCi_of (by decide) gNn (gle rfl) (fun X ok hZ => ?_)
  show gW X 0 [some (.inr 42), some (.inl p1)] [] M
  unfold w_X9_isAnswer at h
  refine g_aload_n ok dX9_isAnswer_0 rfl rfl ?_
  refine g_iload_n ok dX9_isAnswer_1 rfl rfl ?_
  refine g_callVi (st := []) (as := [.inl p1]) ok rfl (k_X9_missedBy h) s_X9_missedBy rfl (by decide) (gNm (by decide)) cl42 sel_X9_missedBy ins_X9_missedBy (gle rfl) rfl q4_189 dX9_isAnswer_2 ?_
  intro r2 M1 h
  refine g_if_ne (tgt := 20) ok dX9_isAnswer_5 (by decide) (fun z => ?_) (fun z => ?_)
  · have h := h.2 z
    refine g_iconst (v := 0) ok dX9_isAnswer_20 (by decide) ?_
    exact g_zret ok hZ dX9_isAnswer_21 (by decide) h
  · have h := h.1 z
    refine g_aload_n ok dX9_isAnswer_8 rfl rfl ?_
    refine g_iload_n ok dX9_isAnswer_9 rfl rfl ?_
    refine g_callVi (st := []) (as := [.inl p1]) ok rfl (k_X9_haveAllPrivate h) s_X9_haveAllPrivate rfl (by decide) (gNm (by decide)) cl42 sel_X9_haveAllPrivate ins_X9_haveAllPrivate (gle rfl) rfl q4_205 dX9_isAnswer_10 ?_
    intro r4 M3 h
    refine g_if_eq (tgt := 20) ok dX9_isAnswer_13 (by decide) (fun z => ?_) (fun z => ?_)
    · have h := h.1 z
      refine g_iconst (v := 0) ok dX9_isAnswer_20 (by decide) ?_
      exact g_zret ok hZ dX9_isAnswer_21 (by decide) h
    · have h := h.2 z
      refine g_iconst (v := 1) ok dX9_isAnswer_16 (by decide) ?_
      refine g_goto (tgt := 21) ok dX9_isAnswer_17 (by decide) ?_
      exact g_zret ok hZ dX9_isAnswer_21 (by decide) h
theorem dX9_isMinimal_0 : decode cX9_isMinimal 0 = .ok (.aload_n 0, 1) := by decide +kernel
theorem dX9_isMinimal_1 : decode cX9_isMinimal 1 = .ok (.iload_n 1, 1) := by decide +kernel
theorem dX9_isMinimal_2 : decode cX9_isMinimal 2 = .ok (.invokevirtual 87, 3) := by decide +kernel
theorem dX9_isMinimal_5 : decode cX9_isMinimal 5 = .ok (.istore_n 2, 1) := by decide +kernel
theorem dX9_isMinimal_6 : decode cX9_isMinimal 6 = .ok (.iload_n 2, 1) := by decide +kernel
theorem dX9_isMinimal_7 : decode cX9_isMinimal 7 = .ok (.ifCond .lt 15, 3) := by decide +kernel
theorem dX9_isMinimal_10 : decode cX9_isMinimal 10 = .ok (.aload_n 0, 1) := by decide +kernel
theorem dX9_isMinimal_11 : decode cX9_isMinimal 11 = .ok (.iload_n 2, 1) := by decide +kernel
theorem dX9_isMinimal_12 : decode cX9_isMinimal 12 = .ok (.invokevirtual 104, 3) := by decide +kernel
theorem dX9_isMinimal_15 : decode cX9_isMinimal 15 = .ok (.ifCond .eq 7, 3) := by decide +kernel
theorem dX9_isMinimal_18 : decode cX9_isMinimal 18 = .ok (.iconst 1, 1) := by decide +kernel
theorem dX9_isMinimal_19 : decode cX9_isMinimal 19 = .ok (.goto 4, 3) := by decide +kernel
theorem dX9_isMinimal_22 : decode cX9_isMinimal 22 = .ok (.iconst 0, 1) := by decide +kernel
theorem dX9_isMinimal_23 : decode cX9_isMinimal 23 = .ok (.ireturn, 1) := by decide +kernel
theorem s_X9_isMinimal : gSt yX9_isMinimal cX9_isMinimal 3 (some .boolean) 1 := ⟨q5_83, q1_10, ⟨by decide, by decide, by decide +kernel⟩, by decide⟩
theorem sel_X9_isMinimal : Cond.selects yX9_isMinimal.cls yX9_isMinimal yX9_isMinimal ∈ gT := qs_45
theorem ins_X9_isMinimal : Cond.instanceMethod yX9_isMinimal ∈ gT := q5_82
def w_X9_isMinimal (p1 : Int32) (M : gM) (Q : Int32 → gM → Prop) : Prop := w_X9_placeOf p1 M (fun (r2 : Int32) (M1 : gM) => gbr ((r2 : Int32) < 0) (Q 0 M1) (w_X9_isMinimalEdge r2 M1 (fun (r4 : Int32) (M3 : gM) => gbr ((r4 : Int32) = 0) (Q 0 M3) (Q 1 M3))))
set_option maxRecDepth 100000 in
set_option maxHeartbeats 4000000 in
theorem k_X9_isMinimal {p1 : Int32} {M : gM} {Q : Int32 → gM → Prop} (h : w_X9_isMinimal p1 M Q) : gCi gN 2 yX9_isMinimal cX9_isMinimal 3 .boolean [.inr 42, .inl p1] M Q := by
  refine gCi_of (by decide) gNn (gle rfl) (fun X ok hZ => ?_)
  show gW X 0 [some (.inr 42), some (.inl p1), none] [] M
  unfold w_X9_isMinimal at h
  refine g_aload_n ok dX9_isMinimal_0 rfl rfl ?_
  refine g_iload_n ok dX9_isMinimal_1 rfl rfl ?_
  refine g_callVi (st := []) (as := [.inl p1]) ok rfl (k_X9_placeOf h) s_X9_placeOf rfl (by decide) (gNm (by decide)) cl42 sel_X9_placeOf ins_X9_placeOf (gle rfl) rfl q4_106 dX9_isMinimal_2 ?_
  intro r2 M1 h
  refine g_istore_n (lv1 := [some (.inr 42), some (.inl p1), some (.inl r2)]) ok dX9_isMinimal_5 rfl (glt rfl) rfl ?_
  refine g_iload_n ok dX9_isMinimal_6 rfl rfl ?_
  refine g_if_lt (tgt := 22) ok dX9_isMinimal_7 (by decide) (fun z => ?_) (fun z => ?_)
  · have h := h.1 z
    refine g_iconst (v := 0) ok dX9_isMinimal_22 (by decide) ?_
    exact g_zret ok hZ dX9_isMinimal_23 (by decide) h
  · have h := h.2 z
    refine g_aload_n ok dX9_isMinimal_10 rfl rfl ?_
    refine g_iload_n ok dX9_isMinimal_11 rfl rfl ?_
    refine g_callVi (st := []) (as := [.inl r2]) ok rfl (k_X9_isMinimalEdge h) s_X9_isMinimalEdge rfl (by decide) (gNm (by decide)) cl42 sel_X9_isMinimalEdge ins_X9_isMinimalEdge (gle rfl) rfl q4_142 dX9_isMinimal_12 ?_
    intro r4 M3 h
    refine g_if_eq (tgt := 22) ok dX9_isMinimal_15 (by decide) (fun z => ?_) (fun z => ?_)
    · have h := h.1 z
      refine g_iconst (v := 0) ok dX9_isMinimal_22 (by decide) ?_
      exact g_zret ok hZ dX9_isMinimal_23 (by decide) h
    · have h := h.2 z
      refine g_iconst (v := 1) ok dX9_isMinimal_18 (by decide) ?_
      refine g_goto (tgt := 23) ok dX9_isMinimal_19 (by decide) ?_
      exact g_zret ok hZ dX9_isMinimal_23 (by decide) h
theorem dX9_difference_0 : decode cX9_difference 0 = .ok (.aload_n 0, 1) := by decide +kernel
theorem dX9_difference_1 : decode cX9_difference 1 = .ok (.invokevirtual 154, 3) := by decide +kernel
theorem dX9_difference_4 : decode cX9_difference 4 = .ok (.aload_n 0, 1) := by decide +kernel
theorem dX9_difference_5 : decode cX9_difference 5 = .ok (.getfield 144, 3) := by decide +kernel
theorem dX9_difference_8 : decode cX9_difference 8 = .ok (.ifCond .eq 6, 3) := by decide +kernel
theorem dX9_difference_11 : decode cX9_difference 11 = .ok (.bipush (-6), 2) := by decide +kernel
theorem dX9_difference_13 : decode cX9_difference 13 = .ok (.ireturn, 1) := by decide +kernel
theorem dX9_difference_14 : decode cX9_difference 14 = .ok (.iconst 0, 1) := by decide +kernel
theorem dX9_difference_15 : decode cX9_difference 15 = .ok (.istore_n 1, 1) := by decide +kernel
theorem dX9_difference_16 : decode cX9_difference 16 = .ok (.iload_n 1, 1) := by decide +kernel
theorem dX9_difference_17 : decode cX9_difference 17 = .ok (.aload_n 0, 1) := by decide +kernel
theorem dX9_difference_18 : decode cX9_difference 18 = .ok (.invokevirtual 70, 3) := by decide +kernel
theorem dX9_difference_21 : decode cX9_difference 21 = .ok (.if_icmp .gt 24, 3) := by decide +kernel
theorem dX9_difference_24 : decode cX9_difference 24 = .ok (.aload_n 0, 1) := by decide +kernel
theorem dX9_difference_25 : decode cX9_difference 25 = .ok (.iload_n 1, 1) := by decide +kernel
theorem dX9_difference_26 : decode cX9_difference 26 = .ok (.invokevirtual 182, 3) := by decide +kernel
theorem dX9_difference_29 : decode cX9_difference 29 = .ok (.aload_n 0, 1) := by decide +kernel
theorem dX9_difference_30 : decode cX9_difference 30 = .ok (.iload_n 1, 1) := by decide +kernel
theorem dX9_difference_31 : decode cX9_difference 31 = .ok (.invokevirtual 185, 3) := by decide +kernel
theorem dX9_difference_34 : decode cX9_difference 34 = .ok (.if_icmp .eq 5, 3) := by decide +kernel
theorem dX9_difference_37 : decode cX9_difference 37 = .ok (.iload_n 1, 1) := by decide +kernel
theorem dX9_difference_38 : decode cX9_difference 38 = .ok (.ireturn, 1) := by decide +kernel
theorem dX9_difference_39 : decode cX9_difference 39 = .ok (.iinc 1 1, 3) := by decide +kernel
theorem dX9_difference_42 : decode cX9_difference 42 = .ok (.goto (-26), 3) := by decide +kernel
theorem dX9_difference_45 : decode cX9_difference 45 = .ok (.bipush (-7), 2) := by decide +kernel
theorem dX9_difference_47 : decode cX9_difference 47 = .ok (.ireturn, 1) := by decide +kernel
theorem s_X9_difference : gSt yX9_difference cX9_difference 2 (some .int) 0 := ⟨q5_79, q1_10, ⟨by decide, by decide, by decide +kernel⟩, by decide⟩
theorem sel_X9_difference : Cond.selects yX9_difference.cls yX9_difference yX9_difference ∈ gT := q5_78
theorem ins_X9_difference : Cond.instanceMethod yX9_difference ∈ gT := q5_77
def w_X9_difference_L16 (Q : Int32 → gM → Prop) (K45 : Int32 → gM → Prop) (K37 : Int32 → gM → Prop) : Nat → Int32 → gM → Prop
  | 0, _, _ => False
  | n + 1, v1, M => w_X9_whole M (fun (r4 : Int32) (M3 : gM) => gbr ((r4 : Int32) < v1) (K45 (v1) M3) (w_X9_isMinimal v1 M3 (fun (r6 : Int32) (M5 : gM) => w_X9_isAnswer v1 M5 (fun (r8 : Int32) (M7 : gM) => gbr ((r6 : Int32) = r8) (∀ x9 : Int32, x9 = (v1 + 1) → (w_X9_difference_L16 Q K45 K37 n (x9) M7)) (K37 (v1) M7)))))
def w_X9_difference  (M : gM) (Q : Int32 → gM → Prop) : Prop := w_X9_search M (fun (M1 : gM) => gbr (((M1 42 9) : Int32) = 0) (∃ nf, w_X9_difference_L16 Q (fun (x10 : Int32) (M11 : gM) => Q (-7) M11) (fun (x12 : Int32) (M13 : gM) => Q x12 M13)  nf 0 M1) (Q (-6) M1))
set_option maxRecDepth 100000 in
set_option maxHeartbeats 4000000 in
theorem w_X9_difference_L16_w {X : gX} (ok : gOk X cX9_difference yX9_difference.cls 4 2 (some .int) gN) {Q : Int32 → gM → Prop} (hZ : gZi X Q) {K45 : Int32 → gM → Prop} {K37 : Int32 → gM → Prop}  (hK45 : ∀ (v1 : Int32)  (M : gM), K45 v1 M → gW X 45 [some (.inr 42), some (.inl v1)] [] M) (hK37 : ∀ (v1 : Int32)  (M : gM), K37 v1 M → gW X 37 [some (.inr 42), some (.inl v1)] [] M) : ∀ (n : Nat) (v1 : Int32)  (M : gM), w_X9_difference_L16 Q K45 K37 n v1 M → gW X 16 [some (.inr 42), some (.inl v1)] [] M
  | 0, _, _, h => h.elim
  | n + 1, v1, M, h => by
    have ih := fun (v1 : Int32)  (M : gM) h => w_X9_difference_L16_w ok hZ  hK45 hK37 n v1  M h
    rw [w_X9_difference_L16.eq_2] at h
    refine g_iload_n ok dX9_difference_16 rfl rfl ?_
    refine g_aload_n ok dX9_difference_17 rfl rfl ?_
    refine g_callVi (st := [.inl v1]) (as := []) ok rfl (k_X9_whole h) s_X9_whole rfl (by decide) (gNm (by decide)) cl42 sel_X9_whole ins_X9_whole (gle rfl) rfl q4_102 dX9_difference_18 ?_
    intro r4 M3 h
    refine g_icmp_gt (tgt := 45) ok dX9_difference_21 (by decide) (fun z => ?_) (fun z => ?_)
    · have h := h.1 z
      exact hK45 (v1) M3 h
    · have h := h.2 z
      refine g_aload_n ok dX9_difference_24 rfl rfl ?_
      refine g_iload_n ok dX9_difference_25 rfl rfl ?_
      refine g_callVi (st := []) (as := [.inl v1]) ok rfl (k_X9_isMinimal h) s_X9_isMinimal rfl (by decide) (gNm (by decide)) cl42 sel_X9_isMinimal ins_X9_isMinimal (gle rfl) rfl q5_80 dX9_difference_26 ?_
      intro r6 M5 h
      refine g_aload_n ok dX9_difference_29 rfl rfl ?_
      refine g_iload_n ok dX9_difference_30 rfl rfl ?_
      refine g_callVi (st := [.inl r6]) (as := [.inl v1]) ok rfl (k_X9_isAnswer h) s_X9_isAnswer rfl (by decide) (gNm (by decide)) cl42 sel_X9_isAnswer ins_X9_isAnswer (gle rfl) rfl q5_84 dX9_difference_31 ?_
      intro r8 M7 h
      refine g_icmp_eq (tgt := 39) ok dX9_difference_34 (by decide) (fun z => ?_) (fun z => ?_)
      · have h := h.1 z
        obtain ⟨x9, ex9⟩ : ∃ y : Int32, y = (v1 + 1) := ⟨_, rfl⟩
        have h := h x9 ex9
        refine g_iinc (v := x9) (lv1 := [some (.inr 42), some (.inl x9)]) ok dX9_difference_39 rfl (by rw [ex9]; rfl) rfl ?_
        refine g_goto (tgt := 16) ok dX9_difference_42 (by decide) ?_
        exact ih (x9) M7 h
      · have h := h.2 z
        exact hK37 (v1) M7 h
set_option maxRecDepth 100000 in
set_option maxHeartbeats 4000000 in
theorem k_X9_difference  {M : gM} {Q : Int32 → gM → Prop} (h : w_X9_difference  M Q) : gCi gN 4 yX9_difference cX9_difference 2 .int [.inr 42] M Q := by
  refine gCi_of (by decide) gNn (gle rfl) (fun X ok hZ => ?_)
  show gW X 0 [some (.inr 42), none] [] M
  unfold w_X9_difference at h
  refine g_aload_n ok dX9_difference_0 rfl rfl ?_
  refine g_callVv (st := []) (as := []) ok rfl (k_X9_search h) s_X9_search rfl (by decide) (gNm (by decide)) cl42 sel_X9_search ins_X9_search (gle rfl) rfl q4_221 dX9_difference_1 ?_
  intro M1 h
  refine g_aload_n ok dX9_difference_4 rfl rfl ?_
  refine g_get (w := .inl (M1 42 9)) ok f42_9 (gNm (by decide)) q4_3 dX9_difference_5 rfl ?_
  refine g_if_eq (tgt := 14) ok dX9_difference_8 (by decide) (fun z => ?_) (fun z => ?_)
  · have h := h.1 z
    refine g_iconst (v := 0) ok dX9_difference_14 (by decide) ?_
    refine g_istore_n (lv1 := [some (.inr 42), some (.inl 0)]) ok dX9_difference_15 rfl (glt rfl) rfl ?_
    obtain ⟨nf, h⟩ := h
    refine w_X9_difference_L16_w ok hZ  ?_ ?_ nf 0  M1 h
    · intro x10  M11 h
      refine g_bipush (v := (-7)) ok dX9_difference_45 (by decide) ?_
      exact g_iret ok hZ dX9_difference_47 h
    · intro x12  M13 h
      refine g_iload_n ok dX9_difference_37 rfl rfl ?_
      exact g_iret ok hZ dX9_difference_38 h
  · have h := h.2 z
    refine g_bipush (v := (-6)) ok dX9_difference_11 (by decide) ?_
    exact g_iret ok hZ dX9_difference_13 h
theorem dX9_isSelfDual_0 : decode cX9_isSelfDual 0 = .ok (.aload_n 0, 1) := by decide +kernel
theorem dX9_isSelfDual_1 : decode cX9_isSelfDual 1 = .ok (.invokevirtual 188, 3) := by decide +kernel
theorem dX9_isSelfDual_4 : decode cX9_isSelfDual 4 = .ok (.istore_n 1, 1) := by decide +kernel
theorem dX9_isSelfDual_5 : decode cX9_isSelfDual 5 = .ok (.iload_n 1, 1) := by decide +kernel
theorem dX9_isSelfDual_6 : decode cX9_isSelfDual 6 = .ok (.bipush (-6), 2) := by decide +kernel
theorem dX9_isSelfDual_8 : decode cX9_isSelfDual 8 = .ok (.if_icmp .ne 8, 3) := by decide +kernel
theorem dX9_isSelfDual_11 : decode cX9_isSelfDual 11 = .ok (.bipush (-6), 2) := by decide +kernel
theorem dX9_isSelfDual_13 : decode cX9_isSelfDual 13 = .ok (.goto 14, 3) := by decide +kernel
theorem dX9_isSelfDual_16 : decode cX9_isSelfDual 16 = .ok (.iload_n 1, 1) := by decide +kernel
theorem dX9_isSelfDual_17 : decode cX9_isSelfDual 17 = .ok (.bipush (-7), 2) := by decide +kernel
theorem dX9_isSelfDual_19 : decode cX9_isSelfDual 19 = .ok (.if_icmp .ne 7, 3) := by decide +kernel
theorem dX9_isSelfDual_22 : decode cX9_isSelfDual 22 = .ok (.iconst 1, 1) := by decide +kernel
theorem dX9_isSelfDual_23 : decode cX9_isSelfDual 23 = .ok (.goto 4, 3) := by decide +kernel
theorem dX9_isSelfDual_26 : decode cX9_isSelfDual 26 = .ok (.iconst 0, 1) := by decide +kernel
theorem dX9_isSelfDual_27 : decode cX9_isSelfDual 27 = .ok (.ireturn, 1) := by decide +kernel
theorem s_X9_isSelfDual : gSt yX9_isSelfDual cX9_isSelfDual 2 (some .int) 0 := ⟨q5_91, q1_10, ⟨by decide, by decide, by decide +kernel⟩, by decide⟩
theorem sel_X9_isSelfDual : Cond.selects yX9_isSelfDual.cls yX9_isSelfDual yX9_isSelfDual ∈ gT := q5_90
theorem ins_X9_isSelfDual : Cond.instanceMethod yX9_isSelfDual ∈ gT := q5_89
def w_X9_isSelfDual  (M : gM) (Q : Int32 → gM → Prop) : Prop := w_X9_difference M (fun (r2 : Int32) (M1 : gM) => gbr ((r2 : Int32) = (-6)) (Q (-6) M1) (gbr ((r2 : Int32) = (-7)) (Q 1 M1) (Q 0 M1)))
set_option maxRecDepth 100000 in
set_option maxHeartbeats 4000000 in
theorem k_X9_isSelfDual  {M : gM} {Q : Int32 → gM → Prop} (h : w_X9_isSelfDual  M Q) : gCi gN 5 yX9_isSelfDual cX9_isSelfDual 2 .int [.inr 42] M Q := by
  refine gCi_of (by decide) gNn (gle rfl) (fun X ok hZ => ?_)
  show gW X 0 [some (.inr 42), none] [] M
  unfold w_X9_isSelfDual at h
  refine g_aload_n ok dX9_isSelfDual_0 rfl rfl ?_
  refine g_callVi (st := []) (as := []) ok rfl (k_X9_difference h) s_X9_difference rfl (by decide) (gNm (by decide)) cl42 sel_X9_difference ins_X9_difference (gle rfl) rfl q5_92 dX9_isSelfDual_1 ?_
  intro r2 M1 h
  refine g_istore_n (lv1 := [some (.inr 42), some (.inl r2)]) ok dX9_isSelfDual_4 rfl (glt rfl) rfl ?_
  refine g_iload_n ok dX9_isSelfDual_5 rfl rfl ?_
  refine g_bipush (v := (-6)) ok dX9_isSelfDual_6 (by decide) ?_
  refine g_icmp_ne (tgt := 16) ok dX9_isSelfDual_8 (by decide) (fun z => ?_) (fun z => ?_)
  · have h := h.2 z
    refine g_iload_n ok dX9_isSelfDual_16 rfl rfl ?_
    refine g_bipush (v := (-7)) ok dX9_isSelfDual_17 (by decide) ?_
    refine g_icmp_ne (tgt := 26) ok dX9_isSelfDual_19 (by decide) (fun z => ?_) (fun z => ?_)
    · have h := h.2 z
      refine g_iconst (v := 0) ok dX9_isSelfDual_26 (by decide) ?_
      exact g_iret ok hZ dX9_isSelfDual_27 h
    · have h := h.1 z
      refine g_iconst (v := 1) ok dX9_isSelfDual_22 (by decide) ?_
      refine g_goto (tgt := 27) ok dX9_isSelfDual_23 (by decide) ?_
      exact g_iret ok hZ dX9_isSelfDual_27 h
  · have h := h.1 z
    refine g_bipush (v := (-6)) ok dX9_isSelfDual_11 (by decide) ?_
    refine g_goto (tgt := 27) ok dX9_isSelfDual_13 (by decide) ?_
    exact g_iret ok hZ dX9_isSelfDual_27 h
theorem dX9_isIntersecting_0 : decode cX9_isIntersecting 0 = .ok (.iconst 0, 1) := by decide +kernel
theorem dX9_isIntersecting_1 : decode cX9_isIntersecting 1 = .ok (.istore_n 1, 1) := by decide +kernel
theorem dX9_isIntersecting_2 : decode cX9_isIntersecting 2 = .ok (.iload_n 1, 1) := by decide +kernel
theorem dX9_isIntersecting_3 : decode cX9_isIntersecting 3 = .ok (.aload_n 0, 1) := by decide +kernel
theorem dX9_isIntersecting_4 : decode cX9_isIntersecting 4 = .ok (.invokevirtual 80, 3) := by decide +kernel
theorem dX9_isIntersecting_7 : decode cX9_isIntersecting 7 = .ok (.if_icmp .ge 40, 3) := by decide +kernel
theorem dX9_isIntersecting_10 : decode cX9_isIntersecting 10 = .ok (.iconst 0, 1) := by decide +kernel
theorem dX9_isIntersecting_11 : decode cX9_isIntersecting 11 = .ok (.istore_n 2, 1) := by decide +kernel
theorem dX9_isIntersecting_12 : decode cX9_isIntersecting 12 = .ok (.iload_n 2, 1) := by decide +kernel
theorem dX9_isIntersecting_13 : decode cX9_isIntersecting 13 = .ok (.iload_n 1, 1) := by decide +kernel
theorem dX9_isIntersecting_14 : decode cX9_isIntersecting 14 = .ok (.if_icmp .ge 27, 3) := by decide +kernel
theorem dX9_isIntersecting_17 : decode cX9_isIntersecting 17 = .ok (.aload_n 0, 1) := by decide +kernel
theorem dX9_isIntersecting_18 : decode cX9_isIntersecting 18 = .ok (.getfield 7, 3) := by decide +kernel
theorem dX9_isIntersecting_21 : decode cX9_isIntersecting 21 = .ok (.iload_n 1, 1) := by decide +kernel
theorem dX9_isIntersecting_22 : decode cX9_isIntersecting 22 = .ok (.iaload, 1) := by decide +kernel
theorem dX9_isIntersecting_23 : decode cX9_isIntersecting 23 = .ok (.aload_n 0, 1) := by decide +kernel
theorem dX9_isIntersecting_24 : decode cX9_isIntersecting 24 = .ok (.getfield 7, 3) := by decide +kernel
theorem dX9_isIntersecting_27 : decode cX9_isIntersecting 27 = .ok (.iload_n 2, 1) := by decide +kernel
theorem dX9_isIntersecting_28 : decode cX9_isIntersecting 28 = .ok (.iaload, 1) := by decide +kernel
theorem dX9_isIntersecting_29 : decode cX9_isIntersecting 29 = .ok (.iand, 1) := by decide +kernel
theorem dX9_isIntersecting_30 : decode cX9_isIntersecting 30 = .ok (.ifCond .ne 5, 3) := by decide +kernel
theorem dX9_isIntersecting_33 : decode cX9_isIntersecting 33 = .ok (.iconst 0, 1) := by decide +kernel
theorem dX9_isIntersecting_34 : decode cX9_isIntersecting 34 = .ok (.ireturn, 1) := by decide +kernel
theorem dX9_isIntersecting_35 : decode cX9_isIntersecting 35 = .ok (.iinc 2 1, 3) := by decide +kernel
theorem dX9_isIntersecting_38 : decode cX9_isIntersecting 38 = .ok (.goto (-26), 3) := by decide +kernel
theorem dX9_isIntersecting_41 : decode cX9_isIntersecting 41 = .ok (.iinc 1 1, 3) := by decide +kernel
theorem dX9_isIntersecting_44 : decode cX9_isIntersecting 44 = .ok (.goto (-42), 3) := by decide +kernel
theorem dX9_isIntersecting_47 : decode cX9_isIntersecting 47 = .ok (.iconst 1, 1) := by decide +kernel
theorem dX9_isIntersecting_48 : decode cX9_isIntersecting 48 = .ok (.ireturn, 1) := by decide +kernel
theorem s_X9_isIntersecting : gSt yX9_isIntersecting cX9_isIntersecting 3 (some .int) 0 := ⟨q5_96, q1_10, ⟨by decide, by decide, by decide +kernel⟩, by decide⟩
theorem sel_X9_isIntersecting : Cond.selects yX9_isIntersecting.cls yX9_isIntersecting yX9_isIntersecting ∈ gT := q5_95
theorem ins_X9_isIntersecting : Cond.instanceMethod yX9_isIntersecting ∈ gT := q5_94
def w_X9_isIntersecting_L12 (Q : Int32 → gM → Prop) (K41 : Int32 → gM → Prop) (K33 : Int32 → gM → Prop) (v1 : Int32) : Nat → Int32 → gM → Prop
  | 0, _, _ => False
  | n + 1, v2, M => gbr ((v2 : Int32) < v1) (vp_in v1 25 ∧ (vp_in v2 25 ∧ (gbr ((((M 43 (Int32.toNatClampNeg v1)) &&& (M 43 (Int32.toNatClampNeg v2))) : Int32) = 0) (K33 (v2) M) (∀ x3 : Int32, x3 = (v2 + 1) → (w_X9_isIntersecting_L12 Q K41 K33 v1 n (x3) M))))) (K41 (v2) M)
def w_X9_isIntersecting_L2 (Q : Int32 → gM → Prop) (K47 : Int32 → gM → Prop) (K33 : Int32 → gM → Prop) : Nat → Int32 → gM → Prop
  | 0, _, _ => False
  | n + 1, v1, M => w_X9_many M (fun (r2 : Int32) (M1 : gM) => gbr ((v1 : Int32) < r2) (∃ nf, w_X9_isIntersecting_L12 Q (fun (x4 : Int32) (M5 : gM) => ∀ x6 : Int32, x6 = (v1 + 1) → (w_X9_isIntersecting_L2 Q K47 K33 n (x6) M5)) (fun (x7 : Int32) (M8 : gM) => K33 (v1) M8) v1 nf 0 M1) (K47 (v1) M1))
def w_X9_isIntersecting  (M : gM) (Q : Int32 → gM → Prop) : Prop := ∃ nf, w_X9_isIntersecting_L2 Q (fun (x9 : Int32) (M11 : gM) => Q 1 M11) (fun (x12 : Int32) (M14 : gM) => Q 0 M14)  nf 0 M
set_option maxRecDepth 100000 in
set_option maxHeartbeats 4000000 in
theorem w_X9_isIntersecting_L12_w {X : gX} (ok : gOk X cX9_isIntersecting yX9_isIntersecting.cls 1 3 (some .int) gN) {Q : Int32 → gM → Prop} (hZ : gZi X Q) {K41 : Int32 → gM → Prop} {K33 : Int32 → gM → Prop} (v1 : Int32) (hK41 : ∀ (v2 : Int32)  (M : gM), K41 v2 M → gW X 41 [some (.inr 42), some (.inl v1), some (.inl v2)] [] M) (hK33 : ∀ (v2 : Int32)  (M : gM), K33 v2 M → gW X 33 [some (.inr 42), some (.inl v1), some (.inl v2)] [] M) : ∀ (n : Nat) (v2 : Int32)  (M : gM), w_X9_isIntersecting_L12 Q K41 K33 v1 n v2 M → gW X 12 [some (.inr 42), some (.inl v1), some (.inl v2)] [] M
  | 0, _, _, h => h.elim
  | n + 1, v2, M, h => by
    have ih := fun (v2 : Int32)  (M : gM) h => w_X9_isIntersecting_L12_w ok hZ v1 hK41 hK33 n v2  M h
    rw [w_X9_isIntersecting_L12.eq_2] at h
    refine g_iload_n ok dX9_isIntersecting_12 rfl rfl ?_
    refine g_iload_n ok dX9_isIntersecting_13 rfl rfl ?_
    refine g_icmp_ge (tgt := 41) ok dX9_isIntersecting_14 (by decide) (fun z => ?_) (fun z => ?_)
    · have h := h.2 z
      exact hK41 (v2) M h
    · have h := h.1 z
      refine g_aload_n ok dX9_isIntersecting_17 rfl rfl ?_
      refine g_get (w := .inr 43) ok f42_1 (gNm (by decide)) q3_235 dX9_isIntersecting_18 rfl ?_
      refine g_iload_n ok dX9_isIntersecting_21 rfl rfl ?_
      have hb := h.1
      have h := h.2
      refine g_iald (w := (M 43 (Int32.toNatClampNeg v1))) ok a43 (gNm (by decide)) dX9_isIntersecting_22 hb rfl ?_
      refine g_aload_n ok dX9_isIntersecting_23 rfl rfl ?_
      refine g_get (w := .inr 43) ok f42_1 (gNm (by decide)) q3_235 dX9_isIntersecting_24 rfl ?_
      refine g_iload_n ok dX9_isIntersecting_27 rfl rfl ?_
      have hb := h.1
      have h := h.2
      refine g_iald (w := (M 43 (Int32.toNatClampNeg v2))) ok a43 (gNm (by decide)) dX9_isIntersecting_28 hb rfl ?_
      refine g_iand ok dX9_isIntersecting_29 ?_
      refine g_if_ne (tgt := 35) ok dX9_isIntersecting_30 (by decide) (fun z => ?_) (fun z => ?_)
      · have h := h.2 z
        obtain ⟨x3, ex3⟩ : ∃ y : Int32, y = (v2 + 1) := ⟨_, rfl⟩
        have h := h x3 ex3
        refine g_iinc (v := x3) (lv1 := [some (.inr 42), some (.inl v1), some (.inl x3)]) ok dX9_isIntersecting_35 rfl (by rw [ex3]; rfl) rfl ?_
        refine g_goto (tgt := 12) ok dX9_isIntersecting_38 (by decide) ?_
        exact ih (x3) M h
      · have h := h.1 z
        exact hK33 (v2) M h
set_option maxRecDepth 100000 in
set_option maxHeartbeats 4000000 in
theorem w_X9_isIntersecting_L2_w {X : gX} (ok : gOk X cX9_isIntersecting yX9_isIntersecting.cls 1 3 (some .int) gN) {Q : Int32 → gM → Prop} (hZ : gZi X Q) {K47 : Int32 → gM → Prop} {K33 : Int32 → gM → Prop}  (hK47 : ∀ (v1 : Int32) (u2 : Option gV) (M : gM), K47 v1 M → gW X 47 [some (.inr 42), some (.inl v1), u2] [] M) (hK33 : ∀ (v1 : Int32) (u2 : Option gV) (M : gM), K33 v1 M → gW X 33 [some (.inr 42), some (.inl v1), u2] [] M) : ∀ (n : Nat) (v1 : Int32) (u2 : Option gV) (M : gM), w_X9_isIntersecting_L2 Q K47 K33 n v1 M → gW X 2 [some (.inr 42), some (.inl v1), u2] [] M
  | 0, _, _, _, h => h.elim
  | n + 1, v1, u2, M, h => by
    have ih := fun (v1 : Int32) (u2 : Option gV) (M : gM) h => w_X9_isIntersecting_L2_w ok hZ  hK47 hK33 n v1 u2 M h
    rw [w_X9_isIntersecting_L2.eq_2] at h
    refine g_iload_n ok dX9_isIntersecting_2 rfl rfl ?_
    refine g_aload_n ok dX9_isIntersecting_3 rfl rfl ?_
    refine g_callVi (st := [.inl v1]) (as := []) ok rfl (k_X9_many h) s_X9_many rfl (by decide) (gNm (by decide)) cl42 sel_X9_many ins_X9_many (gle rfl) rfl q4_110 dX9_isIntersecting_4 ?_
    intro r2 M1 h
    refine g_icmp_ge (tgt := 47) ok dX9_isIntersecting_7 (by decide) (fun z => ?_) (fun z => ?_)
    · have h := h.2 z
      exact hK47 (v1) (u2) M1 h
    · have h := h.1 z
      refine g_iconst (v := 0) ok dX9_isIntersecting_10 (by decide) ?_
      refine g_istore_n (lv1 := [some (.inr 42), some (.inl v1), some (.inl 0)]) ok dX9_isIntersecting_11 rfl (glt rfl) rfl ?_
      obtain ⟨nf, h⟩ := h
      refine w_X9_isIntersecting_L12_w ok hZ v1 ?_ ?_ nf 0  M1 h
      · intro x4  M5 h
        obtain ⟨x6, ex6⟩ : ∃ y : Int32, y = (v1 + 1) := ⟨_, rfl⟩
        have h := h x6 ex6
        refine g_iinc (v := x6) (lv1 := [some (.inr 42), some (.inl x6), some (.inl x4)]) ok dX9_isIntersecting_41 rfl (by rw [ex6]; rfl) rfl ?_
        refine g_goto (tgt := 2) ok dX9_isIntersecting_44 (by decide) ?_
        exact ih (x6) (some (.inl x4)) M5 h
      · intro x7  M8 h
        exact hK33 (v1) (some (.inl x7)) M8 h
set_option maxRecDepth 100000 in
set_option maxHeartbeats 4000000 in
theorem k_X9_isIntersecting  {M : gM} {Q : Int32 → gM → Prop} (h : w_X9_isIntersecting  M Q) : gCi gN 1 yX9_isIntersecting cX9_isIntersecting 3 .int [.inr 42] M Q := by
  refine gCi_of (by decide) gNn (gle rfl) (fun X ok hZ => ?_)
  show gW X 0 [some (.inr 42), none, none] [] M
  unfold w_X9_isIntersecting at h
  refine g_iconst (v := 0) ok dX9_isIntersecting_0 (by decide) ?_
  refine g_istore_n (lv1 := [some (.inr 42), some (.inl 0), none]) ok dX9_isIntersecting_1 rfl (glt rfl) rfl ?_
  obtain ⟨nf, h⟩ := h
  refine w_X9_isIntersecting_L2_w ok hZ  ?_ ?_ nf 0 (none) M h
  · intro x9 u10 M11 h
    refine g_iconst (v := 1) ok dX9_isIntersecting_47 (by decide) ?_
    exact g_iret ok hZ dX9_isIntersecting_48 h
  · intro x12 u13 M14 h
    refine g_iconst (v := 0) ok dX9_isIntersecting_33 (by decide) ?_
    exact g_iret ok hZ dX9_isIntersecting_34 h
theorem dX9_type_0 : decode cX9_type 0 = .ok (.aload_n 0, 1) := by decide +kernel
theorem dX9_type_1 : decode cX9_type 1 = .ok (.getfield 191, 3) := by decide +kernel
theorem dX9_type_4 : decode cX9_type 4 = .ok (.bipush 100, 2) := by decide +kernel
theorem dX9_type_6 : decode cX9_type 6 = .ok (.if_icmp .ne 6, 3) := by decide +kernel
theorem dX9_type_9 : decode cX9_type 9 = .ok (.bipush (-5), 2) := by decide +kernel
theorem dX9_type_11 : decode cX9_type 11 = .ok (.ireturn, 1) := by decide +kernel
theorem dX9_type_12 : decode cX9_type 12 = .ok (.aload_n 0, 1) := by decide +kernel
theorem dX9_type_13 : decode cX9_type 13 = .ok (.getfield 52, 3) := by decide +kernel
theorem dX9_type_16 : decode cX9_type 16 = .ok (.aload_n 0, 1) := by decide +kernel
theorem dX9_type_17 : decode cX9_type 17 = .ok (.getfield 191, 3) := by decide +kernel
theorem dX9_type_20 : decode cX9_type 20 = .ok (.iload_n 1, 1) := by decide +kernel
theorem dX9_type_21 : decode cX9_type 21 = .ok (.castore, 1) := by decide +kernel
theorem dX9_type_22 : decode cX9_type 22 = .ok (.aload_n 0, 1) := by decide +kernel
theorem dX9_type_23 : decode cX9_type 23 = .ok (.dup, 1) := by decide +kernel
theorem dX9_type_24 : decode cX9_type 24 = .ok (.getfield 191, 3) := by decide +kernel
theorem dX9_type_27 : decode cX9_type 27 = .ok (.iconst 1, 1) := by decide +kernel
theorem dX9_type_28 : decode cX9_type 28 = .ok (.iadd, 1) := by decide +kernel
theorem dX9_type_29 : decode cX9_type 29 = .ok (.putfield 191, 3) := by decide +kernel
theorem dX9_type_32 : decode cX9_type 32 = .ok (.aload_n 0, 1) := by decide +kernel
theorem dX9_type_33 : decode cX9_type 33 = .ok (.getfield 191, 3) := by decide +kernel
theorem dX9_type_36 : decode cX9_type 36 = .ok (.ireturn, 1) := by decide +kernel
theorem s_X9_type : gSt yX9_type cX9_type 2 (some .int) 1 := ⟨q5_100, q1_10, ⟨by decide, by decide, by decide +kernel⟩, by decide⟩
theorem sel_X9_type : Cond.selects yX9_type.cls yX9_type yX9_type ∈ gT := q5_99
theorem ins_X9_type : Cond.instanceMethod yX9_type ∈ gT := q5_98
def w_X9_type (p1 : Int32) (M : gM) (Q : Int32 → gM → Prop) : Prop := gbr (((M 42 22) : Int32) = 100) (Q (-5) M) (vp_in (M 42 22) 100 ∧ ∀ M1 : gM, M1 = gst M 57 (Int32.toNatClampNeg (M 42 22)) (vp_nar .char p1) → (∀ M2 : gM, M2 = gst M1 42 22 ((M1 42 22) + 1) → (Q (M2 42 22) M2)))
set_option maxRecDepth 100000 in
set_option maxHeartbeats 4000000 in
theorem k_X9_type {p1 : Int32} {M : gM} {Q : Int32 → gM → Prop} (h : w_X9_type p1 M Q) : gCi gN 0 yX9_type cX9_type 2 .int [.inr 42, .inl p1] M Q := by
  refine gCi_of (by decide) gNn (gle rfl) (fun X ok hZ => ?_)
  show gW X 0 [some (.inr 42), some (.inl p1)] [] M
  unfold w_X9_type at h
  refine g_aload_n ok dX9_type_0 rfl rfl ?_
  refine g_get (w := .inl (M 42 22)) ok f42_22 (gNm (by decide)) q4_16 dX9_type_1 rfl ?_
  refine g_bipush (v := 100) ok dX9_type_4 (by decide) ?_
  refine g_icmp_ne (tgt := 12) ok dX9_type_6 (by decide) (fun z => ?_) (fun z => ?_)
  · have h := h.2 z
    refine g_aload_n ok dX9_type_12 rfl rfl ?_
    refine g_get (w := .inr 57) ok f42_23 (gNm (by decide)) q4_17 dX9_type_13 rfl ?_
    refine g_aload_n ok dX9_type_16 rfl rfl ?_
    refine g_get (w := .inl (M 42 22)) ok f42_22 (gNm (by decide)) q4_16 dX9_type_17 rfl ?_
    refine g_iload_n ok dX9_type_20 rfl rfl ?_
    have hb := h.1
    have h := h.2
    refine g_cast ok a57 (gNm (by decide)) dX9_type_21 hb (g_mem (fun M1 eM1 => ?_))
    have h := h M1 eM1
    refine g_aload_n ok dX9_type_22 rfl rfl ?_
    refine g_dup ok dX9_type_23 ?_
    refine g_get (w := .inl (M1 42 22)) ok f42_22 (gNm (by decide)) q4_16 dX9_type_24 rfl ?_
    refine g_iconst (v := 1) ok dX9_type_27 (by decide) ?_
    refine g_iadd ok dX9_type_28 ?_
    refine g_put ok f42_22p (gNm (by decide)) q4_16 dX9_type_29 rfl rfl (g_mem (fun M2 eM2 => ?_))
    have h := h M2 eM2
    refine g_aload_n ok dX9_type_32 rfl rfl ?_
    refine g_get (w := .inl (M2 42 22)) ok f42_22 (gNm (by decide)) q4_16 dX9_type_33 rfl ?_
    exact g_iret ok hZ dX9_type_36 h
  · have h := h.1 z
    refine g_bipush (v := (-5)) ok dX9_type_9 (by decide) ?_
    exact g_iret ok hZ dX9_type_11 h
theorem dX9_clearText_0 : decode cX9_clearText 0 = .ok (.aload_n 0, 1) := by decide +kernel
theorem dX9_clearText_1 : decode cX9_clearText 1 = .ok (.getfield 191, 3) := by decide +kernel
theorem dX9_clearText_4 : decode cX9_clearText 4 = .ok (.istore_n 1, 1) := by decide +kernel
theorem dX9_clearText_5 : decode cX9_clearText 5 = .ok (.aload_n 0, 1) := by decide +kernel
theorem dX9_clearText_6 : decode cX9_clearText 6 = .ok (.iconst 0, 1) := by decide +kernel
theorem dX9_clearText_7 : decode cX9_clearText 7 = .ok (.putfield 191, 3) := by decide +kernel
theorem dX9_clearText_10 : decode cX9_clearText 10 = .ok (.iload_n 1, 1) := by decide +kernel
theorem dX9_clearText_11 : decode cX9_clearText 11 = .ok (.ireturn, 1) := by decide +kernel
theorem s_X9_clearText : gSt yX9_clearText cX9_clearText 2 (some .int) 0 := ⟨q5_104, q1_10, ⟨by decide, by decide, by decide +kernel⟩, by decide⟩
theorem sel_X9_clearText : Cond.selects yX9_clearText.cls yX9_clearText yX9_clearText ∈ gT := q5_103
theorem ins_X9_clearText : Cond.instanceMethod yX9_clearText ∈ gT := q5_102
def w_X9_clearText  (M : gM) (Q : Int32 → gM → Prop) : Prop := ∀ x1 : Int32, x1 = (M 42 22) → (∀ M2 : gM, M2 = gst M 42 22 0 → (Q x1 M2))
set_option maxRecDepth 100000 in
set_option maxHeartbeats 4000000 in
theorem k_X9_clearText  {M : gM} {Q : Int32 → gM → Prop} (h : w_X9_clearText  M Q) : gCi gN 0 yX9_clearText cX9_clearText 2 .int [.inr 42] M Q := by
  refine gCi_of (by decide) gNn (gle rfl) (fun X ok hZ => ?_)
  show gW X 0 [some (.inr 42), none] [] M
  unfold w_X9_clearText at h
  refine g_aload_n ok dX9_clearText_0 rfl rfl ?_
  refine g_get (w := .inl (M 42 22)) ok f42_22 (gNm (by decide)) q4_16 dX9_clearText_1 rfl ?_
  refine g_nm (fun x1 ex1 => ?_)
  have h := h x1 ex1
  refine g_istore_n (lv1 := [some (.inr 42), some (.inl x1)]) ok dX9_clearText_4 rfl (glt rfl) rfl ?_
  refine g_aload_n ok dX9_clearText_5 rfl rfl ?_
  refine g_iconst (v := 0) ok dX9_clearText_6 (by decide) ?_
  refine g_put ok f42_22p (gNm (by decide)) q4_16 dX9_clearText_7 rfl rfl (g_mem (fun M2 eM2 => ?_))
  have h := h M2 eM2
  refine g_iload_n ok dX9_clearText_10 rfl rfl ?_
  exact g_iret ok hZ dX9_clearText_11 h
theorem dX9_digitAt_0 : decode cX9_digitAt 0 = .ok (.iload_n 1, 1) := by decide +kernel
theorem dX9_digitAt_1 : decode cX9_digitAt 1 = .ok (.aload_n 0, 1) := by decide +kernel
theorem dX9_digitAt_2 : decode cX9_digitAt 2 = .ok (.getfield 191, 3) := by decide +kernel
theorem dX9_digitAt_5 : decode cX9_digitAt 5 = .ok (.if_icmp .ge 37, 3) := by decide +kernel
theorem dX9_digitAt_8 : decode cX9_digitAt 8 = .ok (.aload_n 0, 1) := by decide +kernel
theorem dX9_digitAt_9 : decode cX9_digitAt 9 = .ok (.getfield 52, 3) := by decide +kernel
theorem dX9_digitAt_12 : decode cX9_digitAt 12 = .ok (.iload_n 1, 1) := by decide +kernel
theorem dX9_digitAt_13 : decode cX9_digitAt 13 = .ok (.caload, 1) := by decide +kernel
theorem dX9_digitAt_14 : decode cX9_digitAt 14 = .ok (.bipush 48, 2) := by decide +kernel
theorem dX9_digitAt_16 : decode cX9_digitAt 16 = .ok (.if_icmp .lt 26, 3) := by decide +kernel
theorem dX9_digitAt_19 : decode cX9_digitAt 19 = .ok (.aload_n 0, 1) := by decide +kernel
theorem dX9_digitAt_20 : decode cX9_digitAt 20 = .ok (.getfield 52, 3) := by decide +kernel
theorem dX9_digitAt_23 : decode cX9_digitAt 23 = .ok (.iload_n 1, 1) := by decide +kernel
theorem dX9_digitAt_24 : decode cX9_digitAt 24 = .ok (.caload, 1) := by decide +kernel
theorem dX9_digitAt_25 : decode cX9_digitAt 25 = .ok (.bipush 57, 2) := by decide +kernel
theorem dX9_digitAt_27 : decode cX9_digitAt 27 = .ok (.if_icmp .gt 15, 3) := by decide +kernel
theorem dX9_digitAt_30 : decode cX9_digitAt 30 = .ok (.aload_n 0, 1) := by decide +kernel
theorem dX9_digitAt_31 : decode cX9_digitAt 31 = .ok (.getfield 52, 3) := by decide +kernel
theorem dX9_digitAt_34 : decode cX9_digitAt 34 = .ok (.iload_n 1, 1) := by decide +kernel
theorem dX9_digitAt_35 : decode cX9_digitAt 35 = .ok (.caload, 1) := by decide +kernel
theorem dX9_digitAt_36 : decode cX9_digitAt 36 = .ok (.bipush 48, 2) := by decide +kernel
theorem dX9_digitAt_38 : decode cX9_digitAt 38 = .ok (.isub, 1) := by decide +kernel
theorem dX9_digitAt_39 : decode cX9_digitAt 39 = .ok (.goto 4, 3) := by decide +kernel
theorem dX9_digitAt_42 : decode cX9_digitAt 42 = .ok (.iconst (-1), 1) := by decide +kernel
theorem dX9_digitAt_43 : decode cX9_digitAt 43 = .ok (.ireturn, 1) := by decide +kernel
theorem s_X9_digitAt : gSt yX9_digitAt cX9_digitAt 2 (some .int) 1 := ⟨q5_120, q1_10, ⟨by decide, by decide, by decide +kernel⟩, by decide⟩
theorem sel_X9_digitAt : Cond.selects yX9_digitAt.cls yX9_digitAt yX9_digitAt ∈ gT := qs_49
theorem ins_X9_digitAt : Cond.instanceMethod yX9_digitAt ∈ gT := q5_119
def w_X9_digitAt (p1 : Int32) (M : gM) (Q : Int32 → gM → Prop) : Prop := gbr ((p1 : Int32) < (M 42 22)) (vp_in p1 100 ∧ (gbr (((M 57 (Int32.toNatClampNeg p1)) : Int32) < 48) (Q (-1) M) (vp_in p1 100 ∧ (gbr ((57 : Int32) < (M 57 (Int32.toNatClampNeg p1))) (Q (-1) M) (vp_in p1 100 ∧ (Q ((M 57 (Int32.toNatClampNeg p1)) - 48) M)))))) (Q (-1) M)
set_option maxRecDepth 100000 in
set_option maxHeartbeats 4000000 in
theorem k_X9_digitAt {p1 : Int32} {M : gM} {Q : Int32 → gM → Prop} (h : w_X9_digitAt p1 M Q) : gCi gN 0 yX9_digitAt cX9_digitAt 2 .int [.inr 42, .inl p1] M Q := by
  refine gCi_of (by decide) gNn (gle rfl) (fun X ok hZ => ?_)
  show gW X 0 [some (.inr 42), some (.inl p1)] [] M
  unfold w_X9_digitAt at h
  refine g_iload_n ok dX9_digitAt_0 rfl rfl ?_
  refine g_aload_n ok dX9_digitAt_1 rfl rfl ?_
  refine g_get (w := .inl (M 42 22)) ok f42_22 (gNm (by decide)) q4_16 dX9_digitAt_2 rfl ?_
  refine g_icmp_ge (tgt := 42) ok dX9_digitAt_5 (by decide) (fun z => ?_) (fun z => ?_)
  · have h := h.2 z
    refine g_iconst (v := (-1)) ok dX9_digitAt_42 (by decide) ?_
    exact g_iret ok hZ dX9_digitAt_43 h
  · have h := h.1 z
    refine g_aload_n ok dX9_digitAt_8 rfl rfl ?_
    refine g_get (w := .inr 57) ok f42_23 (gNm (by decide)) q4_17 dX9_digitAt_9 rfl ?_
    refine g_iload_n ok dX9_digitAt_12 rfl rfl ?_
    have hb := h.1
    have h := h.2
    refine g_cald (w := (M 57 (Int32.toNatClampNeg p1))) ok a57 (gNm (by decide)) dX9_digitAt_13 hb rfl ?_
    refine g_bipush (v := 48) ok dX9_digitAt_14 (by decide) ?_
    refine g_icmp_lt (tgt := 42) ok dX9_digitAt_16 (by decide) (fun z => ?_) (fun z => ?_)
    · have h := h.1 z
      refine g_iconst (v := (-1)) ok dX9_digitAt_42 (by decide) ?_
      exact g_iret ok hZ dX9_digitAt_43 h
    · have h := h.2 z
      refine g_aload_n ok dX9_digitAt_19 rfl rfl ?_
      refine g_get (w := .inr 57) ok f42_23 (gNm (by decide)) q4_17 dX9_digitAt_20 rfl ?_
      refine g_iload_n ok dX9_digitAt_23 rfl rfl ?_
      have hb := h.1
      have h := h.2
      refine g_cald (w := (M 57 (Int32.toNatClampNeg p1))) ok a57 (gNm (by decide)) dX9_digitAt_24 hb rfl ?_
      refine g_bipush (v := 57) ok dX9_digitAt_25 (by decide) ?_
      refine g_icmp_gt (tgt := 42) ok dX9_digitAt_27 (by decide) (fun z => ?_) (fun z => ?_)
      · have h := h.1 z
        refine g_iconst (v := (-1)) ok dX9_digitAt_42 (by decide) ?_
        exact g_iret ok hZ dX9_digitAt_43 h
      · have h := h.2 z
        refine g_aload_n ok dX9_digitAt_30 rfl rfl ?_
        refine g_get (w := .inr 57) ok f42_23 (gNm (by decide)) q4_17 dX9_digitAt_31 rfl ?_
        refine g_iload_n ok dX9_digitAt_34 rfl rfl ?_
        have hb := h.1
        have h := h.2
        refine g_cald (w := (M 57 (Int32.toNatClampNeg p1))) ok a57 (gNm (by decide)) dX9_digitAt_35 hb rfl ?_
        refine g_bipush (v := 48) ok dX9_digitAt_36 (by decide) ?_
        refine g_isub ok dX9_digitAt_38 ?_
        refine g_goto (tgt := 43) ok dX9_digitAt_39 (by decide) ?_
        exact g_iret ok hZ dX9_digitAt_43 h
theorem dX9_isAt_0 : decode cX9_isAt 0 = .ok (.aload_n 0, 1) := by decide +kernel
theorem dX9_isAt_1 : decode cX9_isAt 1 = .ok (.getfield 194, 3) := by decide +kernel
theorem dX9_isAt_4 : decode cX9_isAt 4 = .ok (.aload_n 0, 1) := by decide +kernel
theorem dX9_isAt_5 : decode cX9_isAt 5 = .ok (.getfield 191, 3) := by decide +kernel
theorem dX9_isAt_8 : decode cX9_isAt 8 = .ok (.if_icmp .ge 20, 3) := by decide +kernel
theorem dX9_isAt_11 : decode cX9_isAt 11 = .ok (.aload_n 0, 1) := by decide +kernel
theorem dX9_isAt_12 : decode cX9_isAt 12 = .ok (.getfield 52, 3) := by decide +kernel
theorem dX9_isAt_15 : decode cX9_isAt 15 = .ok (.aload_n 0, 1) := by decide +kernel
theorem dX9_isAt_16 : decode cX9_isAt 16 = .ok (.getfield 194, 3) := by decide +kernel
theorem dX9_isAt_19 : decode cX9_isAt 19 = .ok (.caload, 1) := by decide +kernel
theorem dX9_isAt_20 : decode cX9_isAt 20 = .ok (.iload_n 1, 1) := by decide +kernel
theorem dX9_isAt_21 : decode cX9_isAt 21 = .ok (.if_icmp .ne 7, 3) := by decide +kernel
theorem dX9_isAt_24 : decode cX9_isAt 24 = .ok (.iconst 1, 1) := by decide +kernel
theorem dX9_isAt_25 : decode cX9_isAt 25 = .ok (.goto 4, 3) := by decide +kernel
theorem dX9_isAt_28 : decode cX9_isAt 28 = .ok (.iconst 0, 1) := by decide +kernel
theorem dX9_isAt_29 : decode cX9_isAt 29 = .ok (.ireturn, 1) := by decide +kernel
theorem s_X9_isAt : gSt yX9_isAt cX9_isAt 2 (some .boolean) 1 := ⟨q5_124, q1_10, ⟨by decide, by decide, by decide +kernel⟩, by decide⟩
theorem sel_X9_isAt : Cond.selects yX9_isAt.cls yX9_isAt yX9_isAt ∈ gT := qs_50
theorem ins_X9_isAt : Cond.instanceMethod yX9_isAt ∈ gT := q5_123
def w_X9_isAt (p1 : Int32) (M : gM) (Q : Int32 → gM → Prop) : Prop := gbr (((M 42 24) : Int32) < (M 42 22)) (vp_in (M 42 24) 100 ∧ (gbr (((M 57 (Int32.toNatClampNeg (M 42 24))) : Int32) = p1) (Q 1 M) (Q 0 M))) (Q 0 M)
set_option maxRecDepth 100000 in
set_option maxHeartbeats 4000000 in
theorem k_X9_isAt {p1 : Int32} {M : gM} {Q : Int32 → gM → Prop} (h : w_X9_isAt p1 M Q) : gCi gN 0 yX9_isAt cX9_isAt 2 .boolean [.inr 42, .inl p1] M Q := by
  refine gCi_of (by decide) gNn (gle rfl) (fun X ok hZ => ?_)
  show gW X 0 [some (.inr 42), some (.inl p1)] [] M
  unfold w_X9_isAt at h
  refine g_aload_n ok dX9_isAt_0 rfl rfl ?_
  refine g_get (w := .inl (M 42 24)) ok f42_24 (gNm (by decide)) q4_18 dX9_isAt_1 rfl ?_
  refine g_aload_n ok dX9_isAt_4 rfl rfl ?_
  refine g_get (w := .inl (M 42 22)) ok f42_22 (gNm (by decide)) q4_16 dX9_isAt_5 rfl ?_
  refine g_icmp_ge (tgt := 28) ok dX9_isAt_8 (by decide) (fun z => ?_) (fun z => ?_)
  · have h := h.2 z
    refine g_iconst (v := 0) ok dX9_isAt_28 (by decide) ?_
    exact g_zret ok hZ dX9_isAt_29 (by decide) h
  · have h := h.1 z
    refine g_aload_n ok dX9_isAt_11 rfl rfl ?_
    refine g_get (w := .inr 57) ok f42_23 (gNm (by decide)) q4_17 dX9_isAt_12 rfl ?_
    refine g_aload_n ok dX9_isAt_15 rfl rfl ?_
    refine g_get (w := .inl (M 42 24)) ok f42_24 (gNm (by decide)) q4_18 dX9_isAt_16 rfl ?_
    have hb := h.1
    have h := h.2
    refine g_cald (w := (M 57 (Int32.toNatClampNeg (M 42 24)))) ok a57 (gNm (by decide)) dX9_isAt_19 hb rfl ?_
    refine g_iload_n ok dX9_isAt_20 rfl rfl ?_
    refine g_icmp_ne (tgt := 28) ok dX9_isAt_21 (by decide) (fun z => ?_) (fun z => ?_)
    · have h := h.2 z
      refine g_iconst (v := 0) ok dX9_isAt_28 (by decide) ?_
      exact g_zret ok hZ dX9_isAt_29 (by decide) h
    · have h := h.1 z
      refine g_iconst (v := 1) ok dX9_isAt_24 (by decide) ?_
      refine g_goto (tgt := 29) ok dX9_isAt_25 (by decide) ?_
      exact g_zret ok hZ dX9_isAt_29 (by decide) h
theorem dX9_readVertex_0 : decode cX9_readVertex 0 = .ok (.aload_n 0, 1) := by decide +kernel
theorem dX9_readVertex_1 : decode cX9_readVertex 1 = .ok (.getfield 194, 3) := by decide +kernel
theorem dX9_readVertex_4 : decode cX9_readVertex 4 = .ok (.istore_n 2, 1) := by decide +kernel
theorem dX9_readVertex_5 : decode cX9_readVertex 5 = .ok (.aload_n 0, 1) := by decide +kernel
theorem dX9_readVertex_6 : decode cX9_readVertex 6 = .ok (.aload_n 0, 1) := by decide +kernel
theorem dX9_readVertex_7 : decode cX9_readVertex 7 = .ok (.getfield 194, 3) := by decide +kernel
theorem dX9_readVertex_10 : decode cX9_readVertex 10 = .ok (.invokevirtual 197, 3) := by decide +kernel
theorem dX9_readVertex_13 : decode cX9_readVertex 13 = .ok (.istore_n 3, 1) := by decide +kernel
theorem dX9_readVertex_14 : decode cX9_readVertex 14 = .ok (.iload_n 3, 1) := by decide +kernel
theorem dX9_readVertex_15 : decode cX9_readVertex 15 = .ok (.ifCond .lt 11, 3) := by decide +kernel
theorem dX9_readVertex_18 : decode cX9_readVertex 18 = .ok (.iload_n 3, 1) := by decide +kernel
theorem dX9_readVertex_19 : decode cX9_readVertex 19 = .ok (.aload_n 0, 1) := by decide +kernel
theorem dX9_readVertex_20 : decode cX9_readVertex 20 = .ok (.getfield 59, 3) := by decide +kernel
theorem dX9_readVertex_23 : decode cX9_readVertex 23 = .ok (.if_icmp .lt 13, 3) := by decide +kernel
theorem dX9_readVertex_26 : decode cX9_readVertex 26 = .ok (.aload_n 0, 1) := by decide +kernel
theorem dX9_readVertex_27 : decode cX9_readVertex 27 = .ok (.aload_n 0, 1) := by decide +kernel
theorem dX9_readVertex_28 : decode cX9_readVertex 28 = .ok (.getfield 194, 3) := by decide +kernel
theorem dX9_readVertex_31 : decode cX9_readVertex 31 = .ok (.putfield 200, 3) := by decide +kernel
theorem dX9_readVertex_34 : decode cX9_readVertex 34 = .ok (.iconst 0, 1) := by decide +kernel
theorem dX9_readVertex_35 : decode cX9_readVertex 35 = .ok (.ireturn, 1) := by decide +kernel
theorem dX9_readVertex_36 : decode cX9_readVertex 36 = .ok (.aload_n 0, 1) := by decide +kernel
theorem dX9_readVertex_37 : decode cX9_readVertex 37 = .ok (.dup, 1) := by decide +kernel
theorem dX9_readVertex_38 : decode cX9_readVertex 38 = .ok (.getfield 194, 3) := by decide +kernel
theorem dX9_readVertex_41 : decode cX9_readVertex 41 = .ok (.iconst 1, 1) := by decide +kernel
theorem dX9_readVertex_42 : decode cX9_readVertex 42 = .ok (.iadd, 1) := by decide +kernel
theorem dX9_readVertex_43 : decode cX9_readVertex 43 = .ok (.putfield 194, 3) := by decide +kernel
theorem dX9_readVertex_46 : decode cX9_readVertex 46 = .ok (.iload_n 3, 1) := by decide +kernel
theorem dX9_readVertex_47 : decode cX9_readVertex 47 = .ok (.ifCond .ne 7, 3) := by decide +kernel
theorem dX9_readVertex_50 : decode cX9_readVertex 50 = .ok (.iconst (-1), 1) := by decide +kernel
theorem dX9_readVertex_51 : decode cX9_readVertex 51 = .ok (.goto 11, 3) := by decide +kernel
theorem dX9_readVertex_54 : decode cX9_readVertex 54 = .ok (.aload_n 0, 1) := by decide +kernel
theorem dX9_readVertex_55 : decode cX9_readVertex 55 = .ok (.aload_n 0, 1) := by decide +kernel
theorem dX9_readVertex_56 : decode cX9_readVertex 56 = .ok (.getfield 194, 3) := by decide +kernel
theorem dX9_readVertex_59 : decode cX9_readVertex 59 = .ok (.invokevirtual 197, 3) := by decide +kernel
theorem dX9_readVertex_62 : decode cX9_readVertex 62 = .ok (.istore 4, 2) := by decide +kernel
theorem dX9_readVertex_64 : decode cX9_readVertex 64 = .ok (.iload 4, 2) := by decide +kernel
theorem dX9_readVertex_66 : decode cX9_readVertex 66 = .ok (.ifCond .lt 44, 3) := by decide +kernel
theorem dX9_readVertex_69 : decode cX9_readVertex 69 = .ok (.bipush 10, 2) := by decide +kernel
theorem dX9_readVertex_71 : decode cX9_readVertex 71 = .ok (.iload_n 3, 1) := by decide +kernel
theorem dX9_readVertex_72 : decode cX9_readVertex 72 = .ok (.imul, 1) := by decide +kernel
theorem dX9_readVertex_73 : decode cX9_readVertex 73 = .ok (.iload 4, 2) := by decide +kernel
theorem dX9_readVertex_75 : decode cX9_readVertex 75 = .ok (.iadd, 1) := by decide +kernel
theorem dX9_readVertex_76 : decode cX9_readVertex 76 = .ok (.istore 5, 2) := by decide +kernel
theorem dX9_readVertex_78 : decode cX9_readVertex 78 = .ok (.iload 5, 2) := by decide +kernel
theorem dX9_readVertex_80 : decode cX9_readVertex 80 = .ok (.aload_n 0, 1) := by decide +kernel
theorem dX9_readVertex_81 : decode cX9_readVertex 81 = .ok (.getfield 59, 3) := by decide +kernel
theorem dX9_readVertex_84 : decode cX9_readVertex 84 = .ok (.if_icmp .lt 13, 3) := by decide +kernel
theorem dX9_readVertex_87 : decode cX9_readVertex 87 = .ok (.aload_n 0, 1) := by decide +kernel
theorem dX9_readVertex_88 : decode cX9_readVertex 88 = .ok (.aload_n 0, 1) := by decide +kernel
theorem dX9_readVertex_89 : decode cX9_readVertex 89 = .ok (.getfield 194, 3) := by decide +kernel
theorem dX9_readVertex_92 : decode cX9_readVertex 92 = .ok (.putfield 200, 3) := by decide +kernel
theorem dX9_readVertex_95 : decode cX9_readVertex 95 = .ok (.iconst 0, 1) := by decide +kernel
theorem dX9_readVertex_96 : decode cX9_readVertex 96 = .ok (.ireturn, 1) := by decide +kernel
theorem dX9_readVertex_97 : decode cX9_readVertex 97 = .ok (.iload 5, 2) := by decide +kernel
theorem dX9_readVertex_99 : decode cX9_readVertex 99 = .ok (.istore_n 3, 1) := by decide +kernel
theorem dX9_readVertex_100 : decode cX9_readVertex 100 = .ok (.aload_n 0, 1) := by decide +kernel
theorem dX9_readVertex_101 : decode cX9_readVertex 101 = .ok (.dup, 1) := by decide +kernel
theorem dX9_readVertex_102 : decode cX9_readVertex 102 = .ok (.getfield 194, 3) := by decide +kernel
theorem dX9_readVertex_105 : decode cX9_readVertex 105 = .ok (.iconst 1, 1) := by decide +kernel
theorem dX9_readVertex_106 : decode cX9_readVertex 106 = .ok (.iadd, 1) := by decide +kernel
theorem dX9_readVertex_107 : decode cX9_readVertex 107 = .ok (.putfield 194, 3) := by decide +kernel
theorem dX9_readVertex_110 : decode cX9_readVertex 110 = .ok (.iload_n 1, 1) := by decide +kernel
theorem dX9_readVertex_111 : decode cX9_readVertex 111 = .ok (.iload_n 3, 1) := by decide +kernel
theorem dX9_readVertex_112 : decode cX9_readVertex 112 = .ok (.ishr, 1) := by decide +kernel
theorem dX9_readVertex_113 : decode cX9_readVertex 113 = .ok (.iconst 1, 1) := by decide +kernel
theorem dX9_readVertex_114 : decode cX9_readVertex 114 = .ok (.iand, 1) := by decide +kernel
theorem dX9_readVertex_115 : decode cX9_readVertex 115 = .ok (.iconst 1, 1) := by decide +kernel
theorem dX9_readVertex_116 : decode cX9_readVertex 116 = .ok (.if_icmp .ne 8, 3) := by decide +kernel
theorem dX9_readVertex_119 : decode cX9_readVertex 119 = .ok (.aload_n 0, 1) := by decide +kernel
theorem dX9_readVertex_120 : decode cX9_readVertex 120 = .ok (.iload_n 2, 1) := by decide +kernel
theorem dX9_readVertex_121 : decode cX9_readVertex 121 = .ok (.putfield 200, 3) := by decide +kernel
theorem dX9_readVertex_124 : decode cX9_readVertex 124 = .ok (.iconst 1, 1) := by decide +kernel
theorem dX9_readVertex_125 : decode cX9_readVertex 125 = .ok (.iload_n 3, 1) := by decide +kernel
theorem dX9_readVertex_126 : decode cX9_readVertex 126 = .ok (.ishl, 1) := by decide +kernel
theorem dX9_readVertex_127 : decode cX9_readVertex 127 = .ok (.ireturn, 1) := by decide +kernel
theorem s_X9_readVertex : gSt yX9_readVertex cX9_readVertex 6 (some .int) 1 := ⟨q5_116, q1_10, ⟨by decide, by decide, by decide +kernel⟩, by decide⟩
theorem sel_X9_readVertex : Cond.selects yX9_readVertex.cls yX9_readVertex yX9_readVertex ∈ gT := qs_48
theorem ins_X9_readVertex : Cond.instanceMethod yX9_readVertex ∈ gT := q5_115
def w_X9_readVertex (p1 : Int32) (M : gM) (Q : Int32 → gM → Prop) : Prop := ∀ x1 : Int32, x1 = (M 42 24) → (w_X9_digitAt (M 42 24) M (fun (r3 : Int32) (M2 : gM) => gbr ((r3 : Int32) < 0) (∀ M4 : gM, M4 = gst M2 42 25 (M2 42 24) → (Q 0 M4)) (gbr ((r3 : Int32) < (M2 42 0)) (∀ M5 : gM, M5 = gst M2 42 24 ((M2 42 24) + 1) → (gbr ((r3 : Int32) = 0) (gbr ((((p1 >>> (r3 &&& 31)) &&& 1) : Int32) = 1) (∀ M13 : gM, M13 = gst M5 42 25 x1 → (Q (1 <<< (r3 &&& 31)) M13)) (Q (1 <<< (r3 &&& 31)) M5)) (w_X9_digitAt (M5 42 24) M5 (fun (r7 : Int32) (M6 : gM) => gbr ((r7 : Int32) < 0) (gbr ((((p1 >>> (r3 &&& 31)) &&& 1) : Int32) = 1) (∀ M8 : gM, M8 = gst M6 42 25 x1 → (Q (1 <<< (r3 &&& 31)) M8)) (Q (1 <<< (r3 &&& 31)) M6)) (∀ x9 : Int32, x9 = ((10 * r3) + r7) → (gbr ((x9 : Int32) < (M6 42 0)) (∀ M10 : gM, M10 = gst M6 42 24 ((M6 42 24) + 1) → (gbr ((((p1 >>> (x9 &&& 31)) &&& 1) : Int32) = 1) (∀ M11 : gM, M11 = gst M10 42 25 x1 → (Q (1 <<< (x9 &&& 31)) M11)) (Q (1 <<< (x9 &&& 31)) M10))) (∀ M12 : gM, M12 = gst M6 42 25 (M6 42 24) → (Q 0 M12)))))))) (∀ M14 : gM, M14 = gst M2 42 25 (M2 42 24) → (Q 0 M14)))))
set_option maxRecDepth 100000 in
set_option maxHeartbeats 4000000 in
theorem k_X9_readVertex {p1 : Int32} {M : gM} {Q : Int32 → gM → Prop} (h : w_X9_readVertex p1 M Q) : gCi gN 1 yX9_readVertex cX9_readVertex 6 .int [.inr 42, .inl p1] M Q := by
  refine gCi_of (by decide) gNn (gle rfl) (fun X ok hZ => ?_)
  show gW X 0 [some (.inr 42), some (.inl p1), none, none, none, none] [] M
  unfold w_X9_readVertex at h
  refine g_aload_n ok dX9_readVertex_0 rfl rfl ?_
  refine g_get (w := .inl (M 42 24)) ok f42_24 (gNm (by decide)) q4_18 dX9_readVertex_1 rfl ?_
  refine g_nm (fun x1 ex1 => ?_)
  have h := h x1 ex1
  refine g_istore_n (lv1 := [some (.inr 42), some (.inl p1), some (.inl x1), none, none, none]) ok dX9_readVertex_4 rfl (glt rfl) rfl ?_
  refine g_aload_n ok dX9_readVertex_5 rfl rfl ?_
  refine g_aload_n ok dX9_readVertex_6 rfl rfl ?_
  refine g_get (w := .inl (M 42 24)) ok f42_24 (gNm (by decide)) q4_18 dX9_readVertex_7 rfl ?_
  refine g_callVi (st := []) (as := [.inl (M 42 24)]) ok rfl (k_X9_digitAt h) s_X9_digitAt rfl (by decide) (gNm (by decide)) cl42 sel_X9_digitAt ins_X9_digitAt (gle rfl) rfl q5_117 dX9_readVertex_10 ?_
  intro r3 M2 h
  refine g_istore_n (lv1 := [some (.inr 42), some (.inl p1), some (.inl x1), some (.inl r3), none, none]) ok dX9_readVertex_13 rfl (glt rfl) rfl ?_
  refine g_iload_n ok dX9_readVertex_14 rfl rfl ?_
  refine g_if_lt (tgt := 26) ok dX9_readVertex_15 (by decide) (fun z => ?_) (fun z => ?_)
  · have h := h.1 z
    refine g_aload_n ok dX9_readVertex_26 rfl rfl ?_
    refine g_aload_n ok dX9_readVertex_27 rfl rfl ?_
    refine g_get (w := .inl (M2 42 24)) ok f42_24 (gNm (by decide)) q4_18 dX9_readVertex_28 rfl ?_
    refine g_put ok f42_25p (gNm (by decide)) q4_19 dX9_readVertex_31 rfl rfl (g_mem (fun M4 eM4 => ?_))
    have h := h M4 eM4
    refine g_iconst (v := 0) ok dX9_readVertex_34 (by decide) ?_
    exact g_iret ok hZ dX9_readVertex_35 h
  · have h := h.2 z
    refine g_iload_n ok dX9_readVertex_18 rfl rfl ?_
    refine g_aload_n ok dX9_readVertex_19 rfl rfl ?_
    refine g_get (w := .inl (M2 42 0)) ok f42_0 (gNm (by decide)) q3_234 dX9_readVertex_20 rfl ?_
    refine g_icmp_lt (tgt := 36) ok dX9_readVertex_23 (by decide) (fun z => ?_) (fun z => ?_)
    · have h := h.1 z
      refine g_aload_n ok dX9_readVertex_36 rfl rfl ?_
      refine g_dup ok dX9_readVertex_37 ?_
      refine g_get (w := .inl (M2 42 24)) ok f42_24 (gNm (by decide)) q4_18 dX9_readVertex_38 rfl ?_
      refine g_iconst (v := 1) ok dX9_readVertex_41 (by decide) ?_
      refine g_iadd ok dX9_readVertex_42 ?_
      refine g_put ok f42_24p (gNm (by decide)) q4_18 dX9_readVertex_43 rfl rfl (g_mem (fun M5 eM5 => ?_))
      have h := h M5 eM5
      refine g_iload_n ok dX9_readVertex_46 rfl rfl ?_
      refine g_if_ne (tgt := 54) ok dX9_readVertex_47 (by decide) (fun z => ?_) (fun z => ?_)
      · have h := h.2 z
        refine g_aload_n ok dX9_readVertex_54 rfl rfl ?_
        refine g_aload_n ok dX9_readVertex_55 rfl rfl ?_
        refine g_get (w := .inl (M5 42 24)) ok f42_24 (gNm (by decide)) q4_18 dX9_readVertex_56 rfl ?_
        refine g_callVi (st := []) (as := [.inl (M5 42 24)]) ok rfl (k_X9_digitAt h) s_X9_digitAt rfl (by decide) (gNm (by decide)) cl42 sel_X9_digitAt ins_X9_digitAt (gle rfl) rfl q5_117 dX9_readVertex_59 ?_
        intro r7 M6 h
        refine g_istore (lv1 := [some (.inr 42), some (.inl p1), some (.inl x1), some (.inl r3), some (.inl r7), none]) ok dX9_readVertex_62 (glt rfl) rfl ?_
        refine g_iload ok dX9_readVertex_64 rfl ?_
        refine g_if_lt (tgt := 110) ok dX9_readVertex_66 (by decide) (fun z => ?_) (fun z => ?_)
        · have h := h.1 z
          refine g_iload_n ok dX9_readVertex_110 rfl rfl ?_
          refine g_iload_n ok dX9_readVertex_111 rfl rfl ?_
          refine g_ishr ok dX9_readVertex_112 ?_
          refine g_iconst (v := 1) ok dX9_readVertex_113 (by decide) ?_
          refine g_iand ok dX9_readVertex_114 ?_
          refine g_iconst (v := 1) ok dX9_readVertex_115 (by decide) ?_
          refine g_icmp_ne (tgt := 124) ok dX9_readVertex_116 (by decide) (fun z => ?_) (fun z => ?_)
          · have h := h.2 z
            refine g_iconst (v := 1) ok dX9_readVertex_124 (by decide) ?_
            refine g_iload_n ok dX9_readVertex_125 rfl rfl ?_
            refine g_ishl ok dX9_readVertex_126 ?_
            exact g_iret ok hZ dX9_readVertex_127 h
          · have h := h.1 z
            refine g_aload_n ok dX9_readVertex_119 rfl rfl ?_
            refine g_iload_n ok dX9_readVertex_120 rfl rfl ?_
            refine g_put ok f42_25p (gNm (by decide)) q4_19 dX9_readVertex_121 rfl rfl (g_mem (fun M8 eM8 => ?_))
            have h := h M8 eM8
            refine g_iconst (v := 1) ok dX9_readVertex_124 (by decide) ?_
            refine g_iload_n ok dX9_readVertex_125 rfl rfl ?_
            refine g_ishl ok dX9_readVertex_126 ?_
            exact g_iret ok hZ dX9_readVertex_127 h
        · have h := h.2 z
          refine g_bipush (v := 10) ok dX9_readVertex_69 (by decide) ?_
          refine g_iload_n ok dX9_readVertex_71 rfl rfl ?_
          refine g_imul ok dX9_readVertex_72 ?_
          refine g_iload ok dX9_readVertex_73 rfl ?_
          refine g_iadd ok dX9_readVertex_75 ?_
          refine g_nm (fun x9 ex9 => ?_)
          have h := h x9 ex9
          refine g_istore (lv1 := [some (.inr 42), some (.inl p1), some (.inl x1), some (.inl r3), some (.inl r7), some (.inl x9)]) ok dX9_readVertex_76 (glt rfl) rfl ?_
          refine g_iload ok dX9_readVertex_78 rfl ?_
          refine g_aload_n ok dX9_readVertex_80 rfl rfl ?_
          refine g_get (w := .inl (M6 42 0)) ok f42_0 (gNm (by decide)) q3_234 dX9_readVertex_81 rfl ?_
          refine g_icmp_lt (tgt := 97) ok dX9_readVertex_84 (by decide) (fun z => ?_) (fun z => ?_)
          · have h := h.1 z
            refine g_iload ok dX9_readVertex_97 rfl ?_
            refine g_istore_n (lv1 := [some (.inr 42), some (.inl p1), some (.inl x1), some (.inl x9), some (.inl r7), some (.inl x9)]) ok dX9_readVertex_99 rfl (glt rfl) rfl ?_
            refine g_aload_n ok dX9_readVertex_100 rfl rfl ?_
            refine g_dup ok dX9_readVertex_101 ?_
            refine g_get (w := .inl (M6 42 24)) ok f42_24 (gNm (by decide)) q4_18 dX9_readVertex_102 rfl ?_
            refine g_iconst (v := 1) ok dX9_readVertex_105 (by decide) ?_
            refine g_iadd ok dX9_readVertex_106 ?_
            refine g_put ok f42_24p (gNm (by decide)) q4_18 dX9_readVertex_107 rfl rfl (g_mem (fun M10 eM10 => ?_))
            have h := h M10 eM10
            refine g_iload_n ok dX9_readVertex_110 rfl rfl ?_
            refine g_iload_n ok dX9_readVertex_111 rfl rfl ?_
            refine g_ishr ok dX9_readVertex_112 ?_
            refine g_iconst (v := 1) ok dX9_readVertex_113 (by decide) ?_
            refine g_iand ok dX9_readVertex_114 ?_
            refine g_iconst (v := 1) ok dX9_readVertex_115 (by decide) ?_
            refine g_icmp_ne (tgt := 124) ok dX9_readVertex_116 (by decide) (fun z => ?_) (fun z => ?_)
            · have h := h.2 z
              refine g_iconst (v := 1) ok dX9_readVertex_124 (by decide) ?_
              refine g_iload_n ok dX9_readVertex_125 rfl rfl ?_
              refine g_ishl ok dX9_readVertex_126 ?_
              exact g_iret ok hZ dX9_readVertex_127 h
            · have h := h.1 z
              refine g_aload_n ok dX9_readVertex_119 rfl rfl ?_
              refine g_iload_n ok dX9_readVertex_120 rfl rfl ?_
              refine g_put ok f42_25p (gNm (by decide)) q4_19 dX9_readVertex_121 rfl rfl (g_mem (fun M11 eM11 => ?_))
              have h := h M11 eM11
              refine g_iconst (v := 1) ok dX9_readVertex_124 (by decide) ?_
              refine g_iload_n ok dX9_readVertex_125 rfl rfl ?_
              refine g_ishl ok dX9_readVertex_126 ?_
              exact g_iret ok hZ dX9_readVertex_127 h
          · have h := h.2 z
            refine g_aload_n ok dX9_readVertex_87 rfl rfl ?_
            refine g_aload_n ok dX9_readVertex_88 rfl rfl ?_
            refine g_get (w := .inl (M6 42 24)) ok f42_24 (gNm (by decide)) q4_18 dX9_readVertex_89 rfl ?_
            refine g_put ok f42_25p (gNm (by decide)) q4_19 dX9_readVertex_92 rfl rfl (g_mem (fun M12 eM12 => ?_))
            have h := h M12 eM12
            refine g_iconst (v := 0) ok dX9_readVertex_95 (by decide) ?_
            exact g_iret ok hZ dX9_readVertex_96 h
      · have h := h.1 z
        refine g_iconst (v := (-1)) ok dX9_readVertex_50 (by decide) ?_
        refine g_goto (tgt := 62) ok dX9_readVertex_51 (by decide) ?_
        refine g_istore (lv1 := [some (.inr 42), some (.inl p1), some (.inl x1), some (.inl r3), some (.inl (-1)), none]) ok dX9_readVertex_62 (glt rfl) rfl ?_
        refine g_iload ok dX9_readVertex_64 rfl ?_
        refine g_if_lt (tgt := 110) ok dX9_readVertex_66 (by decide) (fun z => ?_) (fun z => ?_)
        · refine g_iload_n ok dX9_readVertex_110 rfl rfl ?_
          refine g_iload_n ok dX9_readVertex_111 rfl rfl ?_
          refine g_ishr ok dX9_readVertex_112 ?_
          refine g_iconst (v := 1) ok dX9_readVertex_113 (by decide) ?_
          refine g_iand ok dX9_readVertex_114 ?_
          refine g_iconst (v := 1) ok dX9_readVertex_115 (by decide) ?_
          refine g_icmp_ne (tgt := 124) ok dX9_readVertex_116 (by decide) (fun z => ?_) (fun z => ?_)
          · have h := h.2 z
            refine g_iconst (v := 1) ok dX9_readVertex_124 (by decide) ?_
            refine g_iload_n ok dX9_readVertex_125 rfl rfl ?_
            refine g_ishl ok dX9_readVertex_126 ?_
            exact g_iret ok hZ dX9_readVertex_127 h
          · have h := h.1 z
            refine g_aload_n ok dX9_readVertex_119 rfl rfl ?_
            refine g_iload_n ok dX9_readVertex_120 rfl rfl ?_
            refine g_put ok f42_25p (gNm (by decide)) q4_19 dX9_readVertex_121 rfl rfl (g_mem (fun M13 eM13 => ?_))
            have h := h M13 eM13
            refine g_iconst (v := 1) ok dX9_readVertex_124 (by decide) ?_
            refine g_iload_n ok dX9_readVertex_125 rfl rfl ?_
            refine g_ishl ok dX9_readVertex_126 ?_
            exact g_iret ok hZ dX9_readVertex_127 h
        · exact absurd (by decide) z
    · have h := h.2 z
      refine g_aload_n ok dX9_readVertex_26 rfl rfl ?_
      refine g_aload_n ok dX9_readVertex_27 rfl rfl ?_
      refine g_get (w := .inl (M2 42 24)) ok f42_24 (gNm (by decide)) q4_18 dX9_readVertex_28 rfl ?_
      refine g_put ok f42_25p (gNm (by decide)) q4_19 dX9_readVertex_31 rfl rfl (g_mem (fun M14 eM14 => ?_))
      have h := h M14 eM14
      refine g_iconst (v := 0) ok dX9_readVertex_34 (by decide) ?_
      exact g_iret ok hZ dX9_readVertex_35 h
