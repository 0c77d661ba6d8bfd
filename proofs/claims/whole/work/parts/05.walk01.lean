theorem dX2_mark_0 : decode cX2_mark 0 = .ok (.iconst 1, 1) := by decide +kernel
theorem dX2_mark_1 : decode cX2_mark 1 = .ok (.aload_n 0, 1) := by decide +kernel
theorem dX2_mark_2 : decode cX2_mark 2 = .ok (.getfield 15, 3) := by decide +kernel
theorem dX2_mark_5 : decode cX2_mark 5 = .ok (.getfield 47, 3) := by decide +kernel
theorem dX2_mark_8 : decode cX2_mark 8 = .ok (.ishl, 1) := by decide +kernel
theorem dX2_mark_9 : decode cX2_mark 9 = .ok (.istore_n 3, 1) := by decide +kernel
theorem dX2_mark_10 : decode cX2_mark 10 = .ok (.iconst 0, 1) := by decide +kernel
theorem dX2_mark_11 : decode cX2_mark 11 = .ok (.istore 4, 2) := by decide +kernel
theorem dX2_mark_13 : decode cX2_mark 13 = .ok (.iload 4, 2) := by decide +kernel
theorem dX2_mark_15 : decode cX2_mark 15 = .ok (.iload_n 3, 1) := by decide +kernel
theorem dX2_mark_16 : decode cX2_mark 16 = .ok (.if_icmp .ge 17, 3) := by decide +kernel
theorem dX2_mark_19 : decode cX2_mark 19 = .ok (.aload_n 0, 1) := by decide +kernel
theorem dX2_mark_20 : decode cX2_mark 20 = .ok (.getfield 9, 3) := by decide +kernel
theorem dX2_mark_23 : decode cX2_mark 23 = .ok (.iload 4, 2) := by decide +kernel
theorem dX2_mark_25 : decode cX2_mark 25 = .ok (.iconst 0, 1) := by decide +kernel
theorem dX2_mark_26 : decode cX2_mark 26 = .ok (.iastore, 1) := by decide +kernel
theorem dX2_mark_27 : decode cX2_mark 27 = .ok (.iinc 4 1, 3) := by decide +kernel
theorem dX2_mark_30 : decode cX2_mark 30 = .ok (.goto (-17), 3) := by decide +kernel
theorem dX2_mark_33 : decode cX2_mark 33 = .ok (.iconst 0, 1) := by decide +kernel
theorem dX2_mark_34 : decode cX2_mark 34 = .ok (.istore 4, 2) := by decide +kernel
theorem dX2_mark_36 : decode cX2_mark 36 = .ok (.iload 4, 2) := by decide +kernel
theorem dX2_mark_38 : decode cX2_mark 38 = .ok (.iload_n 2, 1) := by decide +kernel
theorem dX2_mark_39 : decode cX2_mark 39 = .ok (.if_icmp .ge 34, 3) := by decide +kernel
theorem dX2_mark_42 : decode cX2_mark 42 = .ok (.aload_n 1, 1) := by decide +kernel
theorem dX2_mark_43 : decode cX2_mark 43 = .ok (.iload 4, 2) := by decide +kernel
theorem dX2_mark_45 : decode cX2_mark 45 = .ok (.iaload, 1) := by decide +kernel
theorem dX2_mark_46 : decode cX2_mark 46 = .ok (.ifCond .lt 21, 3) := by decide +kernel
theorem dX2_mark_49 : decode cX2_mark 49 = .ok (.aload_n 1, 1) := by decide +kernel
theorem dX2_mark_50 : decode cX2_mark 50 = .ok (.iload 4, 2) := by decide +kernel
theorem dX2_mark_52 : decode cX2_mark 52 = .ok (.iaload, 1) := by decide +kernel
theorem dX2_mark_53 : decode cX2_mark 53 = .ok (.iload_n 3, 1) := by decide +kernel
theorem dX2_mark_54 : decode cX2_mark 54 = .ok (.if_icmp .ge 13, 3) := by decide +kernel
theorem dX2_mark_57 : decode cX2_mark 57 = .ok (.aload_n 0, 1) := by decide +kernel
theorem dX2_mark_58 : decode cX2_mark 58 = .ok (.getfield 9, 3) := by decide +kernel
theorem dX2_mark_61 : decode cX2_mark 61 = .ok (.aload_n 1, 1) := by decide +kernel
theorem dX2_mark_62 : decode cX2_mark 62 = .ok (.iload 4, 2) := by decide +kernel
theorem dX2_mark_64 : decode cX2_mark 64 = .ok (.iaload, 1) := by decide +kernel
theorem dX2_mark_65 : decode cX2_mark 65 = .ok (.iconst 1, 1) := by decide +kernel
theorem dX2_mark_66 : decode cX2_mark 66 = .ok (.iastore, 1) := by decide +kernel
theorem dX2_mark_67 : decode cX2_mark 67 = .ok (.iinc 4 1, 3) := by decide +kernel
theorem dX2_mark_70 : decode cX2_mark 70 = .ok (.goto (-34), 3) := by decide +kernel
theorem dX2_mark_73 : decode cX2_mark 73 = .ok (.return_, 1) := by decide +kernel
theorem s_X2_mark : gSt yX2_mark cX2_mark 5 none 2 := ⟨q3_107, q1_6, ⟨by decide, by decide, by decide +kernel⟩, by decide⟩
theorem sel_X2_mark : Cond.selects yX2_mark.cls yX2_mark yX2_mark ∈ gT := qs_7
theorem ins_X2_mark : Cond.instanceMethod yX2_mark ∈ gT := q3_106
def w_X2_mark_9_L13 (Q : gM → Prop) (K33 : Int32 → gM → Prop) (v2 : Int32) (v3 : Int32) : Nat → Int32 → gM → Prop
  | 0, _, _ => False
  | n + 1, v4, M => gbr ((v4 : Int32) < v3) (vp_in v4 16384 ∧ ∀ M2 : gM, M2 = gst M 34 (Int32.toNatClampNeg v4) 0 → (∀ x3 : Int32, x3 = (v4 + 1) → (w_X2_mark_9_L13 Q K33 v2 v3 n (x3) M2))) (K33 (v4) M)
def w_X2_mark_9_L36 (Q : gM → Prop) (K73 : Int32 → gM → Prop) (v2 : Int32) (v3 : Int32) : Nat → Int32 → gM → Prop
  | 0, _, _ => False
  | n + 1, v4, M => gbr ((v4 : Int32) < v2) (vp_in v4 24 ∧ (gbr (((M 9 (Int32.toNatClampNeg v4)) : Int32) < 0) (∀ x6 : Int32, x6 = (v4 + 1) → (w_X2_mark_9_L36 Q K73 v2 v3 n (x6) M)) (vp_in v4 24 ∧ (gbr (((M 9 (Int32.toNatClampNeg v4)) : Int32) < v3) (vp_in v4 24 ∧ (vp_in (M 9 (Int32.toNatClampNeg v4)) 16384 ∧ ∀ M8 : gM, M8 = gst M 34 (Int32.toNatClampNeg (M 9 (Int32.toNatClampNeg v4))) 1 → (∀ x9 : Int32, x9 = (v4 + 1) → (w_X2_mark_9_L36 Q K73 v2 v3 n (x9) M8)))) (∀ x7 : Int32, x7 = (v4 + 1) → (w_X2_mark_9_L36 Q K73 v2 v3 n (x7) M)))))) (K73 (v4) M)
def w_X2_mark_9 (p2 : Int32) (M : gM) (Q : gM → Prop) : Prop := ∀ x1 : Int32, x1 = (1 <<< ((M 1 0) &&& 31)) → (∃ nf, w_X2_mark_9_L13 Q (fun (x4 : Int32) (M5 : gM) => ∃ nf, w_X2_mark_9_L36 Q (fun (x10 : Int32) (M11 : gM) => Q M11) p2 x1 nf 0 M5) p2 x1 nf 0 M)
set_option maxRecDepth 100000 in
set_option maxHeartbeats 4000000 in
theorem w_X2_mark_9_L13_w {X : gX} (ok : gOk X cX2_mark yX2_mark.cls 0 5 none gL) {Q : gM → Prop} (hZ : gZv X Q) {K33 : Int32 → gM → Prop} (v2 : Int32) (v3 : Int32) (hK33 : ∀ (v4 : Int32)  (M : gM), K33 v4 M → gW X 33 [some (.inr 5), some (.inr 9), some (.inl v2), some (.inl v3), some (.inl v4)] [] M) : ∀ (n : Nat) (v4 : Int32)  (M : gM), w_X2_mark_9_L13 Q K33 v2 v3 n v4 M → gW X 13 [some (.inr 5), some (.inr 9), some (.inl v2), some (.inl v3), some (.inl v4)] [] M
  | 0, _, _, h => h.elim
  | n + 1, v4, M, h => by
    have ih := fun (v4 : Int32)  (M : gM) h => w_X2_mark_9_L13_w ok hZ v2 v3 hK33 n v4  M h
    rw [w_X2_mark_9_L13.eq_2] at h
    refine g_iload ok dX2_mark_13 rfl ?_
    refine g_iload_n ok dX2_mark_15 rfl rfl ?_
    refine g_icmp_ge (tgt := 33) ok dX2_mark_16 (by decide) (fun z => ?_) (fun z => ?_)
    · have h := h.2 z
      exact hK33 (v4) M h
    · have h := h.1 z
      refine g_aload_n ok dX2_mark_19 rfl rfl ?_
      refine g_get (w := .inr 34) ok f5_0 (gLm (by decide)) q1_156 dX2_mark_20 rfl ?_
      refine g_iload ok dX2_mark_23 rfl ?_
      refine g_iconst (v := 0) ok dX2_mark_25 (by decide) ?_
      have hb := h.1
      have h := h.2
      refine g_iast ok a34 (gLm (by decide)) dX2_mark_26 hb (g_mem (fun M2 eM2 => ?_))
      have h := h M2 eM2
      obtain ⟨x3, ex3⟩ : ∃ y : Int32, y = (v4 + 1) := ⟨_, rfl⟩
      have h := h x3 ex3
      refine g_iinc (v := x3) (lv1 := [some (.inr 5), some (.inr 9), some (.inl v2), some (.inl v3), some (.inl x3)]) ok dX2_mark_27 rfl (by rw [ex3]; rfl) rfl ?_
      refine g_goto (tgt := 13) ok dX2_mark_30 (by decide) ?_
      exact ih (x3) M2 h
set_option maxRecDepth 100000 in
set_option maxHeartbeats 4000000 in
theorem w_X2_mark_9_L36_w {X : gX} (ok : gOk X cX2_mark yX2_mark.cls 0 5 none gL) {Q : gM → Prop} (hZ : gZv X Q) {K73 : Int32 → gM → Prop} (v2 : Int32) (v3 : Int32) (hK73 : ∀ (v4 : Int32)  (M : gM), K73 v4 M → gW X 73 [some (.inr 5), some (.inr 9), some (.inl v2), some (.inl v3), some (.inl v4)] [] M) : ∀ (n : Nat) (v4 : Int32)  (M : gM), w_X2_mark_9_L36 Q K73 v2 v3 n v4 M → gW X 36 [some (.inr 5), some (.inr 9), some (.inl v2), some (.inl v3), some (.inl v4)] [] M
  | 0, _, _, h => h.elim
  | n + 1, v4, M, h => by
    have ih := fun (v4 : Int32)  (M : gM) h => w_X2_mark_9_L36_w ok hZ v2 v3 hK73 n v4  M h
    rw [w_X2_mark_9_L36.eq_2] at h
    refine g_iload ok dX2_mark_36 rfl ?_
    refine g_iload_n ok dX2_mark_38 rfl rfl ?_
    refine g_icmp_ge (tgt := 73) ok dX2_mark_39 (by decide) (fun z => ?_) (fun z => ?_)
    · have h := h.2 z
      exact hK73 (v4) M h
    · have h := h.1 z
      refine g_aload_n ok dX2_mark_42 rfl rfl ?_
      refine g_iload ok dX2_mark_43 rfl ?_
      have hb := h.1
      have h := h.2
      refine g_iald (w := (M 9 (Int32.toNatClampNeg v4))) ok a9 (gLm (by decide)) dX2_mark_45 hb rfl ?_
      refine g_if_lt (tgt := 67) ok dX2_mark_46 (by decide) (fun z => ?_) (fun z => ?_)
      · have h := h.1 z
        obtain ⟨x6, ex6⟩ : ∃ y : Int32, y = (v4 + 1) := ⟨_, rfl⟩
        have h := h x6 ex6
        refine g_iinc (v := x6) (lv1 := [some (.inr 5), some (.inr 9), some (.inl v2), some (.inl v3), some (.inl x6)]) ok dX2_mark_67 rfl (by rw [ex6]; rfl) rfl ?_
        refine g_goto (tgt := 36) ok dX2_mark_70 (by decide) ?_
        exact ih (x6) M h
      · have h := h.2 z
        refine g_aload_n ok dX2_mark_49 rfl rfl ?_
        refine g_iload ok dX2_mark_50 rfl ?_
        have hb := h.1
        have h := h.2
        refine g_iald (w := (M 9 (Int32.toNatClampNeg v4))) ok a9 (gLm (by decide)) dX2_mark_52 hb rfl ?_
        refine g_iload_n ok dX2_mark_53 rfl rfl ?_
        refine g_icmp_ge (tgt := 67) ok dX2_mark_54 (by decide) (fun z => ?_) (fun z => ?_)
        · have h := h.2 z
          obtain ⟨x7, ex7⟩ : ∃ y : Int32, y = (v4 + 1) := ⟨_, rfl⟩
          have h := h x7 ex7
          refine g_iinc (v := x7) (lv1 := [some (.inr 5), some (.inr 9), some (.inl v2), some (.inl v3), some (.inl x7)]) ok dX2_mark_67 rfl (by rw [ex7]; rfl) rfl ?_
          refine g_goto (tgt := 36) ok dX2_mark_70 (by decide) ?_
          exact ih (x7) M h
        · have h := h.1 z
          refine g_aload_n ok dX2_mark_57 rfl rfl ?_
          refine g_get (w := .inr 34) ok f5_0 (gLm (by decide)) q1_156 dX2_mark_58 rfl ?_
          refine g_aload_n ok dX2_mark_61 rfl rfl ?_
          refine g_iload ok dX2_mark_62 rfl ?_
          have hb := h.1
          have h := h.2
          refine g_iald (w := (M 9 (Int32.toNatClampNeg v4))) ok a9 (gLm (by decide)) dX2_mark_64 hb rfl ?_
          refine g_iconst (v := 1) ok dX2_mark_65 (by decide) ?_
          have hb := h.1
          have h := h.2
          refine g_iast ok a34 (gLm (by decide)) dX2_mark_66 hb (g_mem (fun M8 eM8 => ?_))
          have h := h M8 eM8
          obtain ⟨x9, ex9⟩ : ∃ y : Int32, y = (v4 + 1) := ⟨_, rfl⟩
          have h := h x9 ex9
          refine g_iinc (v := x9) (lv1 := [some (.inr 5), some (.inr 9), some (.inl v2), some (.inl v3), some (.inl x9)]) ok dX2_mark_67 rfl (by rw [ex9]; rfl) rfl ?_
          refine g_goto (tgt := 36) ok dX2_mark_70 (by decide) ?_
          exact ih (x9) M8 h
set_option maxRecDepth 100000 in
set_option maxHeartbeats 4000000 in
theorem k_X2_mark_9 {p2 : Int32} {M : gM} {Q : gM → Prop} (h : w_X2_mark_9 p2 M Q) : gCv gL 0 yX2_mark cX2_mark 5 [.inr 5, .inr 9, .inl p2] M Q := by
  refine gCv_of (by decide) gLn (gle rfl) (fun X ok hZ => ?_)
  show gW X 0 [some (.inr 5), some (.inr 9), some (.inl p2), none, none] [] M
  unfold w_X2_mark_9 at h
  refine g_iconst (v := 1) ok dX2_mark_0 (by decide) ?_
  refine g_aload_n ok dX2_mark_1 rfl rfl ?_
  refine g_get (w := .inr 1) ok f5_1 (gLm (by decide)) q1_159 dX2_mark_2 rfl ?_
  refine g_get (w := .inl (M 1 0)) ok f1_0 (gLm (by decide)) q1_58 dX2_mark_5 rfl ?_
  refine g_ishl ok dX2_mark_8 ?_
  refine g_nm (fun x1 ex1 => ?_)
  have h := h x1 ex1
  refine g_istore_n (lv1 := [some (.inr 5), some (.inr 9), some (.inl p2), some (.inl x1), none]) ok dX2_mark_9 rfl (glt rfl) rfl ?_
  refine g_iconst (v := 0) ok dX2_mark_10 (by decide) ?_
  refine g_istore (lv1 := [some (.inr 5), some (.inr 9), some (.inl p2), some (.inl x1), some (.inl 0)]) ok dX2_mark_11 (glt rfl) rfl ?_
  obtain ⟨nf, h⟩ := h
  refine w_X2_mark_9_L13_w ok hZ p2 x1 ?_ nf 0  M h
  · intro x4  M5 h
    refine g_iconst (v := 0) ok dX2_mark_33 (by decide) ?_
    refine g_istore (lv1 := [some (.inr 5), some (.inr 9), some (.inl p2), some (.inl x1), some (.inl 0)]) ok dX2_mark_34 (glt rfl) rfl ?_
    obtain ⟨nf, h⟩ := h
    refine w_X2_mark_9_L36_w ok hZ p2 x1 ?_ nf 0  M5 h
    · intro x10  M11 h
      exact g_vret ok hZ dX2_mark_73 h
def w_X2_mark_30_L13 (Q : gM → Prop) (K33 : Int32 → gM → Prop) (v2 : Int32) (v3 : Int32) : Nat → Int32 → gM → Prop
  | 0, _, _ => False
  | n + 1, v4, M => gbr ((v4 : Int32) < v3) (vp_in v4 16384 ∧ ∀ M2 : gM, M2 = gst M 34 (Int32.toNatClampNeg v4) 0 → (∀ x3 : Int32, x3 = (v4 + 1) → (w_X2_mark_30_L13 Q K33 v2 v3 n (x3) M2))) (K33 (v4) M)
def w_X2_mark_30_L36 (Q : gM → Prop) (K73 : Int32 → gM → Prop) (v2 : Int32) (v3 : Int32) : Nat → Int32 → gM → Prop
  | 0, _, _ => False
  | n + 1, v4, M => gbr ((v4 : Int32) < v2) (vp_in v4 4000 ∧ (gbr (((M 30 (Int32.toNatClampNeg v4)) : Int32) < 0) (∀ x6 : Int32, x6 = (v4 + 1) → (w_X2_mark_30_L36 Q K73 v2 v3 n (x6) M)) (vp_in v4 4000 ∧ (gbr (((M 30 (Int32.toNatClampNeg v4)) : Int32) < v3) (vp_in v4 4000 ∧ (vp_in (M 30 (Int32.toNatClampNeg v4)) 16384 ∧ ∀ M8 : gM, M8 = gst M 34 (Int32.toNatClampNeg (M 30 (Int32.toNatClampNeg v4))) 1 → (∀ x9 : Int32, x9 = (v4 + 1) → (w_X2_mark_30_L36 Q K73 v2 v3 n (x9) M8)))) (∀ x7 : Int32, x7 = (v4 + 1) → (w_X2_mark_30_L36 Q K73 v2 v3 n (x7) M)))))) (K73 (v4) M)
def w_X2_mark_30 (p2 : Int32) (M : gM) (Q : gM → Prop) : Prop := ∀ x1 : Int32, x1 = (1 <<< ((M 1 0) &&& 31)) → (∃ nf, w_X2_mark_30_L13 Q (fun (x4 : Int32) (M5 : gM) => ∃ nf, w_X2_mark_30_L36 Q (fun (x10 : Int32) (M11 : gM) => Q M11) p2 x1 nf 0 M5) p2 x1 nf 0 M)
set_option maxRecDepth 100000 in
set_option maxHeartbeats 4000000 in
theorem w_X2_mark_30_L13_w {X : gX} (ok : gOk X cX2_mark yX2_mark.cls 0 5 none gL) {Q : gM → Prop} (hZ : gZv X Q) {K33 : Int32 → gM → Prop} (v2 : Int32) (v3 : Int32) (hK33 : ∀ (v4 : Int32)  (M : gM), K33 v4 M → gW X 33 [some (.inr 5), some (.inr 30), some (.inl v2), some (.inl v3), some (.inl v4)] [] M) : ∀ (n : Nat) (v4 : Int32)  (M : gM), w_X2_mark_30_L13 Q K33 v2 v3 n v4 M → gW X 13 [some (.inr 5), some (.inr 30), some (.inl v2), some (.inl v3), some (.inl v4)] [] M
  | 0, _, _, h => h.elim
  | n + 1, v4, M, h => by
    have ih := fun (v4 : Int32)  (M : gM) h => w_X2_mark_30_L13_w ok hZ v2 v3 hK33 n v4  M h
    rw [w_X2_mark_30_L13.eq_2] at h
    refine g_iload ok dX2_mark_13 rfl ?_
    refine g_iload_n ok dX2_mark_15 rfl rfl ?_
    refine g_icmp_ge (tgt := 33) ok dX2_mark_16 (by decide) (fun z => ?_) (fun z => ?_)
    · have h := h.2 z
      exact hK33 (v4) M h
    · have h := h.1 z
      refine g_aload_n ok dX2_mark_19 rfl rfl ?_
      refine g_get (w := .inr 34) ok f5_0 (gLm (by decide)) q1_156 dX2_mark_20 rfl ?_
      refine g_iload ok dX2_mark_23 rfl ?_
      refine g_iconst (v := 0) ok dX2_mark_25 (by decide) ?_
      have hb := h.1
      have h := h.2
      refine g_iast ok a34 (gLm (by decide)) dX2_mark_26 hb (g_mem (fun M2 eM2 => ?_))
      have h := h M2 eM2
      obtain ⟨x3, ex3⟩ : ∃ y : Int32, y = (v4 + 1) := ⟨_, rfl⟩
      have h := h x3 ex3
      refine g_iinc (v := x3) (lv1 := [some (.inr 5), some (.inr 30), some (.inl v2), some (.inl v3), some (.inl x3)]) ok dX2_mark_27 rfl (by rw [ex3]; rfl) rfl ?_
      refine g_goto (tgt := 13) ok dX2_mark_30 (by decide) ?_
      exact ih (x3) M2 h
set_option maxRecDepth 100000 in
set_option maxHeartbeats 4000000 in
theorem w_X2_mark_30_L36_w {X : gX} (ok : gOk X cX2_mark yX2_mark.cls 0 5 none gL) {Q : gM → Prop} (hZ : gZv X Q) {K73 : Int32 → gM → Prop} (v2 : Int32) (v3 : Int32) (hK73 : ∀ (v4 : Int32)  (M : gM), K73 v4 M → gW X 73 [some (.inr 5), some (.inr 30), some (.inl v2), some (.inl v3), some (.inl v4)] [] M) : ∀ (n : Nat) (v4 : Int32)  (M : gM), w_X2_mark_30_L36 Q K73 v2 v3 n v4 M → gW X 36 [some (.inr 5), some (.inr 30), some (.inl v2), some (.inl v3), some (.inl v4)] [] M
  | 0, _, _, h => h.elim
  | n + 1, v4, M, h => by
    have ih := fun (v4 : Int32)  (M : gM) h => w_X2_mark_30_L36_w ok hZ v2 v3 hK73 n v4  M h
    rw [w_X2_mark_30_L36.eq_2] at h
    refine g_iload ok dX2_mark_36 rfl ?_
    refine g_iload_n ok dX2_mark_38 rfl rfl ?_
    refine g_icmp_ge (tgt := 73) ok dX2_mark_39 (by decide) (fun z => ?_) (fun z => ?_)
    · have h := h.2 z
      exact hK73 (v4) M h
    · have h := h.1 z
      refine g_aload_n ok dX2_mark_42 rfl rfl ?_
      refine g_iload ok dX2_mark_43 rfl ?_
      have hb := h.1
      have h := h.2
      refine g_iald (w := (M 30 (Int32.toNatClampNeg v4))) ok a30 (gLm (by decide)) dX2_mark_45 hb rfl ?_
      refine g_if_lt (tgt := 67) ok dX2_mark_46 (by decide) (fun z => ?_) (fun z => ?_)
      · have h := h.1 z
        obtain ⟨x6, ex6⟩ : ∃ y : Int32, y = (v4 + 1) := ⟨_, rfl⟩
        have h := h x6 ex6
        refine g_iinc (v := x6) (lv1 := [some (.inr 5), some (.inr 30), some (.inl v2), some (.inl v3), some (.inl x6)]) ok dX2_mark_67 rfl (by rw [ex6]; rfl) rfl ?_
        refine g_goto (tgt := 36) ok dX2_mark_70 (by decide) ?_
        exact ih (x6) M h
      · have h := h.2 z
        refine g_aload_n ok dX2_mark_49 rfl rfl ?_
        refine g_iload ok dX2_mark_50 rfl ?_
        have hb := h.1
        have h := h.2
        refine g_iald (w := (M 30 (Int32.toNatClampNeg v4))) ok a30 (gLm (by decide)) dX2_mark_52 hb rfl ?_
        refine g_iload_n ok dX2_mark_53 rfl rfl ?_
        refine g_icmp_ge (tgt := 67) ok dX2_mark_54 (by decide) (fun z => ?_) (fun z => ?_)
        · have h := h.2 z
          obtain ⟨x7, ex7⟩ : ∃ y : Int32, y = (v4 + 1) := ⟨_, rfl⟩
          have h := h x7 ex7
          refine g_iinc (v := x7) (lv1 := [some (.inr 5), some (.inr 30), some (.inl v2), some (.inl v3), some (.inl x7)]) ok dX2_mark_67 rfl (by rw [ex7]; rfl) rfl ?_
          refine g_goto (tgt := 36) ok dX2_mark_70 (by decide) ?_
          exact ih (x7) M h
        · have h := h.1 z
          refine g_aload_n ok dX2_mark_57 rfl rfl ?_
          refine g_get (w := .inr 34) ok f5_0 (gLm (by decide)) q1_156 dX2_mark_58 rfl ?_
          refine g_aload_n ok dX2_mark_61 rfl rfl ?_
          refine g_iload ok dX2_mark_62 rfl ?_
          have hb := h.1
          have h := h.2
          refine g_iald (w := (M 30 (Int32.toNatClampNeg v4))) ok a30 (gLm (by decide)) dX2_mark_64 hb rfl ?_
          refine g_iconst (v := 1) ok dX2_mark_65 (by decide) ?_
          have hb := h.1
          have h := h.2
          refine g_iast ok a34 (gLm (by decide)) dX2_mark_66 hb (g_mem (fun M8 eM8 => ?_))
          have h := h M8 eM8
          obtain ⟨x9, ex9⟩ : ∃ y : Int32, y = (v4 + 1) := ⟨_, rfl⟩
          have h := h x9 ex9
          refine g_iinc (v := x9) (lv1 := [some (.inr 5), some (.inr 30), some (.inl v2), some (.inl v3), some (.inl x9)]) ok dX2_mark_67 rfl (by rw [ex9]; rfl) rfl ?_
          refine g_goto (tgt := 36) ok dX2_mark_70 (by decide) ?_
          exact ih (x9) M8 h
set_option maxRecDepth 100000 in
set_option maxHeartbeats 4000000 in
theorem k_X2_mark_30 {p2 : Int32} {M : gM} {Q : gM → Prop} (h : w_X2_mark_30 p2 M Q) : gCv gL 0 yX2_mark cX2_mark 5 [.inr 5, .inr 30, .inl p2] M Q := by
  refine gCv_of (by decide) gLn (gle rfl) (fun X ok hZ => ?_)
  show gW X 0 [some (.inr 5), some (.inr 30), some (.inl p2), none, none] [] M
  unfold w_X2_mark_30 at h
  refine g_iconst (v := 1) ok dX2_mark_0 (by decide) ?_
  refine g_aload_n ok dX2_mark_1 rfl rfl ?_
  refine g_get (w := .inr 1) ok f5_1 (gLm (by decide)) q1_159 dX2_mark_2 rfl ?_
  refine g_get (w := .inl (M 1 0)) ok f1_0 (gLm (by decide)) q1_58 dX2_mark_5 rfl ?_
  refine g_ishl ok dX2_mark_8 ?_
  refine g_nm (fun x1 ex1 => ?_)
  have h := h x1 ex1
  refine g_istore_n (lv1 := [some (.inr 5), some (.inr 30), some (.inl p2), some (.inl x1), none]) ok dX2_mark_9 rfl (glt rfl) rfl ?_
  refine g_iconst (v := 0) ok dX2_mark_10 (by decide) ?_
  refine g_istore (lv1 := [some (.inr 5), some (.inr 30), some (.inl p2), some (.inl x1), some (.inl 0)]) ok dX2_mark_11 (glt rfl) rfl ?_
  obtain ⟨nf, h⟩ := h
  refine w_X2_mark_30_L13_w ok hZ p2 x1 ?_ nf 0  M h
  · intro x4  M5 h
    refine g_iconst (v := 0) ok dX2_mark_33 (by decide) ?_
    refine g_istore (lv1 := [some (.inr 5), some (.inr 30), some (.inl p2), some (.inl x1), some (.inl 0)]) ok dX2_mark_34 (glt rfl) rfl ?_
    obtain ⟨nf, h⟩ := h
    refine w_X2_mark_30_L36_w ok hZ p2 x1 ?_ nf 0  M5 h
    · intro x10  M11 h
      exact g_vret ok hZ dX2_mark_73 h
theorem dX5_allEdges_0 : decode cX5_allEdges 0 = .ok (.iconst 1, 1) := by decide +kernel
theorem dX5_allEdges_1 : decode cX5_allEdges 1 = .ok (.aload_n 0, 1) := by decide +kernel
theorem dX5_allEdges_2 : decode cX5_allEdges 2 = .ok (.getfield 29, 3) := by decide +kernel
theorem dX5_allEdges_5 : decode cX5_allEdges 5 = .ok (.ishl, 1) := by decide +kernel
theorem dX5_allEdges_6 : decode cX5_allEdges 6 = .ok (.iconst 1, 1) := by decide +kernel
theorem dX5_allEdges_7 : decode cX5_allEdges 7 = .ok (.isub, 1) := by decide +kernel
theorem dX5_allEdges_8 : decode cX5_allEdges 8 = .ok (.ireturn, 1) := by decide +kernel
theorem s_X5_allEdges : gSt yX5_allEdges cX5_allEdges 1 (some .int) 0 := ⟨q2_92, q1_2, ⟨by decide, by decide, by decide +kernel⟩, by decide⟩
theorem sel_X5_allEdges : Cond.selects yX5_allEdges.cls yX5_allEdges yX5_allEdges ∈ gT := q2_91
theorem ins_X5_allEdges : Cond.instanceMethod yX5_allEdges ∈ gT := q2_90
def w_X5_allEdges  (M : gM) (Q : Int32 → gM → Prop) : Prop := Q ((1 <<< ((M 1 1) &&& 31)) - 1) M
set_option maxRecDepth 100000 in
set_option maxHeartbeats 4000000 in
theorem k_X5_allEdges  {M : gM} {Q : Int32 → gM → Prop} (h : w_X5_allEdges  M Q) : gCi gL 0 yX5_allEdges cX5_allEdges 1 .int [.inr 1] M Q := by
  refine gCi_of (by decide) gLn (gle rfl) (fun X ok hZ => ?_)
  show gW X 0 [some (.inr 1)] [] M
  unfold w_X5_allEdges at h
  refine g_iconst (v := 1) ok dX5_allEdges_0 (by decide) ?_
  refine g_aload_n ok dX5_allEdges_1 rfl rfl ?_
  refine g_get (w := .inl (M 1 1)) ok f1_1 (gLm (by decide)) q1_62 dX5_allEdges_2 rfl ?_
  refine g_ishl ok dX5_allEdges_5 ?_
  refine g_iconst (v := 1) ok dX5_allEdges_6 (by decide) ?_
  refine g_isub ok dX5_allEdges_7 ?_
  exact g_iret ok hZ dX5_allEdges_8 h
theorem dX2_markHittingSets_0 : decode cX2_markHittingSets 0 = .ok (.aload_n 0, 1) := by decide +kernel
theorem dX2_markHittingSets_1 : decode cX2_markHittingSets 1 = .ok (.getfield 9, 3) := by decide +kernel
theorem dX2_markHittingSets_4 : decode cX2_markHittingSets 4 = .ok (.iconst 0, 1) := by decide +kernel
theorem dX2_markHittingSets_5 : decode cX2_markHittingSets 5 = .ok (.iconst 0, 1) := by decide +kernel
theorem dX2_markHittingSets_6 : decode cX2_markHittingSets 6 = .ok (.iastore, 1) := by decide +kernel
theorem dX2_markHittingSets_7 : decode cX2_markHittingSets 7 = .ok (.iconst 0, 1) := by decide +kernel
theorem dX2_markHittingSets_8 : decode cX2_markHittingSets 8 = .ok (.istore_n 1, 1) := by decide +kernel
theorem dX2_markHittingSets_9 : decode cX2_markHittingSets 9 = .ok (.iload_n 1, 1) := by decide +kernel
theorem dX2_markHittingSets_10 : decode cX2_markHittingSets 10 = .ok (.aload_n 0, 1) := by decide +kernel
theorem dX2_markHittingSets_11 : decode cX2_markHittingSets 11 = .ok (.getfield 15, 3) := by decide +kernel
theorem dX2_markHittingSets_14 : decode cX2_markHittingSets 14 = .ok (.getfield 47, 3) := by decide +kernel
theorem dX2_markHittingSets_17 : decode cX2_markHittingSets 17 = .ok (.if_icmp .ge 50, 3) := by decide +kernel
theorem dX2_markHittingSets_20 : decode cX2_markHittingSets 20 = .ok (.iconst 1, 1) := by decide +kernel
theorem dX2_markHittingSets_21 : decode cX2_markHittingSets 21 = .ok (.iload_n 1, 1) := by decide +kernel
theorem dX2_markHittingSets_22 : decode cX2_markHittingSets 22 = .ok (.ishl, 1) := by decide +kernel
theorem dX2_markHittingSets_23 : decode cX2_markHittingSets 23 = .ok (.istore_n 2, 1) := by decide +kernel
theorem dX2_markHittingSets_24 : decode cX2_markHittingSets 24 = .ok (.iconst 0, 1) := by decide +kernel
theorem dX2_markHittingSets_25 : decode cX2_markHittingSets 25 = .ok (.istore_n 3, 1) := by decide +kernel
theorem dX2_markHittingSets_26 : decode cX2_markHittingSets 26 = .ok (.iload_n 3, 1) := by decide +kernel
theorem dX2_markHittingSets_27 : decode cX2_markHittingSets 27 = .ok (.iload_n 2, 1) := by decide +kernel
theorem dX2_markHittingSets_28 : decode cX2_markHittingSets 28 = .ok (.if_icmp .ge 33, 3) := by decide +kernel
theorem dX2_markHittingSets_31 : decode cX2_markHittingSets 31 = .ok (.aload_n 0, 1) := by decide +kernel
theorem dX2_markHittingSets_32 : decode cX2_markHittingSets 32 = .ok (.getfield 9, 3) := by decide +kernel
theorem dX2_markHittingSets_35 : decode cX2_markHittingSets 35 = .ok (.iload_n 2, 1) := by decide +kernel
theorem dX2_markHittingSets_36 : decode cX2_markHittingSets 36 = .ok (.iload_n 3, 1) := by decide +kernel
theorem dX2_markHittingSets_37 : decode cX2_markHittingSets 37 = .ok (.iadd, 1) := by decide +kernel
theorem dX2_markHittingSets_38 : decode cX2_markHittingSets 38 = .ok (.aload_n 0, 1) := by decide +kernel
theorem dX2_markHittingSets_39 : decode cX2_markHittingSets 39 = .ok (.getfield 9, 3) := by decide +kernel
theorem dX2_markHittingSets_42 : decode cX2_markHittingSets 42 = .ok (.iload_n 3, 1) := by decide +kernel
theorem dX2_markHittingSets_43 : decode cX2_markHittingSets 43 = .ok (.iaload, 1) := by decide +kernel
theorem dX2_markHittingSets_44 : decode cX2_markHittingSets 44 = .ok (.aload_n 0, 1) := by decide +kernel
theorem dX2_markHittingSets_45 : decode cX2_markHittingSets 45 = .ok (.getfield 15, 3) := by decide +kernel
theorem dX2_markHittingSets_48 : decode cX2_markHittingSets 48 = .ok (.getfield 50, 3) := by decide +kernel
theorem dX2_markHittingSets_51 : decode cX2_markHittingSets 51 = .ok (.iload_n 1, 1) := by decide +kernel
theorem dX2_markHittingSets_52 : decode cX2_markHittingSets 52 = .ok (.iaload, 1) := by decide +kernel
theorem dX2_markHittingSets_53 : decode cX2_markHittingSets 53 = .ok (.ior, 1) := by decide +kernel
theorem dX2_markHittingSets_54 : decode cX2_markHittingSets 54 = .ok (.iastore, 1) := by decide +kernel
theorem dX2_markHittingSets_55 : decode cX2_markHittingSets 55 = .ok (.iinc 3 1, 3) := by decide +kernel
theorem dX2_markHittingSets_58 : decode cX2_markHittingSets 58 = .ok (.goto (-32), 3) := by decide +kernel
theorem dX2_markHittingSets_61 : decode cX2_markHittingSets 61 = .ok (.iinc 1 1, 3) := by decide +kernel
theorem dX2_markHittingSets_64 : decode cX2_markHittingSets 64 = .ok (.goto (-55), 3) := by decide +kernel
theorem dX2_markHittingSets_67 : decode cX2_markHittingSets 67 = .ok (.aload_n 0, 1) := by decide +kernel
theorem dX2_markHittingSets_68 : decode cX2_markHittingSets 68 = .ok (.getfield 15, 3) := by decide +kernel
theorem dX2_markHittingSets_71 : decode cX2_markHittingSets 71 = .ok (.invokevirtual 53, 3) := by decide +kernel
theorem dX2_markHittingSets_74 : decode cX2_markHittingSets 74 = .ok (.istore_n 1, 1) := by decide +kernel
theorem dX2_markHittingSets_75 : decode cX2_markHittingSets 75 = .ok (.iconst 1, 1) := by decide +kernel
theorem dX2_markHittingSets_76 : decode cX2_markHittingSets 76 = .ok (.aload_n 0, 1) := by decide +kernel
theorem dX2_markHittingSets_77 : decode cX2_markHittingSets 77 = .ok (.getfield 15, 3) := by decide +kernel
theorem dX2_markHittingSets_80 : decode cX2_markHittingSets 80 = .ok (.getfield 47, 3) := by decide +kernel
theorem dX2_markHittingSets_83 : decode cX2_markHittingSets 83 = .ok (.ishl, 1) := by decide +kernel
theorem dX2_markHittingSets_84 : decode cX2_markHittingSets 84 = .ok (.istore_n 2, 1) := by decide +kernel
theorem dX2_markHittingSets_85 : decode cX2_markHittingSets 85 = .ok (.iconst 0, 1) := by decide +kernel
theorem dX2_markHittingSets_86 : decode cX2_markHittingSets 86 = .ok (.istore_n 3, 1) := by decide +kernel
theorem dX2_markHittingSets_87 : decode cX2_markHittingSets 87 = .ok (.iload_n 3, 1) := by decide +kernel
theorem dX2_markHittingSets_88 : decode cX2_markHittingSets 88 = .ok (.iload_n 2, 1) := by decide +kernel
theorem dX2_markHittingSets_89 : decode cX2_markHittingSets 89 = .ok (.if_icmp .ge 30, 3) := by decide +kernel
theorem dX2_markHittingSets_92 : decode cX2_markHittingSets 92 = .ok (.aload_n 0, 1) := by decide +kernel
theorem dX2_markHittingSets_93 : decode cX2_markHittingSets 93 = .ok (.getfield 9, 3) := by decide +kernel
theorem dX2_markHittingSets_96 : decode cX2_markHittingSets 96 = .ok (.iload_n 3, 1) := by decide +kernel
theorem dX2_markHittingSets_97 : decode cX2_markHittingSets 97 = .ok (.aload_n 0, 1) := by decide +kernel
theorem dX2_markHittingSets_98 : decode cX2_markHittingSets 98 = .ok (.getfield 9, 3) := by decide +kernel
theorem dX2_markHittingSets_101 : decode cX2_markHittingSets 101 = .ok (.iload_n 3, 1) := by decide +kernel
theorem dX2_markHittingSets_102 : decode cX2_markHittingSets 102 = .ok (.iaload, 1) := by decide +kernel
theorem dX2_markHittingSets_103 : decode cX2_markHittingSets 103 = .ok (.iload_n 1, 1) := by decide +kernel
theorem dX2_markHittingSets_104 : decode cX2_markHittingSets 104 = .ok (.if_icmp .ne 7, 3) := by decide +kernel
theorem dX2_markHittingSets_107 : decode cX2_markHittingSets 107 = .ok (.iconst 1, 1) := by decide +kernel
theorem dX2_markHittingSets_108 : decode cX2_markHittingSets 108 = .ok (.goto 4, 3) := by decide +kernel
theorem dX2_markHittingSets_111 : decode cX2_markHittingSets 111 = .ok (.iconst 0, 1) := by decide +kernel
theorem dX2_markHittingSets_112 : decode cX2_markHittingSets 112 = .ok (.iastore, 1) := by decide +kernel
theorem dX2_markHittingSets_113 : decode cX2_markHittingSets 113 = .ok (.iinc 3 1, 3) := by decide +kernel
theorem dX2_markHittingSets_116 : decode cX2_markHittingSets 116 = .ok (.goto (-29), 3) := by decide +kernel
theorem dX2_markHittingSets_119 : decode cX2_markHittingSets 119 = .ok (.return_, 1) := by decide +kernel
theorem s_X2_markHittingSets : gSt yX2_markHittingSets cX2_markHittingSets 4 none 0 := ⟨q3_111, q1_6, ⟨by decide, by decide, by decide +kernel⟩, by decide⟩
theorem sel_X2_markHittingSets : Cond.selects yX2_markHittingSets.cls yX2_markHittingSets yX2_markHittingSets ∈ gT := qs_8
theorem ins_X2_markHittingSets : Cond.instanceMethod yX2_markHittingSets ∈ gT := q3_110
def w_X2_markHittingSets_L26 (Q : gM → Prop) (K61 : Int32 → gM → Prop) (v1 : Int32) (v2 : Int32) : Nat → Int32 → gM → Prop
  | 0, _, _ => False
  | n + 1, v3, M => gbr ((v3 : Int32) < v2) (vp_in v3 16384 ∧ (vp_in v1 14 ∧ (vp_in (v2 + v3) 16384 ∧ ∀ M3 : gM, M3 = gst M 34 (Int32.toNatClampNeg (v2 + v3)) ((M 34 (Int32.toNatClampNeg v3)) ||| (M 10 (Int32.toNatClampNeg v1))) → (∀ x4 : Int32, x4 = (v3 + 1) → (w_X2_markHittingSets_L26 Q K61 v1 v2 n (x4) M3))))) (K61 (v3) M)
def w_X2_markHittingSets_L9 (Q : gM → Prop) (K67 : Int32 → gM → Prop) : Nat → Int32 → gM → Prop
  | 0, _, _ => False
  | n + 1, v1, M => gbr ((v1 : Int32) < (M 1 0)) (∀ x2 : Int32, x2 = (1 <<< (v1 &&& 31)) → (∃ nf, w_X2_markHittingSets_L26 Q (fun (x5 : Int32) (M6 : gM) => ∀ x7 : Int32, x7 = (v1 + 1) → (w_X2_markHittingSets_L9 Q K67 n (x7) M6)) v1 x2 nf 0 M)) (K67 (v1) M)
def w_X2_markHittingSets_L87 (Q : gM → Prop) (K119 : Int32 → gM → Prop) (v1 : Int32) (v2 : Int32) : Nat → Int32 → gM → Prop
  | 0, _, _ => False
  | n + 1, v3, M => gbr ((v3 : Int32) < v2) (vp_in v3 16384 ∧ (gbr (((M 34 (Int32.toNatClampNeg v3)) : Int32) = v1) (vp_in v3 16384 ∧ ∀ M17 : gM, M17 = gst M 34 (Int32.toNatClampNeg v3) 1 → (∀ x18 : Int32, x18 = (v3 + 1) → (w_X2_markHittingSets_L87 Q K119 v1 v2 n (x18) M17))) (vp_in v3 16384 ∧ ∀ M15 : gM, M15 = gst M 34 (Int32.toNatClampNeg v3) 0 → (∀ x16 : Int32, x16 = (v3 + 1) → (w_X2_markHittingSets_L87 Q K119 v1 v2 n (x16) M15))))) (K119 (v3) M)
def w_X2_markHittingSets  (M : gM) (Q : gM → Prop) : Prop := vp_in 0 16384 ∧ ∀ M1 : gM, M1 = gst M 34 (Int32.toNatClampNeg 0) 0 → (∃ nf, w_X2_markHittingSets_L9 Q (fun (x8 : Int32) (M11 : gM) => w_X5_allEdges M11 (fun (r13 : Int32) (M12 : gM) => ∀ x14 : Int32, x14 = (1 <<< ((M12 1 0) &&& 31)) → (∃ nf, w_X2_markHittingSets_L87 Q (fun (x19 : Int32) (M20 : gM) => Q M20) r13 x14 nf 0 M12)))  nf 0 M1)
set_option maxRecDepth 100000 in
set_option maxHeartbeats 4000000 in
theorem w_X2_markHittingSets_L26_w {X : gX} (ok : gOk X cX2_markHittingSets yX2_markHittingSets.cls 1 4 none gL) {Q : gM → Prop} (hZ : gZv X Q) {K61 : Int32 → gM → Prop} (v1 : Int32) (v2 : Int32) (hK61 : ∀ (v3 : Int32)  (M : gM), K61 v3 M → gW X 61 [some (.inr 5), some (.inl v1), some (.inl v2), some (.inl v3)] [] M) : ∀ (n : Nat) (v3 : Int32)  (M : gM), w_X2_markHittingSets_L26 Q K61 v1 v2 n v3 M → gW X 26 [some (.inr 5), some (.inl v1), some (.inl v2), some (.inl v3)] [] M
  | 0, _, _, h => h.elim
  | n + 1, v3, M, h => by
    have ih := fun (v3 : Int32)  (M : gM) h => w_X2_markHittingSets_L26_w ok hZ v1 v2 hK61 n v3  M h
    rw [w_X2_markHittingSets_L26.eq_2] at h
    refine g_iload_n ok dX2_markHittingSets_26 rfl rfl ?_
    refine g_iload_n ok dX2_markHittingSets_27 rfl rfl ?_
    refine g_icmp_ge (tgt := 61) ok dX2_markHittingSets_28 (by decide) (fun z => ?_) (fun z => ?_)
    · have h := h.2 z
      exact hK61 (v3) M h
    · have h := h.1 z
      refine g_aload_n ok dX2_markHittingSets_31 rfl rfl ?_
      refine g_get (w := .inr 34) ok f5_0 (gLm (by decide)) q1_156 dX2_markHittingSets_32 rfl ?_
      refine g_iload_n ok dX2_markHittingSets_35 rfl rfl ?_
      refine g_iload_n ok dX2_markHittingSets_36 rfl rfl ?_
      refine g_iadd ok dX2_markHittingSets_37 ?_
      refine g_aload_n ok dX2_markHittingSets_38 rfl rfl ?_
      refine g_get (w := .inr 34) ok f5_0 (gLm (by decide)) q1_156 dX2_markHittingSets_39 rfl ?_
      refine g_iload_n ok dX2_markHittingSets_42 rfl rfl ?_
      have hb := h.1
      have h := h.2
      refine g_iald (w := (M 34 (Int32.toNatClampNeg v3))) ok a34 (gLm (by decide)) dX2_markHittingSets_43 hb rfl ?_
      refine g_aload_n ok dX2_markHittingSets_44 rfl rfl ?_
      refine g_get (w := .inr 1) ok f5_1 (gLm (by decide)) q1_159 dX2_markHittingSets_45 rfl ?_
      refine g_get (w := .inr 10) ok f1_3 (gLm (by decide)) q1_72 dX2_markHittingSets_48 rfl ?_
      refine g_iload_n ok dX2_markHittingSets_51 rfl rfl ?_
      have hb := h.1
      have h := h.2
      refine g_iald (w := (M 10 (Int32.toNatClampNeg v1))) ok a10 (gLm (by decide)) dX2_markHittingSets_52 hb rfl ?_
      refine g_ior ok dX2_markHittingSets_53 ?_
      have hb := h.1
      have h := h.2
      refine g_iast ok a34 (gLm (by decide)) dX2_markHittingSets_54 hb (g_mem (fun M3 eM3 => ?_))
      have h := h M3 eM3
      obtain ⟨x4, ex4⟩ : ∃ y : Int32, y = (v3 + 1) := ⟨_, rfl⟩
      have h := h x4 ex4
      refine g_iinc (v := x4) (lv1 := [some (.inr 5), some (.inl v1), some (.inl v2), some (.inl x4)]) ok dX2_markHittingSets_55 rfl (by rw [ex4]; rfl) rfl ?_
      refine g_goto (tgt := 26) ok dX2_markHittingSets_58 (by decide) ?_
      exact ih (x4) M3 h
set_option maxRecDepth 100000 in
set_option maxHeartbeats 4000000 in
theorem w_X2_markHittingSets_L9_w {X : gX} (ok : gOk X cX2_markHittingSets yX2_markHittingSets.cls 1 4 none gL) {Q : gM → Prop} (hZ : gZv X Q) {K67 : Int32 → gM → Prop}  (hK67 : ∀ (v1 : Int32) (u2 : Option gV) (u3 : Option gV) (M : gM), K67 v1 M → gW X 67 [some (.inr 5), some (.inl v1), u2, u3] [] M) : ∀ (n : Nat) (v1 : Int32) (u2 : Option gV) (u3 : Option gV) (M : gM), w_X2_markHittingSets_L9 Q K67 n v1 M → gW X 9 [some (.inr 5), some (.inl v1), u2, u3] [] M
  | 0, _, _, _, _, h => h.elim
  | n + 1, v1, u2, u3, M, h => by
    have ih := fun (v1 : Int32) (u2 : Option gV) (u3 : Option gV) (M : gM) h => w_X2_markHittingSets_L9_w ok hZ  hK67 n v1 u2 u3 M h
    rw [w_X2_markHittingSets_L9.eq_2] at h
    refine g_iload_n ok dX2_markHittingSets_9 rfl rfl ?_
    refine g_aload_n ok dX2_markHittingSets_10 rfl rfl ?_
    refine g_get (w := .inr 1) ok f5_1 (gLm (by decide)) q1_159 dX2_markHittingSets_11 rfl ?_
    refine g_get (w := .inl (M 1 0)) ok f1_0 (gLm (by decide)) q1_58 dX2_markHittingSets_14 rfl ?_
    refine g_icmp_ge (tgt := 67) ok dX2_markHittingSets_17 (by decide) (fun z => ?_) (fun z => ?_)
    · have h := h.2 z
      exact hK67 (v1) (u2) (u3) M h
    · have h := h.1 z
      refine g_iconst (v := 1) ok dX2_markHittingSets_20 (by decide) ?_
      refine g_iload_n ok dX2_markHittingSets_21 rfl rfl ?_
      refine g_ishl ok dX2_markHittingSets_22 ?_
      refine g_nm (fun x2 ex2 => ?_)
      have h := h x2 ex2
      refine g_istore_n (lv1 := [some (.inr 5), some (.inl v1), some (.inl x2), u3]) ok dX2_markHittingSets_23 rfl (glt rfl) rfl ?_
      refine g_iconst (v := 0) ok dX2_markHittingSets_24 (by decide) ?_
      refine g_istore_n (lv1 := [some (.inr 5), some (.inl v1), some (.inl x2), some (.inl 0)]) ok dX2_markHittingSets_25 rfl (glt rfl) rfl ?_
      obtain ⟨nf, h⟩ := h
      refine w_X2_markHittingSets_L26_w ok hZ v1 x2 ?_ nf 0  M h
      · intro x5  M6 h
        obtain ⟨x7, ex7⟩ : ∃ y : Int32, y = (v1 + 1) := ⟨_, rfl⟩
        have h := h x7 ex7
        refine g_iinc (v := x7) (lv1 := [some (.inr 5), some (.inl x7), some (.inl x2), some (.inl x5)]) ok dX2_markHittingSets_61 rfl (by rw [ex7]; rfl) rfl ?_
        refine g_goto (tgt := 9) ok dX2_markHittingSets_64 (by decide) ?_
        exact ih (x7) (some (.inl x2)) (some (.inl x5)) M6 h
set_option maxRecDepth 100000 in
set_option maxHeartbeats 4000000 in
theorem w_X2_markHittingSets_L87_w {X : gX} (ok : gOk X cX2_markHittingSets yX2_markHittingSets.cls 1 4 none gL) {Q : gM → Prop} (hZ : gZv X Q) {K119 : Int32 → gM → Prop} (v1 : Int32) (v2 : Int32) (hK119 : ∀ (v3 : Int32)  (M : gM), K119 v3 M → gW X 119 [some (.inr 5), some (.inl v1), some (.inl v2), some (.inl v3)] [] M) : ∀ (n : Nat) (v3 : Int32)  (M : gM), w_X2_markHittingSets_L87 Q K119 v1 v2 n v3 M → gW X 87 [some (.inr 5), some (.inl v1), some (.inl v2), some (.inl v3)] [] M
  | 0, _, _, h => h.elim
  | n + 1, v3, M, h => by
    have ih := fun (v3 : Int32)  (M : gM) h => w_X2_markHittingSets_L87_w ok hZ v1 v2 hK119 n v3  M h
    rw [w_X2_markHittingSets_L87.eq_2] at h
    refine g_iload_n ok dX2_markHittingSets_87 rfl rfl ?_
    refine g_iload_n ok dX2_markHittingSets_88 rfl rfl ?_
    refine g_icmp_ge (tgt := 119) ok dX2_markHittingSets_89 (by decide) (fun z => ?_) (fun z => ?_)
    · have h := h.2 z
      exact hK119 (v3) M h
    · have h := h.1 z
      refine g_aload_n ok dX2_markHittingSets_92 rfl rfl ?_
      refine g_get (w := .inr 34) ok f5_0 (gLm (by decide)) q1_156 dX2_markHittingSets_93 rfl ?_
      refine g_iload_n ok dX2_markHittingSets_96 rfl rfl ?_
      refine g_aload_n ok dX2_markHittingSets_97 rfl rfl ?_
      refine g_get (w := .inr 34) ok f5_0 (gLm (by decide)) q1_156 dX2_markHittingSets_98 rfl ?_
      refine g_iload_n ok dX2_markHittingSets_101 rfl rfl ?_
      have hb := h.1
      have h := h.2
      refine g_iald (w := (M 34 (Int32.toNatClampNeg v3))) ok a34 (gLm (by decide)) dX2_markHittingSets_102 hb rfl ?_
      refine g_iload_n ok dX2_markHittingSets_103 rfl rfl ?_
      refine g_icmp_ne (tgt := 111) ok dX2_markHittingSets_104 (by decide) (fun z => ?_) (fun z => ?_)
      · have h := h.2 z
        refine g_iconst (v := 0) ok dX2_markHittingSets_111 (by decide) ?_
        have hb := h.1
        have h := h.2
        refine g_iast ok a34 (gLm (by decide)) dX2_markHittingSets_112 hb (g_mem (fun M15 eM15 => ?_))
        have h := h M15 eM15
        obtain ⟨x16, ex16⟩ : ∃ y : Int32, y = (v3 + 1) := ⟨_, rfl⟩
        have h := h x16 ex16
        refine g_iinc (v := x16) (lv1 := [some (.inr 5), some (.inl v1), some (.inl v2), some (.inl x16)]) ok dX2_markHittingSets_113 rfl (by rw [ex16]; rfl) rfl ?_
        refine g_goto (tgt := 87) ok dX2_markHittingSets_116 (by decide) ?_
        exact ih (x16) M15 h
      · have h := h.1 z
        refine g_iconst (v := 1) ok dX2_markHittingSets_107 (by decide) ?_
        refine g_goto (tgt := 112) ok dX2_markHittingSets_108 (by decide) ?_
        have hb := h.1
        have h := h.2
        refine g_iast ok a34 (gLm (by decide)) dX2_markHittingSets_112 hb (g_mem (fun M17 eM17 => ?_))
        have h := h M17 eM17
        obtain ⟨x18, ex18⟩ : ∃ y : Int32, y = (v3 + 1) := ⟨_, rfl⟩
        have h := h x18 ex18
        refine g_iinc (v := x18) (lv1 := [some (.inr 5), some (.inl v1), some (.inl v2), some (.inl x18)]) ok dX2_markHittingSets_113 rfl (by rw [ex18]; rfl) rfl ?_
        refine g_goto (tgt := 87) ok dX2_markHittingSets_116 (by decide) ?_
        exact ih (x18) M17 h
set_option maxRecDepth 100000 in
set_option maxHeartbeats 4000000 in
theorem k_X2_markHittingSets  {M : gM} {Q : gM → Prop} (h : w_X2_markHittingSets  M Q) : gCv gL 1 yX2_markHittingSets cX2_markHittingSets 4 [.inr 5] M Q := by
  refine gCv_of (by decide) gLn (gle rfl) (fun X ok hZ => ?_)
  show gW X 0 [some (.inr 5), none, none, none] [] M
  unfold w_X2_markHittingSets at h
  refine g_aload_n ok dX2_markHittingSets_0 rfl rfl ?_
  refine g_get (w := .inr 34) ok f5_0 (gLm (by decide)) q1_156 dX2_markHittingSets_1 rfl ?_
  refine g_iconst (v := 0) ok dX2_markHittingSets_4 (by decide) ?_
  refine g_iconst (v := 0) ok dX2_markHittingSets_5 (by decide) ?_
  have hb := h.1
  have h := h.2
  refine g_iast ok a34 (gLm (by decide)) dX2_markHittingSets_6 hb (g_mem (fun M1 eM1 => ?_))
  have h := h M1 eM1
  refine g_iconst (v := 0) ok dX2_markHittingSets_7 (by decide) ?_
  refine g_istore_n (lv1 := [some (.inr 5), some (.inl 0), none, none]) ok dX2_markHittingSets_8 rfl (glt rfl) rfl ?_
  obtain ⟨nf, h⟩ := h
  refine w_X2_markHittingSets_L9_w ok hZ  ?_ nf 0 (none) (none) M1 h
  · intro x8 u9 u10 M11 h
    refine g_aload_n ok dX2_markHittingSets_67 rfl rfl ?_
    refine g_get (w := .inr 1) ok f5_1 (gLm (by decide)) q1_159 dX2_markHittingSets_68 rfl ?_
    refine g_callVi (st := []) (as := []) ok rfl (k_X5_allEdges h) s_X5_allEdges rfl (by decide) (gLm (by decide)) cl1 sel_X5_allEdges ins_X5_allEdges (gle rfl) rfl q3_112 dX2_markHittingSets_71 ?_
    intro r13 M12 h
    refine g_istore_n (lv1 := [some (.inr 5), some (.inl r13), u9, u10]) ok dX2_markHittingSets_74 rfl (glt rfl) rfl ?_
    refine g_iconst (v := 1) ok dX2_markHittingSets_75 (by decide) ?_
    refine g_aload_n ok dX2_markHittingSets_76 rfl rfl ?_
    refine g_get (w := .inr 1) ok f5_1 (gLm (by decide)) q1_159 dX2_markHittingSets_77 rfl ?_
    refine g_get (w := .inl (M12 1 0)) ok f1_0 (gLm (by decide)) q1_58 dX2_markHittingSets_80 rfl ?_
    refine g_ishl ok dX2_markHittingSets_83 ?_
    refine g_nm (fun x14 ex14 => ?_)
    have h := h x14 ex14
    refine g_istore_n (lv1 := [some (.inr 5), some (.inl r13), some (.inl x14), u10]) ok dX2_markHittingSets_84 rfl (glt rfl) rfl ?_
    refine g_iconst (v := 0) ok dX2_markHittingSets_85 (by decide) ?_
    refine g_istore_n (lv1 := [some (.inr 5), some (.inl r13), some (.inl x14), some (.inl 0)]) ok dX2_markHittingSets_86 rfl (glt rfl) rfl ?_
    obtain ⟨nf, h⟩ := h
    refine w_X2_markHittingSets_L87_w ok hZ r13 x14 ?_ nf 0  M12 h
    · intro x19  M20 h
      exact g_vret ok hZ dX2_markHittingSets_119 h
theorem dX2_fill_0 : decode cX2_fill 0 = .ok (.iload_n 1, 1) := by decide +kernel
theorem dX2_fill_1 : decode cX2_fill 1 = .ok (.lookupswitch 69 #[(0, 27), (1, 48)], 27) := by decide +kernel
theorem dX2_fill_28 : decode cX2_fill 28 = .ok (.aload_n 0, 1) := by decide +kernel
theorem dX2_fill_29 : decode cX2_fill 29 = .ok (.aload_n 0, 1) := by decide +kernel
theorem dX2_fill_30 : decode cX2_fill 30 = .ok (.getfield 15, 3) := by decide +kernel
theorem dX2_fill_33 : decode cX2_fill 33 = .ok (.getfield 23, 3) := by decide +kernel
theorem dX2_fill_36 : decode cX2_fill 36 = .ok (.aload_n 0, 1) := by decide +kernel
theorem dX2_fill_37 : decode cX2_fill 37 = .ok (.getfield 15, 3) := by decide +kernel
theorem dX2_fill_40 : decode cX2_fill 40 = .ok (.getfield 28, 3) := by decide +kernel
theorem dX2_fill_43 : decode cX2_fill 43 = .ok (.invokevirtual 32, 3) := by decide +kernel
theorem dX2_fill_46 : decode cX2_fill 46 = .ok (.goto 28, 3) := by decide +kernel
theorem dX2_fill_49 : decode cX2_fill 49 = .ok (.aload_n 0, 1) := by decide +kernel
theorem dX2_fill_50 : decode cX2_fill 50 = .ok (.aload_n 0, 1) := by decide +kernel
theorem dX2_fill_51 : decode cX2_fill 51 = .ok (.getfield 19, 3) := by decide +kernel
theorem dX2_fill_54 : decode cX2_fill 54 = .ok (.getfield 36, 3) := by decide +kernel
theorem dX2_fill_57 : decode cX2_fill 57 = .ok (.aload_n 0, 1) := by decide +kernel
theorem dX2_fill_58 : decode cX2_fill 58 = .ok (.getfield 19, 3) := by decide +kernel
theorem dX2_fill_61 : decode cX2_fill 61 = .ok (.getfield 41, 3) := by decide +kernel
theorem dX2_fill_64 : decode cX2_fill 64 = .ok (.invokevirtual 32, 3) := by decide +kernel
theorem dX2_fill_67 : decode cX2_fill 67 = .ok (.goto 7, 3) := by decide +kernel
theorem dX2_fill_70 : decode cX2_fill 70 = .ok (.aload_n 0, 1) := by decide +kernel
theorem dX2_fill_71 : decode cX2_fill 71 = .ok (.invokevirtual 44, 3) := by decide +kernel
theorem dX2_fill_74 : decode cX2_fill 74 = .ok (.return_, 1) := by decide +kernel
theorem s_X2_fill : gSt yX2_fill cX2_fill 2 none 1 := ⟨q3_103, q1_6, ⟨by decide, by decide, by decide +kernel⟩, by decide⟩
theorem sel_X2_fill : Cond.selects yX2_fill.cls yX2_fill yX2_fill ∈ gT := q3_102
theorem ins_X2_fill : Cond.instanceMethod yX2_fill ∈ gT := q3_101
def w_X2_fill (p1 : Int32) (M : gM) (Q : gM → Prop) : Prop := gbr ((p1 : Int32) = 0) (w_X2_mark_9 (M 1 1) M (fun (M1 : gM) => Q M1)) (gbr ((p1 : Int32) = 1) (w_X2_mark_30 (M 4 2) M (fun (M3 : gM) => Q M3)) (w_X2_markHittingSets M (fun (M5 : gM) => Q M5)))
set_option maxRecDepth 100000 in
set_option maxHeartbeats 4000000 in
theorem k_X2_fill {p1 : Int32} {M : gM} {Q : gM → Prop} (h : w_X2_fill p1 M Q) : gCv gL 2 yX2_fill cX2_fill 2 [.inr 5, .inl p1] M Q := by
  refine gCv_of (by decide) gLn (gle rfl) (fun X ok hZ => ?_)
  show gW X 0 [some (.inr 5), some (.inl p1)] [] M
  unfold w_X2_fill at h
  refine g_iload_n ok dX2_fill_0 rfl rfl ?_
  by_cases z0 : (p1 : Int32) = 0
  · have h := h.1 z0
    refine g_lookup (tgt := 28) (off := 27) ok dX2_fill_1 (by decide) (by rw [z0]; decide) (by decide) ?_
    refine g_aload_n ok dX2_fill_28 rfl rfl ?_
    refine g_aload_n ok dX2_fill_29 rfl rfl ?_
    refine g_get (w := .inr 1) ok f5_1 (gLm (by decide)) q1_159 dX2_fill_30 rfl ?_
    refine g_get (w := .inr 9) ok f1_2 (gLm (by decide)) q1_67 dX2_fill_33 rfl ?_
    refine g_aload_n ok dX2_fill_36 rfl rfl ?_
    refine g_get (w := .inr 1) ok f5_1 (gLm (by decide)) q1_159 dX2_fill_37 rfl ?_
    refine g_get (w := .inl (M 1 1)) ok f1_1 (gLm (by decide)) q1_63 dX2_fill_40 rfl ?_
    refine g_callVv (st := []) (as := [.inr 9, .inl (M 1 1)]) ok rfl (k_X2_mark_9 h) s_X2_mark rfl (by decide) (gLm (by decide)) cl5 sel_X2_mark ins_X2_mark (gle rfl) rfl q3_104 dX2_fill_43 ?_
    intro M1 h
    refine g_goto (tgt := 74) ok dX2_fill_46 (by decide) ?_
    exact g_vret ok hZ dX2_fill_74 h
  have h := h.2 z0
  by_cases z1 : (p1 : Int32) = 1
  · have h := h.1 z1
    refine g_lookup (tgt := 49) (off := 48) ok dX2_fill_1 (by decide) (by rw [z1]; decide) (by decide) ?_
    refine g_aload_n ok dX2_fill_49 rfl rfl ?_
    refine g_aload_n ok dX2_fill_50 rfl rfl ?_
    refine g_get (w := .inr 4) ok f5_2 (gLm (by decide)) q1_160 dX2_fill_51 rfl ?_
    refine g_get (w := .inr 30) ok f4_0 (gLm (by decide)) q1_118 dX2_fill_54 rfl ?_
    refine g_aload_n ok dX2_fill_57 rfl rfl ?_
    refine g_get (w := .inr 4) ok f5_2 (gLm (by decide)) q1_160 dX2_fill_58 rfl ?_
    refine g_get (w := .inl (M 4 2)) ok f4_2 (gLm (by decide)) q1_124 dX2_fill_61 rfl ?_
    refine g_callVv (st := []) (as := [.inr 30, .inl (M 4 2)]) ok rfl (k_X2_mark_30 h) s_X2_mark rfl (by decide) (gLm (by decide)) cl5 sel_X2_mark ins_X2_mark (gle rfl) rfl q3_104 dX2_fill_64 ?_
    intro M3 h
    refine g_goto (tgt := 74) ok dX2_fill_67 (by decide) ?_
    exact g_vret ok hZ dX2_fill_74 h
  have h := h.2 z1
  refine g_lookup (tgt := 70) (off := 69) ok dX2_fill_1 (by decide) (lk_out2 z0 z1) (by decide) ?_
  refine g_aload_n ok dX2_fill_70 rfl rfl ?_
  refine g_callVv (st := []) (as := []) ok rfl (k_X2_markHittingSets h) s_X2_markHittingSets rfl (by decide) (gLm (by decide)) cl5 sel_X2_markHittingSets ins_X2_markHittingSets (gle rfl) rfl q3_108 dX2_fill_71 ?_
  intro M5 h
  exact g_vret ok hZ dX2_fill_74 h
theorem dX0_nodeWith_0 : decode cX0_nodeWith 0 = .ok (.iload_n 1, 1) := by decide +kernel
theorem dX0_nodeWith_1 : decode cX0_nodeWith 1 = .ok (.sipush 421, 3) := by decide +kernel
theorem dX0_nodeWith_4 : decode cX0_nodeWith 4 = .ok (.imul, 1) := by decide +kernel
theorem dX0_nodeWith_5 : decode cX0_nodeWith 5 = .ok (.iload_n 2, 1) := by decide +kernel
theorem dX0_nodeWith_6 : decode cX0_nodeWith 6 = .ok (.iadd, 1) := by decide +kernel
theorem dX0_nodeWith_7 : decode cX0_nodeWith 7 = .ok (.sipush 1023, 3) := by decide +kernel
theorem dX0_nodeWith_10 : decode cX0_nodeWith 10 = .ok (.iand, 1) := by decide +kernel
theorem dX0_nodeWith_11 : decode cX0_nodeWith 11 = .ok (.istore 4, 2) := by decide +kernel
theorem dX0_nodeWith_13 : decode cX0_nodeWith 13 = .ok (.aload_n 0, 1) := by decide +kernel
theorem dX0_nodeWith_14 : decode cX0_nodeWith 14 = .ok (.getfield 32, 3) := by decide +kernel
theorem dX0_nodeWith_17 : decode cX0_nodeWith 17 = .ok (.iload 4, 2) := by decide +kernel
theorem dX0_nodeWith_19 : decode cX0_nodeWith 19 = .ok (.iaload, 1) := by decide +kernel
theorem dX0_nodeWith_20 : decode cX0_nodeWith 20 = .ok (.istore 5, 2) := by decide +kernel
theorem dX0_nodeWith_22 : decode cX0_nodeWith 22 = .ok (.iconst 0, 1) := by decide +kernel
theorem dX0_nodeWith_23 : decode cX0_nodeWith 23 = .ok (.istore 6, 2) := by decide +kernel
theorem dX0_nodeWith_25 : decode cX0_nodeWith 25 = .ok (.iload 6, 2) := by decide +kernel
theorem dX0_nodeWith_27 : decode cX0_nodeWith 27 = .ok (.sipush 2303, 3) := by decide +kernel
theorem dX0_nodeWith_30 : decode cX0_nodeWith 30 = .ok (.if_icmp .ge 49, 3) := by decide +kernel
theorem dX0_nodeWith_33 : decode cX0_nodeWith 33 = .ok (.iload 5, 2) := by decide +kernel
theorem dX0_nodeWith_35 : decode cX0_nodeWith 35 = .ok (.iload_n 3, 1) := by decide +kernel
theorem dX0_nodeWith_36 : decode cX0_nodeWith 36 = .ok (.if_icmp .lt 43, 3) := by decide +kernel
theorem dX0_nodeWith_39 : decode cX0_nodeWith 39 = .ok (.aload_n 0, 1) := by decide +kernel
theorem dX0_nodeWith_40 : decode cX0_nodeWith 40 = .ok (.getfield 23, 3) := by decide +kernel
theorem dX0_nodeWith_43 : decode cX0_nodeWith 43 = .ok (.iload 5, 2) := by decide +kernel
theorem dX0_nodeWith_45 : decode cX0_nodeWith 45 = .ok (.iaload, 1) := by decide +kernel
theorem dX0_nodeWith_46 : decode cX0_nodeWith 46 = .ok (.iload_n 1, 1) := by decide +kernel
theorem dX0_nodeWith_47 : decode cX0_nodeWith 47 = .ok (.if_icmp .ne 17, 3) := by decide +kernel
theorem dX0_nodeWith_50 : decode cX0_nodeWith 50 = .ok (.aload_n 0, 1) := by decide +kernel
theorem dX0_nodeWith_51 : decode cX0_nodeWith 51 = .ok (.getfield 26, 3) := by decide +kernel
theorem dX0_nodeWith_54 : decode cX0_nodeWith 54 = .ok (.iload 5, 2) := by decide +kernel
theorem dX0_nodeWith_56 : decode cX0_nodeWith 56 = .ok (.iaload, 1) := by decide +kernel
theorem dX0_nodeWith_57 : decode cX0_nodeWith 57 = .ok (.iload_n 2, 1) := by decide +kernel
theorem dX0_nodeWith_58 : decode cX0_nodeWith 58 = .ok (.if_icmp .ne 6, 3) := by decide +kernel
theorem dX0_nodeWith_61 : decode cX0_nodeWith 61 = .ok (.iload 5, 2) := by decide +kernel
theorem dX0_nodeWith_63 : decode cX0_nodeWith 63 = .ok (.ireturn, 1) := by decide +kernel
theorem dX0_nodeWith_64 : decode cX0_nodeWith 64 = .ok (.aload_n 0, 1) := by decide +kernel
theorem dX0_nodeWith_65 : decode cX0_nodeWith 65 = .ok (.getfield 29, 3) := by decide +kernel
theorem dX0_nodeWith_68 : decode cX0_nodeWith 68 = .ok (.iload 5, 2) := by decide +kernel
theorem dX0_nodeWith_70 : decode cX0_nodeWith 70 = .ok (.iaload, 1) := by decide +kernel
theorem dX0_nodeWith_71 : decode cX0_nodeWith 71 = .ok (.istore 5, 2) := by decide +kernel
theorem dX0_nodeWith_73 : decode cX0_nodeWith 73 = .ok (.iinc 6 1, 3) := by decide +kernel
theorem dX0_nodeWith_76 : decode cX0_nodeWith 76 = .ok (.goto (-51), 3) := by decide +kernel
theorem dX0_nodeWith_79 : decode cX0_nodeWith 79 = .ok (.aload_n 0, 1) := by decide +kernel
theorem dX0_nodeWith_80 : decode cX0_nodeWith 80 = .ok (.getfield 43, 3) := by decide +kernel
theorem dX0_nodeWith_83 : decode cX0_nodeWith 83 = .ok (.sipush 2303, 3) := by decide +kernel
theorem dX0_nodeWith_86 : decode cX0_nodeWith 86 = .ok (.if_icmp .lt 5, 3) := by decide +kernel
theorem dX0_nodeWith_89 : decode cX0_nodeWith 89 = .ok (.iconst 0, 1) := by decide +kernel
theorem dX0_nodeWith_90 : decode cX0_nodeWith 90 = .ok (.ireturn, 1) := by decide +kernel
theorem dX0_nodeWith_91 : decode cX0_nodeWith 91 = .ok (.aload_n 0, 1) := by decide +kernel
theorem dX0_nodeWith_92 : decode cX0_nodeWith 92 = .ok (.getfield 23, 3) := by decide +kernel
theorem dX0_nodeWith_95 : decode cX0_nodeWith 95 = .ok (.aload_n 0, 1) := by decide +kernel
theorem dX0_nodeWith_96 : decode cX0_nodeWith 96 = .ok (.getfield 43, 3) := by decide +kernel
theorem dX0_nodeWith_99 : decode cX0_nodeWith 99 = .ok (.iload_n 1, 1) := by decide +kernel
theorem dX0_nodeWith_100 : decode cX0_nodeWith 100 = .ok (.iastore, 1) := by decide +kernel
theorem dX0_nodeWith_101 : decode cX0_nodeWith 101 = .ok (.aload_n 0, 1) := by decide +kernel
theorem dX0_nodeWith_102 : decode cX0_nodeWith 102 = .ok (.getfield 26, 3) := by decide +kernel
theorem dX0_nodeWith_105 : decode cX0_nodeWith 105 = .ok (.aload_n 0, 1) := by decide +kernel
theorem dX0_nodeWith_106 : decode cX0_nodeWith 106 = .ok (.getfield 43, 3) := by decide +kernel
theorem dX0_nodeWith_109 : decode cX0_nodeWith 109 = .ok (.iload_n 2, 1) := by decide +kernel
theorem dX0_nodeWith_110 : decode cX0_nodeWith 110 = .ok (.iastore, 1) := by decide +kernel
theorem dX0_nodeWith_111 : decode cX0_nodeWith 111 = .ok (.aload_n 0, 1) := by decide +kernel
theorem dX0_nodeWith_112 : decode cX0_nodeWith 112 = .ok (.getfield 29, 3) := by decide +kernel
theorem dX0_nodeWith_115 : decode cX0_nodeWith 115 = .ok (.aload_n 0, 1) := by decide +kernel
theorem dX0_nodeWith_116 : decode cX0_nodeWith 116 = .ok (.getfield 43, 3) := by decide +kernel
theorem dX0_nodeWith_119 : decode cX0_nodeWith 119 = .ok (.aload_n 0, 1) := by decide +kernel
theorem dX0_nodeWith_120 : decode cX0_nodeWith 120 = .ok (.getfield 32, 3) := by decide +kernel
theorem dX0_nodeWith_123 : decode cX0_nodeWith 123 = .ok (.iload 4, 2) := by decide +kernel
theorem dX0_nodeWith_125 : decode cX0_nodeWith 125 = .ok (.iaload, 1) := by decide +kernel
theorem dX0_nodeWith_126 : decode cX0_nodeWith 126 = .ok (.iastore, 1) := by decide +kernel
theorem dX0_nodeWith_127 : decode cX0_nodeWith 127 = .ok (.aload_n 0, 1) := by decide +kernel
theorem dX0_nodeWith_128 : decode cX0_nodeWith 128 = .ok (.getfield 32, 3) := by decide +kernel
theorem dX0_nodeWith_131 : decode cX0_nodeWith 131 = .ok (.iload 4, 2) := by decide +kernel
theorem dX0_nodeWith_133 : decode cX0_nodeWith 133 = .ok (.aload_n 0, 1) := by decide +kernel
theorem dX0_nodeWith_134 : decode cX0_nodeWith 134 = .ok (.getfield 43, 3) := by decide +kernel
theorem dX0_nodeWith_137 : decode cX0_nodeWith 137 = .ok (.iastore, 1) := by decide +kernel
theorem dX0_nodeWith_138 : decode cX0_nodeWith 138 = .ok (.aload_n 0, 1) := by decide +kernel
theorem dX0_nodeWith_139 : decode cX0_nodeWith 139 = .ok (.dup, 1) := by decide +kernel
theorem dX0_nodeWith_140 : decode cX0_nodeWith 140 = .ok (.getfield 43, 3) := by decide +kernel
theorem dX0_nodeWith_143 : decode cX0_nodeWith 143 = .ok (.iconst 1, 1) := by decide +kernel
theorem dX0_nodeWith_144 : decode cX0_nodeWith 144 = .ok (.iadd, 1) := by decide +kernel
theorem dX0_nodeWith_145 : decode cX0_nodeWith 145 = .ok (.putfield 43, 3) := by decide +kernel
theorem dX0_nodeWith_148 : decode cX0_nodeWith 148 = .ok (.aload_n 0, 1) := by decide +kernel
theorem dX0_nodeWith_149 : decode cX0_nodeWith 149 = .ok (.getfield 43, 3) := by decide +kernel
theorem dX0_nodeWith_152 : decode cX0_nodeWith 152 = .ok (.iconst 1, 1) := by decide +kernel
theorem dX0_nodeWith_153 : decode cX0_nodeWith 153 = .ok (.isub, 1) := by decide +kernel
theorem dX0_nodeWith_154 : decode cX0_nodeWith 154 = .ok (.ireturn, 1) := by decide +kernel
theorem s_X0_nodeWith : gSt yX0_nodeWith cX0_nodeWith 7 (some .int) 3 := ⟨q3_149, q1_8, ⟨by decide, by decide, by decide +kernel⟩, by decide⟩
theorem sel_X0_nodeWith : Cond.selects yX0_nodeWith.cls yX0_nodeWith yX0_nodeWith ∈ gT := qs_12
theorem ins_X0_nodeWith : Cond.instanceMethod yX0_nodeWith ∈ gT := q3_148
def w_X0_nodeWith_L25 (Q : Int32 → gM → Prop) (K79 : Int32 → Int32 → gM → Prop) (K61 : Int32 → Int32 → gM → Prop) (v1 : Int32) (v2 : Int32) (v3 : Int32) (v4 : Int32) : Nat → Int32 → Int32 → gM → Prop
  | 0, _, _, _ => False
  | n + 1, v5, v6, M => gbr ((v6 : Int32) < 2303) (gbr ((v5 : Int32) < v3) (K79 (v5) (v6) M) (vp_in v5 2303 ∧ (gbr (((M 37 (Int32.toNatClampNeg v5)) : Int32) = v1) (vp_in v5 2303 ∧ (gbr (((M 38 (Int32.toNatClampNeg v5)) : Int32) = v2) (K61 (v5) (v6) M) (vp_in v5 2303 ∧ (∀ x5 : Int32, x5 = (M 39 (Int32.toNatClampNeg v5)) → (∀ x6 : Int32, x6 = (v6 + 1) → (w_X0_nodeWith_L25 Q K79 K61 v1 v2 v3 v4 n (x5) (x6) M)))))) (vp_in v5 2303 ∧ (∀ x3 : Int32, x3 = (M 39 (Int32.toNatClampNeg v5)) → (∀ x4 : Int32, x4 = (v6 + 1) → (w_X0_nodeWith_L25 Q K79 K61 v1 v2 v3 v4 n (x3) (x4) M))))))) (K79 (v5) (v6) M)
def w_X0_nodeWith (p1 : Int32) (p2 : Int32) (p3 : Int32) (M : gM) (Q : Int32 → gM → Prop) : Prop := ∀ x1 : Int32, x1 = (((p1 * 421) + p2) &&& 1023) → (vp_in x1 1024 ∧ (∀ x2 : Int32, x2 = (M 40 (Int32.toNatClampNeg x1)) → (∃ nf, w_X0_nodeWith_L25 Q (fun (x7 : Int32) (x8 : Int32) (M9 : gM) => gbr (((M9 7 7) : Int32) < 2303) (vp_in (M9 7 7) 2303 ∧ ∀ M10 : gM, M10 = gst M9 37 (Int32.toNatClampNeg (M9 7 7)) p1 → (vp_in (M10 7 7) 2303 ∧ ∀ M11 : gM, M11 = gst M10 38 (Int32.toNatClampNeg (M10 7 7)) p2 → (vp_in x1 1024 ∧ (vp_in (M11 7 7) 2303 ∧ ∀ M12 : gM, M12 = gst M11 39 (Int32.toNatClampNeg (M11 7 7)) (M11 40 (Int32.toNatClampNeg x1)) → (vp_in x1 1024 ∧ ∀ M13 : gM, M13 = gst M12 40 (Int32.toNatClampNeg x1) (M12 7 7) → (∀ M14 : gM, M14 = gst M13 7 7 ((M13 7 7) + 1) → (Q ((M14 7 7) - 1) M14))))))) (Q 0 M9)) (fun (x15 : Int32) (x16 : Int32) (M17 : gM) => Q x15 M17) p1 p2 p3 x1 nf x2 0 M)))
set_option maxRecDepth 100000 in
set_option maxHeartbeats 4000000 in
theorem w_X0_nodeWith_L25_w {X : gX} (ok : gOk X cX0_nodeWith yX0_nodeWith.cls 0 7 (some .int) gL) {Q : Int32 → gM → Prop} (hZ : gZi X Q) {K79 : Int32 → Int32 → gM → Prop} {K61 : Int32 → Int32 → gM → Prop} (v1 : Int32) (v2 : Int32) (v3 : Int32) (v4 : Int32) (hK79 : ∀ (v5 : Int32) (v6 : Int32)  (M : gM), K79 v5 v6 M → gW X 79 [some (.inr 7), some (.inl v1), some (.inl v2), some (.inl v3), some (.inl v4), some (.inl v5), some (.inl v6)] [] M) (hK61 : ∀ (v5 : Int32) (v6 : Int32)  (M : gM), K61 v5 v6 M → gW X 61 [some (.inr 7), some (.inl v1), some (.inl v2), some (.inl v3), some (.inl v4), some (.inl v5), some (.inl v6)] [] M) : ∀ (n : Nat) (v5 : Int32) (v6 : Int32)  (M : gM), w_X0_nodeWith_L25 Q K79 K61 v1 v2 v3 v4 n v5 v6 M → gW X 25 [some (.inr 7), some (.inl v1), some (.inl v2), some (.inl v3), some (.inl v4), some (.inl v5), some (.inl v6)] [] M
  | 0, _, _, _, h => h.elim
  | n + 1, v5, v6, M, h => by
    have ih := fun (v5 : Int32) (v6 : Int32)  (M : gM) h => w_X0_nodeWith_L25_w ok hZ v1 v2 v3 v4 hK79 hK61 n v5 v6  M h
    rw [w_X0_nodeWith_L25.eq_2] at h
    refine g_iload ok dX0_nodeWith_25 rfl ?_
    refine g_sipush (v := 2303) ok dX0_nodeWith_27 (by decide) ?_
    refine g_icmp_ge (tgt := 79) ok dX0_nodeWith_30 (by decide) (fun z => ?_) (fun z => ?_)
    · have h := h.2 z
      exact hK79 (v5) (v6) M h
    · have h := h.1 z
      refine g_iload ok dX0_nodeWith_33 rfl ?_
      refine g_iload_n ok dX0_nodeWith_35 rfl rfl ?_
      refine g_icmp_lt (tgt := 79) ok dX0_nodeWith_36 (by decide) (fun z => ?_) (fun z => ?_)
      · have h := h.1 z
        exact hK79 (v5) (v6) M h
      · have h := h.2 z
        refine g_aload_n ok dX0_nodeWith_39 rfl rfl ?_
        refine g_get (w := .inr 37) ok f7_3 (gLm (by decide)) q1_199 dX0_nodeWith_40 rfl ?_
        refine g_iload ok dX0_nodeWith_43 rfl ?_
        have hb := h.1
        have h := h.2
        refine g_iald (w := (M 37 (Int32.toNatClampNeg v5))) ok a37 (gLm (by decide)) dX0_nodeWith_45 hb rfl ?_
        refine g_iload_n ok dX0_nodeWith_46 rfl rfl ?_
        refine g_icmp_ne (tgt := 64) ok dX0_nodeWith_47 (by decide) (fun z => ?_) (fun z => ?_)
        · have h := h.2 z
          refine g_aload_n ok dX0_nodeWith_64 rfl rfl ?_
          refine g_get (w := .inr 39) ok f7_5 (gLm (by decide)) q1_201 dX0_nodeWith_65 rfl ?_
          refine g_iload ok dX0_nodeWith_68 rfl ?_
          have hb := h.1
          have h := h.2
          refine g_iald (w := (M 39 (Int32.toNatClampNeg v5))) ok a39 (gLm (by decide)) dX0_nodeWith_70 hb rfl ?_
          refine g_nm (fun x3 ex3 => ?_)
          have h := h x3 ex3
          refine g_istore (lv1 := [some (.inr 7), some (.inl v1), some (.inl v2), some (.inl v3), some (.inl v4), some (.inl x3), some (.inl v6)]) ok dX0_nodeWith_71 (glt rfl) rfl ?_
          obtain ⟨x4, ex4⟩ : ∃ y : Int32, y = (v6 + 1) := ⟨_, rfl⟩
          have h := h x4 ex4
          refine g_iinc (v := x4) (lv1 := [some (.inr 7), some (.inl v1), some (.inl v2), some (.inl v3), some (.inl v4), some (.inl x3), some (.inl x4)]) ok dX0_nodeWith_73 rfl (by rw [ex4]; rfl) rfl ?_
          refine g_goto (tgt := 25) ok dX0_nodeWith_76 (by decide) ?_
          exact ih (x3) (x4) M h
        · have h := h.1 z
          refine g_aload_n ok dX0_nodeWith_50 rfl rfl ?_
          refine g_get (w := .inr 38) ok f7_4 (gLm (by decide)) q1_200 dX0_nodeWith_51 rfl ?_
          refine g_iload ok dX0_nodeWith_54 rfl ?_
          have hb := h.1
          have h := h.2
          refine g_iald (w := (M 38 (Int32.toNatClampNeg v5))) ok a38 (gLm (by decide)) dX0_nodeWith_56 hb rfl ?_
          refine g_iload_n ok dX0_nodeWith_57 rfl rfl ?_
          refine g_icmp_ne (tgt := 64) ok dX0_nodeWith_58 (by decide) (fun z => ?_) (fun z => ?_)
          · have h := h.2 z
            refine g_aload_n ok dX0_nodeWith_64 rfl rfl ?_
            refine g_get (w := .inr 39) ok f7_5 (gLm (by decide)) q1_201 dX0_nodeWith_65 rfl ?_
            refine g_iload ok dX0_nodeWith_68 rfl ?_
            have hb := h.1
            have h := h.2
            refine g_iald (w := (M 39 (Int32.toNatClampNeg v5))) ok a39 (gLm (by decide)) dX0_nodeWith_70 hb rfl ?_
            refine g_nm (fun x5 ex5 => ?_)
            have h := h x5 ex5
            refine g_istore (lv1 := [some (.inr 7), some (.inl v1), some (.inl v2), some (.inl v3), some (.inl v4), some (.inl x5), some (.inl v6)]) ok dX0_nodeWith_71 (glt rfl) rfl ?_
            obtain ⟨x6, ex6⟩ : ∃ y : Int32, y = (v6 + 1) := ⟨_, rfl⟩
            have h := h x6 ex6
            refine g_iinc (v := x6) (lv1 := [some (.inr 7), some (.inl v1), some (.inl v2), some (.inl v3), some (.inl v4), some (.inl x5), some (.inl x6)]) ok dX0_nodeWith_73 rfl (by rw [ex6]; rfl) rfl ?_
            refine g_goto (tgt := 25) ok dX0_nodeWith_76 (by decide) ?_
            exact ih (x5) (x6) M h
          · have h := h.1 z
            exact hK61 (v5) (v6) M h
set_option maxRecDepth 100000 in
set_option maxHeartbeats 4000000 in
theorem k_X0_nodeWith {p1 : Int32} {p2 : Int32} {p3 : Int32} {M : gM} {Q : Int32 → gM → Prop} (h : w_X0_nodeWith p1 p2 p3 M Q) : gCi gL 0 yX0_nodeWith cX0_nodeWith 7 .int [.inr 7, .inl p1, .inl p2, .inl p3] M Q := by
  refine gCi_of (by decide) gLn (gle rfl) (fun X ok hZ => ?_)
  show gW X 0 [some (.inr 7), some (.inl p1), some (.inl p2), some (.inl p3), none, none, none] [] M
  unfold w_X0_nodeWith at h
  refine g_iload_n ok dX0_nodeWith_0 rfl rfl ?_
  refine g_sipush (v := 421) ok dX0_nodeWith_1 (by decide) ?_
  refine g_imul ok dX0_nodeWith_4 ?_
  refine g_iload_n ok dX0_nodeWith_5 rfl rfl ?_
  refine g_iadd ok dX0_nodeWith_6 ?_
  refine g_sipush (v := 1023) ok dX0_nodeWith_7 (by decide) ?_
  refine g_iand ok dX0_nodeWith_10 ?_
  refine g_nm (fun x1 ex1 => ?_)
  have h := h x1 ex1
  refine g_istore (lv1 := [some (.inr 7), some (.inl p1), some (.inl p2), some (.inl p3), some (.inl x1), none, none]) ok dX0_nodeWith_11 (glt rfl) rfl ?_
  refine g_aload_n ok dX0_nodeWith_13 rfl rfl ?_
  refine g_get (w := .inr 40) ok f7_6 (gLm (by decide)) q1_202 dX0_nodeWith_14 rfl ?_
  refine g_iload ok dX0_nodeWith_17 rfl ?_
  have hb := h.1
  have h := h.2
  refine g_iald (w := (M 40 (Int32.toNatClampNeg x1))) ok a40 (gLm (by decide)) dX0_nodeWith_19 hb rfl ?_
  refine g_nm (fun x2 ex2 => ?_)
  have h := h x2 ex2
  refine g_istore (lv1 := [some (.inr 7), some (.inl p1), some (.inl p2), some (.inl p3), some (.inl x1), some (.inl x2), none]) ok dX0_nodeWith_20 (glt rfl) rfl ?_
  refine g_iconst (v := 0) ok dX0_nodeWith_22 (by decide) ?_
  refine g_istore (lv1 := [some (.inr 7), some (.inl p1), some (.inl p2), some (.inl p3), some (.inl x1), some (.inl x2), some (.inl 0)]) ok dX0_nodeWith_23 (glt rfl) rfl ?_
  obtain ⟨nf, h⟩ := h
  refine w_X0_nodeWith_L25_w ok hZ p1 p2 p3 x1 ?_ ?_ nf x2 0  M h
  · intro x7 x8  M9 h
    refine g_aload_n ok dX0_nodeWith_79 rfl rfl ?_
    refine g_get (w := .inl (M9 7 7)) ok f7_7 (gLm (by decide)) q1_203 dX0_nodeWith_80 rfl ?_
    refine g_sipush (v := 2303) ok dX0_nodeWith_83 (by decide) ?_
    refine g_icmp_lt (tgt := 91) ok dX0_nodeWith_86 (by decide) (fun z => ?_) (fun z => ?_)
    · have h := h.1 z
      refine g_aload_n ok dX0_nodeWith_91 rfl rfl ?_
      refine g_get (w := .inr 37) ok f7_3 (gLm (by decide)) q1_199 dX0_nodeWith_92 rfl ?_
      refine g_aload_n ok dX0_nodeWith_95 rfl rfl ?_
      refine g_get (w := .inl (M9 7 7)) ok f7_7 (gLm (by decide)) q1_203 dX0_nodeWith_96 rfl ?_
      refine g_iload_n ok dX0_nodeWith_99 rfl rfl ?_
      have hb := h.1
      have h := h.2
      refine g_iast ok a37 (gLm (by decide)) dX0_nodeWith_100 hb (g_mem (fun M10 eM10 => ?_))
      have h := h M10 eM10
      refine g_aload_n ok dX0_nodeWith_101 rfl rfl ?_
      refine g_get (w := .inr 38) ok f7_4 (gLm (by decide)) q1_200 dX0_nodeWith_102 rfl ?_
      refine g_aload_n ok dX0_nodeWith_105 rfl rfl ?_
      refine g_get (w := .inl (M10 7 7)) ok f7_7 (gLm (by decide)) q1_203 dX0_nodeWith_106 rfl ?_
      refine g_iload_n ok dX0_nodeWith_109 rfl rfl ?_
      have hb := h.1
      have h := h.2
      refine g_iast ok a38 (gLm (by decide)) dX0_nodeWith_110 hb (g_mem (fun M11 eM11 => ?_))
      have h := h M11 eM11
      refine g_aload_n ok dX0_nodeWith_111 rfl rfl ?_
      refine g_get (w := .inr 39) ok f7_5 (gLm (by decide)) q1_201 dX0_nodeWith_112 rfl ?_
      refine g_aload_n ok dX0_nodeWith_115 rfl rfl ?_
      refine g_get (w := .inl (M11 7 7)) ok f7_7 (gLm (by decide)) q1_203 dX0_nodeWith_116 rfl ?_
      refine g_aload_n ok dX0_nodeWith_119 rfl rfl ?_
      refine g_get (w := .inr 40) ok f7_6 (gLm (by decide)) q1_202 dX0_nodeWith_120 rfl ?_
      refine g_iload ok dX0_nodeWith_123 rfl ?_
      have hb := h.1
      have h := h.2
      refine g_iald (w := (M11 40 (Int32.toNatClampNeg x1))) ok a40 (gLm (by decide)) dX0_nodeWith_125 hb rfl ?_
      have hb := h.1
      have h := h.2
      refine g_iast ok a39 (gLm (by decide)) dX0_nodeWith_126 hb (g_mem (fun M12 eM12 => ?_))
      have h := h M12 eM12
      refine g_aload_n ok dX0_nodeWith_127 rfl rfl ?_
      refine g_get (w := .inr 40) ok f7_6 (gLm (by decide)) q1_202 dX0_nodeWith_128 rfl ?_
      refine g_iload ok dX0_nodeWith_131 rfl ?_
      refine g_aload_n ok dX0_nodeWith_133 rfl rfl ?_
      refine g_get (w := .inl (M12 7 7)) ok f7_7 (gLm (by decide)) q1_203 dX0_nodeWith_134 rfl ?_
      have hb := h.1
      have h := h.2
      refine g_iast ok a40 (gLm (by decide)) dX0_nodeWith_137 hb (g_mem (fun M13 eM13 => ?_))
      have h := h M13 eM13
      refine g_aload_n ok dX0_nodeWith_138 rfl rfl ?_
      refine g_dup ok dX0_nodeWith_139 ?_
      refine g_get (w := .inl (M13 7 7)) ok f7_7 (gLm (by decide)) q1_203 dX0_nodeWith_140 rfl ?_
      refine g_iconst (v := 1) ok dX0_nodeWith_143 (by decide) ?_
      refine g_iadd ok dX0_nodeWith_144 ?_
      refine g_put ok f7_7p (gLm (by decide)) q1_203 dX0_nodeWith_145 rfl rfl (g_mem (fun M14 eM14 => ?_))
      have h := h M14 eM14
      refine g_aload_n ok dX0_nodeWith_148 rfl rfl ?_
      refine g_get (w := .inl (M14 7 7)) ok f7_7 (gLm (by decide)) q1_203 dX0_nodeWith_149 rfl ?_
      refine g_iconst (v := 1) ok dX0_nodeWith_152 (by decide) ?_
      refine g_isub ok dX0_nodeWith_153 ?_
      exact g_iret ok hZ dX0_nodeWith_154 h
    · have h := h.2 z
      refine g_iconst (v := 0) ok dX0_nodeWith_89 (by decide) ?_
      exact g_iret ok hZ dX0_nodeWith_90 h
  · intro x15 x16  M17 h
    refine g_iload ok dX0_nodeWith_61 rfl ?_
    exact g_iret ok hZ dX0_nodeWith_63 h
theorem dX0_drawNodesAt_0 : decode cX0_drawNodesAt 0 = .ok (.aload_n 0, 1) := by decide +kernel
theorem dX0_drawNodesAt_1 : decode cX0_drawNodesAt 1 = .ok (.getfield 15, 3) := by decide +kernel
theorem dX0_drawNodesAt_4 : decode cX0_drawNodesAt 4 = .ok (.getfield 63, 3) := by decide +kernel
theorem dX0_drawNodesAt_7 : decode cX0_drawNodesAt 7 = .ok (.astore_n 2, 1) := by decide +kernel
theorem dX0_drawNodesAt_8 : decode cX0_drawNodesAt 8 = .ok (.aload_n 0, 1) := by decide +kernel
theorem dX0_drawNodesAt_9 : decode cX0_drawNodesAt 9 = .ok (.getfield 43, 3) := by decide +kernel
theorem dX0_drawNodesAt_12 : decode cX0_drawNodesAt 12 = .ok (.istore_n 3, 1) := by decide +kernel
theorem dX0_drawNodesAt_13 : decode cX0_drawNodesAt 13 = .ok (.iconst 1, 1) := by decide +kernel
theorem dX0_drawNodesAt_14 : decode cX0_drawNodesAt 14 = .ok (.iload_n 1, 1) := by decide +kernel
theorem dX0_drawNodesAt_15 : decode cX0_drawNodesAt 15 = .ok (.ishl, 1) := by decide +kernel
theorem dX0_drawNodesAt_16 : decode cX0_drawNodesAt 16 = .ok (.istore 4, 2) := by decide +kernel
theorem dX0_drawNodesAt_18 : decode cX0_drawNodesAt 18 = .ok (.iconst 0, 1) := by decide +kernel
theorem dX0_drawNodesAt_19 : decode cX0_drawNodesAt 19 = .ok (.istore 5, 2) := by decide +kernel
theorem dX0_drawNodesAt_21 : decode cX0_drawNodesAt 21 = .ok (.iload 5, 2) := by decide +kernel
theorem dX0_drawNodesAt_23 : decode cX0_drawNodesAt 23 = .ok (.iload 4, 2) := by decide +kernel
theorem dX0_drawNodesAt_25 : decode cX0_drawNodesAt 25 = .ok (.if_icmp .ge 38, 3) := by decide +kernel
theorem dX0_drawNodesAt_28 : decode cX0_drawNodesAt 28 = .ok (.aload_n 2, 1) := by decide +kernel
theorem dX0_drawNodesAt_29 : decode cX0_drawNodesAt 29 = .ok (.iload 4, 2) := by decide +kernel
theorem dX0_drawNodesAt_31 : decode cX0_drawNodesAt 31 = .ok (.iload 5, 2) := by decide +kernel
theorem dX0_drawNodesAt_33 : decode cX0_drawNodesAt 33 = .ok (.iadd, 1) := by decide +kernel
theorem dX0_drawNodesAt_34 : decode cX0_drawNodesAt 34 = .ok (.iaload, 1) := by decide +kernel
theorem dX0_drawNodesAt_35 : decode cX0_drawNodesAt 35 = .ok (.istore 6, 2) := by decide +kernel
theorem dX0_drawNodesAt_37 : decode cX0_drawNodesAt 37 = .ok (.iload 6, 2) := by decide +kernel
theorem dX0_drawNodesAt_39 : decode cX0_drawNodesAt 39 = .ok (.ifCond .eq 18, 3) := by decide +kernel
theorem dX0_drawNodesAt_42 : decode cX0_drawNodesAt 42 = .ok (.aload_n 2, 1) := by decide +kernel
theorem dX0_drawNodesAt_43 : decode cX0_drawNodesAt 43 = .ok (.iload 5, 2) := by decide +kernel
theorem dX0_drawNodesAt_45 : decode cX0_drawNodesAt 45 = .ok (.aload_n 0, 1) := by decide +kernel
theorem dX0_drawNodesAt_46 : decode cX0_drawNodesAt 46 = .ok (.aload_n 2, 1) := by decide +kernel
theorem dX0_drawNodesAt_47 : decode cX0_drawNodesAt 47 = .ok (.iload 5, 2) := by decide +kernel
theorem dX0_drawNodesAt_49 : decode cX0_drawNodesAt 49 = .ok (.iaload, 1) := by decide +kernel
theorem dX0_drawNodesAt_50 : decode cX0_drawNodesAt 50 = .ok (.iload 6, 2) := by decide +kernel
theorem dX0_drawNodesAt_52 : decode cX0_drawNodesAt 52 = .ok (.iload_n 3, 1) := by decide +kernel
theorem dX0_drawNodesAt_53 : decode cX0_drawNodesAt 53 = .ok (.invokevirtual 66, 3) := by decide +kernel
theorem dX0_drawNodesAt_56 : decode cX0_drawNodesAt 56 = .ok (.iastore, 1) := by decide +kernel
theorem dX0_drawNodesAt_57 : decode cX0_drawNodesAt 57 = .ok (.iinc 5 1, 3) := by decide +kernel
theorem dX0_drawNodesAt_60 : decode cX0_drawNodesAt 60 = .ok (.goto (-39), 3) := by decide +kernel
theorem dX0_drawNodesAt_63 : decode cX0_drawNodesAt 63 = .ok (.aload_n 0, 1) := by decide +kernel
theorem dX0_drawNodesAt_64 : decode cX0_drawNodesAt 64 = .ok (.getfield 19, 3) := by decide +kernel
theorem dX0_drawNodesAt_67 : decode cX0_drawNodesAt 67 = .ok (.iload_n 1, 1) := by decide +kernel
theorem dX0_drawNodesAt_68 : decode cX0_drawNodesAt 68 = .ok (.aload_n 0, 1) := by decide +kernel
theorem dX0_drawNodesAt_69 : decode cX0_drawNodesAt 69 = .ok (.getfield 43, 3) := by decide +kernel
theorem dX0_drawNodesAt_72 : decode cX0_drawNodesAt 72 = .ok (.iload_n 3, 1) := by decide +kernel
theorem dX0_drawNodesAt_73 : decode cX0_drawNodesAt 73 = .ok (.isub, 1) := by decide +kernel
theorem dX0_drawNodesAt_74 : decode cX0_drawNodesAt 74 = .ok (.iastore, 1) := by decide +kernel
theorem dX0_drawNodesAt_75 : decode cX0_drawNodesAt 75 = .ok (.return_, 1) := by decide +kernel
theorem s_X0_drawNodesAt : gSt yX0_drawNodesAt cX0_drawNodesAt 7 none 1 := ⟨q3_145, q1_8, ⟨by decide, by decide, by decide +kernel⟩, by decide⟩
theorem sel_X0_drawNodesAt : Cond.selects yX0_drawNodesAt.cls yX0_drawNodesAt yX0_drawNodesAt ∈ gT := qs_11
theorem ins_X0_drawNodesAt : Cond.instanceMethod yX0_drawNodesAt ∈ gT := q3_144
def w_X0_drawNodesAt_L21 (Q : gM → Prop) (K63 : Int32 → gM → Prop) (v1 : Int32) (v3 : Int32) (v4 : Int32) : Nat → Int32 → gM → Prop
  | 0, _, _ => False
  | n + 1, v5, M => gbr ((v5 : Int32) < v4) (vp_in (v4 + v5) 16384 ∧ (∀ x3 : Int32, x3 = (M 34 (Int32.toNatClampNeg (v4 + v5))) → (gbr ((x3 : Int32) = 0) (∀ x4 : Int32, x4 = (v5 + 1) → (w_X0_drawNodesAt_L21 Q K63 v1 v3 v4 n (x4) M)) (vp_in v5 16384 ∧ (w_X0_nodeWith (M 34 (Int32.toNatClampNeg v5)) x3 v3 M (fun (r6 : Int32) (M5 : gM) => vp_in v5 16384 ∧ ∀ M7 : gM, M7 = gst M5 34 (Int32.toNatClampNeg v5) r6 → (∀ x8 : Int32, x8 = (v5 + 1) → (w_X0_drawNodesAt_L21 Q K63 v1 v3 v4 n (x8) M7)))))))) (K63 (v5) M)
def w_X0_drawNodesAt (p1 : Int32) (M : gM) (Q : gM → Prop) : Prop := ∀ x1 : Int32, x1 = (M 7 7) → (∀ x2 : Int32, x2 = (1 <<< (p1 &&& 31)) → (∃ nf, w_X0_drawNodesAt_L21 Q (fun (x9 : Int32) (M11 : gM) => vp_in p1 14 ∧ ∀ M12 : gM, M12 = gst M11 36 (Int32.toNatClampNeg p1) ((M11 7 7) - x1) → (Q M12)) p1 x1 x2 nf 0 M))
set_option maxRecDepth 100000 in
set_option maxHeartbeats 4000000 in
theorem w_X0_drawNodesAt_L21_w {X : gX} (ok : gOk X cX0_drawNodesAt yX0_drawNodesAt.cls 1 7 none gL) {Q : gM → Prop} (hZ : gZv X Q) {K63 : Int32 → gM → Prop} (v1 : Int32) (v3 : Int32) (v4 : Int32) (hK63 : ∀ (v5 : Int32) (u6 : Option gV) (M : gM), K63 v5 M → gW X 63 [some (.inr 7), some (.inl v1), some (.inr 34), some (.inl v3), some (.inl v4), some (.inl v5), u6] [] M) : ∀ (n : Nat) (v5 : Int32) (u6 : Option gV) (M : gM), w_X0_drawNodesAt_L21 Q K63 v1 v3 v4 n v5 M → gW X 21 [some (.inr 7), some (.inl v1), some (.inr 34), some (.inl v3), some (.inl v4), some (.inl v5), u6] [] M
  | 0, _, _, _, h => h.elim
  | n + 1, v5, u6, M, h => by
    have ih := fun (v5 : Int32) (u6 : Option gV) (M : gM) h => w_X0_drawNodesAt_L21_w ok hZ v1 v3 v4 hK63 n v5 u6 M h
    rw [w_X0_drawNodesAt_L21.eq_2] at h
    refine g_iload ok dX0_drawNodesAt_21 rfl ?_
    refine g_iload ok dX0_drawNodesAt_23 rfl ?_
    refine g_icmp_ge (tgt := 63) ok dX0_drawNodesAt_25 (by decide) (fun z => ?_) (fun z => ?_)
    · have h := h.2 z
      exact hK63 (v5) (u6) M h
    · have h := h.1 z
      refine g_aload_n ok dX0_drawNodesAt_28 rfl rfl ?_
      refine g_iload ok dX0_drawNodesAt_29 rfl ?_
      refine g_iload ok dX0_drawNodesAt_31 rfl ?_
      refine g_iadd ok dX0_drawNodesAt_33 ?_
      have hb := h.1
      have h := h.2
      refine g_iald (w := (M 34 (Int32.toNatClampNeg (v4 + v5)))) ok a34 (gLm (by decide)) dX0_drawNodesAt_34 hb rfl ?_
      refine g_nm (fun x3 ex3 => ?_)
      have h := h x3 ex3
      refine g_istore (lv1 := [some (.inr 7), some (.inl v1), some (.inr 34), some (.inl v3), some (.inl v4), some (.inl v5), some (.inl x3)]) ok dX0_drawNodesAt_35 (glt rfl) rfl ?_
      refine g_iload ok dX0_drawNodesAt_37 rfl ?_
      refine g_if_eq (tgt := 57) ok dX0_drawNodesAt_39 (by decide) (fun z => ?_) (fun z => ?_)
      · have h := h.1 z
        obtain ⟨x4, ex4⟩ : ∃ y : Int32, y = (v5 + 1) := ⟨_, rfl⟩
        have h := h x4 ex4
        refine g_iinc (v := x4) (lv1 := [some (.inr 7), some (.inl v1), some (.inr 34), some (.inl v3), some (.inl v4), some (.inl x4), some (.inl x3)]) ok dX0_drawNodesAt_57 rfl (by rw [ex4]; rfl) rfl ?_
        refine g_goto (tgt := 21) ok dX0_drawNodesAt_60 (by decide) ?_
        exact ih (x4) (some (.inl x3)) M h
      · have h := h.2 z
        refine g_aload_n ok dX0_drawNodesAt_42 rfl rfl ?_
        refine g_iload ok dX0_drawNodesAt_43 rfl ?_
        refine g_aload_n ok dX0_drawNodesAt_45 rfl rfl ?_
        refine g_aload_n ok dX0_drawNodesAt_46 rfl rfl ?_
        refine g_iload ok dX0_drawNodesAt_47 rfl ?_
        have hb := h.1
        have h := h.2
        refine g_iald (w := (M 34 (Int32.toNatClampNeg v5))) ok a34 (gLm (by decide)) dX0_drawNodesAt_49 hb rfl ?_
        refine g_iload ok dX0_drawNodesAt_50 rfl ?_
        refine g_iload_n ok dX0_drawNodesAt_52 rfl rfl ?_
        refine g_callVi (st := [.inl v5, .inr 34]) (as := [.inl (M 34 (Int32.toNatClampNeg v5)), .inl x3, .inl v3]) ok rfl (k_X0_nodeWith h) s_X0_nodeWith rfl (by decide) (gLm (by decide)) cl7 sel_X0_nodeWith ins_X0_nodeWith (gle rfl) rfl q3_146 dX0_drawNodesAt_53 ?_
        intro r6 M5 h
        have hb := h.1
        have h := h.2
        refine g_iast ok a34 (gLm (by decide)) dX0_drawNodesAt_56 hb (g_mem (fun M7 eM7 => ?_))
        have h := h M7 eM7
        obtain ⟨x8, ex8⟩ : ∃ y : Int32, y = (v5 + 1) := ⟨_, rfl⟩
        have h := h x8 ex8
        refine g_iinc (v := x8) (lv1 := [some (.inr 7), some (.inl v1), some (.inr 34), some (.inl v3), some (.inl v4), some (.inl x8), some (.inl x3)]) ok dX0_drawNodesAt_57 rfl (by rw [ex8]; rfl) rfl ?_
        refine g_goto (tgt := 21) ok dX0_drawNodesAt_60 (by decide) ?_
        exact ih (x8) (some (.inl x3)) M7 h
set_option maxRecDepth 100000 in
set_option maxHeartbeats 4000000 in
theorem k_X0_drawNodesAt {p1 : Int32} {M : gM} {Q : gM → Prop} (h : w_X0_drawNodesAt p1 M Q) : gCv gL 1 yX0_drawNodesAt cX0_drawNodesAt 7 [.inr 7, .inl p1] M Q := by
  refine gCv_of (by decide) gLn (gle rfl) (fun X ok hZ => ?_)
  show gW X 0 [some (.inr 7), some (.inl p1), none, none, none, none, none] [] M
  unfold w_X0_drawNodesAt at h
  refine g_aload_n ok dX0_drawNodesAt_0 rfl rfl ?_
  refine g_get (w := .inr 5) ok f7_1 (gLm (by decide)) q1_197 dX0_drawNodesAt_1 rfl ?_
  refine g_get (w := .inr 34) ok f5_0 (gLm (by decide)) q1_158 dX0_drawNodesAt_4 rfl ?_
  refine g_astore_n (lv1 := [some (.inr 7), some (.inl p1), some (.inr 34), none, none, none, none]) ok dX0_drawNodesAt_7 rfl (glt rfl) rfl ?_
  refine g_aload_n ok dX0_drawNodesAt_8 rfl rfl ?_
  refine g_get (w := .inl (M 7 7)) ok f7_7 (gLm (by decide)) q1_203 dX0_drawNodesAt_9 rfl ?_
  refine g_nm (fun x1 ex1 => ?_)
  have h := h x1 ex1
  refine g_istore_n (lv1 := [some (.inr 7), some (.inl p1), some (.inr 34), some (.inl x1), none, none, none]) ok dX0_drawNodesAt_12 rfl (glt rfl) rfl ?_
  refine g_iconst (v := 1) ok dX0_drawNodesAt_13 (by decide) ?_
  refine g_iload_n ok dX0_drawNodesAt_14 rfl rfl ?_
  refine g_ishl ok dX0_drawNodesAt_15 ?_
  refine g_nm (fun x2 ex2 => ?_)
  have h := h x2 ex2
  refine g_istore (lv1 := [some (.inr 7), some (.inl p1), some (.inr 34), some (.inl x1), some (.inl x2), none, none]) ok dX0_drawNodesAt_16 (glt rfl) rfl ?_
  refine g_iconst (v := 0) ok dX0_drawNodesAt_18 (by decide) ?_
  refine g_istore (lv1 := [some (.inr 7), some (.inl p1), some (.inr 34), some (.inl x1), some (.inl x2), some (.inl 0), none]) ok dX0_drawNodesAt_19 (glt rfl) rfl ?_
  obtain ⟨nf, h⟩ := h
  refine w_X0_drawNodesAt_L21_w ok hZ p1 x1 x2 ?_ nf 0 (none) M h
  · intro x9 u10 M11 h
    refine g_aload_n ok dX0_drawNodesAt_63 rfl rfl ?_
    refine g_get (w := .inr 36) ok f7_2 (gLm (by decide)) q1_198 dX0_drawNodesAt_64 rfl ?_
    refine g_iload_n ok dX0_drawNodesAt_67 rfl rfl ?_
    refine g_aload_n ok dX0_drawNodesAt_68 rfl rfl ?_
    refine g_get (w := .inl (M11 7 7)) ok f7_7 (gLm (by decide)) q1_203 dX0_drawNodesAt_69 rfl ?_
    refine g_iload_n ok dX0_drawNodesAt_72 rfl rfl ?_
    refine g_isub ok dX0_drawNodesAt_73 ?_
    have hb := h.1
    have h := h.2
    refine g_iast ok a36 (gLm (by decide)) dX0_drawNodesAt_74 hb (g_mem (fun M12 eM12 => ?_))
    have h := h M12 eM12
    exact g_vret ok hZ dX0_drawNodesAt_75 h
theorem dX0_draw_0 : decode cX0_draw 0 = .ok (.aload_n 0, 1) := by decide +kernel
theorem dX0_draw_1 : decode cX0_draw 1 = .ok (.getfield 35, 3) := by decide +kernel
theorem dX0_draw_4 : decode cX0_draw 4 = .ok (.aload_n 0, 1) := by decide +kernel
theorem dX0_draw_5 : decode cX0_draw 5 = .ok (.getfield 11, 3) := by decide +kernel
theorem dX0_draw_8 : decode cX0_draw 8 = .ok (.getfield 46, 3) := by decide +kernel
theorem dX0_draw_11 : decode cX0_draw 11 = .ok (.if_icmp .ne 12, 3) := by decide +kernel
theorem dX0_draw_14 : decode cX0_draw 14 = .ok (.aload_n 0, 1) := by decide +kernel
theorem dX0_draw_15 : decode cX0_draw 15 = .ok (.getfield 49, 3) := by decide +kernel
theorem dX0_draw_18 : decode cX0_draw 18 = .ok (.iload_n 1, 1) := by decide +kernel
theorem dX0_draw_19 : decode cX0_draw 19 = .ok (.if_icmp .ne 4, 3) := by decide +kernel
theorem dX0_draw_22 : decode cX0_draw 22 = .ok (.return_, 1) := by decide +kernel
theorem dX0_draw_23 : decode cX0_draw 23 = .ok (.aload_n 0, 1) := by decide +kernel
theorem dX0_draw_24 : decode cX0_draw 24 = .ok (.aload_n 0, 1) := by decide +kernel
theorem dX0_draw_25 : decode cX0_draw 25 = .ok (.getfield 11, 3) := by decide +kernel
theorem dX0_draw_28 : decode cX0_draw 28 = .ok (.getfield 46, 3) := by decide +kernel
theorem dX0_draw_31 : decode cX0_draw 31 = .ok (.putfield 35, 3) := by decide +kernel
theorem dX0_draw_34 : decode cX0_draw 34 = .ok (.aload_n 0, 1) := by decide +kernel
theorem dX0_draw_35 : decode cX0_draw 35 = .ok (.iload_n 1, 1) := by decide +kernel
theorem dX0_draw_36 : decode cX0_draw 36 = .ok (.putfield 49, 3) := by decide +kernel
theorem dX0_draw_39 : decode cX0_draw 39 = .ok (.aload_n 0, 1) := by decide +kernel
theorem dX0_draw_40 : decode cX0_draw 40 = .ok (.iconst 2, 1) := by decide +kernel
theorem dX0_draw_41 : decode cX0_draw 41 = .ok (.putfield 43, 3) := by decide +kernel
theorem dX0_draw_44 : decode cX0_draw 44 = .ok (.iconst 0, 1) := by decide +kernel
theorem dX0_draw_45 : decode cX0_draw 45 = .ok (.istore_n 2, 1) := by decide +kernel
theorem dX0_draw_46 : decode cX0_draw 46 = .ok (.iload_n 2, 1) := by decide +kernel
theorem dX0_draw_47 : decode cX0_draw 47 = .ok (.sipush 1024, 3) := by decide +kernel
theorem dX0_draw_50 : decode cX0_draw 50 = .ok (.if_icmp .ge 16, 3) := by decide +kernel
theorem dX0_draw_53 : decode cX0_draw 53 = .ok (.aload_n 0, 1) := by decide +kernel
theorem dX0_draw_54 : decode cX0_draw 54 = .ok (.getfield 32, 3) := by decide +kernel
theorem dX0_draw_57 : decode cX0_draw 57 = .ok (.iload_n 2, 1) := by decide +kernel
theorem dX0_draw_58 : decode cX0_draw 58 = .ok (.iconst 0, 1) := by decide +kernel
theorem dX0_draw_59 : decode cX0_draw 59 = .ok (.iastore, 1) := by decide +kernel
theorem dX0_draw_60 : decode cX0_draw 60 = .ok (.iinc 2 1, 3) := by decide +kernel
theorem dX0_draw_63 : decode cX0_draw 63 = .ok (.goto (-17), 3) := by decide +kernel
theorem dX0_draw_66 : decode cX0_draw 66 = .ok (.aload_n 0, 1) := by decide +kernel
theorem dX0_draw_67 : decode cX0_draw 67 = .ok (.getfield 15, 3) := by decide +kernel
theorem dX0_draw_70 : decode cX0_draw 70 = .ok (.iload_n 1, 1) := by decide +kernel
theorem dX0_draw_71 : decode cX0_draw 71 = .ok (.invokevirtual 52, 3) := by decide +kernel
theorem dX0_draw_74 : decode cX0_draw 74 = .ok (.aload_n 0, 1) := by decide +kernel
theorem dX0_draw_75 : decode cX0_draw 75 = .ok (.getfield 11, 3) := by decide +kernel
theorem dX0_draw_78 : decode cX0_draw 78 = .ok (.getfield 57, 3) := by decide +kernel
theorem dX0_draw_81 : decode cX0_draw 81 = .ok (.iconst 1, 1) := by decide +kernel
theorem dX0_draw_82 : decode cX0_draw 82 = .ok (.isub, 1) := by decide +kernel
theorem dX0_draw_83 : decode cX0_draw 83 = .ok (.istore_n 2, 1) := by decide +kernel
theorem dX0_draw_84 : decode cX0_draw 84 = .ok (.iload_n 2, 1) := by decide +kernel
theorem dX0_draw_85 : decode cX0_draw 85 = .ok (.ifCond .lt 14, 3) := by decide +kernel
theorem dX0_draw_88 : decode cX0_draw 88 = .ok (.aload_n 0, 1) := by decide +kernel
theorem dX0_draw_89 : decode cX0_draw 89 = .ok (.iload_n 2, 1) := by decide +kernel
theorem dX0_draw_90 : decode cX0_draw 90 = .ok (.invokevirtual 60, 3) := by decide +kernel
theorem dX0_draw_93 : decode cX0_draw 93 = .ok (.iinc 2 (-1), 3) := by decide +kernel
theorem dX0_draw_96 : decode cX0_draw 96 = .ok (.goto (-12), 3) := by decide +kernel
theorem dX0_draw_99 : decode cX0_draw 99 = .ok (.return_, 1) := by decide +kernel
theorem s_X0_draw : gSt yX0_draw cX0_draw 3 none 1 := ⟨q3_140, q1_8, ⟨by decide, by decide, by decide +kernel⟩, by decide⟩
theorem sel_X0_draw : Cond.selects yX0_draw.cls yX0_draw yX0_draw ∈ gT := qs_10
theorem ins_X0_draw : Cond.instanceMethod yX0_draw ∈ gT := q3_139
def w_X0_draw_L46 (Q : gM → Prop) (K66 : Int32 → gM → Prop) (v1 : Int32) : Nat → Int32 → gM → Prop
  | 0, _, _ => False
  | n + 1, v2, M => gbr ((v2 : Int32) < 1024) (vp_in v2 1024 ∧ ∀ M4 : gM, M4 = gst M 40 (Int32.toNatClampNeg v2) 0 → (∀ x5 : Int32, x5 = (v2 + 1) → (w_X0_draw_L46 Q K66 v1 n (x5) M4))) (K66 (v2) M)
def w_X0_draw_L84 (Q : gM → Prop) (K99 : Int32 → gM → Prop) (v1 : Int32) : Nat → Int32 → gM → Prop
  | 0, _, _ => False
  | n + 1, v2, M => gbr ((v2 : Int32) < 0) (K99 (v2) M) (w_X0_drawNodesAt v2 M (fun (M11 : gM) => ∀ x13 : Int32, x13 = (v2 + (-1)) → (w_X0_draw_L84 Q K99 v1 n (x13) M11)))
def w_X0_draw (p1 : Int32) (M : gM) (Q : gM → Prop) : Prop := gbr (((M 7 9) : Int32) = (M 1 5)) (gbr (((M 7 8) : Int32) = p1) (Q M) (∀ M16 : gM, M16 = gst M 7 9 (M 1 5) → (∀ M17 : gM, M17 = gst M16 7 8 p1 → (∀ M18 : gM, M18 = gst M17 7 7 2 → (∃ nf, w_X0_draw_L46 Q (fun (x19 : Int32) (M20 : gM) => w_X2_fill p1 M20 (fun (M21 : gM) => ∀ x23 : Int32, x23 = ((M21 1 0) - 1) → (∃ nf, w_X0_draw_L84 Q (fun (x24 : Int32) (M25 : gM) => Q M25) p1 nf x23 M21))) p1 nf 0 M18))))) (∀ M1 : gM, M1 = gst M 7 9 (M 1 5) → (∀ M2 : gM, M2 = gst M1 7 8 p1 → (∀ M3 : gM, M3 = gst M2 7 7 2 → (∃ nf, w_X0_draw_L46 Q (fun (x6 : Int32) (M7 : gM) => w_X2_fill p1 M7 (fun (M8 : gM) => ∀ x10 : Int32, x10 = ((M8 1 0) - 1) → (∃ nf, w_X0_draw_L84 Q (fun (x14 : Int32) (M15 : gM) => Q M15) p1 nf x10 M8))) p1 nf 0 M3))))
set_option maxRecDepth 100000 in
set_option maxHeartbeats 4000000 in
theorem w_X0_draw_L46_w {X : gX} (ok : gOk X cX0_draw yX0_draw.cls 3 3 none gL) {Q : gM → Prop} (hZ : gZv X Q) {K66 : Int32 → gM → Prop} (v1 : Int32) (hK66 : ∀ (v2 : Int32)  (M : gM), K66 v2 M → gW X 66 [some (.inr 7), some (.inl v1), some (.inl v2)] [] M) : ∀ (n : Nat) (v2 : Int32)  (M : gM), w_X0_draw_L46 Q K66 v1 n v2 M → gW X 46 [some (.inr 7), some (.inl v1), some (.inl v2)] [] M
  | 0, _, _, h => h.elim
  | n + 1, v2, M, h => by
    have ih := fun (v2 : Int32)  (M : gM) h => w_X0_draw_L46_w ok hZ v1 hK66 n v2  M h
    rw [w_X0_draw_L46.eq_2] at h
    refine g_iload_n ok dX0_draw_46 rfl rfl ?_
    refine g_sipush (v := 1024) ok dX0_draw_47 (by decide) ?_
    refine g_icmp_ge (tgt := 66) ok dX0_draw_50 (by decide) (fun z => ?_) (fun z => ?_)
    · have h := h.2 z
      exact hK66 (v2) M h
    · have h := h.1 z
      refine g_aload_n ok dX0_draw_53 rfl rfl ?_
      refine g_get (w := .inr 40) ok f7_6 (gLm (by decide)) q1_202 dX0_draw_54 rfl ?_
      refine g_iload_n ok dX0_draw_57 rfl rfl ?_
      refine g_iconst (v := 0) ok dX0_draw_58 (by decide) ?_
      have hb := h.1
      have h := h.2
      refine g_iast ok a40 (gLm (by decide)) dX0_draw_59 hb (g_mem (fun M4 eM4 => ?_))
      have h := h M4 eM4
      obtain ⟨x5, ex5⟩ : ∃ y : Int32, y = (v2 + 1) := ⟨_, rfl⟩
      have h := h x5 ex5
      refine g_iinc (v := x5) (lv1 := [some (.inr 7), some (.inl v1), some (.inl x5)]) ok dX0_draw_60 rfl (by rw [ex5]; rfl) rfl ?_
      refine g_goto (tgt := 46) ok dX0_draw_63 (by decide) ?_
      exact ih (x5) M4 h
set_option maxRecDepth 100000 in
set_option maxHeartbeats 4000000 in
theorem w_X0_draw_L84_w {X : gX} (ok : gOk X cX0_draw yX0_draw.cls 3 3 none gL) {Q : gM → Prop} (hZ : gZv X Q) {K99 : Int32 → gM → Prop} (v1 : Int32) (hK99 : ∀ (v2 : Int32)  (M : gM), K99 v2 M → gW X 99 [some (.inr 7), some (.inl v1), some (.inl v2)] [] M) : ∀ (n : Nat) (v2 : Int32)  (M : gM), w_X0_draw_L84 Q K99 v1 n v2 M → gW X 84 [some (.inr 7), some (.inl v1), some (.inl v2)] [] M
  | 0, _, _, h => h.elim
  | n + 1, v2, M, h => by
    have ih := fun (v2 : Int32)  (M : gM) h => w_X0_draw_L84_w ok hZ v1 hK99 n v2  M h
    rw [w_X0_draw_L84.eq_2] at h
    refine g_iload_n ok dX0_draw_84 rfl rfl ?_
    refine g_if_lt (tgt := 99) ok dX0_draw_85 (by decide) (fun z => ?_) (fun z => ?_)
    · have h := h.1 z
      exact hK99 (v2) M h
    · have h := h.2 z
      refine g_aload_n ok dX0_draw_88 rfl rfl ?_
      refine g_iload_n ok dX0_draw_89 rfl rfl ?_
      refine g_callVv (st := []) (as := [.inl v2]) ok rfl (k_X0_drawNodesAt h) s_X0_drawNodesAt rfl (by decide) (gLm (by decide)) cl7 sel_X0_drawNodesAt ins_X0_drawNodesAt (gle rfl) rfl q3_142 dX0_draw_90 ?_
      intro M11 h
      obtain ⟨x13, ex13⟩ : ∃ y : Int32, y = (v2 + (-1)) := ⟨_, rfl⟩
      have h := h x13 ex13
      refine g_iinc (v := x13) (lv1 := [some (.inr 7), some (.inl v1), some (.inl x13)]) ok dX0_draw_93 rfl (by rw [ex13]; rfl) rfl ?_
      refine g_goto (tgt := 84) ok dX0_draw_96 (by decide) ?_
      exact ih (x13) M11 h
set_option maxRecDepth 100000 in
set_option maxHeartbeats 4000000 in
theorem k_X0_draw {p1 : Int32} {M : gM} {Q : gM → Prop} (h : w_X0_draw p1 M Q) : gCv gL 3 yX0_draw cX0_draw 3 [.inr 7, .inl p1] M Q := by
  refine gCv_of (by decide) gLn (gle rfl) (fun X ok hZ => ?_)
  show gW X 0 [some (.inr 7), some (.inl p1), none] [] M
  unfold w_X0_draw at h
  refine g_aload_n ok dX0_draw_0 rfl rfl ?_
  refine g_get (w := .inl (M 7 9)) ok f7_9 (gLm (by decide)) q1_205 dX0_draw_1 rfl ?_
  refine g_aload_n ok dX0_draw_4 rfl rfl ?_
  refine g_get (w := .inr 1) ok f7_0 (gLm (by decide)) q1_196 dX0_draw_5 rfl ?_
  refine g_get (w := .inl (M 1 5)) ok f1_5 (gLm (by decide)) q1_78 dX0_draw_8 rfl ?_
  refine g_icmp_ne (tgt := 23) ok dX0_draw_11 (by decide) (fun z => ?_) (fun z => ?_)
  · have h := h.2 z
    refine g_aload_n ok dX0_draw_23 rfl rfl ?_
    refine g_aload_n ok dX0_draw_24 rfl rfl ?_
    refine g_get (w := .inr 1) ok f7_0 (gLm (by decide)) q1_196 dX0_draw_25 rfl ?_
    refine g_get (w := .inl (M 1 5)) ok f1_5 (gLm (by decide)) q1_78 dX0_draw_28 rfl ?_
    refine g_put ok f7_9p (gLm (by decide)) q1_205 dX0_draw_31 rfl rfl (g_mem (fun M1 eM1 => ?_))
    have h := h M1 eM1
    refine g_aload_n ok dX0_draw_34 rfl rfl ?_
    refine g_iload_n ok dX0_draw_35 rfl rfl ?_
    refine g_put ok f7_8p (gLm (by decide)) q1_204 dX0_draw_36 rfl rfl (g_mem (fun M2 eM2 => ?_))
    have h := h M2 eM2
    refine g_aload_n ok dX0_draw_39 rfl rfl ?_
    refine g_iconst (v := 2) ok dX0_draw_40 (by decide) ?_
    refine g_put ok f7_7p (gLm (by decide)) q1_203 dX0_draw_41 rfl rfl (g_mem (fun M3 eM3 => ?_))
    have h := h M3 eM3
    refine g_iconst (v := 0) ok dX0_draw_44 (by decide) ?_
    refine g_istore_n (lv1 := [some (.inr 7), some (.inl p1), some (.inl 0)]) ok dX0_draw_45 rfl (glt rfl) rfl ?_
    obtain ⟨nf, h⟩ := h
    refine w_X0_draw_L46_w ok hZ p1 ?_ nf 0  M3 h
    · intro x6  M7 h
      refine g_aload_n ok dX0_draw_66 rfl rfl ?_
      refine g_get (w := .inr 5) ok f7_1 (gLm (by decide)) q1_197 dX0_draw_67 rfl ?_
      refine g_iload_n ok dX0_draw_70 rfl rfl ?_
      refine g_callVv (st := []) (as := [.inl p1]) ok rfl (k_X2_fill h) s_X2_fill rfl (by decide) (gLm (by decide)) cl5 sel_X2_fill ins_X2_fill (gle rfl) rfl q3_141 dX0_draw_71 ?_
      intro M8 h
      refine g_aload_n ok dX0_draw_74 rfl rfl ?_
      refine g_get (w := .inr 1) ok f7_0 (gLm (by decide)) q1_196 dX0_draw_75 rfl ?_
      refine g_get (w := .inl (M8 1 0)) ok f1_0 (gLm (by decide)) q1_61 dX0_draw_78 rfl ?_
      refine g_iconst (v := 1) ok dX0_draw_81 (by decide) ?_
      refine g_isub ok dX0_draw_82 ?_
      refine g_nm (fun x10 ex10 => ?_)
      have h := h x10 ex10
      refine g_istore_n (lv1 := [some (.inr 7), some (.inl p1), some (.inl x10)]) ok dX0_draw_83 rfl (glt rfl) rfl ?_
      obtain ⟨nf, h⟩ := h
      refine w_X0_draw_L84_w ok hZ p1 ?_ nf x10  M8 h
      · intro x14  M15 h
        exact g_vret ok hZ dX0_draw_99 h
  · have h := h.1 z
    refine g_aload_n ok dX0_draw_14 rfl rfl ?_
    refine g_get (w := .inl (M 7 8)) ok f7_8 (gLm (by decide)) q1_204 dX0_draw_15 rfl ?_
    refine g_iload_n ok dX0_draw_18 rfl rfl ?_
    refine g_icmp_ne (tgt := 23) ok dX0_draw_19 (by decide) (fun z => ?_) (fun z => ?_)
    · have h := h.2 z
      refine g_aload_n ok dX0_draw_23 rfl rfl ?_
      refine g_aload_n ok dX0_draw_24 rfl rfl ?_
      refine g_get (w := .inr 1) ok f7_0 (gLm (by decide)) q1_196 dX0_draw_25 rfl ?_
      refine g_get (w := .inl (M 1 5)) ok f1_5 (gLm (by decide)) q1_78 dX0_draw_28 rfl ?_
      refine g_put ok f7_9p (gLm (by decide)) q1_205 dX0_draw_31 rfl rfl (g_mem (fun M16 eM16 => ?_))
      have h := h M16 eM16
      refine g_aload_n ok dX0_draw_34 rfl rfl ?_
      refine g_iload_n ok dX0_draw_35 rfl rfl ?_
      refine g_put ok f7_8p (gLm (by decide)) q1_204 dX0_draw_36 rfl rfl (g_mem (fun M17 eM17 => ?_))
      have h := h M17 eM17
      refine g_aload_n ok dX0_draw_39 rfl rfl ?_
      refine g_iconst (v := 2) ok dX0_draw_40 (by decide) ?_
      refine g_put ok f7_7p (gLm (by decide)) q1_203 dX0_draw_41 rfl rfl (g_mem (fun M18 eM18 => ?_))
      have h := h M18 eM18
      refine g_iconst (v := 0) ok dX0_draw_44 (by decide) ?_
      refine g_istore_n (lv1 := [some (.inr 7), some (.inl p1), some (.inl 0)]) ok dX0_draw_45 rfl (glt rfl) rfl ?_
      obtain ⟨nf, h⟩ := h
      refine w_X0_draw_L46_w ok hZ p1 ?_ nf 0  M18 h
      · intro x19  M20 h
        refine g_aload_n ok dX0_draw_66 rfl rfl ?_
        refine g_get (w := .inr 5) ok f7_1 (gLm (by decide)) q1_197 dX0_draw_67 rfl ?_
        refine g_iload_n ok dX0_draw_70 rfl rfl ?_
        refine g_callVv (st := []) (as := [.inl p1]) ok rfl (k_X2_fill h) s_X2_fill rfl (by decide) (gLm (by decide)) cl5 sel_X2_fill ins_X2_fill (gle rfl) rfl q3_141 dX0_draw_71 ?_
        intro M21 h
        refine g_aload_n ok dX0_draw_74 rfl rfl ?_
        refine g_get (w := .inr 1) ok f7_0 (gLm (by decide)) q1_196 dX0_draw_75 rfl ?_
        refine g_get (w := .inl (M21 1 0)) ok f1_0 (gLm (by decide)) q1_61 dX0_draw_78 rfl ?_
        refine g_iconst (v := 1) ok dX0_draw_81 (by decide) ?_
        refine g_isub ok dX0_draw_82 ?_
        refine g_nm (fun x23 ex23 => ?_)
        have h := h x23 ex23
        refine g_istore_n (lv1 := [some (.inr 7), some (.inl p1), some (.inl x23)]) ok dX0_draw_83 rfl (glt rfl) rfl ?_
        obtain ⟨nf, h⟩ := h
        refine w_X0_draw_L84_w ok hZ p1 ?_ nf x23  M21 h
        · intro x24  M25 h
          exact g_vret ok hZ dX0_draw_99 h
    · have h := h.1 z
      exact g_vret ok hZ dX0_draw_22 h
theorem dX0_sizeOf_0 : decode cX0_sizeOf 0 = .ok (.aload_n 0, 1) := by decide +kernel
theorem dX0_sizeOf_1 : decode cX0_sizeOf 1 = .ok (.iload_n 1, 1) := by decide +kernel
theorem dX0_sizeOf_2 : decode cX0_sizeOf 2 = .ok (.invokevirtual 39, 3) := by decide +kernel
theorem dX0_sizeOf_5 : decode cX0_sizeOf 5 = .ok (.aload_n 0, 1) := by decide +kernel
theorem dX0_sizeOf_6 : decode cX0_sizeOf 6 = .ok (.getfield 43, 3) := by decide +kernel
theorem dX0_sizeOf_9 : decode cX0_sizeOf 9 = .ok (.iconst 2, 1) := by decide +kernel
theorem dX0_sizeOf_10 : decode cX0_sizeOf 10 = .ok (.isub, 1) := by decide +kernel
theorem dX0_sizeOf_11 : decode cX0_sizeOf 11 = .ok (.ireturn, 1) := by decide +kernel
theorem s_X0_sizeOf : gSt yX0_sizeOf cX0_sizeOf 2 (some .int) 1 := ⟨q3_136, q1_8, ⟨by decide, by decide, by decide +kernel⟩, by decide⟩
theorem sel_X0_sizeOf : Cond.selects yX0_sizeOf.cls yX0_sizeOf yX0_sizeOf ∈ gT := q3_135
theorem ins_X0_sizeOf : Cond.instanceMethod yX0_sizeOf ∈ gT := q3_134
def w_X0_sizeOf (p1 : Int32) (M : gM) (Q : Int32 → gM → Prop) : Prop := w_X0_draw p1 M (fun (M1 : gM) => Q ((M1 7 7) - 2) M1)
set_option maxRecDepth 100000 in
set_option maxHeartbeats 4000000 in
theorem k_X0_sizeOf {p1 : Int32} {M : gM} {Q : Int32 → gM → Prop} (h : w_X0_sizeOf p1 M Q) : gCi gL 4 yX0_sizeOf cX0_sizeOf 2 .int [.inr 7, .inl p1] M Q := by
  refine gCi_of (by decide) gLn (gle rfl) (fun X ok hZ => ?_)
  show gW X 0 [some (.inr 7), some (.inl p1)] [] M
  unfold w_X0_sizeOf at h
  refine g_aload_n ok dX0_sizeOf_0 rfl rfl ?_
  refine g_iload_n ok dX0_sizeOf_1 rfl rfl ?_
  refine g_callVv (st := []) (as := [.inl p1]) ok rfl (k_X0_draw h) s_X0_draw rfl (by decide) (gLm (by decide)) cl7 sel_X0_draw ins_X0_draw (gle rfl) rfl q3_137 dX0_sizeOf_2 ?_
  intro M1 h
  refine g_aload_n ok dX0_sizeOf_5 rfl rfl ?_
  refine g_get (w := .inl (M1 7 7)) ok f7_7 (gLm (by decide)) q1_203 dX0_sizeOf_6 rfl ?_
  refine g_iconst (v := 2) ok dX0_sizeOf_9 (by decide) ?_
  refine g_isub ok dX0_sizeOf_10 ?_
  exact g_iret ok hZ dX0_sizeOf_11 h
theorem dX0_countAt_0 : decode cX0_countAt 0 = .ok (.aload_n 0, 1) := by decide +kernel
theorem dX0_countAt_1 : decode cX0_countAt 1 = .ok (.iload_n 1, 1) := by decide +kernel
theorem dX0_countAt_2 : decode cX0_countAt 2 = .ok (.invokevirtual 39, 3) := by decide +kernel
theorem dX0_countAt_5 : decode cX0_countAt 5 = .ok (.aload_n 0, 1) := by decide +kernel
theorem dX0_countAt_6 : decode cX0_countAt 6 = .ok (.getfield 19, 3) := by decide +kernel
theorem dX0_countAt_9 : decode cX0_countAt 9 = .ok (.iload_n 2, 1) := by decide +kernel
theorem dX0_countAt_10 : decode cX0_countAt 10 = .ok (.iaload, 1) := by decide +kernel
theorem dX0_countAt_11 : decode cX0_countAt 11 = .ok (.ireturn, 1) := by decide +kernel
theorem s_X0_countAt : gSt yX0_countAt cX0_countAt 3 (some .int) 2 := ⟨q3_157, q1_8, ⟨by decide, by decide, by decide +kernel⟩, by decide⟩
theorem sel_X0_countAt : Cond.selects yX0_countAt.cls yX0_countAt yX0_countAt ∈ gT := q3_156
theorem ins_X0_countAt : Cond.instanceMethod yX0_countAt ∈ gT := q3_155
def w_X0_countAt (p1 : Int32) (p2 : Int32) (M : gM) (Q : Int32 → gM → Prop) : Prop := w_X0_draw p1 M (fun (M1 : gM) => vp_in p2 14 ∧ (Q (M1 36 (Int32.toNatClampNeg p2)) M1))
set_option maxRecDepth 100000 in
set_option maxHeartbeats 4000000 in
theorem k_X0_countAt {p1 : Int32} {p2 : Int32} {M : gM} {Q : Int32 → gM → Prop} (h : w_X0_countAt p1 p2 M Q) : gCi gL 4 yX0_countAt cX0_countAt 3 .int [.inr 7, .inl p1, .inl p2] M Q := by
  refine gCi_of (by decide) gLn (gle rfl) (fun X ok hZ => ?_)
  show gW X 0 [some (.inr 7), some (.inl p1), some (.inl p2)] [] M
  unfold w_X0_countAt at h
  refine g_aload_n ok dX0_countAt_0 rfl rfl ?_
  refine g_iload_n ok dX0_countAt_1 rfl rfl ?_
  refine g_callVv (st := []) (as := [.inl p1]) ok rfl (k_X0_draw h) s_X0_draw rfl (by decide) (gLm (by decide)) cl7 sel_X0_draw ins_X0_draw (gle rfl) rfl q3_137 dX0_countAt_2 ?_
  intro M1 h
  refine g_aload_n ok dX0_countAt_5 rfl rfl ?_
  refine g_get (w := .inr 36) ok f7_2 (gLm (by decide)) q1_198 dX0_countAt_6 rfl ?_
  refine g_iload_n ok dX0_countAt_9 rfl rfl ?_
  have hb := h.1
  have h := h.2
  refine g_iald (w := (M1 36 (Int32.toNatClampNeg p2))) ok a36 (gLm (by decide)) dX0_countAt_10 hb rfl ?_
  exact g_iret ok hZ dX0_countAt_11 h
theorem dX1_append_0 : decode cX1_append 0 = .ok (.aload_n 0, 1) := by decide +kernel
theorem dX1_append_1 : decode cX1_append 1 = .ok (.getfield 15, 3) := by decide +kernel
theorem dX1_append_4 : decode cX1_append 4 = .ok (.bipush 100, 2) := by decide +kernel
theorem dX1_append_6 : decode cX1_append 6 = .ok (.if_icmp .lt 5, 3) := by decide +kernel
theorem dX1_append_9 : decode cX1_append 9 = .ok (.iconst 0, 1) := by decide +kernel
theorem dX1_append_10 : decode cX1_append 10 = .ok (.ireturn, 1) := by decide +kernel
theorem dX1_append_11 : decode cX1_append 11 = .ok (.aload_n 0, 1) := by decide +kernel
theorem dX1_append_12 : decode cX1_append 12 = .ok (.getfield 9, 3) := by decide +kernel
theorem dX1_append_15 : decode cX1_append 15 = .ok (.aload_n 0, 1) := by decide +kernel
theorem dX1_append_16 : decode cX1_append 16 = .ok (.getfield 15, 3) := by decide +kernel
theorem dX1_append_19 : decode cX1_append 19 = .ok (.iload_n 1, 1) := by decide +kernel
theorem dX1_append_20 : decode cX1_append 20 = .ok (.castore, 1) := by decide +kernel
theorem dX1_append_21 : decode cX1_append 21 = .ok (.aload_n 0, 1) := by decide +kernel
theorem dX1_append_22 : decode cX1_append 22 = .ok (.dup, 1) := by decide +kernel
theorem dX1_append_23 : decode cX1_append 23 = .ok (.getfield 15, 3) := by decide +kernel
theorem dX1_append_26 : decode cX1_append 26 = .ok (.iconst 1, 1) := by decide +kernel
theorem dX1_append_27 : decode cX1_append 27 = .ok (.iadd, 1) := by decide +kernel
theorem dX1_append_28 : decode cX1_append 28 = .ok (.putfield 15, 3) := by decide +kernel
theorem dX1_append_31 : decode cX1_append 31 = .ok (.iconst 1, 1) := by decide +kernel
theorem dX1_append_32 : decode cX1_append 32 = .ok (.ireturn, 1) := by decide +kernel
theorem s_X1_append : gSt yX1_append cX1_append 2 (some .boolean) 1 := ⟨q3_191, q1_9, ⟨by decide, by decide, by decide +kernel⟩, by decide⟩
theorem sel_X1_append : Cond.selects yX1_append.cls yX1_append yX1_append ∈ gT := q3_190
theorem ins_X1_append : Cond.instanceMethod yX1_append ∈ gT := q3_189
def w_X1_append (p1 : Int32) (M : gM) (Q : Int32 → gM → Prop) : Prop := gbr (((M 8 0) : Int32) < 100) (vp_in (M 8 0) 100 ∧ ∀ M1 : gM, M1 = gst M 41 (Int32.toNatClampNeg (M 8 0)) (vp_nar .char p1) → (∀ M2 : gM, M2 = gst M1 8 0 ((M1 8 0) + 1) → (Q 1 M2))) (Q 0 M)
set_option maxRecDepth 100000 in
set_option maxHeartbeats 4000000 in
theorem k_X1_append {p1 : Int32} {M : gM} {Q : Int32 → gM → Prop} (h : w_X1_append p1 M Q) : gCi gL 0 yX1_append cX1_append 2 .boolean [.inr 8, .inl p1] M Q := by
  refine gCi_of (by decide) gLn (gle rfl) (fun X ok hZ => ?_)
  show gW X 0 [some (.inr 8), some (.inl p1)] [] M
  unfold w_X1_append at h
  refine g_aload_n ok dX1_append_0 rfl rfl ?_
  refine g_get (w := .inl (M 8 0)) ok f8_0 (gLm (by decide)) q1_233 dX1_append_1 rfl ?_
  refine g_bipush (v := 100) ok dX1_append_4 (by decide) ?_
  refine g_icmp_lt (tgt := 11) ok dX1_append_6 (by decide) (fun z => ?_) (fun z => ?_)
  · have h := h.1 z
    refine g_aload_n ok dX1_append_11 rfl rfl ?_
    refine g_get (w := .inr 41) ok f8_1 (gLm (by decide)) q1_235 dX1_append_12 rfl ?_
    refine g_aload_n ok dX1_append_15 rfl rfl ?_
    refine g_get (w := .inl (M 8 0)) ok f8_0 (gLm (by decide)) q1_233 dX1_append_16 rfl ?_
    refine g_iload_n ok dX1_append_19 rfl rfl ?_
    have hb := h.1
    have h := h.2
    refine g_cast ok a41 (gLm (by decide)) dX1_append_20 hb (g_mem (fun M1 eM1 => ?_))
    have h := h M1 eM1
    refine g_aload_n ok dX1_append_21 rfl rfl ?_
    refine g_dup ok dX1_append_22 ?_
    refine g_get (w := .inl (M1 8 0)) ok f8_0 (gLm (by decide)) q1_233 dX1_append_23 rfl ?_
    refine g_iconst (v := 1) ok dX1_append_26 (by decide) ?_
    refine g_iadd ok dX1_append_27 ?_
    refine g_put ok f8_0p (gLm (by decide)) q1_233 dX1_append_28 rfl rfl (g_mem (fun M2 eM2 => ?_))
    have h := h M2 eM2
    refine g_iconst (v := 1) ok dX1_append_31 (by decide) ?_
    exact g_zret ok hZ dX1_append_32 (by decide) h
  · have h := h.2 z
    refine g_iconst (v := 0) ok dX1_append_9 (by decide) ?_
    exact g_zret ok hZ dX1_append_10 (by decide) h
theorem dX5_isFull_0 : decode cX5_isFull 0 = .ok (.aload_n 0, 1) := by decide +kernel
theorem dX5_isFull_1 : decode cX5_isFull 1 = .ok (.getfield 29, 3) := by decide +kernel
theorem dX5_isFull_4 : decode cX5_isFull 4 = .ok (.bipush 24, 2) := by decide +kernel
theorem dX5_isFull_6 : decode cX5_isFull 6 = .ok (.if_icmp .lt 7, 3) := by decide +kernel
theorem dX5_isFull_9 : decode cX5_isFull 9 = .ok (.iconst 1, 1) := by decide +kernel
theorem dX5_isFull_10 : decode cX5_isFull 10 = .ok (.goto 4, 3) := by decide +kernel
theorem dX5_isFull_13 : decode cX5_isFull 13 = .ok (.iconst 0, 1) := by decide +kernel
theorem dX5_isFull_14 : decode cX5_isFull 14 = .ok (.ireturn, 1) := by decide +kernel
theorem s_X5_isFull : gSt yX5_isFull cX5_isFull 1 (some .boolean) 0 := ⟨q2_61, q1_2, ⟨by decide, by decide, by decide +kernel⟩, by decide⟩
theorem sel_X5_isFull : Cond.selects yX5_isFull.cls yX5_isFull yX5_isFull ∈ gT := q2_60
theorem ins_X5_isFull : Cond.instanceMethod yX5_isFull ∈ gT := q2_59
def w_X5_isFull  (M : gM) (Q : Int32 → gM → Prop) : Prop := gbr (((M 1 1) : Int32) < 24) (Q 0 M) (Q 1 M)
set_option maxRecDepth 100000 in
set_option maxHeartbeats 4000000 in
theorem k_X5_isFull  {M : gM} {Q : Int32 → gM → Prop} (h : w_X5_isFull  M Q) : gCi gL 0 yX5_isFull cX5_isFull 1 .boolean [.inr 1] M Q := by
  refine gCi_of (by decide) gLn (gle rfl) (fun X ok hZ => ?_)
  show gW X 0 [some (.inr 1)] [] M
  unfold w_X5_isFull at h
  refine g_aload_n ok dX5_isFull_0 rfl rfl ?_
  refine g_get (w := .inl (M 1 1)) ok f1_1 (gLm (by decide)) q1_62 dX5_isFull_1 rfl ?_
  refine g_bipush (v := 24) ok dX5_isFull_4 (by decide) ?_
  refine g_icmp_lt (tgt := 13) ok dX5_isFull_6 (by decide) (fun z => ?_) (fun z => ?_)
  · have h := h.1 z
    refine g_iconst (v := 0) ok dX5_isFull_13 (by decide) ?_
    exact g_zret ok hZ dX5_isFull_14 (by decide) h
  · have h := h.2 z
    refine g_iconst (v := 1) ok dX5_isFull_9 (by decide) ?_
    refine g_goto (tgt := 14) ok dX5_isFull_10 (by decide) ?_
    exact g_zret ok hZ dX5_isFull_14 (by decide) h
theorem dX1_digit_0 : decode cX1_digit 0 = .ok (.aload_n 0, 1) := by decide +kernel
theorem dX1_digit_1 : decode cX1_digit 1 = .ok (.getfield 19, 3) := by decide +kernel
theorem dX1_digit_4 : decode cX1_digit 4 = .ok (.aload_n 0, 1) := by decide +kernel
theorem dX1_digit_5 : decode cX1_digit 5 = .ok (.getfield 15, 3) := by decide +kernel
theorem dX1_digit_8 : decode cX1_digit 8 = .ok (.if_icmp .ge 31, 3) := by decide +kernel
theorem dX1_digit_11 : decode cX1_digit 11 = .ok (.aload_n 0, 1) := by decide +kernel
theorem dX1_digit_12 : decode cX1_digit 12 = .ok (.getfield 9, 3) := by decide +kernel
theorem dX1_digit_15 : decode cX1_digit 15 = .ok (.aload_n 0, 1) := by decide +kernel
theorem dX1_digit_16 : decode cX1_digit 16 = .ok (.getfield 19, 3) := by decide +kernel
theorem dX1_digit_19 : decode cX1_digit 19 = .ok (.caload, 1) := by decide +kernel
theorem dX1_digit_20 : decode cX1_digit 20 = .ok (.bipush 48, 2) := by decide +kernel
theorem dX1_digit_22 : decode cX1_digit 22 = .ok (.if_icmp .lt 17, 3) := by decide +kernel
theorem dX1_digit_25 : decode cX1_digit 25 = .ok (.aload_n 0, 1) := by decide +kernel
theorem dX1_digit_26 : decode cX1_digit 26 = .ok (.getfield 9, 3) := by decide +kernel
theorem dX1_digit_29 : decode cX1_digit 29 = .ok (.aload_n 0, 1) := by decide +kernel
theorem dX1_digit_30 : decode cX1_digit 30 = .ok (.getfield 19, 3) := by decide +kernel
theorem dX1_digit_33 : decode cX1_digit 33 = .ok (.caload, 1) := by decide +kernel
theorem dX1_digit_34 : decode cX1_digit 34 = .ok (.bipush 57, 2) := by decide +kernel
theorem dX1_digit_36 : decode cX1_digit 36 = .ok (.if_icmp .le 5, 3) := by decide +kernel
theorem dX1_digit_39 : decode cX1_digit 39 = .ok (.iconst (-1), 1) := by decide +kernel
theorem dX1_digit_40 : decode cX1_digit 40 = .ok (.ireturn, 1) := by decide +kernel
theorem dX1_digit_41 : decode cX1_digit 41 = .ok (.aload_n 0, 1) := by decide +kernel
theorem dX1_digit_42 : decode cX1_digit 42 = .ok (.getfield 9, 3) := by decide +kernel
theorem dX1_digit_45 : decode cX1_digit 45 = .ok (.aload_n 0, 1) := by decide +kernel
theorem dX1_digit_46 : decode cX1_digit 46 = .ok (.getfield 19, 3) := by decide +kernel
theorem dX1_digit_49 : decode cX1_digit 49 = .ok (.caload, 1) := by decide +kernel
theorem dX1_digit_50 : decode cX1_digit 50 = .ok (.bipush 48, 2) := by decide +kernel
theorem dX1_digit_52 : decode cX1_digit 52 = .ok (.isub, 1) := by decide +kernel
theorem dX1_digit_53 : decode cX1_digit 53 = .ok (.ireturn, 1) := by decide +kernel
theorem s_X1_digit : gSt yX1_digit cX1_digit 1 (some .int) 0 := ⟨q3_216, q1_9, ⟨by decide, by decide, by decide +kernel⟩, by decide⟩
theorem sel_X1_digit : Cond.selects yX1_digit.cls yX1_digit yX1_digit ∈ gT := qs_16
theorem ins_X1_digit : Cond.instanceMethod yX1_digit ∈ gT := q3_215
def w_X1_digit  (M : gM) (Q : Int32 → gM → Prop) : Prop := gbr (((M 8 2) : Int32) < (M 8 0)) (vp_in (M 8 2) 100 ∧ (gbr (((M 41 (Int32.toNatClampNeg (M 8 2))) : Int32) < 48) (Q (-1) M) (vp_in (M 8 2) 100 ∧ (gbr ((57 : Int32) < (M 41 (Int32.toNatClampNeg (M 8 2)))) (Q (-1) M) (vp_in (M 8 2) 100 ∧ (Q ((M 41 (Int32.toNatClampNeg (M 8 2))) - 48) M)))))) (Q (-1) M)
set_option maxRecDepth 100000 in
set_option maxHeartbeats 4000000 in
theorem k_X1_digit  {M : gM} {Q : Int32 → gM → Prop} (h : w_X1_digit  M Q) : gCi gL 0 yX1_digit cX1_digit 1 .int [.inr 8] M Q := by
  refine gCi_of (by decide) gLn (gle rfl) (fun X ok hZ => ?_)
  show gW X 0 [some (.inr 8)] [] M
  unfold w_X1_digit at h
  refine g_aload_n ok dX1_digit_0 rfl rfl ?_
  refine g_get (w := .inl (M 8 2)) ok f8_2 (gLm (by decide)) q1_236 dX1_digit_1 rfl ?_
  refine g_aload_n ok dX1_digit_4 rfl rfl ?_
  refine g_get (w := .inl (M 8 0)) ok f8_0 (gLm (by decide)) q1_233 dX1_digit_5 rfl ?_
  refine g_icmp_ge (tgt := 39) ok dX1_digit_8 (by decide) (fun z => ?_) (fun z => ?_)
  · have h := h.2 z
    refine g_iconst (v := (-1)) ok dX1_digit_39 (by decide) ?_
    exact g_iret ok hZ dX1_digit_40 h
  · have h := h.1 z
    refine g_aload_n ok dX1_digit_11 rfl rfl ?_
    refine g_get (w := .inr 41) ok f8_1 (gLm (by decide)) q1_235 dX1_digit_12 rfl ?_
    refine g_aload_n ok dX1_digit_15 rfl rfl ?_
    refine g_get (w := .inl (M 8 2)) ok f8_2 (gLm (by decide)) q1_236 dX1_digit_16 rfl ?_
    have hb := h.1
    have h := h.2
    refine g_cald (w := (M 41 (Int32.toNatClampNeg (M 8 2)))) ok a41 (gLm (by decide)) dX1_digit_19 hb rfl ?_
    refine g_bipush (v := 48) ok dX1_digit_20 (by decide) ?_
    refine g_icmp_lt (tgt := 39) ok dX1_digit_22 (by decide) (fun z => ?_) (fun z => ?_)
    · have h := h.1 z
      refine g_iconst (v := (-1)) ok dX1_digit_39 (by decide) ?_
      exact g_iret ok hZ dX1_digit_40 h
    · have h := h.2 z
      refine g_aload_n ok dX1_digit_25 rfl rfl ?_
      refine g_get (w := .inr 41) ok f8_1 (gLm (by decide)) q1_235 dX1_digit_26 rfl ?_
      refine g_aload_n ok dX1_digit_29 rfl rfl ?_
      refine g_get (w := .inl (M 8 2)) ok f8_2 (gLm (by decide)) q1_236 dX1_digit_30 rfl ?_
      have hb := h.1
      have h := h.2
      refine g_cald (w := (M 41 (Int32.toNatClampNeg (M 8 2)))) ok a41 (gLm (by decide)) dX1_digit_33 hb rfl ?_
      refine g_bipush (v := 57) ok dX1_digit_34 (by decide) ?_
      refine g_icmp_le (tgt := 41) ok dX1_digit_36 (by decide) (fun z => ?_) (fun z => ?_)
      · have h := h.2 z
        refine g_aload_n ok dX1_digit_41 rfl rfl ?_
        refine g_get (w := .inr 41) ok f8_1 (gLm (by decide)) q1_235 dX1_digit_42 rfl ?_
        refine g_aload_n ok dX1_digit_45 rfl rfl ?_
        refine g_get (w := .inl (M 8 2)) ok f8_2 (gLm (by decide)) q1_236 dX1_digit_46 rfl ?_
        have hb := h.1
        have h := h.2
        refine g_cald (w := (M 41 (Int32.toNatClampNeg (M 8 2)))) ok a41 (gLm (by decide)) dX1_digit_49 hb rfl ?_
        refine g_bipush (v := 48) ok dX1_digit_50 (by decide) ?_
        refine g_isub ok dX1_digit_52 ?_
        exact g_iret ok hZ dX1_digit_53 h
      · have h := h.1 z
        refine g_iconst (v := (-1)) ok dX1_digit_39 (by decide) ?_
        exact g_iret ok hZ dX1_digit_40 h
theorem dX8_has_0 : decode cX8_has 0 = .ok (.iload_n 0, 1) := by decide +kernel
theorem dX8_has_1 : decode cX8_has 1 = .ok (.iload_n 1, 1) := by decide +kernel
theorem dX8_has_2 : decode cX8_has 2 = .ok (.ishr, 1) := by decide +kernel
theorem dX8_has_3 : decode cX8_has 3 = .ok (.iconst 1, 1) := by decide +kernel
theorem dX8_has_4 : decode cX8_has 4 = .ok (.iand, 1) := by decide +kernel
theorem dX8_has_5 : decode cX8_has 5 = .ok (.ifCond .eq 7, 3) := by decide +kernel
theorem dX8_has_8 : decode cX8_has 8 = .ok (.iconst 1, 1) := by decide +kernel
theorem dX8_has_9 : decode cX8_has 9 = .ok (.goto 4, 3) := by decide +kernel
theorem dX8_has_12 : decode cX8_has 12 = .ok (.iconst 0, 1) := by decide +kernel
theorem dX8_has_13 : decode cX8_has 13 = .ok (.ireturn, 1) := by decide +kernel
theorem s_X8_has : gSt yX8_has cX8_has 2 (some .boolean) 2 := ⟨q2_45, q1_1, ⟨by decide, by decide, by decide +kernel⟩, by decide⟩
theorem stt_X8_has : Cond.static yX8_has ∈ gT := q2_44
def w_X8_has (p0 : Int32) (p1 : Int32) (M : gM) (Q : Int32 → gM → Prop) : Prop := gbr ((((p0 >>> (p1 &&& 31)) &&& 1) : Int32) = 0) (Q 0 M) (Q 1 M)
set_option maxRecDepth 100000 in
set_option maxHeartbeats 4000000 in
theorem k_X8_has {p0 : Int32} {p1 : Int32} {M : gM} {Q : Int32 → gM → Prop} (h : w_X8_has p0 p1 M Q) : gCi gL 0 yX8_has cX8_has 2 .boolean [.inl p0, .inl p1] M Q := by
  refine gCi_of (by decide) gLn (gle rfl) (fun X ok hZ => ?_)
  show gW X 0 [some (.inl p0), some (.inl p1)] [] M
  unfold w_X8_has at h
  refine g_iload_n ok dX8_has_0 rfl rfl ?_
  refine g_iload_n ok dX8_has_1 rfl rfl ?_
  refine g_ishr ok dX8_has_2 ?_
  refine g_iconst (v := 1) ok dX8_has_3 (by decide) ?_
  refine g_iand ok dX8_has_4 ?_
  refine g_if_eq (tgt := 12) ok dX8_has_5 (by decide) (fun z => ?_) (fun z => ?_)
  · have h := h.1 z
    refine g_iconst (v := 0) ok dX8_has_12 (by decide) ?_
    exact g_zret ok hZ dX8_has_13 (by decide) h
  · have h := h.2 z
    refine g_iconst (v := 1) ok dX8_has_8 (by decide) ?_
    refine g_goto (tgt := 13) ok dX8_has_9 (by decide) ?_
    exact g_zret ok hZ dX8_has_13 (by decide) h
theorem dX1_readVertex_0 : decode cX1_readVertex 0 = .ok (.aload_n 0, 1) := by decide +kernel
theorem dX1_readVertex_1 : decode cX1_readVertex 1 = .ok (.getfield 19, 3) := by decide +kernel
theorem dX1_readVertex_4 : decode cX1_readVertex 4 = .ok (.istore_n 3, 1) := by decide +kernel
theorem dX1_readVertex_5 : decode cX1_readVertex 5 = .ok (.aload_n 0, 1) := by decide +kernel
theorem dX1_readVertex_6 : decode cX1_readVertex 6 = .ok (.invokevirtual 54, 3) := by decide +kernel
theorem dX1_readVertex_9 : decode cX1_readVertex 9 = .ok (.istore 4, 2) := by decide +kernel
theorem dX1_readVertex_11 : decode cX1_readVertex 11 = .ok (.iload 4, 2) := by decide +kernel
theorem dX1_readVertex_13 : decode cX1_readVertex 13 = .ok (.iconst (-1), 1) := by decide +kernel
theorem dX1_readVertex_14 : decode cX1_readVertex 14 = .ok (.if_icmp .eq 9, 3) := by decide +kernel
theorem dX1_readVertex_17 : decode cX1_readVertex 17 = .ok (.iload 4, 2) := by decide +kernel
theorem dX1_readVertex_19 : decode cX1_readVertex 19 = .ok (.iload_n 1, 1) := by decide +kernel
theorem dX1_readVertex_20 : decode cX1_readVertex 20 = .ok (.if_icmp .lt 13, 3) := by decide +kernel
theorem dX1_readVertex_23 : decode cX1_readVertex 23 = .ok (.aload_n 0, 1) := by decide +kernel
theorem dX1_readVertex_24 : decode cX1_readVertex 24 = .ok (.aload_n 0, 1) := by decide +kernel
theorem dX1_readVertex_25 : decode cX1_readVertex 25 = .ok (.getfield 19, 3) := by decide +kernel
theorem dX1_readVertex_28 : decode cX1_readVertex 28 = .ok (.putfield 22, 3) := by decide +kernel
theorem dX1_readVertex_31 : decode cX1_readVertex 31 = .ok (.iconst (-1), 1) := by decide +kernel
theorem dX1_readVertex_32 : decode cX1_readVertex 32 = .ok (.ireturn, 1) := by decide +kernel
theorem dX1_readVertex_33 : decode cX1_readVertex 33 = .ok (.aload_n 0, 1) := by decide +kernel
theorem dX1_readVertex_34 : decode cX1_readVertex 34 = .ok (.dup, 1) := by decide +kernel
theorem dX1_readVertex_35 : decode cX1_readVertex 35 = .ok (.getfield 19, 3) := by decide +kernel
theorem dX1_readVertex_38 : decode cX1_readVertex 38 = .ok (.iconst 1, 1) := by decide +kernel
theorem dX1_readVertex_39 : decode cX1_readVertex 39 = .ok (.iadd, 1) := by decide +kernel
theorem dX1_readVertex_40 : decode cX1_readVertex 40 = .ok (.putfield 19, 3) := by decide +kernel
theorem dX1_readVertex_43 : decode cX1_readVertex 43 = .ok (.aload_n 0, 1) := by decide +kernel
theorem dX1_readVertex_44 : decode cX1_readVertex 44 = .ok (.invokevirtual 54, 3) := by decide +kernel
theorem dX1_readVertex_47 : decode cX1_readVertex 47 = .ok (.istore 5, 2) := by decide +kernel
theorem dX1_readVertex_49 : decode cX1_readVertex 49 = .ok (.iload 4, 2) := by decide +kernel
theorem dX1_readVertex_51 : decode cX1_readVertex 51 = .ok (.ifCond .eq 45, 3) := by decide +kernel
theorem dX1_readVertex_54 : decode cX1_readVertex 54 = .ok (.iload 5, 2) := by decide +kernel
theorem dX1_readVertex_56 : decode cX1_readVertex 56 = .ok (.iconst (-1), 1) := by decide +kernel
theorem dX1_readVertex_57 : decode cX1_readVertex 57 = .ok (.if_icmp .eq 39, 3) := by decide +kernel
theorem dX1_readVertex_60 : decode cX1_readVertex 60 = .ok (.bipush 10, 2) := by decide +kernel
theorem dX1_readVertex_62 : decode cX1_readVertex 62 = .ok (.iload 4, 2) := by decide +kernel
theorem dX1_readVertex_64 : decode cX1_readVertex 64 = .ok (.imul, 1) := by decide +kernel
theorem dX1_readVertex_65 : decode cX1_readVertex 65 = .ok (.iload 5, 2) := by decide +kernel
theorem dX1_readVertex_67 : decode cX1_readVertex 67 = .ok (.iadd, 1) := by decide +kernel
theorem dX1_readVertex_68 : decode cX1_readVertex 68 = .ok (.istore 4, 2) := by decide +kernel
theorem dX1_readVertex_70 : decode cX1_readVertex 70 = .ok (.iload 4, 2) := by decide +kernel
theorem dX1_readVertex_72 : decode cX1_readVertex 72 = .ok (.iload_n 1, 1) := by decide +kernel
theorem dX1_readVertex_73 : decode cX1_readVertex 73 = .ok (.if_icmp .lt 13, 3) := by decide +kernel
theorem dX1_readVertex_76 : decode cX1_readVertex 76 = .ok (.aload_n 0, 1) := by decide +kernel
theorem dX1_readVertex_77 : decode cX1_readVertex 77 = .ok (.aload_n 0, 1) := by decide +kernel
theorem dX1_readVertex_78 : decode cX1_readVertex 78 = .ok (.getfield 19, 3) := by decide +kernel
theorem dX1_readVertex_81 : decode cX1_readVertex 81 = .ok (.putfield 22, 3) := by decide +kernel
theorem dX1_readVertex_84 : decode cX1_readVertex 84 = .ok (.iconst (-1), 1) := by decide +kernel
theorem dX1_readVertex_85 : decode cX1_readVertex 85 = .ok (.ireturn, 1) := by decide +kernel
theorem dX1_readVertex_86 : decode cX1_readVertex 86 = .ok (.aload_n 0, 1) := by decide +kernel
theorem dX1_readVertex_87 : decode cX1_readVertex 87 = .ok (.dup, 1) := by decide +kernel
theorem dX1_readVertex_88 : decode cX1_readVertex 88 = .ok (.getfield 19, 3) := by decide +kernel
theorem dX1_readVertex_91 : decode cX1_readVertex 91 = .ok (.iconst 1, 1) := by decide +kernel
theorem dX1_readVertex_92 : decode cX1_readVertex 92 = .ok (.iadd, 1) := by decide +kernel
theorem dX1_readVertex_93 : decode cX1_readVertex 93 = .ok (.putfield 19, 3) := by decide +kernel
theorem dX1_readVertex_96 : decode cX1_readVertex 96 = .ok (.iload_n 2, 1) := by decide +kernel
theorem dX1_readVertex_97 : decode cX1_readVertex 97 = .ok (.iload 4, 2) := by decide +kernel
theorem dX1_readVertex_99 : decode cX1_readVertex 99 = .ok (.invokestatic 58, 3) := by decide +kernel
theorem dX1_readVertex_102 : decode cX1_readVertex 102 = .ok (.ifCond .eq 10, 3) := by decide +kernel
theorem dX1_readVertex_105 : decode cX1_readVertex 105 = .ok (.aload_n 0, 1) := by decide +kernel
theorem dX1_readVertex_106 : decode cX1_readVertex 106 = .ok (.iload_n 3, 1) := by decide +kernel
theorem dX1_readVertex_107 : decode cX1_readVertex 107 = .ok (.putfield 22, 3) := by decide +kernel
theorem dX1_readVertex_110 : decode cX1_readVertex 110 = .ok (.iconst (-1), 1) := by decide +kernel
theorem dX1_readVertex_111 : decode cX1_readVertex 111 = .ok (.ireturn, 1) := by decide +kernel
theorem dX1_readVertex_112 : decode cX1_readVertex 112 = .ok (.iload 4, 2) := by decide +kernel
theorem dX1_readVertex_114 : decode cX1_readVertex 114 = .ok (.ireturn, 1) := by decide +kernel
theorem s_X1_readVertex : gSt yX1_readVertex cX1_readVertex 6 (some .int) 2 := ⟨q3_212, q1_9, ⟨by decide, by decide, by decide +kernel⟩, by decide⟩
theorem sel_X1_readVertex : Cond.selects yX1_readVertex.cls yX1_readVertex yX1_readVertex ∈ gT := qs_15
theorem ins_X1_readVertex : Cond.instanceMethod yX1_readVertex ∈ gT := q3_211
def w_X1_readVertex (p1 : Int32) (p2 : Int32) (M : gM) (Q : Int32 → gM → Prop) : Prop := ∀ x1 : Int32, x1 = (M 8 2) → (w_X1_digit M (fun (r3 : Int32) (M2 : gM) => gbr ((r3 : Int32) = (-1)) (∀ M4 : gM, M4 = gst M2 8 3 (M2 8 2) → (Q (-1) M4)) (gbr ((r3 : Int32) < p1) (∀ M5 : gM, M5 = gst M2 8 2 ((M2 8 2) + 1) → (w_X1_digit M5 (fun (r7 : Int32) (M6 : gM) => gbr ((r3 : Int32) = 0) (w_X8_has p2 r3 M6 (fun (r9 : Int32) (M8 : gM) => gbr ((r9 : Int32) = 0) (Q r3 M8) (∀ M10 : gM, M10 = gst M8 8 3 x1 → (Q (-1) M10)))) (gbr ((r7 : Int32) = (-1)) (w_X8_has p2 r3 M6 (fun (r12 : Int32) (M11 : gM) => gbr ((r12 : Int32) = 0) (Q r3 M11) (∀ M13 : gM, M13 = gst M11 8 3 x1 → (Q (-1) M13)))) (∀ x14 : Int32, x14 = ((10 * r3) + r7) → (gbr ((x14 : Int32) < p1) (∀ M15 : gM, M15 = gst M6 8 2 ((M6 8 2) + 1) → (w_X8_has p2 x14 M15 (fun (r17 : Int32) (M16 : gM) => gbr ((r17 : Int32) = 0) (Q x14 M16) (∀ M18 : gM, M18 = gst M16 8 3 x1 → (Q (-1) M18))))) (∀ M19 : gM, M19 = gst M6 8 3 (M6 8 2) → (Q (-1) M19)))))))) (∀ M20 : gM, M20 = gst M2 8 3 (M2 8 2) → (Q (-1) M20)))))
set_option maxRecDepth 100000 in
set_option maxHeartbeats 4000000 in
theorem k_X1_readVertex {p1 : Int32} {p2 : Int32} {M : gM} {Q : Int32 → gM → Prop} (h : w_X1_readVertex p1 p2 M Q) : gCi gL 1 yX1_readVertex cX1_readVertex 6 .int [.inr 8, .inl p1, .inl p2] M Q := by
  refine gCi_of (by decide) gLn (gle rfl) (fun X ok hZ => ?_)
  show gW X 0 [some (.inr 8), some (.inl p1), some (.inl p2), none, none, none] [] M
  unfold w_X1_readVertex at h
  refine g_aload_n ok dX1_readVertex_0 rfl rfl ?_
  refine g_get (w := .inl (M 8 2)) ok f8_2 (gLm (by decide)) q1_236 dX1_readVertex_1 rfl ?_
  refine g_nm (fun x1 ex1 => ?_)
  have h := h x1 ex1
  refine g_istore_n (lv1 := [some (.inr 8), some (.inl p1), some (.inl p2), some (.inl x1), none, none]) ok dX1_readVertex_4 rfl (glt rfl) rfl ?_
  refine g_aload_n ok dX1_readVertex_5 rfl rfl ?_
  refine g_callVi (st := []) (as := []) ok rfl (k_X1_digit h) s_X1_digit rfl (by decide) (gLm (by decide)) cl8 sel_X1_digit ins_X1_digit (gle rfl) rfl q3_213 dX1_readVertex_6 ?_
  intro r3 M2 h
  refine g_istore (lv1 := [some (.inr 8), some (.inl p1), some (.inl p2), some (.inl x1), some (.inl r3), none]) ok dX1_readVertex_9 (glt rfl) rfl ?_
  refine g_iload ok dX1_readVertex_11 rfl ?_
  refine g_iconst (v := (-1)) ok dX1_readVertex_13 (by decide) ?_
  refine g_icmp_eq (tgt := 23) ok dX1_readVertex_14 (by decide) (fun z => ?_) (fun z => ?_)
  · have h := h.1 z
    refine g_aload_n ok dX1_readVertex_23 rfl rfl ?_
    refine g_aload_n ok dX1_readVertex_24 rfl rfl ?_
    refine g_get (w := .inl (M2 8 2)) ok f8_2 (gLm (by decide)) q1_236 dX1_readVertex_25 rfl ?_
    refine g_put ok f8_3p (gLm (by decide)) q1_237 dX1_readVertex_28 rfl rfl (g_mem (fun M4 eM4 => ?_))
    have h := h M4 eM4
    refine g_iconst (v := (-1)) ok dX1_readVertex_31 (by decide) ?_
    exact g_iret ok hZ dX1_readVertex_32 h
  · have h := h.2 z
    refine g_iload ok dX1_readVertex_17 rfl ?_
    refine g_iload_n ok dX1_readVertex_19 rfl rfl ?_
    refine g_icmp_lt (tgt := 33) ok dX1_readVertex_20 (by decide) (fun z => ?_) (fun z => ?_)
    · have h := h.1 z
      refine g_aload_n ok dX1_readVertex_33 rfl rfl ?_
      refine g_dup ok dX1_readVertex_34 ?_
      refine g_get (w := .inl (M2 8 2)) ok f8_2 (gLm (by decide)) q1_236 dX1_readVertex_35 rfl ?_
      refine g_iconst (v := 1) ok dX1_readVertex_38 (by decide) ?_
      refine g_iadd ok dX1_readVertex_39 ?_
      refine g_put ok f8_2p (gLm (by decide)) q1_236 dX1_readVertex_40 rfl rfl (g_mem (fun M5 eM5 => ?_))
      have h := h M5 eM5
      refine g_aload_n ok dX1_readVertex_43 rfl rfl ?_
      refine g_callVi (st := []) (as := []) ok rfl (k_X1_digit h) s_X1_digit rfl (by decide) (gLm (by decide)) cl8 sel_X1_digit ins_X1_digit (gle rfl) rfl q3_213 dX1_readVertex_44 ?_
      intro r7 M6 h
      refine g_istore (lv1 := [some (.inr 8), some (.inl p1), some (.inl p2), some (.inl x1), some (.inl r3), some (.inl r7)]) ok dX1_readVertex_47 (glt rfl) rfl ?_
      refine g_iload ok dX1_readVertex_49 rfl ?_
      refine g_if_eq (tgt := 96) ok dX1_readVertex_51 (by decide) (fun z => ?_) (fun z => ?_)
      · have h := h.1 z
        refine g_iload_n ok dX1_readVertex_96 rfl rfl ?_
        refine g_iload ok dX1_readVertex_97 rfl ?_
        refine g_callNi (st := []) (as := [.inl p2, .inl r3]) ok rfl (k_X8_has h) s_X8_has rfl (by decide) stt_X8_has (gle rfl) rfl (List.mem_of_getElem? (i := 0) rfl) dX1_readVertex_99 ?_
        intro r9 M8 h
        refine g_if_eq (tgt := 112) ok dX1_readVertex_102 (by decide) (fun z => ?_) (fun z => ?_)
        · have h := h.1 z
          refine g_iload ok dX1_readVertex_112 rfl ?_
          exact g_iret ok hZ dX1_readVertex_114 h
        · have h := h.2 z
          refine g_aload_n ok dX1_readVertex_105 rfl rfl ?_
          refine g_iload_n ok dX1_readVertex_106 rfl rfl ?_
          refine g_put ok f8_3p (gLm (by decide)) q1_237 dX1_readVertex_107 rfl rfl (g_mem (fun M10 eM10 => ?_))
          have h := h M10 eM10
          refine g_iconst (v := (-1)) ok dX1_readVertex_110 (by decide) ?_
          exact g_iret ok hZ dX1_readVertex_111 h
      · have h := h.2 z
        refine g_iload ok dX1_readVertex_54 rfl ?_
        refine g_iconst (v := (-1)) ok dX1_readVertex_56 (by decide) ?_
        refine g_icmp_eq (tgt := 96) ok dX1_readVertex_57 (by decide) (fun z => ?_) (fun z => ?_)
        · have h := h.1 z
          refine g_iload_n ok dX1_readVertex_96 rfl rfl ?_
          refine g_iload ok dX1_readVertex_97 rfl ?_
          refine g_callNi (st := []) (as := [.inl p2, .inl r3]) ok rfl (k_X8_has h) s_X8_has rfl (by decide) stt_X8_has (gle rfl) rfl (List.mem_of_getElem? (i := 0) rfl) dX1_readVertex_99 ?_
          intro r12 M11 h
          refine g_if_eq (tgt := 112) ok dX1_readVertex_102 (by decide) (fun z => ?_) (fun z => ?_)
          · have h := h.1 z
            refine g_iload ok dX1_readVertex_112 rfl ?_
            exact g_iret ok hZ dX1_readVertex_114 h
          · have h := h.2 z
            refine g_aload_n ok dX1_readVertex_105 rfl rfl ?_
            refine g_iload_n ok dX1_readVertex_106 rfl rfl ?_
            refine g_put ok f8_3p (gLm (by decide)) q1_237 dX1_readVertex_107 rfl rfl (g_mem (fun M13 eM13 => ?_))
            have h := h M13 eM13
            refine g_iconst (v := (-1)) ok dX1_readVertex_110 (by decide) ?_
            exact g_iret ok hZ dX1_readVertex_111 h
        · have h := h.2 z
          refine g_bipush (v := 10) ok dX1_readVertex_60 (by decide) ?_
          refine g_iload ok dX1_readVertex_62 rfl ?_
          refine g_imul ok dX1_readVertex_64 ?_
          refine g_iload ok dX1_readVertex_65 rfl ?_
          refine g_iadd ok dX1_readVertex_67 ?_
          refine g_nm (fun x14 ex14 => ?_)
          have h := h x14 ex14
          refine g_istore (lv1 := [some (.inr 8), some (.inl p1), some (.inl p2), some (.inl x1), some (.inl x14), some (.inl r7)]) ok dX1_readVertex_68 (glt rfl) rfl ?_
          refine g_iload ok dX1_readVertex_70 rfl ?_
          refine g_iload_n ok dX1_readVertex_72 rfl rfl ?_
          refine g_icmp_lt (tgt := 86) ok dX1_readVertex_73 (by decide) (fun z => ?_) (fun z => ?_)
          · have h := h.1 z
            refine g_aload_n ok dX1_readVertex_86 rfl rfl ?_
            refine g_dup ok dX1_readVertex_87 ?_
            refine g_get (w := .inl (M6 8 2)) ok f8_2 (gLm (by decide)) q1_236 dX1_readVertex_88 rfl ?_
            refine g_iconst (v := 1) ok dX1_readVertex_91 (by decide) ?_
            refine g_iadd ok dX1_readVertex_92 ?_
            refine g_put ok f8_2p (gLm (by decide)) q1_236 dX1_readVertex_93 rfl rfl (g_mem (fun M15 eM15 => ?_))
            have h := h M15 eM15
            refine g_iload_n ok dX1_readVertex_96 rfl rfl ?_
            refine g_iload ok dX1_readVertex_97 rfl ?_
            refine g_callNi (st := []) (as := [.inl p2, .inl x14]) ok rfl (k_X8_has h) s_X8_has rfl (by decide) stt_X8_has (gle rfl) rfl (List.mem_of_getElem? (i := 0) rfl) dX1_readVertex_99 ?_
            intro r17 M16 h
            refine g_if_eq (tgt := 112) ok dX1_readVertex_102 (by decide) (fun z => ?_) (fun z => ?_)
            · have h := h.1 z
              refine g_iload ok dX1_readVertex_112 rfl ?_
              exact g_iret ok hZ dX1_readVertex_114 h
            · have h := h.2 z
              refine g_aload_n ok dX1_readVertex_105 rfl rfl ?_
              refine g_iload_n ok dX1_readVertex_106 rfl rfl ?_
              refine g_put ok f8_3p (gLm (by decide)) q1_237 dX1_readVertex_107 rfl rfl (g_mem (fun M18 eM18 => ?_))
              have h := h M18 eM18
              refine g_iconst (v := (-1)) ok dX1_readVertex_110 (by decide) ?_
              exact g_iret ok hZ dX1_readVertex_111 h
          · have h := h.2 z
            refine g_aload_n ok dX1_readVertex_76 rfl rfl ?_
            refine g_aload_n ok dX1_readVertex_77 rfl rfl ?_
            refine g_get (w := .inl (M6 8 2)) ok f8_2 (gLm (by decide)) q1_236 dX1_readVertex_78 rfl ?_
            refine g_put ok f8_3p (gLm (by decide)) q1_237 dX1_readVertex_81 rfl rfl (g_mem (fun M19 eM19 => ?_))
            have h := h M19 eM19
            refine g_iconst (v := (-1)) ok dX1_readVertex_84 (by decide) ?_
            exact g_iret ok hZ dX1_readVertex_85 h
    · have h := h.2 z
      refine g_aload_n ok dX1_readVertex_23 rfl rfl ?_
      refine g_aload_n ok dX1_readVertex_24 rfl rfl ?_
      refine g_get (w := .inl (M2 8 2)) ok f8_2 (gLm (by decide)) q1_236 dX1_readVertex_25 rfl ?_
      refine g_put ok f8_3p (gLm (by decide)) q1_237 dX1_readVertex_28 rfl rfl (g_mem (fun M20 eM20 => ?_))
      have h := h M20 eM20
      refine g_iconst (v := (-1)) ok dX1_readVertex_31 (by decide) ?_
      exact g_iret ok hZ dX1_readVertex_32 h
theorem dX1_skips_0 : decode cX1_skips 0 = .ok (.aload_n 0, 1) := by decide +kernel
theorem dX1_skips_1 : decode cX1_skips 1 = .ok (.getfield 19, 3) := by decide +kernel
theorem dX1_skips_4 : decode cX1_skips 4 = .ok (.aload_n 0, 1) := by decide +kernel
theorem dX1_skips_5 : decode cX1_skips 5 = .ok (.getfield 15, 3) := by decide +kernel
theorem dX1_skips_8 : decode cX1_skips 8 = .ok (.if_icmp .ge 16, 3) := by decide +kernel
theorem dX1_skips_11 : decode cX1_skips 11 = .ok (.aload_n 0, 1) := by decide +kernel
theorem dX1_skips_12 : decode cX1_skips 12 = .ok (.getfield 9, 3) := by decide +kernel
theorem dX1_skips_15 : decode cX1_skips 15 = .ok (.aload_n 0, 1) := by decide +kernel
theorem dX1_skips_16 : decode cX1_skips 16 = .ok (.getfield 19, 3) := by decide +kernel
theorem dX1_skips_19 : decode cX1_skips 19 = .ok (.caload, 1) := by decide +kernel
theorem dX1_skips_20 : decode cX1_skips 20 = .ok (.iload_n 1, 1) := by decide +kernel
theorem dX1_skips_21 : decode cX1_skips 21 = .ok (.if_icmp .eq 5, 3) := by decide +kernel
theorem dX1_skips_24 : decode cX1_skips 24 = .ok (.iconst 0, 1) := by decide +kernel
theorem dX1_skips_25 : decode cX1_skips 25 = .ok (.ireturn, 1) := by decide +kernel
theorem dX1_skips_26 : decode cX1_skips 26 = .ok (.aload_n 0, 1) := by decide +kernel
theorem dX1_skips_27 : decode cX1_skips 27 = .ok (.dup, 1) := by decide +kernel
theorem dX1_skips_28 : decode cX1_skips 28 = .ok (.getfield 19, 3) := by decide +kernel
theorem dX1_skips_31 : decode cX1_skips 31 = .ok (.iconst 1, 1) := by decide +kernel
theorem dX1_skips_32 : decode cX1_skips 32 = .ok (.iadd, 1) := by decide +kernel
theorem dX1_skips_33 : decode cX1_skips 33 = .ok (.putfield 19, 3) := by decide +kernel
theorem dX1_skips_36 : decode cX1_skips 36 = .ok (.iconst 1, 1) := by decide +kernel
theorem dX1_skips_37 : decode cX1_skips 37 = .ok (.ireturn, 1) := by decide +kernel
theorem s_X1_skips : gSt yX1_skips cX1_skips 2 (some .boolean) 1 := ⟨q3_221, q1_9, ⟨by decide, by decide, by decide +kernel⟩, by decide⟩
theorem sel_X1_skips : Cond.selects yX1_skips.cls yX1_skips yX1_skips ∈ gT := qs_17
theorem ins_X1_skips : Cond.instanceMethod yX1_skips ∈ gT := q3_220
def w_X1_skips (p1 : Int32) (M : gM) (Q : Int32 → gM → Prop) : Prop := gbr (((M 8 2) : Int32) < (M 8 0)) (vp_in (M 8 2) 100 ∧ (gbr (((M 41 (Int32.toNatClampNeg (M 8 2))) : Int32) = p1) (∀ M1 : gM, M1 = gst M 8 2 ((M 8 2) + 1) → (Q 1 M1)) (Q 0 M))) (Q 0 M)
set_option maxRecDepth 100000 in
set_option maxHeartbeats 4000000 in
theorem k_X1_skips {p1 : Int32} {M : gM} {Q : Int32 → gM → Prop} (h : w_X1_skips p1 M Q) : gCi gL 0 yX1_skips cX1_skips 2 .boolean [.inr 8, .inl p1] M Q := by
  refine gCi_of (by decide) gLn (gle rfl) (fun X ok hZ => ?_)
  show gW X 0 [some (.inr 8), some (.inl p1)] [] M
  unfold w_X1_skips at h
  refine g_aload_n ok dX1_skips_0 rfl rfl ?_
  refine g_get (w := .inl (M 8 2)) ok f8_2 (gLm (by decide)) q1_236 dX1_skips_1 rfl ?_
  refine g_aload_n ok dX1_skips_4 rfl rfl ?_
  refine g_get (w := .inl (M 8 0)) ok f8_0 (gLm (by decide)) q1_233 dX1_skips_5 rfl ?_
  refine g_icmp_ge (tgt := 24) ok dX1_skips_8 (by decide) (fun z => ?_) (fun z => ?_)
  · have h := h.2 z
    refine g_iconst (v := 0) ok dX1_skips_24 (by decide) ?_
    exact g_zret ok hZ dX1_skips_25 (by decide) h
  · have h := h.1 z
    refine g_aload_n ok dX1_skips_11 rfl rfl ?_
    refine g_get (w := .inr 41) ok f8_1 (gLm (by decide)) q1_235 dX1_skips_12 rfl ?_
    refine g_aload_n ok dX1_skips_15 rfl rfl ?_
    refine g_get (w := .inl (M 8 2)) ok f8_2 (gLm (by decide)) q1_236 dX1_skips_16 rfl ?_
    have hb := h.1
    have h := h.2
    refine g_cald (w := (M 41 (Int32.toNatClampNeg (M 8 2)))) ok a41 (gLm (by decide)) dX1_skips_19 hb rfl ?_
    refine g_iload_n ok dX1_skips_20 rfl rfl ?_
    refine g_icmp_eq (tgt := 26) ok dX1_skips_21 (by decide) (fun z => ?_) (fun z => ?_)
    · have h := h.1 z
      refine g_aload_n ok dX1_skips_26 rfl rfl ?_
      refine g_dup ok dX1_skips_27 ?_
      refine g_get (w := .inl (M 8 2)) ok f8_2 (gLm (by decide)) q1_236 dX1_skips_28 rfl ?_
      refine g_iconst (v := 1) ok dX1_skips_31 (by decide) ?_
      refine g_iadd ok dX1_skips_32 ?_
      refine g_put ok f8_2p (gLm (by decide)) q1_236 dX1_skips_33 rfl rfl (g_mem (fun M1 eM1 => ?_))
      have h := h M1 eM1
      refine g_iconst (v := 1) ok dX1_skips_36 (by decide) ?_
      exact g_zret ok hZ dX1_skips_37 (by decide) h
    · have h := h.2 z
      refine g_iconst (v := 0) ok dX1_skips_24 (by decide) ?_
      exact g_zret ok hZ dX1_skips_25 (by decide) h
theorem dX5_contains_0 : decode cX5_contains 0 = .ok (.iconst 0, 1) := by decide +kernel
theorem dX5_contains_1 : decode cX5_contains 1 = .ok (.istore_n 2, 1) := by decide +kernel
theorem dX5_contains_2 : decode cX5_contains 2 = .ok (.iload_n 2, 1) := by decide +kernel
theorem dX5_contains_3 : decode cX5_contains 3 = .ok (.aload_n 0, 1) := by decide +kernel
theorem dX5_contains_4 : decode cX5_contains 4 = .ok (.getfield 29, 3) := by decide +kernel
theorem dX5_contains_7 : decode cX5_contains 7 = .ok (.if_icmp .ge 21, 3) := by decide +kernel
theorem dX5_contains_10 : decode cX5_contains 10 = .ok (.aload_n 0, 1) := by decide +kernel
theorem dX5_contains_11 : decode cX5_contains 11 = .ok (.getfield 15, 3) := by decide +kernel
theorem dX5_contains_14 : decode cX5_contains 14 = .ok (.iload_n 2, 1) := by decide +kernel
theorem dX5_contains_15 : decode cX5_contains 15 = .ok (.iaload, 1) := by decide +kernel
theorem dX5_contains_16 : decode cX5_contains 16 = .ok (.iload_n 1, 1) := by decide +kernel
theorem dX5_contains_17 : decode cX5_contains 17 = .ok (.if_icmp .ne 5, 3) := by decide +kernel
theorem dX5_contains_20 : decode cX5_contains 20 = .ok (.iconst 1, 1) := by decide +kernel
theorem dX5_contains_21 : decode cX5_contains 21 = .ok (.ireturn, 1) := by decide +kernel
theorem dX5_contains_22 : decode cX5_contains 22 = .ok (.iinc 2 1, 3) := by decide +kernel
theorem dX5_contains_25 : decode cX5_contains 25 = .ok (.goto (-23), 3) := by decide +kernel
theorem dX5_contains_28 : decode cX5_contains 28 = .ok (.iconst 0, 1) := by decide +kernel
theorem dX5_contains_29 : decode cX5_contains 29 = .ok (.ireturn, 1) := by decide +kernel
theorem s_X5_contains : gSt yX5_contains cX5_contains 3 (some .boolean) 1 := ⟨q2_57, q1_2, ⟨by decide, by decide, by decide +kernel⟩, by decide⟩
theorem sel_X5_contains : Cond.selects yX5_contains.cls yX5_contains yX5_contains ∈ gT := q2_56
theorem ins_X5_contains : Cond.instanceMethod yX5_contains ∈ gT := q2_55
def w_X5_contains_L2 (Q : Int32 → gM → Prop) (K28 : Int32 → gM → Prop) (K20 : Int32 → gM → Prop) (v1 : Int32) : Nat → Int32 → gM → Prop
  | 0, _, _ => False
  | n + 1, v2, M => gbr ((v2 : Int32) < (M 1 1)) (vp_in v2 24 ∧ (gbr (((M 9 (Int32.toNatClampNeg v2)) : Int32) = v1) (K20 (v2) M) (∀ x1 : Int32, x1 = (v2 + 1) → (w_X5_contains_L2 Q K28 K20 v1 n (x1) M)))) (K28 (v2) M)
def w_X5_contains (p1 : Int32) (M : gM) (Q : Int32 → gM → Prop) : Prop := ∃ nf, w_X5_contains_L2 Q (fun (x2 : Int32) (M3 : gM) => Q 0 M3) (fun (x4 : Int32) (M5 : gM) => Q 1 M5) p1 nf 0 M
set_option maxRecDepth 100000 in
set_option maxHeartbeats 4000000 in
theorem w_X5_contains_L2_w {X : gX} (ok : gOk X cX5_contains yX5_contains.cls 0 3 (some .boolean) gL) {Q : Int32 → gM → Prop} (hZ : gZi X Q) {K28 : Int32 → gM → Prop} {K20 : Int32 → gM → Prop} (v1 : Int32) (hK28 : ∀ (v2 : Int32)  (M : gM), K28 v2 M → gW X 28 [some (.inr 1), some (.inl v1), some (.inl v2)] [] M) (hK20 : ∀ (v2 : Int32)  (M : gM), K20 v2 M → gW X 20 [some (.inr 1), some (.inl v1), some (.inl v2)] [] M) : ∀ (n : Nat) (v2 : Int32)  (M : gM), w_X5_contains_L2 Q K28 K20 v1 n v2 M → gW X 2 [some (.inr 1), some (.inl v1), some (.inl v2)] [] M
  | 0, _, _, h => h.elim
  | n + 1, v2, M, h => by
    have ih := fun (v2 : Int32)  (M : gM) h => w_X5_contains_L2_w ok hZ v1 hK28 hK20 n v2  M h
    rw [w_X5_contains_L2.eq_2] at h
    refine g_iload_n ok dX5_contains_2 rfl rfl ?_
    refine g_aload_n ok dX5_contains_3 rfl rfl ?_
    refine g_get (w := .inl (M 1 1)) ok f1_1 (gLm (by decide)) q1_62 dX5_contains_4 rfl ?_
    refine g_icmp_ge (tgt := 28) ok dX5_contains_7 (by decide) (fun z => ?_) (fun z => ?_)
    · have h := h.2 z
      exact hK28 (v2) M h
    · have h := h.1 z
      refine g_aload_n ok dX5_contains_10 rfl rfl ?_
      refine g_get (w := .inr 9) ok f1_2 (gLm (by decide)) q1_66 dX5_contains_11 rfl ?_
      refine g_iload_n ok dX5_contains_14 rfl rfl ?_
      have hb := h.1
      have h := h.2
      refine g_iald (w := (M 9 (Int32.toNatClampNeg v2))) ok a9 (gLm (by decide)) dX5_contains_15 hb rfl ?_
      refine g_iload_n ok dX5_contains_16 rfl rfl ?_
      refine g_icmp_ne (tgt := 22) ok dX5_contains_17 (by decide) (fun z => ?_) (fun z => ?_)
      · have h := h.2 z
        obtain ⟨x1, ex1⟩ : ∃ y : Int32, y = (v2 + 1) := ⟨_, rfl⟩
        have h := h x1 ex1
        refine g_iinc (v := x1) (lv1 := [some (.inr 1), some (.inl v1), some (.inl x1)]) ok dX5_contains_22 rfl (by rw [ex1]; rfl) rfl ?_
        refine g_goto (tgt := 2) ok dX5_contains_25 (by decide) ?_
        exact ih (x1) M h
      · have h := h.1 z
        exact hK20 (v2) M h
set_option maxRecDepth 100000 in
set_option maxHeartbeats 4000000 in
theorem k_X5_contains {p1 : Int32} {M : gM} {Q : Int32 → gM → Prop} (h : w_X5_contains p1 M Q) : gCi gL 0 yX5_contains cX5_contains 3 .boolean [.inr 1, .inl p1] M Q := by
  refine gCi_of (by decide) gLn (gle rfl) (fun X ok hZ => ?_)
  show gW X 0 [some (.inr 1), some (.inl p1), none] [] M
  unfold w_X5_contains at h
  refine g_iconst (v := 0) ok dX5_contains_0 (by decide) ?_
  refine g_istore_n (lv1 := [some (.inr 1), some (.inl p1), some (.inl 0)]) ok dX5_contains_1 rfl (glt rfl) rfl ?_
  obtain ⟨nf, h⟩ := h
  refine w_X5_contains_L2_w ok hZ p1 ?_ ?_ nf 0  M h
  · intro x2  M3 h
    refine g_iconst (v := 0) ok dX5_contains_28 (by decide) ?_
    exact g_zret ok hZ dX5_contains_29 (by decide) h
  · intro x4  M5 h
    refine g_iconst (v := 1) ok dX5_contains_20 (by decide) ?_
    exact g_zret ok hZ dX5_contains_21 (by decide) h
theorem dX5_append_0 : decode cX5_append 0 = .ok (.aload_n 0, 1) := by decide +kernel
theorem dX5_append_1 : decode cX5_append 1 = .ok (.invokevirtual 38, 3) := by decide +kernel
theorem dX5_append_4 : decode cX5_append 4 = .ok (.ifCond .ne 23, 3) := by decide +kernel
theorem dX5_append_7 : decode cX5_append 7 = .ok (.aload_n 0, 1) := by decide +kernel
theorem dX5_append_8 : decode cX5_append 8 = .ok (.getfield 15, 3) := by decide +kernel
theorem dX5_append_11 : decode cX5_append 11 = .ok (.aload_n 0, 1) := by decide +kernel
theorem dX5_append_12 : decode cX5_append 12 = .ok (.getfield 29, 3) := by decide +kernel
theorem dX5_append_15 : decode cX5_append 15 = .ok (.iload_n 1, 1) := by decide +kernel
theorem dX5_append_16 : decode cX5_append 16 = .ok (.iastore, 1) := by decide +kernel
theorem dX5_append_17 : decode cX5_append 17 = .ok (.aload_n 0, 1) := by decide +kernel
theorem dX5_append_18 : decode cX5_append 18 = .ok (.dup, 1) := by decide +kernel
theorem dX5_append_19 : decode cX5_append 19 = .ok (.getfield 29, 3) := by decide +kernel
theorem dX5_append_22 : decode cX5_append 22 = .ok (.iconst 1, 1) := by decide +kernel
theorem dX5_append_23 : decode cX5_append 23 = .ok (.iadd, 1) := by decide +kernel
theorem dX5_append_24 : decode cX5_append 24 = .ok (.putfield 29, 3) := by decide +kernel
theorem dX5_append_27 : decode cX5_append 27 = .ok (.return_, 1) := by decide +kernel
theorem s_X5_append : gSt yX5_append cX5_append 2 none 1 := ⟨q2_65, q1_2, ⟨by decide, by decide, by decide +kernel⟩, by decide⟩
theorem sel_X5_append : Cond.selects yX5_append.cls yX5_append yX5_append ∈ gT := q2_64
theorem ins_X5_append : Cond.instanceMethod yX5_append ∈ gT := q2_63
def w_X5_append (p1 : Int32) (M : gM) (Q : gM → Prop) : Prop := w_X5_isFull M (fun (r2 : Int32) (M1 : gM) => gbr ((r2 : Int32) = 0) (vp_in (M1 1 1) 24 ∧ ∀ M3 : gM, M3 = gst M1 9 (Int32.toNatClampNeg (M1 1 1)) p1 → (∀ M4 : gM, M4 = gst M3 1 1 ((M3 1 1) + 1) → (Q M4))) (Q M1))
set_option maxRecDepth 100000 in
set_option maxHeartbeats 4000000 in
theorem k_X5_append {p1 : Int32} {M : gM} {Q : gM → Prop} (h : w_X5_append p1 M Q) : gCv gL 1 yX5_append cX5_append 2 [.inr 1, .inl p1] M Q := by
  refine gCv_of (by decide) gLn (gle rfl) (fun X ok hZ => ?_)
  show gW X 0 [some (.inr 1), some (.inl p1)] [] M
  unfold w_X5_append at h
  refine g_aload_n ok dX5_append_0 rfl rfl ?_
  refine g_callVi (st := []) (as := []) ok rfl (k_X5_isFull h) s_X5_isFull rfl (by decide) (gLm (by decide)) cl1 sel_X5_isFull ins_X5_isFull (gle rfl) rfl q2_66 dX5_append_1 ?_
  intro r2 M1 h
  refine g_if_ne (tgt := 27) ok dX5_append_4 (by decide) (fun z => ?_) (fun z => ?_)
  · have h := h.2 z
    exact g_vret ok hZ dX5_append_27 h
  · have h := h.1 z
    refine g_aload_n ok dX5_append_7 rfl rfl ?_
    refine g_get (w := .inr 9) ok f1_2 (gLm (by decide)) q1_66 dX5_append_8 rfl ?_
    refine g_aload_n ok dX5_append_11 rfl rfl ?_
    refine g_get (w := .inl (M1 1 1)) ok f1_1 (gLm (by decide)) q1_62 dX5_append_12 rfl ?_
    refine g_iload_n ok dX5_append_15 rfl rfl ?_
    have hb := h.1
    have h := h.2
    refine g_iast ok a9 (gLm (by decide)) dX5_append_16 hb (g_mem (fun M3 eM3 => ?_))
    have h := h M3 eM3
    refine g_aload_n ok dX5_append_17 rfl rfl ?_
    refine g_dup ok dX5_append_18 ?_
    refine g_get (w := .inl (M3 1 1)) ok f1_1 (gLm (by decide)) q1_62 dX5_append_19 rfl ?_
    refine g_iconst (v := 1) ok dX5_append_22 (by decide) ?_
    refine g_iadd ok dX5_append_23 ?_
    refine g_put ok f1_1p (gLm (by decide)) q1_62 dX5_append_24 rfl rfl (g_mem (fun M4 eM4 => ?_))
    have h := h M4 eM4
    exact g_vret ok hZ dX5_append_27 h
theorem dX1_readEdge_0 : decode cX1_readEdge 0 = .ok (.aload_n 1, 1) := by decide +kernel
theorem dX1_readEdge_1 : decode cX1_readEdge 1 = .ok (.invokevirtual 33, 3) := by decide +kernel
theorem dX1_readEdge_4 : decode cX1_readEdge 4 = .ok (.ifCond .eq 12, 3) := by decide +kernel
theorem dX1_readEdge_7 : decode cX1_readEdge 7 = .ok (.aload_n 0, 1) := by decide +kernel
theorem dX1_readEdge_8 : decode cX1_readEdge 8 = .ok (.aload_n 0, 1) := by decide +kernel
theorem dX1_readEdge_9 : decode cX1_readEdge 9 = .ok (.getfield 19, 3) := by decide +kernel
theorem dX1_readEdge_12 : decode cX1_readEdge 12 = .ok (.putfield 22, 3) := by decide +kernel
theorem dX1_readEdge_15 : decode cX1_readEdge 15 = .ok (.return_, 1) := by decide +kernel
theorem dX1_readEdge_16 : decode cX1_readEdge 16 = .ok (.iconst 0, 1) := by decide +kernel
theorem dX1_readEdge_17 : decode cX1_readEdge 17 = .ok (.istore_n 2, 1) := by decide +kernel
theorem dX1_readEdge_18 : decode cX1_readEdge 18 = .ok (.iconst 1, 1) := by decide +kernel
theorem dX1_readEdge_19 : decode cX1_readEdge 19 = .ok (.istore_n 3, 1) := by decide +kernel
theorem dX1_readEdge_20 : decode cX1_readEdge 20 = .ok (.iconst 0, 1) := by decide +kernel
theorem dX1_readEdge_21 : decode cX1_readEdge 21 = .ok (.istore 4, 2) := by decide +kernel
theorem dX1_readEdge_23 : decode cX1_readEdge 23 = .ok (.iload 4, 2) := by decide +kernel
theorem dX1_readEdge_25 : decode cX1_readEdge 25 = .ok (.bipush 100, 2) := by decide +kernel
theorem dX1_readEdge_27 : decode cX1_readEdge 27 = .ok (.if_icmp .gt 45, 3) := by decide +kernel
theorem dX1_readEdge_30 : decode cX1_readEdge 30 = .ok (.iload_n 3, 1) := by decide +kernel
theorem dX1_readEdge_31 : decode cX1_readEdge 31 = .ok (.ifCond .eq 41, 3) := by decide +kernel
theorem dX1_readEdge_34 : decode cX1_readEdge 34 = .ok (.aload_n 0, 1) := by decide +kernel
theorem dX1_readEdge_35 : decode cX1_readEdge 35 = .ok (.aload_n 1, 1) := by decide +kernel
theorem dX1_readEdge_36 : decode cX1_readEdge 36 = .ok (.getfield 39, 3) := by decide +kernel
theorem dX1_readEdge_39 : decode cX1_readEdge 39 = .ok (.iload_n 2, 1) := by decide +kernel
theorem dX1_readEdge_40 : decode cX1_readEdge 40 = .ok (.invokevirtual 42, 3) := by decide +kernel
theorem dX1_readEdge_43 : decode cX1_readEdge 43 = .ok (.istore 5, 2) := by decide +kernel
theorem dX1_readEdge_45 : decode cX1_readEdge 45 = .ok (.iload 5, 2) := by decide +kernel
theorem dX1_readEdge_47 : decode cX1_readEdge 47 = .ok (.iconst (-1), 1) := by decide +kernel
theorem dX1_readEdge_48 : decode cX1_readEdge 48 = .ok (.if_icmp .ne 4, 3) := by decide +kernel
theorem dX1_readEdge_51 : decode cX1_readEdge 51 = .ok (.return_, 1) := by decide +kernel
theorem dX1_readEdge_52 : decode cX1_readEdge 52 = .ok (.iload_n 2, 1) := by decide +kernel
theorem dX1_readEdge_53 : decode cX1_readEdge 53 = .ok (.iconst 1, 1) := by decide +kernel
theorem dX1_readEdge_54 : decode cX1_readEdge 54 = .ok (.iload 5, 2) := by decide +kernel
theorem dX1_readEdge_56 : decode cX1_readEdge 56 = .ok (.ishl, 1) := by decide +kernel
theorem dX1_readEdge_57 : decode cX1_readEdge 57 = .ok (.ior, 1) := by decide +kernel
theorem dX1_readEdge_58 : decode cX1_readEdge 58 = .ok (.istore_n 2, 1) := by decide +kernel
theorem dX1_readEdge_59 : decode cX1_readEdge 59 = .ok (.aload_n 0, 1) := by decide +kernel
theorem dX1_readEdge_60 : decode cX1_readEdge 60 = .ok (.bipush 44, 2) := by decide +kernel
theorem dX1_readEdge_62 : decode cX1_readEdge 62 = .ok (.invokevirtual 29, 3) := by decide +kernel
theorem dX1_readEdge_65 : decode cX1_readEdge 65 = .ok (.istore_n 3, 1) := by decide +kernel
theorem dX1_readEdge_66 : decode cX1_readEdge 66 = .ok (.iinc 4 1, 3) := by decide +kernel
theorem dX1_readEdge_69 : decode cX1_readEdge 69 = .ok (.goto (-46), 3) := by decide +kernel
theorem dX1_readEdge_72 : decode cX1_readEdge 72 = .ok (.aload_n 1, 1) := by decide +kernel
theorem dX1_readEdge_73 : decode cX1_readEdge 73 = .ok (.iload_n 2, 1) := by decide +kernel
theorem dX1_readEdge_74 : decode cX1_readEdge 74 = .ok (.invokevirtual 46, 3) := by decide +kernel
theorem dX1_readEdge_77 : decode cX1_readEdge 77 = .ok (.ifCond .eq 12, 3) := by decide +kernel
theorem dX1_readEdge_80 : decode cX1_readEdge 80 = .ok (.aload_n 0, 1) := by decide +kernel
theorem dX1_readEdge_81 : decode cX1_readEdge 81 = .ok (.aload_n 0, 1) := by decide +kernel
theorem dX1_readEdge_82 : decode cX1_readEdge 82 = .ok (.getfield 19, 3) := by decide +kernel
theorem dX1_readEdge_85 : decode cX1_readEdge 85 = .ok (.putfield 22, 3) := by decide +kernel
theorem dX1_readEdge_88 : decode cX1_readEdge 88 = .ok (.return_, 1) := by decide +kernel
theorem dX1_readEdge_89 : decode cX1_readEdge 89 = .ok (.aload_n 1, 1) := by decide +kernel
theorem dX1_readEdge_90 : decode cX1_readEdge 90 = .ok (.iload_n 2, 1) := by decide +kernel
theorem dX1_readEdge_91 : decode cX1_readEdge 91 = .ok (.invokevirtual 50, 3) := by decide +kernel
theorem dX1_readEdge_94 : decode cX1_readEdge 94 = .ok (.return_, 1) := by decide +kernel
theorem s_X1_readEdge : gSt yX1_readEdge cX1_readEdge 6 none 1 := ⟨q3_207, q1_9, ⟨by decide, by decide, by decide +kernel⟩, by decide⟩
theorem sel_X1_readEdge : Cond.selects yX1_readEdge.cls yX1_readEdge yX1_readEdge ∈ gT := qs_14
theorem ins_X1_readEdge : Cond.instanceMethod yX1_readEdge ∈ gT := q3_206
def w_X1_readEdge_L23 (Q : gM → Prop) (K72 : Int32 → Int32 → Int32 → gM → Prop) (K51 : Int32 → Int32 → Int32 → gM → Prop) : Nat → Int32 → Int32 → Int32 → gM → Prop
  | 0, _, _, _, _ => False
  | n + 1, v2, v3, v4, M => gbr ((100 : Int32) < v4) (K72 (v2) (v3) (v4) M) (gbr ((v3 : Int32) = 0) (K72 (v2) (v3) (v4) M) (w_X1_readVertex (M 1 0) v2 M (fun (r4 : Int32) (M3 : gM) => gbr ((r4 : Int32) = (-1)) (K51 (v2) (v3) (v4) M3) (∀ x5 : Int32, x5 = (v2 ||| (1 <<< (r4 &&& 31))) → (w_X1_skips 44 M3 (fun (r7 : Int32) (M6 : gM) => ∀ x8 : Int32, x8 = (v4 + 1) → (w_X1_readEdge_L23 Q K72 K51 n (x5) (r7) (x8) M6)))))))
def w_X1_readEdge  (M : gM) (Q : gM → Prop) : Prop := w_X5_isFull M (fun (r2 : Int32) (M1 : gM) => gbr ((r2 : Int32) = 0) (∃ nf, w_X1_readEdge_L23 Q (fun (x9 : Int32) (x10 : Int32) (x11 : Int32) (M13 : gM) => w_X5_contains x9 M13 (fun (r15 : Int32) (M14 : gM) => gbr ((r15 : Int32) = 0) (w_X5_append x9 M14 (fun (M16 : gM) => Q M16)) (∀ M18 : gM, M18 = gst M14 8 3 (M14 8 2) → (Q M18)))) (fun (x19 : Int32) (x20 : Int32) (x21 : Int32) (M23 : gM) => Q M23)  nf 0 1 0 M1) (∀ M24 : gM, M24 = gst M1 8 3 (M1 8 2) → (Q M24)))
set_option maxRecDepth 100000 in
set_option maxHeartbeats 4000000 in
theorem w_X1_readEdge_L23_w {X : gX} (ok : gOk X cX1_readEdge yX1_readEdge.cls 2 6 none gL) {Q : gM → Prop} (hZ : gZv X Q) {K72 : Int32 → Int32 → Int32 → gM → Prop} {K51 : Int32 → Int32 → Int32 → gM → Prop}  (hK72 : ∀ (v2 : Int32) (v3 : Int32) (v4 : Int32) (u5 : Option gV) (M : gM), K72 v2 v3 v4 M → gW X 72 [some (.inr 8), some (.inr 1), some (.inl v2), some (.inl v3), some (.inl v4), u5] [] M) (hK51 : ∀ (v2 : Int32) (v3 : Int32) (v4 : Int32) (u5 : Option gV) (M : gM), K51 v2 v3 v4 M → gW X 51 [some (.inr 8), some (.inr 1), some (.inl v2), some (.inl v3), some (.inl v4), u5] [] M) : ∀ (n : Nat) (v2 : Int32) (v3 : Int32) (v4 : Int32) (u5 : Option gV) (M : gM), w_X1_readEdge_L23 Q K72 K51 n v2 v3 v4 M → gW X 23 [some (.inr 8), some (.inr 1), some (.inl v2), some (.inl v3), some (.inl v4), u5] [] M
  | 0, _, _, _, _, _, h => h.elim
  | n + 1, v2, v3, v4, u5, M, h => by
    have ih := fun (v2 : Int32) (v3 : Int32) (v4 : Int32) (u5 : Option gV) (M : gM) h => w_X1_readEdge_L23_w ok hZ  hK72 hK51 n v2 v3 v4 u5 M h
    rw [w_X1_readEdge_L23.eq_2] at h
    refine g_iload ok dX1_readEdge_23 rfl ?_
    refine g_bipush (v := 100) ok dX1_readEdge_25 (by decide) ?_
    refine g_icmp_gt (tgt := 72) ok dX1_readEdge_27 (by decide) (fun z => ?_) (fun z => ?_)
    · have h := h.1 z
      exact hK72 (v2) (v3) (v4) (u5) M h
    · have h := h.2 z
      refine g_iload_n ok dX1_readEdge_30 rfl rfl ?_
      refine g_if_eq (tgt := 72) ok dX1_readEdge_31 (by decide) (fun z => ?_) (fun z => ?_)
      · have h := h.1 z
        exact hK72 (v2) (v3) (v4) (u5) M h
      · have h := h.2 z
        refine g_aload_n ok dX1_readEdge_34 rfl rfl ?_
        refine g_aload_n ok dX1_readEdge_35 rfl rfl ?_
        refine g_get (w := .inl (M 1 0)) ok f1_0 (gLm (by decide)) q1_59 dX1_readEdge_36 rfl ?_
        refine g_iload_n ok dX1_readEdge_39 rfl rfl ?_
        refine g_callVi (st := []) (as := [.inl (M 1 0), .inl v2]) ok rfl (k_X1_readVertex h) s_X1_readVertex rfl (by decide) (gLm (by decide)) cl8 sel_X1_readVertex ins_X1_readVertex (gle rfl) rfl q3_209 dX1_readEdge_40 ?_
        intro r4 M3 h
        refine g_istore (lv1 := [some (.inr 8), some (.inr 1), some (.inl v2), some (.inl v3), some (.inl v4), some (.inl r4)]) ok dX1_readEdge_43 (glt rfl) rfl ?_
        refine g_iload ok dX1_readEdge_45 rfl ?_
        refine g_iconst (v := (-1)) ok dX1_readEdge_47 (by decide) ?_
        refine g_icmp_ne (tgt := 52) ok dX1_readEdge_48 (by decide) (fun z => ?_) (fun z => ?_)
        · have h := h.2 z
          refine g_iload_n ok dX1_readEdge_52 rfl rfl ?_
          refine g_iconst (v := 1) ok dX1_readEdge_53 (by decide) ?_
          refine g_iload ok dX1_readEdge_54 rfl ?_
          refine g_ishl ok dX1_readEdge_56 ?_
          refine g_ior ok dX1_readEdge_57 ?_
          refine g_nm (fun x5 ex5 => ?_)
          have h := h x5 ex5
          refine g_istore_n (lv1 := [some (.inr 8), some (.inr 1), some (.inl x5), some (.inl v3), some (.inl v4), some (.inl r4)]) ok dX1_readEdge_58 rfl (glt rfl) rfl ?_
          refine g_aload_n ok dX1_readEdge_59 rfl rfl ?_
          refine g_bipush (v := 44) ok dX1_readEdge_60 (by decide) ?_
          refine g_callVi (st := []) (as := [.inl 44]) ok rfl (k_X1_skips h) s_X1_skips rfl (by decide) (gLm (by decide)) cl8 sel_X1_skips ins_X1_skips (gle rfl) rfl q3_218 dX1_readEdge_62 ?_
          intro r7 M6 h
          refine g_istore_n (lv1 := [some (.inr 8), some (.inr 1), some (.inl x5), some (.inl r7), some (.inl v4), some (.inl r4)]) ok dX1_readEdge_65 rfl (glt rfl) rfl ?_
          obtain ⟨x8, ex8⟩ : ∃ y : Int32, y = (v4 + 1) := ⟨_, rfl⟩
          have h := h x8 ex8
          refine g_iinc (v := x8) (lv1 := [some (.inr 8), some (.inr 1), some (.inl x5), some (.inl r7), some (.inl x8), some (.inl r4)]) ok dX1_readEdge_66 rfl (by rw [ex8]; rfl) rfl ?_
          refine g_goto (tgt := 23) ok dX1_readEdge_69 (by decide) ?_
          exact ih (x5) (r7) (x8) (some (.inl r4)) M6 h
        · have h := h.1 z
          exact hK51 (v2) (v3) (v4) (some (.inl r4)) M3 h
set_option maxRecDepth 100000 in
set_option maxHeartbeats 4000000 in
theorem k_X1_readEdge  {M : gM} {Q : gM → Prop} (h : w_X1_readEdge  M Q) : gCv gL 2 yX1_readEdge cX1_readEdge 6 [.inr 8, .inr 1] M Q := by
  refine gCv_of (by decide) gLn (gle rfl) (fun X ok hZ => ?_)
  show gW X 0 [some (.inr 8), some (.inr 1), none, none, none, none] [] M
  unfold w_X1_readEdge at h
  refine g_aload_n ok dX1_readEdge_0 rfl rfl ?_
  refine g_callVi (st := []) (as := []) ok rfl (k_X5_isFull h) s_X5_isFull rfl (by decide) (gLm (by decide)) cl1 sel_X5_isFull ins_X5_isFull (gle rfl) rfl q3_208 dX1_readEdge_1 ?_
  intro r2 M1 h
  refine g_if_eq (tgt := 16) ok dX1_readEdge_4 (by decide) (fun z => ?_) (fun z => ?_)
  · have h := h.1 z
    refine g_iconst (v := 0) ok dX1_readEdge_16 (by decide) ?_
    refine g_istore_n (lv1 := [some (.inr 8), some (.inr 1), some (.inl 0), none, none, none]) ok dX1_readEdge_17 rfl (glt rfl) rfl ?_
    refine g_iconst (v := 1) ok dX1_readEdge_18 (by decide) ?_
    refine g_istore_n (lv1 := [some (.inr 8), some (.inr 1), some (.inl 0), some (.inl 1), none, none]) ok dX1_readEdge_19 rfl (glt rfl) rfl ?_
    refine g_iconst (v := 0) ok dX1_readEdge_20 (by decide) ?_
    refine g_istore (lv1 := [some (.inr 8), some (.inr 1), some (.inl 0), some (.inl 1), some (.inl 0), none]) ok dX1_readEdge_21 (glt rfl) rfl ?_
    obtain ⟨nf, h⟩ := h
    refine w_X1_readEdge_L23_w ok hZ  ?_ ?_ nf 0 1 0 (none) M1 h
    · intro x9 x10 x11 u12 M13 h
      refine g_aload_n ok dX1_readEdge_72 rfl rfl ?_
      refine g_iload_n ok dX1_readEdge_73 rfl rfl ?_
      refine g_callVi (st := []) (as := [.inl x9]) ok rfl (k_X5_contains h) s_X5_contains rfl (by decide) (gLm (by decide)) cl1 sel_X5_contains ins_X5_contains (gle rfl) rfl q3_222 dX1_readEdge_74 ?_
      intro r15 M14 h
      refine g_if_eq (tgt := 89) ok dX1_readEdge_77 (by decide) (fun z => ?_) (fun z => ?_)
      · have h := h.1 z
        refine g_aload_n ok dX1_readEdge_89 rfl rfl ?_
        refine g_iload_n ok dX1_readEdge_90 rfl rfl ?_
        refine g_callVv (st := []) (as := [.inl x9]) ok rfl (k_X5_append h) s_X5_append rfl (by decide) (gLm (by decide)) cl1 sel_X5_append ins_X5_append (gle rfl) rfl q3_223 dX1_readEdge_91 ?_
        intro M16 h
        exact g_vret ok hZ dX1_readEdge_94 h
      · have h := h.2 z
        refine g_aload_n ok dX1_readEdge_80 rfl rfl ?_
        refine g_aload_n ok dX1_readEdge_81 rfl rfl ?_
        refine g_get (w := .inl (M14 8 2)) ok f8_2 (gLm (by decide)) q1_236 dX1_readEdge_82 rfl ?_
        refine g_put ok f8_3p (gLm (by decide)) q1_237 dX1_readEdge_85 rfl rfl (g_mem (fun M18 eM18 => ?_))
        have h := h M18 eM18
        exact g_vret ok hZ dX1_readEdge_88 h
    · intro x19 x20 x21 u22 M23 h
      exact g_vret ok hZ dX1_readEdge_51 h
  · have h := h.2 z
    refine g_aload_n ok dX1_readEdge_7 rfl rfl ?_
    refine g_aload_n ok dX1_readEdge_8 rfl rfl ?_
    refine g_get (w := .inl (M1 8 2)) ok f8_2 (gLm (by decide)) q1_236 dX1_readEdge_9 rfl ?_
    refine g_put ok f8_3p (gLm (by decide)) q1_237 dX1_readEdge_12 rfl rfl (g_mem (fun M24 eM24 => ?_))
    have h := h M24 eM24
    exact g_vret ok hZ dX1_readEdge_15 h
