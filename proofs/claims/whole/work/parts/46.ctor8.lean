/-! the class's constructor -/
def kad7 (q : Nat) (a : Nat → Nat) (i : Nat) : Nat := match i with
  | 3 => q
  | 32 => a 0
  | _ => a 1
abbrev gP : List Nat := [0] ++ (gl5 ++ ([3, 32, 33] ++ ([4, 30, 31] ++ ([5, 34] ++ ([6, 35] ++ ([7, 36, 37, 38, 39, 40] ++ [8, 41]))))))
def kad8 (h0 : Nat) (u5 : Nat → Nat) (q7 : Nat) (u7 : Nat → Nat) (q6 : Nat) (u6 : Nat → Nat) (q2 : Nat) (u2 : Nat → Nat) (q4 : Nat) (u4 : Nat → Nat) (q0 : Nat) (u0 : Nat → Nat) (q1 : Nat) (u1 : Nat → Nat) (i : Nat) : Nat := match i with
  | 0 => h0
  | 3 => q7
  | 32 => u7 0
  | 33 => u7 1
  | 4 => q6
  | 30 => u6 0
  | 31 => u6 1
  | 5 => q2
  | 34 => u2 0
  | 6 => q4
  | 35 => u4 0
  | 7 => q0
  | 36 => u0 0
  | 37 => u0 1
  | 38 => u0 2
  | 39 => u0 3
  | 40 => u0 4
  | 8 => q1
  | 41 => u1 0
  | i => u5 i
def kM8 (M7 : gM) (i : Nat) : Nat → Int32 := match i with
  | 1 => kM5 1
  | 4 => upd (fun _ => 0) 7 (-1)
  | 6 => upd (fun _ => 0) 4 (-1)
  | 7 => upd (fun _ => 0) 9 (-1)
  | 32 => M7 32
  | 33 => M7 33
  | _ => fun _ => 0
theorem kad8_row (h0 : Nat) (u5 : Nat → Nat) (q7 : Nat) (u7 : Nat → Nat) (q6 : Nat) (u6 : Nat → Nat) (q2 : Nat) (u2 : Nat → Nat) (q4 : Nat) (u4 : Nat → Nat) (q0 : Nat) (u0 : Nat → Nat) (q1 : Nat) (u1 : Nat → Nat) : ∀ j, j < 17 → kad8 h0 u5 q7 u7 q6 u6 q2 u2 q4 u4 q0 u0 q1 u1 (13 + j) = u5 (13 + j) := by
  intro j hj
  match j, hj with
  | 0, _ => rfl
  | 1, _ => rfl
  | 2, _ => rfl
  | 3, _ => rfl
  | 4, _ => rfl
  | 5, _ => rfl
  | 6, _ => rfl
  | 7, _ => rfl
  | 8, _ => rfl
  | 9, _ => rfl
  | 10, _ => rfl
  | 11, _ => rfl
  | 12, _ => rfl
  | 13, _ => rfl
  | 14, _ => rfl
  | 15, _ => rfl
  | 16, _ => rfl
  | j + 17, h => omega
set_option maxHeartbeats 4000000 in
theorem kw8 (cs : ClassId × ClassId × ClassId) (h0 : Nat) (u5 : Nat → Nat) (q7 : Nat) (u7 : Nat → Nat) (q6 : Nat) (u6 : Nat → Nat) (q2 : Nat) (u2 : Nat → Nat) (q4 : Nat) (u4 : Nat → Nat) (q0 : Nat) (u0 : Nat → Nat) (q1 : Nat) (u1 : Nat → Nat) (M7 : gM) : ((h0, .inr (8, [.ref (u5 1), .ref q7, .ref q6, .ref q4, .ref q0, .ref q1])) :: ((((((gw gl5 cs u5 kM5 ++ gw [3, 32, 33] cs (kad7 q7 u7) M7) ++ [(q6, .inr (6, [.ref (u6 0), .ref (u6 1), .int 0, .int 0, .ref (u5 1), .int 0, .int 0, .int (-1)])), (u6 0, .inl (cs.1, 4000, .inl (fun _ => 0))), (u6 1, .inl (cs.1, 4000, .inl (fun _ => 0)))]) ++ [(q2, .inr (2, [.ref (u2 0), .ref (u5 1), .ref q6])), (u2 0, .inl (cs.1, 16384, .inl (fun _ => 0)))]) ++ [(q4, .inr (4, [.ref (u5 1), .ref q2, .ref (u4 0), .int 0, .int (-1)])), (u4 0, .inl (cs.1, 15, .inl (fun _ => 0)))]) ++ [(q0, .inr (0, [.ref (u5 1), .ref q2, .ref (u0 0), .ref (u0 1), .ref (u0 2), .ref (u0 3), .ref (u0 4), .int 0, .int 0, .int (-1)])), (u0 0, .inl (cs.1, 14, .inl (fun _ => 0))), (u0 1, .inl (cs.1, 2303, .inl (fun _ => 0))), (u0 2, .inl (cs.1, 2303, .inl (fun _ => 0))), (u0 3, .inl (cs.1, 2303, .inl (fun _ => 0))), (u0 4, .inl (cs.1, 1024, .inl (fun _ => 0)))]) ++ [(q1, .inr (1, [.int 0, .ref (u1 0), .int 0, .int 0])), (u1 0, .inl (cs.2.1, 100, .inl (fun _ => 0)))])) = gw gP cs (kad8 h0 u5 q7 u7 q6 u6 q2 u2 q4 u4 q0 u0 q1 u1) (kM8 M7) := by
  have e5 : gw gl5 cs (kad8 h0 u5 q7 u7 q6 u6 q2 u2 q4 u4 q0 u0 q1 u1) (kM8 M7) = gw gl5 cs u5 kM5 := by
    refine gw_cong (fun i hi => ?_)
    rcases List.mem_append.mp hi with hi | hi
    · simp only [List.mem_cons, List.not_mem_nil, or_false] at hi
      rcases hi with rfl | rfl | rfl <;> exact ⟨rfl, rfl⟩
    · simp only [List.mem_cons, List.not_mem_nil, or_false] at hi
      rcases hi with rfl | rfl | rfl | rfl | rfl | rfl | rfl | rfl | rfl | rfl | rfl | rfl | rfl | rfl | rfl | rfl | rfl | rfl | rfl | rfl
      · exact ⟨rfl, rfl⟩
      · exact ⟨rfl, gE_row (kad8_row h0 u5 q7 u7 q6 u6 q2 u2 q4 u4 q0 u0 q1 u1)⟩
      all_goals exact ⟨rfl, rfl⟩
  have e7 : gw [3, 32, 33] cs (kad8 h0 u5 q7 u7 q6 u6 q2 u2 q4 u4 q0 u0 q1 u1) (kM8 M7) = gw [3, 32, 33] cs (kad7 q7 u7) M7 := rfl
  show _ = gw ([0] ++ (gl5 ++ ([3, 32, 33] ++ ([4, 30, 31] ++ ([5, 34] ++ ([6, 35] ++ ([7, 36, 37, 38, 39, 40] ++ [8, 41]))))))) cs (kad8 h0 u5 q7 u7 q6 u6 q2 u2 q4 u4 q0 u0 q1 u1) (kM8 M7)
  rw [gw_app [0], gw_app gl5, gw_app [3, 32, 33], gw_app [4, 30, 31], gw_app [5, 34], gw_app [6, 35], gw_app [7, 36, 37, 38, 39, 40], e5, e7]
  simp only [List.append_assoc]
  rfl
theorem gP_perm (cs : ClassId × ClassId × ClassId) (ad : Nat → Nat) (M : gM) : (gw gP cs ad M).Perm (gw gL cs ad M) := List.Perm.map _ (by decide)
theorem kXI0 {M7 : gM} (h : XW (fun _ => 1) M7) : XI 0 kS0 (kM8 M7) := by
  refine ⟨⟨(by decide : 1 ≤ 6 ∧ 6 ≤ 14), sane_nil _, rfl, rfl, fun i hi => by simp [kS0] at hi⟩, fun v hv => rfl, ⟨0, by decide, rfl, rfl, rfl, by decide, ⟨rfl, fun i hi => by simp [kS0] at hi⟩, fun k hk => by simp [kS0] at hk, fun k hk => by simp [kS0] at hk⟩, h, ⟨rfl, by decide, fun i hi => absurd hi (Nat.not_lt_zero _)⟩, rfl, ⟨Or.inl rfl, fun q => ?_⟩, ⟨Or.inl rfl, fun q => ?_⟩, ⟨Or.inl rfl, fun _ _ q => ?_⟩, by decide, saneL_nil _, saneL_nil _⟩
  · exact absurd (show (-1 : Int32) = nI 0 from q) (by decide)
  · exact absurd (show (-1 : Int32) = nI 0 from q) (by decide)
  · exact absurd (show (-1 : Int32) = nI 0 from q) (by decide)
theorem i_X7 : gSt yX7_init cX7_init 1 none 0 := ⟨q1_97, q1_4, ⟨by decide, by decide, by decide +kernel⟩, by decide⟩
theorem i_X6 : gSt yX6_init cX6_init 2 none 1 := ⟨q1_115, q1_5, ⟨by decide, by decide, by decide +kernel⟩, by decide⟩
theorem i_X2 : gSt yX2_init cX2_init 3 none 2 := ⟨q1_154, q1_6, ⟨by decide, by decide, by decide +kernel⟩, by decide⟩
theorem i_X4 : gSt yX4_init cX4_init 3 none 2 := ⟨q1_172, q1_7, ⟨by decide, by decide, by decide +kernel⟩, by decide⟩
theorem i_X0 : gSt yX0_init cX0_init 3 none 2 := ⟨q1_194, q1_8, ⟨by decide, by decide, by decide +kernel⟩, by decide⟩
theorem i_X1 : gSt yX1_init cX1_init 1 none 0 := ⟨q1_231, q1_9, ⟨by decide, by decide, by decide +kernel⟩, by decide⟩
theorem i_X8 : gSt yX8_init cX8_init 2 none 0 := ⟨q1_18, q1_1, ⟨by decide, by decide, by decide +kernel⟩, by decide⟩
abbrev kB8 (h0 : Nat) : va_W := [(h0, .inr (8, [.null, .null, .null, .null, .null, .null]))]
set_option maxHeartbeats 16000000 in
set_option maxRecDepth 100000 in
theorem c_X8_init (l : Launch) (D : va_G) (cs : ClassId × ClassId × ClassId) (h0 sz : Nat) : Met l yX8_init (.code yX8_init cX8_init 2 none :: gT) { frames := 3, cells := 41, slots := 36983, locals := 120 } (va_Pc [.ref h0] (fun U => U.heap.size = sz ∧ va_P D vwCl (kB8 h0) U.heap ∧ kU D cs U ∧ va_D (fun _ => True) (kB8 h0)))
    (va_Qv (fun u : (Nat → Nat) × gM => u.1 0 = h0 ∧ XI 0 kS0 u.2) (fun u t => va_P D vwCl (gw gL cs u.1 u.2) t.heap ∧ True ∧ va_D (va_A (kB8 h0) sz) (gw gL cs u.1 u.2)) (va_A (kB8 h0) sz)) 41 36983 (va_A (kB8 h0) sz) := by
  refine Met.ofW (cc := cX8_init) (maxL := 2) (ret := none) (by decide) rfl ?_
  intro p e s m args below meth c s₁ B hml hv
  obtain ⟨rfl, hsz, hP, hU, hD0⟩ := hv
  have hK : va_K D vwCl (gtys cs) s := hU.1
  have hK0 : va_K D vwCl [] s := hK.sub [] rfl
  have hx := B.exec
  have hb := B.bytes
  have hr := B.returns
  have hts0 := atoms_spec (ws := (.code yX8_init cX8_init 2 none :: gT)) B.pre
  have hts : ∀ w ∈ gT, w.before _ s = true := fun w hw => hts0 w (List.mem_cons_of_mem _ hw)
  have hown : s.vm.findClass RX8 = some m.cls := findClass_of_methodNamed B.named
  have hlocks := B.notSynchronized
  have hin : meth.name = "<init>" := (name_of_methodNamed B.named B.method).1
  subst hsz
  have hD := hD0.self (sz := s.heap.size)
  generalize hAe : va_A (kB8 h0) s.heap.size = A at hD ⊢
  have hA : ∀ q : Nat, s.heap.size ≤ q → A q := fun q h => by rw [← hAe]; exact Or.inr h
  have hS : va_S A s.heap s.heap [] := va_S.rf
  have hl := lv_entry ([.ref h0]) (n := 2) (Nat.le_of_ble_eq_true rfl)
  rw [lg_entry_eq]
  generalize (lg_sl ([.ref h0]) ++ List.replicate (2 - (lg_sl ([.ref h0])).length) Slot.unset).toArray = ls at hl ⊢
  have hl : lv_has ls 2 [(0, .ref h0)] := hl
  refine lv_aload_n hx hb dX8_init_0 rfl (lv_at hl 0 rfl) ?_
  refine W.objInit hx hb hown (hts _ q1_19) (hts _ q1_20) (hts _ q1_21) rfl (by rw [hml]; exact hl.1) rfl dX8_init_1 (Nat.le_of_ble_eq_true rfl) (Nat.le_of_ble_eq_true rfl) ?_
  refine W.eq (g2 := F0 m 4 ls []) rfl ?_
  refine lv_aload_n hx hb dX8_init_4 rfl (lv_at hl 0 rfl) ?_
  refine va_new (ci := 5) (fs := [.int 0, .int 0, .null, .null, .null, .int 0]) (C := RX5) (T := TX5) (N := 6) hx hb hts uX5 tyX5 tyX5_ok hown (hts _ q1_22) (hts _ q1_23) (hts _ q1_2) hK hP hD hS hA rfl (fun j hj => by rcases (show j = 0 ∨ j = 1 ∨ j = 2 ∨ j = 3 ∨ j = 4 ∨ j = 5 by omega) with rfl | rfl | rfl | rfl | rfl | rfl <;> rfl) (Nat.le_of_ble_eq_true rfl) (Nat.le_of_ble_eq_true rfl) dX8_init_5 (fun q5 H hP hD hS => ?_)
  refine W.widen (k := 1) (n := 6) (Nat.le_of_ble_eq_true rfl) (Nat.le_of_ble_eq_true rfl) ?_
  refine lv_dup hx hb dX8_init_8 rfl ?_
  refine kI (S := Nat → Nat) (X := ((h0, .inr (8, [.null, .null, .null, .null, .null, .null])) :: ([] : va_W))) (As := []) (rest := [.ref q5, .ref h0]) (H := H) hx hb hml hown hts (c_X5_init l D cs q5 H.size) i_X5 rfl q1_25 q1_24 rfl rfl ⟨Nat.le_of_ble_eq_true rfl, Nat.le_of_ble_eq_true rfl⟩ rfl hl.1 rfl (Nat.le_of_ble_eq_true rfl) dX8_init_9 ⟨Nat.le_of_ble_eq_true rfl, Nat.le_of_ble_eq_true rfl⟩ kU.call (fun U hW => kU.warm hW hU) hP hD hS hA (fun u5 t5 H locs hal hu hKp hP hD hS => ?_)
  refine W.widen (k := 23) (n := 491) (Nat.le_of_ble_eq_true rfl) (Nat.le_of_ble_eq_true rfl) ?_
  rw [← hu]
  have hP : va_P D vwCl ((h0, .inr (8, [.null, .null, .null, .null, .null, .null])) :: gw gl5 cs u5 kM5) H := hP
  have hD : va_D A ((h0, .inr (8, [.null, .null, .null, .null, .null, .null])) :: gw gl5 cs u5 kM5) := hD
  refine va_putF (D := D) (ci := 8) (v := .ref (u5 1)) (ty := .object "HypergraphDualizer$Hypergraph") (C := RX8) (T := TX8) (N := 6) hx hb hts uX8 tyX8 tyX8_ok nmX8 hown hK hP hD hS 0 rfl rfl 0 (by decide) (hts _ q2_8) (fun _ h9 => h9) rfl hin rfl (by decide +kernel) rfl rfl (Nat.le_of_ble_eq_true rfl) dX8_init_12 (fun H locs hP hD hS => ?_)
  have hP : va_P D vwCl ((h0, .inr (8, [.ref (u5 1), .null, .null, .null, .null, .null])) :: gw gl5 cs u5 kM5) H := hP
  have hD : va_D A ((h0, .inr (8, [.ref (u5 1), .null, .null, .null, .null, .null])) :: gw gl5 cs u5 kM5) := hD
  refine lv_aload_n hx hb dX8_init_15 rfl (lv_at hl 0 rfl) ?_
  refine va_new (ci := 7) (fs := [.null, .null]) (C := RX7) (T := TX7) (N := 2) hx hb hts uX7 tyX7 tyX7_ok hown (hts _ q1_93) (hts _ q1_94) (hts _ q1_4) hK hP hD hS hA rfl (fun j hj => by rcases (show j = 0 ∨ j = 1 by omega) with rfl | rfl <;> rfl) (Nat.le_of_ble_eq_true rfl) (Nat.le_of_ble_eq_true rfl) dX8_init_16 (fun q7 H hP hD hS => ?_)
  refine W.widen (k := 24) (n := 493) (Nat.le_of_ble_eq_true rfl) (Nat.le_of_ble_eq_true rfl) ?_
  refine lv_dup hx hb dX8_init_19 rfl ?_
  refine kI (S := kSt) (X := ((h0, .inr (8, [.ref (u5 1), .null, .null, .null, .null, .null])) :: gw gl5 cs u5 kM5)) (As := []) (rest := [.ref q7, .ref h0]) (H := H) hx hb hml hown hts (c_X7_init l D q7 H.size) i_X7 rfl q1_96 q1_95 rfl rfl ⟨Nat.le_of_ble_eq_true rfl, Nat.le_of_ble_eq_true rfl⟩ rfl hl.1 rfl (Nat.le_of_ble_eq_true rfl) dX8_init_20 ⟨Nat.le_of_ble_eq_true rfl, Nat.le_of_ble_eq_true rfl⟩ kK.call (fun U hW => va_K.moved hW.alike hK0) hP hD hS hA (fun u7 t7 H locs hal hu hKp hP hD hS => ?_)
  refine W.widen (k := 26) (n := 4507) (Nat.le_of_ble_eq_true rfl) (Nat.le_of_ble_eq_true rfl) ?_
  have z : u7.2.1 = cs.1 := kK.cls hK (va_K.moved hal.symm hKp)
  rw [z] at hP hD
  have hP : va_P D vwCl ((h0, .inr (8, [.ref (u5 1), .null, .null, .null, .null, .null])) :: (gw gl5 cs u5 kM5 ++ gw [3, 32, 33] cs (kad7 q7 u7.1) gZ0)) H := hP
  have hD : va_D A ((h0, .inr (8, [.ref (u5 1), .null, .null, .null, .null, .null])) :: (gw gl5 cs u5 kM5 ++ gw [3, 32, 33] cs (kad7 q7 u7.1) gZ0)) := hD
  refine va_putF (D := D) (ci := 8) (v := .ref q7) (ty := .object "HypergraphDualizer$Weights") (C := RX8) (T := TX8) (N := 6) hx hb hts uX8 tyX8 tyX8_ok nmX8 hown hK hP hD hS 0 rfl rfl 1 (by decide) (hts _ q2_9) (fun _ h9 => h9) rfl hin rfl (by decide +kernel) rfl rfl (Nat.le_of_ble_eq_true rfl) dX8_init_23 (fun H locs hP hD hS => ?_)
  have hP : va_P D vwCl ((h0, .inr (8, [.ref (u5 1), .ref q7, .null, .null, .null, .null])) :: (gw gl5 cs u5 kM5 ++ gw [3, 32, 33] cs (kad7 q7 u7.1) gZ0)) H := hP
  have hD : va_D A ((h0, .inr (8, [.ref (u5 1), .ref q7, .null, .null, .null, .null])) :: (gw gl5 cs u5 kM5 ++ gw [3, 32, 33] cs (kad7 q7 u7.1) gZ0)) := hD
  refine lv_aload_n hx hb dX8_init_26 rfl (lv_at hl 0 rfl) ?_
  refine va_get (D := D) (ci := 8) (v := .ref q7) (C := RX8) (T := TX8) (N := 6) hx hb hts uX8 hown hK hP 0 rfl rfl 1 (by decide) (hts _ q2_9) (fun _ h9 => h9) rfl dX8_init_27 ?_
  refine kVv (X := ((h0, .inr (8, [.ref (u5 1), .ref q7, .null, .null, .null, .null])) :: gw gl5 cs u5 kM5)) (L := [3, 32, 33]) (i := 3) (as := []) (ad := kad7 q7 u7.1) (M := gZ0) (Qm := fun M1 => XW (fun _ => 1) M1 ∧ same [32] gZ0 M1) (rest := []) hx hb hml hown hts hK hU.2.1 (k_X7_startAnew (L := [3, 32, 33]) (by decide) (by decide) (S_startW (fun M1 k1 k2 => ⟨k1, k2⟩))) s_X7_startAnew rfl (by decide) cl3 sel_X7_startAnew ins_X7_startAnew q1_107 ⟨Nat.le_of_ble_eq_true rfl, Nat.le_of_ble_eq_true rfl⟩ hl.1 rfl (Nat.le_of_ble_eq_true rfl) dX8_init_30 ⟨Nat.le_of_ble_eq_true rfl, Nat.le_of_ble_eq_true rfl⟩ hP hD hS hA (fun M7 H locs hM hP hD hS => ?_)
  have hP : va_P D vwCl ((h0, .inr (8, [.ref (u5 1), .ref q7, .null, .null, .null, .null])) :: (gw gl5 cs u5 kM5 ++ gw [3, 32, 33] cs (kad7 q7 u7.1) M7)) H := hP
  have hD : va_D A ((h0, .inr (8, [.ref (u5 1), .ref q7, .null, .null, .null, .null])) :: (gw gl5 cs u5 kM5 ++ gw [3, 32, 33] cs (kad7 q7 u7.1) M7)) := hD
  refine lv_aload_n hx hb dX8_init_33 rfl (lv_at hl 0 rfl) ?_
  refine va_new (ci := 6) (fs := [.null, .null, .int 0, .int 0, .null, .int 0, .int 0, .int 0]) (C := RX6) (T := TX6) (N := 8) hx hb hts uX6 tyX6 tyX6_ok hown (hts _ q1_111) (hts _ q1_112) (hts _ q1_5) hK hP hD hS hA rfl (fun j hj => by rcases (show j = 0 ∨ j = 1 ∨ j = 2 ∨ j = 3 ∨ j = 4 ∨ j = 5 ∨ j = 6 ∨ j = 7 by omega) with rfl | rfl | rfl | rfl | rfl | rfl | rfl | rfl <;> rfl) (Nat.le_of_ble_eq_true rfl) (Nat.le_of_ble_eq_true rfl) dX8_init_34 (fun q6 H hP hD hS => ?_)
  refine W.widen (k := 27) (n := 4515) (Nat.le_of_ble_eq_true rfl) (Nat.le_of_ble_eq_true rfl) ?_
  refine lv_dup hx hb dX8_init_37 rfl ?_
  refine lv_aload_n hx hb dX8_init_38 rfl (lv_at hl 0 rfl) ?_
  refine va_get (D := D) (ci := 8) (v := .ref (u5 1)) (C := RX8) (T := TX8) (N := 6) hx hb hts uX8 hown hK hP 0 rfl rfl 0 (by decide) (hts _ q2_8) (fun _ h9 => h9) rfl dX8_init_39 ?_
  refine kI (S := kSt) (X := ((h0, .inr (8, [.ref (u5 1), .ref q7, .null, .null, .null, .null])) :: (gw gl5 cs u5 kM5 ++ gw [3, 32, 33] cs (kad7 q7 u7.1) M7))) (As := [.ref (u5 1)]) (rest := [.ref q6, .ref h0]) (H := H) hx hb hml hown hts (c_X6_init l D q6 (u5 1) H.size) i_X6 rfl q1_114 q1_113 rfl rfl ⟨Nat.le_of_ble_eq_true rfl, Nat.le_of_ble_eq_true rfl⟩ rfl hl.1 rfl (Nat.le_of_ble_eq_true rfl) dX8_init_42 ⟨Nat.le_of_ble_eq_true rfl, Nat.le_of_ble_eq_true rfl⟩ kK.call (fun U hW => va_K.moved hW.alike hK0) hP hD hS hA (fun u6 t6 H locs hal hu hKp hP hD hS => ?_)
  refine W.widen (k := 29) (n := 12515) (Nat.le_of_ble_eq_true rfl) (Nat.le_of_ble_eq_true rfl) ?_
  have z : u6.2.1 = cs.1 := kK.cls hK (va_K.moved hal.symm hKp)
  rw [z] at hP hD
  have hP : va_P D vwCl ((h0, .inr (8, [.ref (u5 1), .ref q7, .null, .null, .null, .null])) :: ((gw gl5 cs u5 kM5 ++ gw [3, 32, 33] cs (kad7 q7 u7.1) M7) ++ [(q6, .inr (6, [.ref (u6.1 0), .ref (u6.1 1), .int 0, .int 0, .ref (u5 1), .int 0, .int 0, .int (-1)])), (u6.1 0, .inl (cs.1, 4000, .inl (fun _ => 0))), (u6.1 1, .inl (cs.1, 4000, .inl (fun _ => 0)))])) H := hP
  have hD : va_D A ((h0, .inr (8, [.ref (u5 1), .ref q7, .null, .null, .null, .null])) :: ((gw gl5 cs u5 kM5 ++ gw [3, 32, 33] cs (kad7 q7 u7.1) M7) ++ [(q6, .inr (6, [.ref (u6.1 0), .ref (u6.1 1), .int 0, .int 0, .ref (u5 1), .int 0, .int 0, .int (-1)])), (u6.1 0, .inl (cs.1, 4000, .inl (fun _ => 0))), (u6.1 1, .inl (cs.1, 4000, .inl (fun _ => 0)))])) := hD
  refine va_putF (D := D) (ci := 8) (v := .ref q6) (ty := .object "HypergraphDualizer$Search") (C := RX8) (T := TX8) (N := 6) hx hb hts uX8 tyX8 tyX8_ok nmX8 hown hK hP hD hS 0 rfl rfl 2 (by decide) (hts _ q2_10) (fun _ h9 => h9) rfl hin rfl (by decide +kernel) rfl rfl (Nat.le_of_ble_eq_true rfl) dX8_init_45 (fun H locs hP hD hS => ?_)
  have hP : va_P D vwCl ((h0, .inr (8, [.ref (u5 1), .ref q7, .ref q6, .null, .null, .null])) :: ((gw gl5 cs u5 kM5 ++ gw [3, 32, 33] cs (kad7 q7 u7.1) M7) ++ [(q6, .inr (6, [.ref (u6.1 0), .ref (u6.1 1), .int 0, .int 0, .ref (u5 1), .int 0, .int 0, .int (-1)])), (u6.1 0, .inl (cs.1, 4000, .inl (fun _ => 0))), (u6.1 1, .inl (cs.1, 4000, .inl (fun _ => 0)))])) H := hP
  have hD : va_D A ((h0, .inr (8, [.ref (u5 1), .ref q7, .ref q6, .null, .null, .null])) :: ((gw gl5 cs u5 kM5 ++ gw [3, 32, 33] cs (kad7 q7 u7.1) M7) ++ [(q6, .inr (6, [.ref (u6.1 0), .ref (u6.1 1), .int 0, .int 0, .ref (u5 1), .int 0, .int 0, .int (-1)])), (u6.1 0, .inl (cs.1, 4000, .inl (fun _ => 0))), (u6.1 1, .inl (cs.1, 4000, .inl (fun _ => 0)))])) := hD
  refine va_new (ci := 2) (fs := [.null, .null, .null]) (C := RX2) (T := TX2) (N := 3) hx hb hts uX2 tyX2 tyX2_ok hown (hts _ q1_150) (hts _ q1_151) (hts _ q1_6) hK hP hD hS hA rfl (fun j hj => by rcases (show j = 0 ∨ j = 1 ∨ j = 2 by omega) with rfl | rfl | rfl <;> rfl) (Nat.le_of_ble_eq_true rfl) (Nat.le_of_ble_eq_true rfl) dX8_init_48 (fun q2 H hP hD hS => ?_)
  refine W.widen (k := 30) (n := 12518) (Nat.le_of_ble_eq_true rfl) (Nat.le_of_ble_eq_true rfl) ?_
  refine lv_dup hx hb dX8_init_51 rfl ?_
  refine lv_aload_n hx hb dX8_init_52 rfl (lv_at hl 0 rfl) ?_
  refine va_get (D := D) (ci := 8) (v := .ref (u5 1)) (C := RX8) (T := TX8) (N := 6) hx hb hts uX8 hown hK hP 0 rfl rfl 0 (by decide) (hts _ q2_8) (fun _ h9 => h9) rfl dX8_init_53 ?_
  refine lv_aload_n hx hb dX8_init_56 rfl (lv_at hl 0 rfl) ?_
  refine va_get (D := D) (ci := 8) (v := .ref q6) (C := RX8) (T := TX8) (N := 6) hx hb hts uX8 hown hK hP 0 rfl rfl 2 (by decide) (hts _ q2_10) (fun _ h9 => h9) rfl dX8_init_57 ?_
  refine kI (S := kSt) (X := ((h0, .inr (8, [.ref (u5 1), .ref q7, .ref q6, .null, .null, .null])) :: ((gw gl5 cs u5 kM5 ++ gw [3, 32, 33] cs (kad7 q7 u7.1) M7) ++ [(q6, .inr (6, [.ref (u6.1 0), .ref (u6.1 1), .int 0, .int 0, .ref (u5 1), .int 0, .int 0, .int (-1)])), (u6.1 0, .inl (cs.1, 4000, .inl (fun _ => 0))), (u6.1 1, .inl (cs.1, 4000, .inl (fun _ => 0)))]))) (As := [.ref (u5 1), .ref q6]) (rest := [.ref q2]) (H := H) hx hb hml hown hts (c_X2_init l D q2 (u5 1) q6 H.size) i_X2 rfl q1_153 q1_152 rfl rfl ⟨Nat.le_of_ble_eq_true rfl, Nat.le_of_ble_eq_true rfl⟩ rfl hl.1 rfl (Nat.le_of_ble_eq_true rfl) dX8_init_60 ⟨Nat.le_of_ble_eq_true rfl, Nat.le_of_ble_eq_true rfl⟩ kK.call (fun U hW => va_K.moved hW.alike hK0) hP hD hS hA (fun u2 t2 H locs hal hu hKp hP hD hS => ?_)
  refine W.widen (k := 31) (n := 28902) (Nat.le_of_ble_eq_true rfl) (Nat.le_of_ble_eq_true rfl) ?_
  have z : u2.2.1 = cs.1 := kK.cls hK (va_K.moved hal.symm hKp)
  rw [z] at hP hD
  have hP : va_P D vwCl ((h0, .inr (8, [.ref (u5 1), .ref q7, .ref q6, .null, .null, .null])) :: (((gw gl5 cs u5 kM5 ++ gw [3, 32, 33] cs (kad7 q7 u7.1) M7) ++ [(q6, .inr (6, [.ref (u6.1 0), .ref (u6.1 1), .int 0, .int 0, .ref (u5 1), .int 0, .int 0, .int (-1)])), (u6.1 0, .inl (cs.1, 4000, .inl (fun _ => 0))), (u6.1 1, .inl (cs.1, 4000, .inl (fun _ => 0)))]) ++ [(q2, .inr (2, [.ref (u2.1 0), .ref (u5 1), .ref q6])), (u2.1 0, .inl (cs.1, 16384, .inl (fun _ => 0)))])) H := hP
  have hD : va_D A ((h0, .inr (8, [.ref (u5 1), .ref q7, .ref q6, .null, .null, .null])) :: (((gw gl5 cs u5 kM5 ++ gw [3, 32, 33] cs (kad7 q7 u7.1) M7) ++ [(q6, .inr (6, [.ref (u6.1 0), .ref (u6.1 1), .int 0, .int 0, .ref (u5 1), .int 0, .int 0, .int (-1)])), (u6.1 0, .inl (cs.1, 4000, .inl (fun _ => 0))), (u6.1 1, .inl (cs.1, 4000, .inl (fun _ => 0)))]) ++ [(q2, .inr (2, [.ref (u2.1 0), .ref (u5 1), .ref q6])), (u2.1 0, .inl (cs.1, 16384, .inl (fun _ => 0)))])) := hD
  refine lv_astore_n (lv' := [(1, .ref q2), (0, .ref h0)]) hx hb dX8_init_63 rfl hl (by decide) rfl (fun ls hl => ?_)
  refine lv_aload_n hx hb dX8_init_64 rfl (lv_at hl 1 rfl) ?_
  refine va_new (ci := 4) (fs := [.null, .null, .null, .int 0, .int 0]) (C := RX4) (T := TX4) (N := 5) hx hb hts uX4 tyX4 tyX4_ok hown (hts _ q1_168) (hts _ q1_169) (hts _ q1_7) hK hP hD hS hA rfl (fun j hj => by rcases (show j = 0 ∨ j = 1 ∨ j = 2 ∨ j = 3 ∨ j = 4 by omega) with rfl | rfl | rfl | rfl | rfl <;> rfl) (Nat.le_of_ble_eq_true rfl) (Nat.le_of_ble_eq_true rfl) dX8_init_65 (fun q4 H hP hD hS => ?_)
  refine W.widen (k := 32) (n := 28907) (Nat.le_of_ble_eq_true rfl) (Nat.le_of_ble_eq_true rfl) ?_
  refine lv_dup hx hb dX8_init_68 rfl ?_
  refine lv_aload_n hx hb dX8_init_69 rfl (lv_at hl 1 rfl) ?_
  refine va_get (D := D) (ci := 8) (v := .ref (u5 1)) (C := RX8) (T := TX8) (N := 6) hx hb hts uX8 hown hK hP 0 rfl rfl 0 (by decide) (hts _ q2_8) (fun _ h9 => h9) rfl dX8_init_70 ?_
  refine lv_aload_n hx hb dX8_init_73 rfl (lv_at hl 0 rfl) ?_
  refine kI (S := kSt) (X := ((h0, .inr (8, [.ref (u5 1), .ref q7, .ref q6, .null, .null, .null])) :: (((gw gl5 cs u5 kM5 ++ gw [3, 32, 33] cs (kad7 q7 u7.1) M7) ++ [(q6, .inr (6, [.ref (u6.1 0), .ref (u6.1 1), .int 0, .int 0, .ref (u5 1), .int 0, .int 0, .int (-1)])), (u6.1 0, .inl (cs.1, 4000, .inl (fun _ => 0))), (u6.1 1, .inl (cs.1, 4000, .inl (fun _ => 0)))]) ++ [(q2, .inr (2, [.ref (u2.1 0), .ref (u5 1), .ref q6])), (u2.1 0, .inl (cs.1, 16384, .inl (fun _ => 0)))]))) (As := [.ref (u5 1), .ref q2]) (rest := [.ref q4, .ref h0]) (H := H) hx hb hml hown hts (c_X4_init l D q4 (u5 1) q2 H.size) i_X4 rfl q1_171 q1_170 rfl rfl ⟨Nat.le_of_ble_eq_true rfl, Nat.le_of_ble_eq_true rfl⟩ rfl hl.1 rfl (Nat.le_of_ble_eq_true rfl) dX8_init_74 ⟨Nat.le_of_ble_eq_true rfl, Nat.le_of_ble_eq_true rfl⟩ kK.call (fun U hW => va_K.moved hW.alike hK0) hP hD hS hA (fun u4 t4 H locs hal hu hKp hP hD hS => ?_)
  refine W.widen (k := 33) (n := 28922) (Nat.le_of_ble_eq_true rfl) (Nat.le_of_ble_eq_true rfl) ?_
  have z : u4.2.1 = cs.1 := kK.cls hK (va_K.moved hal.symm hKp)
  rw [z] at hP hD
  have hP : va_P D vwCl ((h0, .inr (8, [.ref (u5 1), .ref q7, .ref q6, .null, .null, .null])) :: ((((gw gl5 cs u5 kM5 ++ gw [3, 32, 33] cs (kad7 q7 u7.1) M7) ++ [(q6, .inr (6, [.ref (u6.1 0), .ref (u6.1 1), .int 0, .int 0, .ref (u5 1), .int 0, .int 0, .int (-1)])), (u6.1 0, .inl (cs.1, 4000, .inl (fun _ => 0))), (u6.1 1, .inl (cs.1, 4000, .inl (fun _ => 0)))]) ++ [(q2, .inr (2, [.ref (u2.1 0), .ref (u5 1), .ref q6])), (u2.1 0, .inl (cs.1, 16384, .inl (fun _ => 0)))]) ++ [(q4, .inr (4, [.ref (u5 1), .ref q2, .ref (u4.1 0), .int 0, .int (-1)])), (u4.1 0, .inl (cs.1, 15, .inl (fun _ => 0)))])) H := hP
  have hD : va_D A ((h0, .inr (8, [.ref (u5 1), .ref q7, .ref q6, .null, .null, .null])) :: ((((gw gl5 cs u5 kM5 ++ gw [3, 32, 33] cs (kad7 q7 u7.1) M7) ++ [(q6, .inr (6, [.ref (u6.1 0), .ref (u6.1 1), .int 0, .int 0, .ref (u5 1), .int 0, .int 0, .int (-1)])), (u6.1 0, .inl (cs.1, 4000, .inl (fun _ => 0))), (u6.1 1, .inl (cs.1, 4000, .inl (fun _ => 0)))]) ++ [(q2, .inr (2, [.ref (u2.1 0), .ref (u5 1), .ref q6])), (u2.1 0, .inl (cs.1, 16384, .inl (fun _ => 0)))]) ++ [(q4, .inr (4, [.ref (u5 1), .ref q2, .ref (u4.1 0), .int 0, .int (-1)])), (u4.1 0, .inl (cs.1, 15, .inl (fun _ => 0)))])) := hD
  refine va_putF (D := D) (ci := 8) (v := .ref q4) (ty := .object "HypergraphDualizer$HittingCounts") (C := RX8) (T := TX8) (N := 6) hx hb hts uX8 tyX8 tyX8_ok nmX8 hown hK hP hD hS 0 rfl rfl 3 (by decide) (hts _ q2_11) (fun _ h9 => h9) rfl hin rfl (by decide +kernel) rfl rfl (Nat.le_of_ble_eq_true rfl) dX8_init_77 (fun H locs hP hD hS => ?_)
  have hP : va_P D vwCl ((h0, .inr (8, [.ref (u5 1), .ref q7, .ref q6, .ref q4, .null, .null])) :: ((((gw gl5 cs u5 kM5 ++ gw [3, 32, 33] cs (kad7 q7 u7.1) M7) ++ [(q6, .inr (6, [.ref (u6.1 0), .ref (u6.1 1), .int 0, .int 0, .ref (u5 1), .int 0, .int 0, .int (-1)])), (u6.1 0, .inl (cs.1, 4000, .inl (fun _ => 0))), (u6.1 1, .inl (cs.1, 4000, .inl (fun _ => 0)))]) ++ [(q2, .inr (2, [.ref (u2.1 0), .ref (u5 1), .ref q6])), (u2.1 0, .inl (cs.1, 16384, .inl (fun _ => 0)))]) ++ [(q4, .inr (4, [.ref (u5 1), .ref q2, .ref (u4.1 0), .int 0, .int (-1)])), (u4.1 0, .inl (cs.1, 15, .inl (fun _ => 0)))])) H := hP
  have hD : va_D A ((h0, .inr (8, [.ref (u5 1), .ref q7, .ref q6, .ref q4, .null, .null])) :: ((((gw gl5 cs u5 kM5 ++ gw [3, 32, 33] cs (kad7 q7 u7.1) M7) ++ [(q6, .inr (6, [.ref (u6.1 0), .ref (u6.1 1), .int 0, .int 0, .ref (u5 1), .int 0, .int 0, .int (-1)])), (u6.1 0, .inl (cs.1, 4000, .inl (fun _ => 0))), (u6.1 1, .inl (cs.1, 4000, .inl (fun _ => 0)))]) ++ [(q2, .inr (2, [.ref (u2.1 0), .ref (u5 1), .ref q6])), (u2.1 0, .inl (cs.1, 16384, .inl (fun _ => 0)))]) ++ [(q4, .inr (4, [.ref (u5 1), .ref q2, .ref (u4.1 0), .int 0, .int (-1)])), (u4.1 0, .inl (cs.1, 15, .inl (fun _ => 0)))])) := hD
  refine lv_aload_n hx hb dX8_init_80 rfl (lv_at hl 1 rfl) ?_
  refine va_new (ci := 0) (fs := [.null, .null, .null, .null, .null, .null, .null, .int 0, .int 0, .int 0]) (C := RX0) (T := TX0) (N := 10) hx hb hts uX0 tyX0 tyX0_ok hown (hts _ q1_190) (hts _ q1_191) (hts _ q1_8) hK hP hD hS hA rfl (fun j hj => by rcases (show j = 0 ∨ j = 1 ∨ j = 2 ∨ j = 3 ∨ j = 4 ∨ j = 5 ∨ j = 6 ∨ j = 7 ∨ j = 8 ∨ j = 9 by omega) with rfl | rfl | rfl | rfl | rfl | rfl | rfl | rfl | rfl | rfl <;> rfl) (Nat.le_of_ble_eq_true rfl) (Nat.le_of_ble_eq_true rfl) dX8_init_81 (fun q0 H hP hD hS => ?_)
  refine W.widen (k := 34) (n := 28932) (Nat.le_of_ble_eq_true rfl) (Nat.le_of_ble_eq_true rfl) ?_
  refine lv_dup hx hb dX8_init_84 rfl ?_
  refine lv_aload_n hx hb dX8_init_85 rfl (lv_at hl 1 rfl) ?_
  refine va_get (D := D) (ci := 8) (v := .ref (u5 1)) (C := RX8) (T := TX8) (N := 6) hx hb hts uX8 hown hK hP 0 rfl rfl 0 (by decide) (hts _ q2_8) (fun _ h9 => h9) rfl dX8_init_86 ?_
  refine lv_aload_n hx hb dX8_init_89 rfl (lv_at hl 0 rfl) ?_
  refine kI (S := kSt) (X := ((h0, .inr (8, [.ref (u5 1), .ref q7, .ref q6, .ref q4, .null, .null])) :: ((((gw gl5 cs u5 kM5 ++ gw [3, 32, 33] cs (kad7 q7 u7.1) M7) ++ [(q6, .inr (6, [.ref (u6.1 0), .ref (u6.1 1), .int 0, .int 0, .ref (u5 1), .int 0, .int 0, .int (-1)])), (u6.1 0, .inl (cs.1, 4000, .inl (fun _ => 0))), (u6.1 1, .inl (cs.1, 4000, .inl (fun _ => 0)))]) ++ [(q2, .inr (2, [.ref (u2.1 0), .ref (u5 1), .ref q6])), (u2.1 0, .inl (cs.1, 16384, .inl (fun _ => 0)))]) ++ [(q4, .inr (4, [.ref (u5 1), .ref q2, .ref (u4.1 0), .int 0, .int (-1)])), (u4.1 0, .inl (cs.1, 15, .inl (fun _ => 0)))]))) (As := [.ref (u5 1), .ref q2]) (rest := [.ref q0, .ref h0]) (H := H) hx hb hml hown hts (c_X0_init l D q0 (u5 1) q2 H.size) i_X0 rfl q1_193 q1_192 rfl rfl ⟨Nat.le_of_ble_eq_true rfl, Nat.le_of_ble_eq_true rfl⟩ rfl hl.1 rfl (Nat.le_of_ble_eq_true rfl) dX8_init_90 ⟨Nat.le_of_ble_eq_true rfl, Nat.le_of_ble_eq_true rfl⟩ kK.call (fun U hW => va_K.moved hW.alike hK0) hP hD hS hA (fun u0 t0 H locs hal hu hKp hP hD hS => ?_)
  refine W.widen (k := 39) (n := 36879) (Nat.le_of_ble_eq_true rfl) (Nat.le_of_ble_eq_true rfl) ?_
  have z : u0.2.1 = cs.1 := kK.cls hK (va_K.moved hal.symm hKp)
  rw [z] at hP hD
  have hP : va_P D vwCl ((h0, .inr (8, [.ref (u5 1), .ref q7, .ref q6, .ref q4, .null, .null])) :: (((((gw gl5 cs u5 kM5 ++ gw [3, 32, 33] cs (kad7 q7 u7.1) M7) ++ [(q6, .inr (6, [.ref (u6.1 0), .ref (u6.1 1), .int 0, .int 0, .ref (u5 1), .int 0, .int 0, .int (-1)])), (u6.1 0, .inl (cs.1, 4000, .inl (fun _ => 0))), (u6.1 1, .inl (cs.1, 4000, .inl (fun _ => 0)))]) ++ [(q2, .inr (2, [.ref (u2.1 0), .ref (u5 1), .ref q6])), (u2.1 0, .inl (cs.1, 16384, .inl (fun _ => 0)))]) ++ [(q4, .inr (4, [.ref (u5 1), .ref q2, .ref (u4.1 0), .int 0, .int (-1)])), (u4.1 0, .inl (cs.1, 15, .inl (fun _ => 0)))]) ++ [(q0, .inr (0, [.ref (u5 1), .ref q2, .ref (u0.1 0), .ref (u0.1 1), .ref (u0.1 2), .ref (u0.1 3), .ref (u0.1 4), .int 0, .int 0, .int (-1)])), (u0.1 0, .inl (cs.1, 14, .inl (fun _ => 0))), (u0.1 1, .inl (cs.1, 2303, .inl (fun _ => 0))), (u0.1 2, .inl (cs.1, 2303, .inl (fun _ => 0))), (u0.1 3, .inl (cs.1, 2303, .inl (fun _ => 0))), (u0.1 4, .inl (cs.1, 1024, .inl (fun _ => 0)))])) H := hP
  have hD : va_D A ((h0, .inr (8, [.ref (u5 1), .ref q7, .ref q6, .ref q4, .null, .null])) :: (((((gw gl5 cs u5 kM5 ++ gw [3, 32, 33] cs (kad7 q7 u7.1) M7) ++ [(q6, .inr (6, [.ref (u6.1 0), .ref (u6.1 1), .int 0, .int 0, .ref (u5 1), .int 0, .int 0, .int (-1)])), (u6.1 0, .inl (cs.1, 4000, .inl (fun _ => 0))), (u6.1 1, .inl (cs.1, 4000, .inl (fun _ => 0)))]) ++ [(q2, .inr (2, [.ref (u2.1 0), .ref (u5 1), .ref q6])), (u2.1 0, .inl (cs.1, 16384, .inl (fun _ => 0)))]) ++ [(q4, .inr (4, [.ref (u5 1), .ref q2, .ref (u4.1 0), .int 0, .int (-1)])), (u4.1 0, .inl (cs.1, 15, .inl (fun _ => 0)))]) ++ [(q0, .inr (0, [.ref (u5 1), .ref q2, .ref (u0.1 0), .ref (u0.1 1), .ref (u0.1 2), .ref (u0.1 3), .ref (u0.1 4), .int 0, .int 0, .int (-1)])), (u0.1 0, .inl (cs.1, 14, .inl (fun _ => 0))), (u0.1 1, .inl (cs.1, 2303, .inl (fun _ => 0))), (u0.1 2, .inl (cs.1, 2303, .inl (fun _ => 0))), (u0.1 3, .inl (cs.1, 2303, .inl (fun _ => 0))), (u0.1 4, .inl (cs.1, 1024, .inl (fun _ => 0)))])) := hD
  refine va_putF (D := D) (ci := 8) (v := .ref q0) (ty := .object "HypergraphDualizer$Diagram") (C := RX8) (T := TX8) (N := 6) hx hb hts uX8 tyX8 tyX8_ok nmX8 hown hK hP hD hS 0 rfl rfl 4 (by decide) (hts _ q2_12) (fun _ h9 => h9) rfl hin rfl (by decide +kernel) rfl rfl (Nat.le_of_ble_eq_true rfl) dX8_init_93 (fun H locs hP hD hS => ?_)
  have hP : va_P D vwCl ((h0, .inr (8, [.ref (u5 1), .ref q7, .ref q6, .ref q4, .ref q0, .null])) :: (((((gw gl5 cs u5 kM5 ++ gw [3, 32, 33] cs (kad7 q7 u7.1) M7) ++ [(q6, .inr (6, [.ref (u6.1 0), .ref (u6.1 1), .int 0, .int 0, .ref (u5 1), .int 0, .int 0, .int (-1)])), (u6.1 0, .inl (cs.1, 4000, .inl (fun _ => 0))), (u6.1 1, .inl (cs.1, 4000, .inl (fun _ => 0)))]) ++ [(q2, .inr (2, [.ref (u2.1 0), .ref (u5 1), .ref q6])), (u2.1 0, .inl (cs.1, 16384, .inl (fun _ => 0)))]) ++ [(q4, .inr (4, [.ref (u5 1), .ref q2, .ref (u4.1 0), .int 0, .int (-1)])), (u4.1 0, .inl (cs.1, 15, .inl (fun _ => 0)))]) ++ [(q0, .inr (0, [.ref (u5 1), .ref q2, .ref (u0.1 0), .ref (u0.1 1), .ref (u0.1 2), .ref (u0.1 3), .ref (u0.1 4), .int 0, .int 0, .int (-1)])), (u0.1 0, .inl (cs.1, 14, .inl (fun _ => 0))), (u0.1 1, .inl (cs.1, 2303, .inl (fun _ => 0))), (u0.1 2, .inl (cs.1, 2303, .inl (fun _ => 0))), (u0.1 3, .inl (cs.1, 2303, .inl (fun _ => 0))), (u0.1 4, .inl (cs.1, 1024, .inl (fun _ => 0)))])) H := hP
  have hD : va_D A ((h0, .inr (8, [.ref (u5 1), .ref q7, .ref q6, .ref q4, .ref q0, .null])) :: (((((gw gl5 cs u5 kM5 ++ gw [3, 32, 33] cs (kad7 q7 u7.1) M7) ++ [(q6, .inr (6, [.ref (u6.1 0), .ref (u6.1 1), .int 0, .int 0, .ref (u5 1), .int 0, .int 0, .int (-1)])), (u6.1 0, .inl (cs.1, 4000, .inl (fun _ => 0))), (u6.1 1, .inl (cs.1, 4000, .inl (fun _ => 0)))]) ++ [(q2, .inr (2, [.ref (u2.1 0), .ref (u5 1), .ref q6])), (u2.1 0, .inl (cs.1, 16384, .inl (fun _ => 0)))]) ++ [(q4, .inr (4, [.ref (u5 1), .ref q2, .ref (u4.1 0), .int 0, .int (-1)])), (u4.1 0, .inl (cs.1, 15, .inl (fun _ => 0)))]) ++ [(q0, .inr (0, [.ref (u5 1), .ref q2, .ref (u0.1 0), .ref (u0.1 1), .ref (u0.1 2), .ref (u0.1 3), .ref (u0.1 4), .int 0, .int 0, .int (-1)])), (u0.1 0, .inl (cs.1, 14, .inl (fun _ => 0))), (u0.1 1, .inl (cs.1, 2303, .inl (fun _ => 0))), (u0.1 2, .inl (cs.1, 2303, .inl (fun _ => 0))), (u0.1 3, .inl (cs.1, 2303, .inl (fun _ => 0))), (u0.1 4, .inl (cs.1, 1024, .inl (fun _ => 0)))])) := hD
  refine lv_aload_n hx hb dX8_init_96 rfl (lv_at hl 1 rfl) ?_
  refine va_new (ci := 1) (fs := [.int 0, .null, .int 0, .int 0]) (C := RX1) (T := TX1) (N := 4) hx hb hts uX1 tyX1 tyX1_ok hown (hts _ q1_227) (hts _ q1_228) (hts _ q1_9) hK hP hD hS hA rfl (fun j hj => by rcases (show j = 0 ∨ j = 1 ∨ j = 2 ∨ j = 3 by omega) with rfl | rfl | rfl | rfl <;> rfl) (Nat.le_of_ble_eq_true rfl) (Nat.le_of_ble_eq_true rfl) dX8_init_97 (fun q1 H hP hD hS => ?_)
  refine W.widen (k := 40) (n := 36883) (Nat.le_of_ble_eq_true rfl) (Nat.le_of_ble_eq_true rfl) ?_
  refine lv_dup hx hb dX8_init_100 rfl ?_
  refine kI (S := kSt) (X := ((h0, .inr (8, [.ref (u5 1), .ref q7, .ref q6, .ref q4, .ref q0, .null])) :: (((((gw gl5 cs u5 kM5 ++ gw [3, 32, 33] cs (kad7 q7 u7.1) M7) ++ [(q6, .inr (6, [.ref (u6.1 0), .ref (u6.1 1), .int 0, .int 0, .ref (u5 1), .int 0, .int 0, .int (-1)])), (u6.1 0, .inl (cs.1, 4000, .inl (fun _ => 0))), (u6.1 1, .inl (cs.1, 4000, .inl (fun _ => 0)))]) ++ [(q2, .inr (2, [.ref (u2.1 0), .ref (u5 1), .ref q6])), (u2.1 0, .inl (cs.1, 16384, .inl (fun _ => 0)))]) ++ [(q4, .inr (4, [.ref (u5 1), .ref q2, .ref (u4.1 0), .int 0, .int (-1)])), (u4.1 0, .inl (cs.1, 15, .inl (fun _ => 0)))]) ++ [(q0, .inr (0, [.ref (u5 1), .ref q2, .ref (u0.1 0), .ref (u0.1 1), .ref (u0.1 2), .ref (u0.1 3), .ref (u0.1 4), .int 0, .int 0, .int (-1)])), (u0.1 0, .inl (cs.1, 14, .inl (fun _ => 0))), (u0.1 1, .inl (cs.1, 2303, .inl (fun _ => 0))), (u0.1 2, .inl (cs.1, 2303, .inl (fun _ => 0))), (u0.1 3, .inl (cs.1, 2303, .inl (fun _ => 0))), (u0.1 4, .inl (cs.1, 1024, .inl (fun _ => 0)))]))) (As := []) (rest := [.ref q1, .ref h0]) (H := H) hx hb hml hown hts (c_X1_init l D q1 H.size) i_X1 rfl q1_230 q1_229 rfl rfl ⟨Nat.le_of_ble_eq_true rfl, Nat.le_of_ble_eq_true rfl⟩ rfl hl.1 rfl (Nat.le_of_ble_eq_true rfl) dX8_init_101 ⟨Nat.le_of_ble_eq_true rfl, Nat.le_of_ble_eq_true rfl⟩ kK.call (fun U hW => va_K.moved hW.alike hK0) hP hD hS hA (fun u1 t1 H locs hal hu hKp hP hD hS => ?_)
  refine W.widen (k := 41) (n := 36983) (Nat.le_of_ble_eq_true rfl) (Nat.le_of_ble_eq_true rfl) ?_
  have z : u1.2.2.1 = cs.2.1 := kK.clsC hK (va_K.moved hal.symm hKp)
  rw [z] at hP hD
  have hP : va_P D vwCl ((h0, .inr (8, [.ref (u5 1), .ref q7, .ref q6, .ref q4, .ref q0, .null])) :: ((((((gw gl5 cs u5 kM5 ++ gw [3, 32, 33] cs (kad7 q7 u7.1) M7) ++ [(q6, .inr (6, [.ref (u6.1 0), .ref (u6.1 1), .int 0, .int 0, .ref (u5 1), .int 0, .int 0, .int (-1)])), (u6.1 0, .inl (cs.1, 4000, .inl (fun _ => 0))), (u6.1 1, .inl (cs.1, 4000, .inl (fun _ => 0)))]) ++ [(q2, .inr (2, [.ref (u2.1 0), .ref (u5 1), .ref q6])), (u2.1 0, .inl (cs.1, 16384, .inl (fun _ => 0)))]) ++ [(q4, .inr (4, [.ref (u5 1), .ref q2, .ref (u4.1 0), .int 0, .int (-1)])), (u4.1 0, .inl (cs.1, 15, .inl (fun _ => 0)))]) ++ [(q0, .inr (0, [.ref (u5 1), .ref q2, .ref (u0.1 0), .ref (u0.1 1), .ref (u0.1 2), .ref (u0.1 3), .ref (u0.1 4), .int 0, .int 0, .int (-1)])), (u0.1 0, .inl (cs.1, 14, .inl (fun _ => 0))), (u0.1 1, .inl (cs.1, 2303, .inl (fun _ => 0))), (u0.1 2, .inl (cs.1, 2303, .inl (fun _ => 0))), (u0.1 3, .inl (cs.1, 2303, .inl (fun _ => 0))), (u0.1 4, .inl (cs.1, 1024, .inl (fun _ => 0)))]) ++ [(q1, .inr (1, [.int 0, .ref (u1.1 0), .int 0, .int 0])), (u1.1 0, .inl (cs.2.1, 100, .inl (fun _ => 0)))])) H := hP
  have hD : va_D A ((h0, .inr (8, [.ref (u5 1), .ref q7, .ref q6, .ref q4, .ref q0, .null])) :: ((((((gw gl5 cs u5 kM5 ++ gw [3, 32, 33] cs (kad7 q7 u7.1) M7) ++ [(q6, .inr (6, [.ref (u6.1 0), .ref (u6.1 1), .int 0, .int 0, .ref (u5 1), .int 0, .int 0, .int (-1)])), (u6.1 0, .inl (cs.1, 4000, .inl (fun _ => 0))), (u6.1 1, .inl (cs.1, 4000, .inl (fun _ => 0)))]) ++ [(q2, .inr (2, [.ref (u2.1 0), .ref (u5 1), .ref q6])), (u2.1 0, .inl (cs.1, 16384, .inl (fun _ => 0)))]) ++ [(q4, .inr (4, [.ref (u5 1), .ref q2, .ref (u4.1 0), .int 0, .int (-1)])), (u4.1 0, .inl (cs.1, 15, .inl (fun _ => 0)))]) ++ [(q0, .inr (0, [.ref (u5 1), .ref q2, .ref (u0.1 0), .ref (u0.1 1), .ref (u0.1 2), .ref (u0.1 3), .ref (u0.1 4), .int 0, .int 0, .int (-1)])), (u0.1 0, .inl (cs.1, 14, .inl (fun _ => 0))), (u0.1 1, .inl (cs.1, 2303, .inl (fun _ => 0))), (u0.1 2, .inl (cs.1, 2303, .inl (fun _ => 0))), (u0.1 3, .inl (cs.1, 2303, .inl (fun _ => 0))), (u0.1 4, .inl (cs.1, 1024, .inl (fun _ => 0)))]) ++ [(q1, .inr (1, [.int 0, .ref (u1.1 0), .int 0, .int 0])), (u1.1 0, .inl (cs.2.1, 100, .inl (fun _ => 0)))])) := hD
  refine va_putF (D := D) (ci := 8) (v := .ref q1) (ty := .object "HypergraphDualizer$EdgeText") (C := RX8) (T := TX8) (N := 6) hx hb hts uX8 tyX8 tyX8_ok nmX8 hown hK hP hD hS 0 rfl rfl 5 (by decide) (hts _ q2_13) (fun _ h9 => h9) rfl hin rfl (by decide +kernel) rfl rfl (Nat.le_of_ble_eq_true rfl) dX8_init_104 (fun H locs hP hD hS => ?_)
  have hP : va_P D vwCl ((h0, .inr (8, [.ref (u5 1), .ref q7, .ref q6, .ref q4, .ref q0, .ref q1])) :: ((((((gw gl5 cs u5 kM5 ++ gw [3, 32, 33] cs (kad7 q7 u7.1) M7) ++ [(q6, .inr (6, [.ref (u6.1 0), .ref (u6.1 1), .int 0, .int 0, .ref (u5 1), .int 0, .int 0, .int (-1)])), (u6.1 0, .inl (cs.1, 4000, .inl (fun _ => 0))), (u6.1 1, .inl (cs.1, 4000, .inl (fun _ => 0)))]) ++ [(q2, .inr (2, [.ref (u2.1 0), .ref (u5 1), .ref q6])), (u2.1 0, .inl (cs.1, 16384, .inl (fun _ => 0)))]) ++ [(q4, .inr (4, [.ref (u5 1), .ref q2, .ref (u4.1 0), .int 0, .int (-1)])), (u4.1 0, .inl (cs.1, 15, .inl (fun _ => 0)))]) ++ [(q0, .inr (0, [.ref (u5 1), .ref q2, .ref (u0.1 0), .ref (u0.1 1), .ref (u0.1 2), .ref (u0.1 3), .ref (u0.1 4), .int 0, .int 0, .int (-1)])), (u0.1 0, .inl (cs.1, 14, .inl (fun _ => 0))), (u0.1 1, .inl (cs.1, 2303, .inl (fun _ => 0))), (u0.1 2, .inl (cs.1, 2303, .inl (fun _ => 0))), (u0.1 3, .inl (cs.1, 2303, .inl (fun _ => 0))), (u0.1 4, .inl (cs.1, 1024, .inl (fun _ => 0)))]) ++ [(q1, .inr (1, [.int 0, .ref (u1.1 0), .int 0, .int 0])), (u1.1 0, .inl (cs.2.1, 100, .inl (fun _ => 0)))])) H := hP
  have hD : va_D A ((h0, .inr (8, [.ref (u5 1), .ref q7, .ref q6, .ref q4, .ref q0, .ref q1])) :: ((((((gw gl5 cs u5 kM5 ++ gw [3, 32, 33] cs (kad7 q7 u7.1) M7) ++ [(q6, .inr (6, [.ref (u6.1 0), .ref (u6.1 1), .int 0, .int 0, .ref (u5 1), .int 0, .int 0, .int (-1)])), (u6.1 0, .inl (cs.1, 4000, .inl (fun _ => 0))), (u6.1 1, .inl (cs.1, 4000, .inl (fun _ => 0)))]) ++ [(q2, .inr (2, [.ref (u2.1 0), .ref (u5 1), .ref q6])), (u2.1 0, .inl (cs.1, 16384, .inl (fun _ => 0)))]) ++ [(q4, .inr (4, [.ref (u5 1), .ref q2, .ref (u4.1 0), .int 0, .int (-1)])), (u4.1 0, .inl (cs.1, 15, .inl (fun _ => 0)))]) ++ [(q0, .inr (0, [.ref (u5 1), .ref q2, .ref (u0.1 0), .ref (u0.1 1), .ref (u0.1 2), .ref (u0.1 3), .ref (u0.1 4), .int 0, .int 0, .int (-1)])), (u0.1 0, .inl (cs.1, 14, .inl (fun _ => 0))), (u0.1 1, .inl (cs.1, 2303, .inl (fun _ => 0))), (u0.1 2, .inl (cs.1, 2303, .inl (fun _ => 0))), (u0.1 3, .inl (cs.1, 2303, .inl (fun _ => 0))), (u0.1 4, .inl (cs.1, 1024, .inl (fun _ => 0)))]) ++ [(q1, .inr (1, [.int 0, .ref (u1.1 0), .int 0, .int 0])), (u1.1 0, .inl (cs.2.1, 100, .inl (fun _ => 0)))])) := hD
  have hP : va_P D vwCl (gw gP cs (kad8 h0 u5 q7 u7.1 q6 u6.1 q2 u2.1 q4 u4.1 q0 u0.1 q1 u1.1) (kM8 M7)) H := by rw [← kw8]; exact hP
  have hD : va_D A (gw gP cs (kad8 h0 u5 q7 u7.1 q6 u6.1 q2 u2.1 q4 u4.1 q0 u0.1 q1 u1.1) (kM8 M7)) := by rw [← kw8]; exact hD
  have hP : va_P D vwCl (gw gL cs (kad8 h0 u5 q7 u7.1 q6 u6.1 q2 u2.1 q4 u4.1 q0 u0.1 q1 u1.1) (kM8 M7)) H := wP_mem hP (fun q hq => (gP_perm cs _ _).mem_iff.mpr hq)
  have hD : va_D A (gw gL cs (kad8 h0 u5 q7 u7.1 q6 u6.1 q2 u2.1 q4 u4.1 q0 u0.1 q1 u1.1) (kM8 M7)) := wD_perm hD (gP_perm cs _ _)
  exact W.vret hx hb hr (fun t ht hW => ⟨⟨(kad8 h0 u5 q7 u7.1 q6 u6.1 q2 u2.1 q4 u4.1 q0 u0.1 q1 u1.1, kM8 M7), rfl, ⟨rfl, kXI0 hM.1⟩, by rw [ht]; exact hP, trivial, hD⟩, hS.F ht⟩) hS.2.2 dX8_init_107
