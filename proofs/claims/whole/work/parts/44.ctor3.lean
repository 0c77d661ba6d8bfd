/-! the ring of rows, and the hypergraph that holds it -/
abbrev gl3 : List Nat := [2, 11, 13, 14, 15, 16, 17, 18, 19, 20, 21, 22, 23, 24, 25, 26, 27, 28, 29, 12]
def kad3 (h q q1 : Nat) (r : Nat → Nat) (i : Nat) : Nat := match i with
  | 2 => h
  | 11 => q
  | 12 => q1
  | i => r (i - 13)
theorem kad3_row (h q q1 : Nat) (r : Nat → Nat) : ∀ j, j < 17 → kad3 h q q1 r (13 + j) = r j := by
  intro j hj
  match j, hj with
  | 0, _ => rfl
  | 1, _ => rfl
  | 2, _ => rfl
  | 3, _ => rfl
  | 4, _ => rfl
  | 5, _ => rfl
  | 6, _ => rfl
  | 7, _ => rfl
  | 8, _ => rfl
  | 9, _ => rfl
  | 10, _ => rfl
  | 11, _ => rfl
  | 12, _ => rfl
  | 13, _ => rfl
  | 14, _ => rfl
  | 15, _ => rfl
  | 16, _ => rfl
  | j + 17, h => omega
theorem kad3_fun (h q q1 : Nat) (r : Nat → Nat) : (fun i => if i < 17 then some (r i) else none) = (fun j => if j < 17 then some (kad3 h q q1 r (13 + j)) else none) := by
  funext j
  by_cases hj : j < 17
  · rw [if_pos hj, if_pos hj, kad3_row h q q1 r j hj]
  · rw [if_neg hj, if_neg hj]
abbrev kB3 (h0 : Nat) : va_W := [(h0, .inr (3, [.int 0, .int 0, .null, .null, .int 0]))]
theorem i_X3 : gSt yX3_init cX3_init 1 none 0 := ⟨q1_32, q1_3, ⟨by decide, by decide, by decide +kernel⟩, by decide⟩
set_option maxHeartbeats 4000000 in
set_option maxRecDepth 100000 in
theorem c_X3_init (l : Launch) (D : va_G) (cs : ClassId × ClassId × ClassId) (h0 sz : Nat) : Met l yX3_init (.code yX3_init cX3_init 1 none :: gT) { frames := 1, cells := 19, slots := 442, locals := 40 } (va_Pc [.ref h0] (fun U => U.heap.size = sz ∧ va_P D vwCl (kB3 h0) U.heap ∧ kU D cs U ∧ va_D (fun _ => True) (kB3 h0)))
    (va_Qv (fun u : Nat → Nat => u 2 = h0) (fun u t => va_P D vwCl (gw gl3 cs u gZ0) t.heap ∧ True ∧ va_D (va_A (kB3 h0) sz) (gw gl3 cs u gZ0)) (va_A (kB3 h0) sz)) 19 442 (va_A (kB3 h0) sz) := by
  refine Met.ofW (cc := cX3_init) (maxL := 1) (ret := none) (by decide) rfl ?_
  intro p e s m args below meth c s₁ B hml hv
  obtain ⟨rfl, hsz, hP, hU, hD0⟩ := hv
  have hK : va_K D vwCl (gtys cs) s := hU.1
  have hx := B.exec
  have hb := B.bytes
  have hr := B.returns
  have hts0 := atoms_spec (ws := (.code yX3_init cX3_init 1 none :: gT)) B.pre
  have hts : ∀ w ∈ gT, w.before _ s = true := fun w hw => hts0 w (List.mem_cons_of_mem _ hw)
  have hown : s.vm.findClass RX3 = some m.cls := findClass_of_methodNamed B.named
  have hlocks := B.notSynchronized
  have hin : meth.name = "<init>" := (name_of_methodNamed B.named B.method).1
  subst hsz
  have hD := hD0.self (sz := s.heap.size)
  generalize hAe : va_A (kB3 h0) s.heap.size = A at hD ⊢
  have hA : ∀ q : Nat, s.heap.size ≤ q → A q := fun q h => by rw [← hAe]; exact Or.inr h
  have hS : va_S A s.heap s.heap [] := va_S.rf
  have hl := lv_entry ([.ref h0]) (n := 1) (Nat.le_of_ble_eq_true rfl)
  rw [lg_entry_eq]
  generalize (lg_sl ([.ref h0]) ++ List.replicate (1 - (lg_sl ([.ref h0])).length) Slot.unset).toArray = ls at hl ⊢
  have hl : lv_has ls 1 [(0, .ref h0)] := hl
  refine lv_aload_n hx hb dX3_init_0 rfl (lv_at hl 0 rfl) ?_
  refine W.objInit hx hb hown (hts _ q1_33) (hts _ q1_20) (hts _ q1_21) rfl (by rw [hml]; exact hl.1) rfl dX3_init_1 (Nat.le_of_ble_eq_true rfl) (Nat.le_of_ble_eq_true rfl) ?_
  refine W.eq (g2 := F0 m 4 ls []) rfl ?_
  refine lv_aload_n hx hb dX3_init_4 rfl (lv_at hl 0 rfl) ?_
  refine lv_bipush hx hb dX3_init_5 rfl ?_
  refine lv_bipush hx hb dX3_init_7 rfl ?_
  have hcy : s.vm.findClass (FieldType.array .int).toString = some cs.1 := (hK.2 0 _ rfl).2
  refine va_mna (X := kB3 h0) (L := []) (f := fun _ => .inr (0, [])) (ty := .int) (cy := cs.1) (N' := 17) (K' := 24) (z := (24, .inl (fun _ => 0))) hx hb hown (hts _ q1_34) hU.2.2 (hts _ q1_54) hcy hK hP hD hS hA (by decide) (by decide) rfl rfl (Nat.le_of_ble_eq_true rfl) (Nat.le_of_ble_eq_true rfl) (Nat.le_of_ble_eq_true rfl) rfl rfl (Nat.le_of_ble_eq_true rfl) (Nat.le_of_ble_eq_true rfl) (fun c => arrV_new c 24 (.int 0)) dX3_init_9 (fun q r cA H hri hrn hK2 hP hD hS => ?_)
  have zA : cA = cs.2.2 := by
    have a1 : s.vm.findClass ("[" ++ (FieldType.array .int).toString) = some cA := (hK2.2 3 _ rfl).2
    have a0 : s.vm.findClass ("[" ++ (FieldType.array .int).toString) = some cs.2.2 := (hK2.2 2 _ rfl).2
    exact Option.some.inj (a1.symm.trans a0)
  subst zA
  rw [← vr_rows (L := []) (fun a _ h => List.not_mem_nil h)] at hP hD
  have hP : va_P D vwCl [(h0, .inr (3, [.int 0, .int 0, .null, .null, .int 0])), (q, .inl (cs.2.2, 17, .inr (.inr (.inr (.inr (fun i => if i < 17 then some (r i) else none)))))), (r 0, .inl (cs.1, 24, .inl (fun _ => 0))), (r 1, .inl (cs.1, 24, .inl (fun _ => 0))), (r 2, .inl (cs.1, 24, .inl (fun _ => 0))), (r 3, .inl (cs.1, 24, .inl (fun _ => 0))), (r 4, .inl (cs.1, 24, .inl (fun _ => 0))), (r 5, .inl (cs.1, 24, .inl (fun _ => 0))), (r 6, .inl (cs.1, 24, .inl (fun _ => 0))), (r 7, .inl (cs.1, 24, .inl (fun _ => 0))), (r 8, .inl (cs.1, 24, .inl (fun _ => 0))), (r 9, .inl (cs.1, 24, .inl (fun _ => 0))), (r 10, .inl (cs.1, 24, .inl (fun _ => 0))), (r 11, .inl (cs.1, 24, .inl (fun _ => 0))), (r 12, .inl (cs.1, 24, .inl (fun _ => 0))), (r 13, .inl (cs.1, 24, .inl (fun _ => 0))), (r 14, .inl (cs.1, 24, .inl (fun _ => 0))), (r 15, .inl (cs.1, 24, .inl (fun _ => 0))), (r 16, .inl (cs.1, 24, .inl (fun _ => 0)))] H := hP
  have hD : va_D A [(h0, .inr (3, [.int 0, .int 0, .null, .null, .int 0])), (q, .inl (cs.2.2, 17, .inr (.inr (.inr (.inr (fun i => if i < 17 then some (r i) else none)))))), (r 0, .inl (cs.1, 24, .inl (fun _ => 0))), (r 1, .inl (cs.1, 24, .inl (fun _ => 0))), (r 2, .inl (cs.1, 24, .inl (fun _ => 0))), (r 3, .inl (cs.1, 24, .inl (fun _ => 0))), (r 4, .inl (cs.1, 24, .inl (fun _ => 0))), (r 5, .inl (cs.1, 24, .inl (fun _ => 0))), (r 6, .inl (cs.1, 24, .inl (fun _ => 0))), (r 7, .inl (cs.1, 24, .inl (fun _ => 0))), (r 8, .inl (cs.1, 24, .inl (fun _ => 0))), (r 9, .inl (cs.1, 24, .inl (fun _ => 0))), (r 10, .inl (cs.1, 24, .inl (fun _ => 0))), (r 11, .inl (cs.1, 24, .inl (fun _ => 0))), (r 12, .inl (cs.1, 24, .inl (fun _ => 0))), (r 13, .inl (cs.1, 24, .inl (fun _ => 0))), (r 14, .inl (cs.1, 24, .inl (fun _ => 0))), (r 15, .inl (cs.1, 24, .inl (fun _ => 0))), (r 16, .inl (cs.1, 24, .inl (fun _ => 0)))] := hD
  refine W.widen (k := 18) (n := 425) (by omega) (by omega) ?_
  refine va_putF (D := D) (ci := 3) (v := .ref q) (ty := .array (.array .int)) (C := RX3) (T := TX3) (N := 5) hx hb hts uX3 tyX3 tyX3_ok nmX3 hown hK hP hD hS 0 rfl rfl 2 (by decide) (hts _ q1_40) (fun _ h9 => h9) rfl hin rfl (by decide +kernel) rfl rfl (Nat.le_of_ble_eq_true rfl) dX3_init_13 (fun H locs hP hD hS => ?_)
  refine lv_aload_n hx hb dX3_init_16 rfl (lv_at hl 0 rfl) ?_
  refine lv_bipush hx hb dX3_init_17 rfl ?_
  refine va_newa (atype := .int) (ty := .int) (a0 := (17, .inl (fun _ => 0))) hx hb (hts _ q1_54) rfl hK hP hD hS hA (fun _ => rfl) (by decide) rfl (by decide) (Nat.le_of_ble_eq_true rfl) (Nat.le_of_ble_eq_true rfl) dX3_init_19 (fun q1 cB H hK3 hP hD hS => ?_)
  have zB : cB = cs.1 := by
    have a1 : s.vm.findClass ("[" ++ FieldType.int.toString) = some cB := (hK3.2 3 _ rfl).2
    have a0 : s.vm.findClass ("[" ++ FieldType.int.toString) = some cs.1 := (hK3.2 0 _ rfl).2
    exact Option.some.inj (a1.symm.trans a0)
  subst zB
  refine va_putF (D := D) (ci := 3) (v := .ref q1) (ty := .array .int) (C := RX3) (T := TX3) (N := 5) hx hb hts uX3 tyX3 tyX3_ok nmX3 hown hK hP hD hS 0 rfl rfl 3 (by decide) (hts _ q1_41) (fun _ h9 => h9) rfl hin rfl (by decide +kernel) rfl rfl (Nat.le_of_ble_eq_true rfl) dX3_init_21 (fun H locs hP hD hS => ?_)
  rw [kad3_fun h0 q q1 r] at hP hD
  have hP : va_P D vwCl (gw gl3 cs (kad3 h0 q q1 r) gZ0) H := hP
  have hD : va_D A (gw gl3 cs (kad3 h0 q q1 r) gZ0) := hD
  exact W.vret hx hb hr (fun t ht hW => ⟨⟨kad3 h0 q q1 r, rfl, rfl, by rw [ht]; exact hP, trivial, hD⟩, hS.F ht⟩) hS.2.2 dX3_init_24
abbrev gl5 : List Nat := [1, 9, 10] ++ gl3
def kad5 (h q q1 : Nat) (r : Nat → Nat) (i : Nat) : Nat := match i with
  | 1 => h
  | 9 => q
  | 10 => q1
  | i => r i
theorem kad5_row (h q q1 : Nat) (r : Nat → Nat) : ∀ j, j < 17 → kad5 h q q1 r (13 + j) = r (13 + j) := by
  intro j hj
  match j, hj with
  | 0, _ => rfl
  | 1, _ => rfl
  | 2, _ => rfl
  | 3, _ => rfl
  | 4, _ => rfl
  | 5, _ => rfl
  | 6, _ => rfl
  | 7, _ => rfl
  | 8, _ => rfl
  | 9, _ => rfl
  | 10, _ => rfl
  | 11, _ => rfl
  | 12, _ => rfl
  | 13, _ => rfl
  | 14, _ => rfl
  | 15, _ => rfl
  | 16, _ => rfl
  | j + 17, h => omega
def kM5 : gM := gst gZ0 1 0 6
theorem kw5 (cs : ClassId × ClassId × ClassId) (h q q1 : Nat) (r : Nat → Nat) : [(h, (.inr (5, [.int 6, .int 0, .ref q, .ref q1, .ref (r 2), .int 0]) : va_E)), (q, .inl (cs.1, 24, .inl (fun _ => 0))), (q1, .inl (cs.1, 14, .inl (fun _ => 0)))] ++ gw gl3 cs r gZ0 = gw gl5 cs (kad5 h q q1 r) kM5 := by
  have e : gw gl3 cs (kad5 h q q1 r) kM5 = gw gl3 cs r gZ0 := by
    refine gw_cong (fun i hi => ?_)
    simp only [List.mem_cons, List.not_mem_nil, or_false] at hi
    rcases hi with rfl | rfl | rfl | rfl | rfl | rfl | rfl | rfl | rfl | rfl | rfl | rfl | rfl | rfl | rfl | rfl | rfl | rfl | rfl | rfl
    · exact ⟨rfl, rfl⟩
    · exact ⟨rfl, gE_row (kad5_row h q q1 r)⟩
    all_goals exact ⟨rfl, rfl⟩
  show _ = gw ([1, 9, 10] ++ gl3) cs (kad5 h q q1 r) kM5
  rw [gw_app, e]
  rfl
abbrev kB5 (h0 : Nat) : va_W := [(h0, .inr (5, [.int 0, .int 0, .null, .null, .null, .int 0]))]
theorem i_X5 : gSt yX5_init cX5_init 1 none 0 := ⟨q1_26, q1_2, ⟨by decide, by decide, by decide +kernel⟩, by decide⟩
set_option maxHeartbeats 4000000 in
set_option maxRecDepth 100000 in
theorem c_X5_init (l : Launch) (D : va_G) (cs : ClassId × ClassId × ClassId) (h0 sz : Nat) : Met l yX5_init (.code yX5_init cX5_init 1 none :: gT) { frames := 2, cells := 22, slots := 485, locals := 80 } (va_Pc [.ref h0] (fun U => U.heap.size = sz ∧ va_P D vwCl (kB5 h0) U.heap ∧ kU D cs U ∧ va_D (fun _ => True) (kB5 h0)))
    (va_Qv (fun u : Nat → Nat => u 1 = h0) (fun u t => va_P D vwCl (gw gl5 cs u kM5) t.heap ∧ True ∧ va_D (va_A (kB5 h0) sz) (gw gl5 cs u kM5)) (va_A (kB5 h0) sz)) 22 485 (va_A (kB5 h0) sz) := by
  refine Met.ofW (cc := cX5_init) (maxL := 1) (ret := none) (by decide) rfl ?_
  intro p e s m args below meth c s₁ B hml hv
  obtain ⟨rfl, hsz, hP, hU, hD0⟩ := hv
  have hK : va_K D vwCl (gtys cs) s := hU.1
  have hx := B.exec
  have hb := B.bytes
  have hr := B.returns
  have hts0 := atoms_spec (ws := (.code yX5_init cX5_init 1 none :: gT)) B.pre
  have hts : ∀ w ∈ gT, w.before _ s = true := fun w hw => hts0 w (List.mem_cons_of_mem _ hw)
  have hown : s.vm.findClass RX5 = some m.cls := findClass_of_methodNamed B.named
  have hlocks := B.notSynchronized
  have hin : meth.name = "<init>" := (name_of_methodNamed B.named B.method).1
  subst hsz
  have hD := hD0.self (sz := s.heap.size)
  generalize hAe : va_A (kB5 h0) s.heap.size = A at hD ⊢
  have hA : ∀ q : Nat, s.heap.size ≤ q → A q := fun q h => by rw [← hAe]; exact Or.inr h
  have hS : va_S A s.heap s.heap [] := va_S.rf
  have hl := lv_entry ([.ref h0]) (n := 1) (Nat.le_of_ble_eq_true rfl)
  rw [lg_entry_eq]
  generalize (lg_sl ([.ref h0]) ++ List.replicate (1 - (lg_sl ([.ref h0])).length) Slot.unset).toArray = ls at hl ⊢
  have hl : lv_has ls 1 [(0, .ref h0)] := hl
  refine lv_aload_n hx hb dX5_init_0 rfl (lv_at hl 0 rfl) ?_
  refine W.objInit hx hb hown (hts _ q1_27) (hts _ q1_20) (hts _ q1_21) rfl (by rw [hml]; exact hl.1) rfl dX5_init_1 (Nat.le_of_ble_eq_true rfl) (Nat.le_of_ble_eq_true rfl) ?_
  refine W.eq (g2 := F0 m 4 ls []) rfl ?_
  refine lv_aload_n hx hb dX5_init_4 rfl (lv_at hl 0 rfl) ?_
  refine lv_bipush hx hb dX5_init_5 rfl ?_
  refine va_put (D := D) (ci := 5) (v := .int 6) (ty := .int) (C := RX5) (T := TX5) (N := 6) hx hb hts uX5 tyX5 tyX5_ok nmX5 hown hK hP hD hS 0 rfl rfl 0 (by decide) (hts _ q1_55) (fun _ h9 => h9) rfl (by decide +kernel) rfl rfl (Nat.le_of_ble_eq_true rfl) dX5_init_7 (fun H locs hP hD hS => ?_)
  refine lv_aload_n hx hb dX5_init_10 rfl (lv_at hl 0 rfl) ?_
  refine lv_bipush hx hb dX5_init_11 rfl ?_
  refine va_newa (atype := .int) (ty := .int) (a0 := (24, .inl (fun _ => 0))) hx hb (hts _ q1_54) rfl hK hP hD hS hA (fun _ => rfl) (by decide) rfl (by decide) (Nat.le_of_ble_eq_true rfl) (Nat.le_of_ble_eq_true rfl) dX5_init_13 (fun q0 cA H hK3 hP hD hS => ?_)
  have zA : cA = cs.1 := by
    have a1 : s.vm.findClass ("[" ++ FieldType.int.toString) = some cA := (hK3.2 3 _ rfl).2
    have a0 : s.vm.findClass ("[" ++ FieldType.int.toString) = some cs.1 := (hK3.2 0 _ rfl).2
    exact Option.some.inj (a1.symm.trans a0)
  subst zA
  refine va_putF (D := D) (ci := 5) (v := .ref q0) (ty := .array .int) (C := RX5) (T := TX5) (N := 6) hx hb hts uX5 tyX5 tyX5_ok nmX5 hown hK hP hD hS 0 rfl rfl 2 (by decide) (hts _ q1_66) (fun _ h9 => h9) rfl hin rfl (by decide +kernel) rfl rfl (Nat.le_of_ble_eq_true rfl) dX5_init_15 (fun H locs hP hD hS => ?_)
  refine lv_aload_n hx hb dX5_init_18 rfl (lv_at hl 0 rfl) ?_
  refine lv_bipush hx hb dX5_init_19 rfl ?_
  refine va_newa (atype := .int) (ty := .int) (a0 := (14, .inl (fun _ => 0))) hx hb (hts _ q1_54) rfl hK hP hD hS hA (fun _ => rfl) (by decide) rfl (by decide) (Nat.le_of_ble_eq_true rfl) (Nat.le_of_ble_eq_true rfl) dX5_init_21 (fun q1 cB H hK3 hP hD hS => ?_)
  have zB : cB = cs.1 := by
    have a1 : s.vm.findClass ("[" ++ FieldType.int.toString) = some cB := (hK3.2 3 _ rfl).2
    have a0 : s.vm.findClass ("[" ++ FieldType.int.toString) = some cs.1 := (hK3.2 0 _ rfl).2
    exact Option.some.inj (a1.symm.trans a0)
  subst zB
  refine va_putF (D := D) (ci := 5) (v := .ref q1) (ty := .array .int) (C := RX5) (T := TX5) (N := 6) hx hb hts uX5 tyX5 tyX5_ok nmX5 hown hK hP hD hS 0 rfl rfl 3 (by decide) (hts _ q1_70) (fun _ h9 => h9) rfl hin rfl (by decide +kernel) rfl rfl (Nat.le_of_ble_eq_true rfl) dX5_init_23 (fun H locs hP hD hS => ?_)
  have hP : va_P D vwCl [(h0, .inr (5, [.int 6, .int 0, .ref q0, .ref q1, .null, .int 0])), (q0, .inl (cs.1, 24, .inl (fun _ => 0))), (q1, .inl (cs.1, 14, .inl (fun _ => 0)))] H := hP
  have hD : va_D A [(h0, .inr (5, [.int 6, .int 0, .ref q0, .ref q1, .null, .int 0])), (q0, .inl (cs.1, 24, .inl (fun _ => 0))), (q1, .inl (cs.1, 14, .inl (fun _ => 0)))] := hD
  refine lv_aload_n hx hb dX5_init_26 rfl (lv_at hl 0 rfl) ?_
  refine va_new (ci := 3) (fs := [.int 0, .int 0, .null, .null, .int 0]) (C := RX3) (T := TX3) (N := 5) hx hb hts uX3 tyX3 tyX3_ok hown (hts _ q1_28) (hts _ q1_29) (hts _ q1_3) hK hP hD hS hA rfl (fun j hj => by rcases (show j = 0 ∨ j = 1 ∨ j = 2 ∨ j = 3 ∨ j = 4 by omega) with rfl | rfl | rfl | rfl | rfl <;> rfl) (Nat.le_of_ble_eq_true rfl) (Nat.le_of_ble_eq_true rfl) dX5_init_27 (fun q3 H hP hD hS => ?_)
  refine lv_dup hx hb dX5_init_30 rfl ?_
  refine W.widen (k := 3) (n := 43) (by omega) (by omega) ?_
  refine kI (S := Nat → Nat) (As := []) (rest := [.ref q3, .ref h0]) (H := H) hx hb hml hown hts (c_X3_init l D cs q3 H.size) i_X3 rfl q1_31 q1_30 rfl rfl ⟨Nat.le_of_ble_eq_true rfl, Nat.le_of_ble_eq_true rfl⟩ rfl hl.1 rfl (Nat.le_of_ble_eq_true rfl) dX5_init_31 ⟨Nat.le_of_ble_eq_true rfl, Nat.le_of_ble_eq_true rfl⟩ kU.call (fun U hW => kU.warm hW hU) hP hD hS hA (fun u t H locs _ hu _ hP hD hS => ?_)
  rw [← hu]
  refine va_putF (D := D) (ci := 5) (v := .ref (u 2)) (ty := .object "HypergraphDualizer$History") (C := RX5) (T := TX5) (N := 6) hx hb hts uX5 tyX5 tyX5_ok nmX5 hown hK hP hD hS 0 rfl rfl 4 (by decide) (hts _ q1_74) (fun _ h9 => h9) rfl hin rfl (by decide +kernel) rfl rfl (Nat.le_of_ble_eq_true rfl) dX5_init_34 (fun H locs hP hD hS => ?_)
  have hP : va_P D vwCl ([(h0, .inr (5, [.int 6, .int 0, .ref q0, .ref q1, .ref (u 2), .int 0])), (q0, .inl (cs.1, 24, .inl (fun _ => 0))), (q1, .inl (cs.1, 14, .inl (fun _ => 0)))] ++ gw gl3 cs u gZ0) H := hP
  have hD : va_D A ([(h0, .inr (5, [.int 6, .int 0, .ref q0, .ref q1, .ref (u 2), .int 0])), (q0, .inl (cs.1, 24, .inl (fun _ => 0))), (q1, .inl (cs.1, 14, .inl (fun _ => 0)))] ++ gw gl3 cs u gZ0) := hD
  rw [kw5] at hP hD
  exact W.vret hx hb hr (fun t ht hW => ⟨⟨kad5 h0 q0 q1 u, rfl, rfl, by rw [ht]; exact hP, trivial, hD⟩, hS.F ht⟩) hS.2.2 dX5_init_37
