set_option maxHeartbeats 4000000 in
theorem c_X7_init (l : Launch) (D : va_G) (h0 sz : Nat) : Met l yX7_init (.code yX7_init cX7_init 1 none :: gT) { frames := 1, cells := 2, slots := 4014, locals := 40 } (va_Pc [.ref h0] (fun U => U.heap.size = sz ∧ va_P D vwCl [(h0, .inr (7, [.null, .null]))] U.heap ∧ va_K D vwCl [] U ∧ va_D (fun _ => True) [(h0, .inr (7, [.null, .null]))]))
    (va_Qv (fun _ : kSt => True) (fun u t => va_P D vwCl [(h0, .inr (7, [.ref (u.1 0), .ref (u.1 1)])), ((u.1 0), .inl (u.2.1, 14, .inl (fun _ => 0))), ((u.1 1), .inl (u.2.1, 4000, .inl (fun _ => 0)))] t.heap ∧ va_K D vwCl [(u.2.1, .int)] t ∧ va_D (va_A [(h0, .inr (7, [.null, .null]))] sz) [(h0, .inr (7, [.ref (u.1 0), .ref (u.1 1)])), ((u.1 0), .inl (u.2.1, 14, .inl (fun _ => 0))), ((u.1 1), .inl (u.2.1, 4000, .inl (fun _ => 0)))]) (va_A [(h0, .inr (7, [.null, .null]))] sz)) 2 4014 (va_A [(h0, .inr (7, [.null, .null]))] sz) := by
  refine Met.ofW (cc := cX7_init) (maxL := 1) (ret := none) (by decide) rfl ?_
  intro p e s m args below meth c s₁ B hml hv
  obtain ⟨rfl, hsz, hP, hK, hD0⟩ := hv
  have hx := B.exec
  have hb := B.bytes
  have hr := B.returns
  have hts0 := atoms_spec (ws := (.code yX7_init cX7_init 1 none :: gT)) B.pre
  have hts : ∀ w ∈ gT, w.before _ s = true := fun w hw => hts0 w (List.mem_cons_of_mem _ hw)
  have hown : s.vm.findClass RX7 = some m.cls := findClass_of_methodNamed B.named
  have hlocks := B.notSynchronized
  have hin : meth.name = "<init>" := (name_of_methodNamed B.named B.method).1
  subst hsz
  have hD := hD0.self (sz := s.heap.size)
  generalize hAe : va_A [(h0, (.inr (7, [.null, .null]) : va_E))] s.heap.size = A at hD ⊢
  have hA : ∀ q : Nat, s.heap.size ≤ q → A q := fun q h => by rw [← hAe]; exact Or.inr h
  have hS : va_S A s.heap s.heap [] := va_S.rf
  have hl := lv_entry ([.ref h0]) (n := 1) (Nat.le_of_ble_eq_true rfl)
  rw [lg_entry_eq]
  generalize (lg_sl ([.ref h0]) ++ List.replicate (1 - (lg_sl ([.ref h0])).length) Slot.unset).toArray = ls at hl ⊢
  have hl : lv_has ls 1 [(0, .ref h0)] := hl
  refine lv_aload_n hx hb dX7_init_0 rfl (lv_at hl 0 rfl) ?_
  refine W.objInit hx hb hown (hts _ q1_98) (hts _ q1_20) (hts _ q1_21) rfl (by rw [hml]; exact hl.1) rfl dX7_init_1 (Nat.le_of_ble_eq_true rfl) (Nat.le_of_ble_eq_true rfl) ?_
  refine W.eq (g2 := F0 m 4 ls []) rfl ?_
  refine lv_aload_n hx hb dX7_init_4 rfl (lv_at hl 0 rfl) ?_
  refine lv_bipush hx hb dX7_init_5 rfl ?_
  refine va_newa (atype := .int) (ty := .int) (a0 := (14, .inl (fun _ => 0))) hx hb (hts _ q1_54) rfl hK hP hD hS hA (fun _ => rfl) (by decide) rfl (by decide) (by decide) (by decide) dX7_init_7 (fun q0 cA0 H hK hP hD hS => ?_)
  have hP : va_P D vwCl [(h0, .inr (7, [.null, .null])), (q0, .inl (cA0, 14, .inl (fun _ => 0)))] H := hP
  have hD : va_D A [(h0, .inr (7, [.null, .null])), (q0, .inl (cA0, 14, .inl (fun _ => 0)))] := hD
  have hK : va_K D vwCl [(cA0, .int)] s := hK
  refine va_putF (D := D) (ci := 7) (v := .ref q0) (ty := .array .int) (C := RX7) (T := TX7) (N := 2) hx hb hts uX7 tyX7 tyX7_ok nmX7 hown hK hP hD hS 0 rfl rfl 0 (by decide) (hts _ q1_99) (fun _ h9 => h9) rfl hin rfl (by decide +kernel) rfl rfl (Nat.le_of_ble_eq_true rfl) dX7_init_9 (fun H locs hP hD hS => ?_)
  have hP : va_P D vwCl [(h0, .inr (7, [.ref q0, .null])), (q0, .inl (cA0, 14, .inl (fun _ => 0)))] H := hP
  have hD : va_D A [(h0, .inr (7, [.ref q0, .null])), (q0, .inl (cA0, 14, .inl (fun _ => 0)))] := hD
  refine lv_aload_n hx hb dX7_init_12 rfl (lv_at hl 0 rfl) ?_
  refine lv_sipush hx hb dX7_init_13 rfl ?_
  refine va_newa (atype := .int) (ty := .int) (a0 := (4000, .inl (fun _ => 0))) hx hb (hts _ q1_54) rfl hK hP hD hS hA (fun _ => rfl) (by decide) rfl (by decide) (by decide) (by decide) dX7_init_16 (fun q1 cA1 H hK hP hD hS => ?_)
  have hP : va_P D vwCl [(h0, .inr (7, [.ref q0, .null])), (q0, .inl (cA0, 14, .inl (fun _ => 0))), (q1, .inl (cA1, 4000, .inl (fun _ => 0)))] H := hP
  have hD : va_D A [(h0, .inr (7, [.ref q0, .null])), (q0, .inl (cA0, 14, .inl (fun _ => 0))), (q1, .inl (cA1, 4000, .inl (fun _ => 0)))] := hD
  have hK : va_K D vwCl [(cA0, .int), (cA1, .int)] s := hK
  refine va_putF (D := D) (ci := 7) (v := .ref q1) (ty := .array .int) (C := RX7) (T := TX7) (N := 2) hx hb hts uX7 tyX7 tyX7_ok nmX7 hown hK hP hD hS 0 rfl rfl 1 (by decide) (hts _ q1_101) (fun _ h9 => h9) rfl hin rfl (by decide +kernel) rfl rfl (Nat.le_of_ble_eq_true rfl) dX7_init_18 (fun H locs hP hD hS => ?_)
  have hP : va_P D vwCl [(h0, .inr (7, [.ref q0, .ref q1])), (q0, .inl (cA0, 14, .inl (fun _ => 0))), (q1, .inl (cA1, 4000, .inl (fun _ => 0)))] H := hP
  have hD : va_D A [(h0, .inr (7, [.ref q0, .ref q1])), (q0, .inl (cA0, 14, .inl (fun _ => 0))), (q1, .inl (cA1, 4000, .inl (fun _ => 0)))] := hD
  have z1 : cA0 = cA1 := by
    have a1 : s.vm.findClass ("[" ++ FieldType.int.toString) = some cA1 := (hK.2 1 _ rfl).2
    have a0 : s.vm.findClass ("[" ++ FieldType.int.toString) = some cA0 := (hK.2 0 _ rfl).2
    exact Option.some.inj (a0.symm.trans a1)
  subst z1
  have hK := hK.sub (tys' := [(cA0, .int)]) [0] rfl
  exact W.vret hx hb hr (fun t ht hW => ⟨⟨(fun i => match i with | 0 => q0 | _ => q1, (cA0, 0, 0)), rfl, trivial, by rw [ht]; exact hP, va_K.moved hW.alike hK, hD⟩, hS.F ht⟩) hS.2.2 dX7_init_21
set_option maxHeartbeats 4000000 in
theorem c_X6_init (l : Launch) (D : va_G) (h0 h1 sz : Nat) : Met l yX6_init (.code yX6_init cX6_init 2 none :: gT) { frames := 1, cells := 2, slots := 8000, locals := 40 } (va_Pc [.ref h0, .ref h1] (fun U => U.heap.size = sz ∧ va_P D vwCl [(h0, .inr (6, [.null, .null, .int 0, .int 0, .null, .int 0, .int 0, .int 0]))] U.heap ∧ va_K D vwCl [] U ∧ va_D (fun _ => True) [(h0, .inr (6, [.null, .null, .int 0, .int 0, .null, .int 0, .int 0, .int 0]))]))
    (va_Qv (fun _ : kSt => True) (fun u t => va_P D vwCl [(h0, .inr (6, [.ref (u.1 0), .ref (u.1 1), .int 0, .int 0, .ref h1, .int 0, .int 0, .int (-1)])), ((u.1 0), .inl (u.2.1, 4000, .inl (fun _ => 0))), ((u.1 1), .inl (u.2.1, 4000, .inl (fun _ => 0)))] t.heap ∧ va_K D vwCl [(u.2.1, .int)] t ∧ va_D (va_A [(h0, .inr (6, [.null, .null, .int 0, .int 0, .null, .int 0, .int 0, .int 0]))] sz) [(h0, .inr (6, [.ref (u.1 0), .ref (u.1 1), .int 0, .int 0, .ref h1, .int 0, .int 0, .int (-1)])), ((u.1 0), .inl (u.2.1, 4000, .inl (fun _ => 0))), ((u.1 1), .inl (u.2.1, 4000, .inl (fun _ => 0)))]) (va_A [(h0, .inr (6, [.null, .null, .int 0, .int 0, .null, .int 0, .int 0, .int 0]))] sz)) 2 8000 (va_A [(h0, .inr (6, [.null, .null, .int 0, .int 0, .null, .int 0, .int 0, .int 0]))] sz) := by
  refine Met.ofW (cc := cX6_init) (maxL := 2) (ret := none) (by decide) rfl ?_
  intro p e s m args below meth c s₁ B hml hv
  obtain ⟨rfl, hsz, hP, hK, hD0⟩ := hv
  have hx := B.exec
  have hb := B.bytes
  have hr := B.returns
  have hts0 := atoms_spec (ws := (.code yX6_init cX6_init 2 none :: gT)) B.pre
  have hts : ∀ w ∈ gT, w.before _ s = true := fun w hw => hts0 w (List.mem_cons_of_mem _ hw)
  have hown : s.vm.findClass RX6 = some m.cls := findClass_of_methodNamed B.named
  have hlocks := B.notSynchronized
  have hin : meth.name = "<init>" := (name_of_methodNamed B.named B.method).1
  subst hsz
  have hD := hD0.self (sz := s.heap.size)
  generalize hAe : va_A [(h0, (.inr (6, [.null, .null, .int 0, .int 0, .null, .int 0, .int 0, .int 0]) : va_E))] s.heap.size = A at hD ⊢
  have hA : ∀ q : Nat, s.heap.size ≤ q → A q := fun q h => by rw [← hAe]; exact Or.inr h
  have hS : va_S A s.heap s.heap [] := va_S.rf
  have hl := lv_entry ([.ref h0, .ref h1]) (n := 2) (Nat.le_of_ble_eq_true rfl)
  rw [lg_entry_eq]
  generalize (lg_sl ([.ref h0, .ref h1]) ++ List.replicate (2 - (lg_sl ([.ref h0, .ref h1])).length) Slot.unset).toArray = ls at hl ⊢
  have hl : lv_has ls 2 [(0, .ref h0), (1, .ref h1)] := hl
  refine lv_aload_n hx hb dX6_init_0 rfl (lv_at hl 0 rfl) ?_
  refine W.objInit hx hb hown (hts _ q1_116) (hts _ q1_20) (hts _ q1_21) rfl (by rw [hml]; exact hl.1) rfl dX6_init_1 (Nat.le_of_ble_eq_true rfl) (Nat.le_of_ble_eq_true rfl) ?_
  refine W.eq (g2 := F0 m 4 ls []) rfl ?_
  refine lv_aload_n hx hb dX6_init_4 rfl (lv_at hl 0 rfl) ?_
  refine lv_aload_n hx hb dX6_init_5 rfl (lv_at hl 1 rfl) ?_
  refine va_putF (D := D) (ci := 6) (v := .ref h1) (ty := .object "HypergraphDualizer$Hypergraph") (C := RX6) (T := TX6) (N := 8) hx hb hts uX6 tyX6 tyX6_ok nmX6 hown hK hP hD hS 0 rfl rfl 4 (by decide) (hts _ q1_129) (fun _ h9 => h9) rfl hin rfl (by decide +kernel) rfl rfl (Nat.le_of_ble_eq_true rfl) dX6_init_6 (fun H locs hP hD hS => ?_)
  have hP : va_P D vwCl [(h0, .inr (6, [.null, .null, .int 0, .int 0, .ref h1, .int 0, .int 0, .int 0]))] H := hP
  have hD : va_D A [(h0, .inr (6, [.null, .null, .int 0, .int 0, .ref h1, .int 0, .int 0, .int 0]))] := hD
  refine lv_aload_n hx hb dX6_init_9 rfl (lv_at hl 0 rfl) ?_
  refine lv_sipush hx hb dX6_init_10 rfl ?_
  refine va_newa (atype := .int) (ty := .int) (a0 := (4000, .inl (fun _ => 0))) hx hb (hts _ q1_54) rfl hK hP hD hS hA (fun _ => rfl) (by decide) rfl (by decide) (by decide) (by decide) dX6_init_13 (fun q0 cA0 H hK hP hD hS => ?_)
  have hP : va_P D vwCl [(h0, .inr (6, [.null, .null, .int 0, .int 0, .ref h1, .int 0, .int 0, .int 0])), (q0, .inl (cA0, 4000, .inl (fun _ => 0)))] H := hP
  have hD : va_D A [(h0, .inr (6, [.null, .null, .int 0, .int 0, .ref h1, .int 0, .int 0, .int 0])), (q0, .inl (cA0, 4000, .inl (fun _ => 0)))] := hD
  have hK : va_K D vwCl [(cA0, .int)] s := hK
  refine va_putF (D := D) (ci := 6) (v := .ref q0) (ty := .array .int) (C := RX6) (T := TX6) (N := 8) hx hb hts uX6 tyX6 tyX6_ok nmX6 hown hK hP hD hS 0 rfl rfl 0 (by decide) (hts _ q1_117) (fun _ h9 => h9) rfl hin rfl (by decide +kernel) rfl rfl (Nat.le_of_ble_eq_true rfl) dX6_init_15 (fun H locs hP hD hS => ?_)
  have hP : va_P D vwCl [(h0, .inr (6, [.ref q0, .null, .int 0, .int 0, .ref h1, .int 0, .int 0, .int 0])), (q0, .inl (cA0, 4000, .inl (fun _ => 0)))] H := hP
  have hD : va_D A [(h0, .inr (6, [.ref q0, .null, .int 0, .int 0, .ref h1, .int 0, .int 0, .int 0])), (q0, .inl (cA0, 4000, .inl (fun _ => 0)))] := hD
  refine lv_aload_n hx hb dX6_init_18 rfl (lv_at hl 0 rfl) ?_
  refine lv_sipush hx hb dX6_init_19 rfl ?_
  refine va_newa (atype := .int) (ty := .int) (a0 := (4000, .inl (fun _ => 0))) hx hb (hts _ q1_54) rfl hK hP hD hS hA (fun _ => rfl) (by decide) rfl (by decide) (by decide) (by decide) dX6_init_22 (fun q1 cA1 H hK hP hD hS => ?_)
  have hP : va_P D vwCl [(h0, .inr (6, [.ref q0, .null, .int 0, .int 0, .ref h1, .int 0, .int 0, .int 0])), (q0, .inl (cA0, 4000, .inl (fun _ => 0))), (q1, .inl (cA1, 4000, .inl (fun _ => 0)))] H := hP
  have hD : va_D A [(h0, .inr (6, [.ref q0, .null, .int 0, .int 0, .ref h1, .int 0, .int 0, .int 0])), (q0, .inl (cA0, 4000, .inl (fun _ => 0))), (q1, .inl (cA1, 4000, .inl (fun _ => 0)))] := hD
  have hK : va_K D vwCl [(cA0, .int), (cA1, .int)] s := hK
  refine va_putF (D := D) (ci := 6) (v := .ref q1) (ty := .array .int) (C := RX6) (T := TX6) (N := 8) hx hb hts uX6 tyX6 tyX6_ok nmX6 hown hK hP hD hS 0 rfl rfl 1 (by decide) (hts _ q1_121) (fun _ h9 => h9) rfl hin rfl (by decide +kernel) rfl rfl (Nat.le_of_ble_eq_true rfl) dX6_init_24 (fun H locs hP hD hS => ?_)
  have hP : va_P D vwCl [(h0, .inr (6, [.ref q0, .ref q1, .int 0, .int 0, .ref h1, .int 0, .int 0, .int 0])), (q0, .inl (cA0, 4000, .inl (fun _ => 0))), (q1, .inl (cA1, 4000, .inl (fun _ => 0)))] H := hP
  have hD : va_D A [(h0, .inr (6, [.ref q0, .ref q1, .int 0, .int 0, .ref h1, .int 0, .int 0, .int 0])), (q0, .inl (cA0, 4000, .inl (fun _ => 0))), (q1, .inl (cA1, 4000, .inl (fun _ => 0)))] := hD
  refine lv_aload_n hx hb dX6_init_27 rfl (lv_at hl 0 rfl) ?_
  refine lv_iconst hx hb dX6_init_28 rfl ?_
  refine va_put (D := D) (ci := 6) (v := .int (-1)) (ty := .int) (C := RX6) (T := TX6) (N := 8) hx hb hts uX6 tyX6 tyX6_ok nmX6 hown hK hP hD hS 0 rfl rfl 7 (by decide) (hts _ q1_132) (fun _ h9 => h9) rfl (by decide +kernel) rfl rfl (Nat.le_of_ble_eq_true rfl) dX6_init_29 (fun H locs hP hD hS => ?_)
  have hP : va_P D vwCl [(h0, .inr (6, [.ref q0, .ref q1, .int 0, .int 0, .ref h1, .int 0, .int 0, .int (-1)])), (q0, .inl (cA0, 4000, .inl (fun _ => 0))), (q1, .inl (cA1, 4000, .inl (fun _ => 0)))] H := hP
  have hD : va_D A [(h0, .inr (6, [.ref q0, .ref q1, .int 0, .int 0, .ref h1, .int 0, .int 0, .int (-1)])), (q0, .inl (cA0, 4000, .inl (fun _ => 0))), (q1, .inl (cA1, 4000, .inl (fun _ => 0)))] := hD
  have z1 : cA0 = cA1 := by
    have a1 : s.vm.findClass ("[" ++ FieldType.int.toString) = some cA1 := (hK.2 1 _ rfl).2
    have a0 : s.vm.findClass ("[" ++ FieldType.int.toString) = some cA0 := (hK.2 0 _ rfl).2
    exact Option.some.inj (a0.symm.trans a1)
  subst z1
  have hK := hK.sub (tys' := [(cA0, .int)]) [0] rfl
  exact W.vret hx hb hr (fun t ht hW => ⟨⟨(fun i => match i with | 0 => q0 | _ => q1, (cA0, 0, 0)), rfl, trivial, by rw [ht]; exact hP, va_K.moved hW.alike hK, hD⟩, hS.F ht⟩) hS.2.2 dX6_init_32
set_option maxHeartbeats 4000000 in
theorem c_X2_init (l : Launch) (D : va_G) (h0 h1 h2 sz : Nat) : Met l yX2_init (.code yX2_init cX2_init 3 none :: gT) { frames := 1, cells := 1, slots := 16384, locals := 40 } (va_Pc [.ref h0, .ref h1, .ref h2] (fun U => U.heap.size = sz ∧ va_P D vwCl [(h0, .inr (2, [.null, .null, .null]))] U.heap ∧ va_K D vwCl [] U ∧ va_D (fun _ => True) [(h0, .inr (2, [.null, .null, .null]))]))
    (va_Qv (fun _ : kSt => True) (fun u t => va_P D vwCl [(h0, .inr (2, [.ref (u.1 0), .ref h1, .ref h2])), ((u.1 0), .inl (u.2.1, 16384, .inl (fun _ => 0)))] t.heap ∧ va_K D vwCl [(u.2.1, .int)] t ∧ va_D (va_A [(h0, .inr (2, [.null, .null, .null]))] sz) [(h0, .inr (2, [.ref (u.1 0), .ref h1, .ref h2])), ((u.1 0), .inl (u.2.1, 16384, .inl (fun _ => 0)))]) (va_A [(h0, .inr (2, [.null, .null, .null]))] sz)) 1 16384 (va_A [(h0, .inr (2, [.null, .null, .null]))] sz) := by
  refine Met.ofW (cc := cX2_init) (maxL := 3) (ret := none) (by decide) rfl ?_
  intro p e s m args below meth c s₁ B hml hv
  obtain ⟨rfl, hsz, hP, hK, hD0⟩ := hv
  have hx := B.exec
  have hb := B.bytes
  have hr := B.returns
  have hts0 := atoms_spec (ws := (.code yX2_init cX2_init 3 none :: gT)) B.pre
  have hts : ∀ w ∈ gT, w.before _ s = true := fun w hw => hts0 w (List.mem_cons_of_mem _ hw)
  have hown : s.vm.findClass RX2 = some m.cls := findClass_of_methodNamed B.named
  have hlocks := B.notSynchronized
  have hin : meth.name = "<init>" := (name_of_methodNamed B.named B.method).1
  subst hsz
  have hD := hD0.self (sz := s.heap.size)
  generalize hAe : va_A [(h0, (.inr (2, [.null, .null, .null]) : va_E))] s.heap.size = A at hD ⊢
  have hA : ∀ q : Nat, s.heap.size ≤ q → A q := fun q h => by rw [← hAe]; exact Or.inr h
  have hS : va_S A s.heap s.heap [] := va_S.rf
  have hl := lv_entry ([.ref h0, .ref h1, .ref h2]) (n := 3) (Nat.le_of_ble_eq_true rfl)
  rw [lg_entry_eq]
  generalize (lg_sl ([.ref h0, .ref h1, .ref h2]) ++ List.replicate (3 - (lg_sl ([.ref h0, .ref h1, .ref h2])).length) Slot.unset).toArray = ls at hl ⊢
  have hl : lv_has ls 3 [(0, .ref h0), (1, .ref h1), (2, .ref h2)] := hl
  refine lv_aload_n hx hb dX2_init_0 rfl (lv_at hl 0 rfl) ?_
  refine W.objInit hx hb hown (hts _ q1_155) (hts _ q1_20) (hts _ q1_21) rfl (by rw [hml]; exact hl.1) rfl dX2_init_1 (Nat.le_of_ble_eq_true rfl) (Nat.le_of_ble_eq_true rfl) ?_
  refine W.eq (g2 := F0 m 4 ls []) rfl ?_
  refine lv_aload_n hx hb dX2_init_4 rfl (lv_at hl 0 rfl) ?_
  refine lv_sipush hx hb dX2_init_5 rfl ?_
  refine va_newa (atype := .int) (ty := .int) (a0 := (16384, .inl (fun _ => 0))) hx hb (hts _ q1_54) rfl hK hP hD hS hA (fun _ => rfl) (by decide) rfl (by decide) (by decide) (by decide) dX2_init_8 (fun q0 cA0 H hK hP hD hS => ?_)
  have hP : va_P D vwCl [(h0, .inr (2, [.null, .null, .null])), (q0, .inl (cA0, 16384, .inl (fun _ => 0)))] H := hP
  have hD : va_D A [(h0, .inr (2, [.null, .null, .null])), (q0, .inl (cA0, 16384, .inl (fun _ => 0)))] := hD
  have hK : va_K D vwCl [(cA0, .int)] s := hK
  refine va_putF (D := D) (ci := 2) (v := .ref q0) (ty := .array .int) (C := RX2) (T := TX2) (N := 3) hx hb hts uX2 tyX2 tyX2_ok nmX2 hown hK hP hD hS 0 rfl rfl 0 (by decide) (hts _ q1_156) (fun _ h9 => h9) rfl hin rfl (by decide +kernel) rfl rfl (Nat.le_of_ble_eq_true rfl) dX2_init_10 (fun H locs hP hD hS => ?_)
  have hP : va_P D vwCl [(h0, .inr (2, [.ref q0, .null, .null])), (q0, .inl (cA0, 16384, .inl (fun _ => 0)))] H := hP
  have hD : va_D A [(h0, .inr (2, [.ref q0, .null, .null])), (q0, .inl (cA0, 16384, .inl (fun _ => 0)))] := hD
  refine lv_aload_n hx hb dX2_init_13 rfl (lv_at hl 0 rfl) ?_
  refine lv_aload_n hx hb dX2_init_14 rfl (lv_at hl 1 rfl) ?_
  refine va_putF (D := D) (ci := 2) (v := .ref h1) (ty := .object "HypergraphDualizer$Hypergraph") (C := RX2) (T := TX2) (N := 3) hx hb hts uX2 tyX2 tyX2_ok nmX2 hown hK hP hD hS 0 rfl rfl 1 (by decide) (hts _ q1_159) (fun _ h9 => h9) rfl hin rfl (by decide +kernel) rfl rfl (Nat.le_of_ble_eq_true rfl) dX2_init_15 (fun H locs hP hD hS => ?_)
  have hP : va_P D vwCl [(h0, .inr (2, [.ref q0, .ref h1, .null])), (q0, .inl (cA0, 16384, .inl (fun _ => 0)))] H := hP
  have hD : va_D A [(h0, .inr (2, [.ref q0, .ref h1, .null])), (q0, .inl (cA0, 16384, .inl (fun _ => 0)))] := hD
  refine lv_aload_n hx hb dX2_init_18 rfl (lv_at hl 0 rfl) ?_
  refine lv_aload_n hx hb dX2_init_19 rfl (lv_at hl 2 rfl) ?_
  refine va_putF (D := D) (ci := 2) (v := .ref h2) (ty := .object "HypergraphDualizer$Search") (C := RX2) (T := TX2) (N := 3) hx hb hts uX2 tyX2 tyX2_ok nmX2 hown hK hP hD hS 0 rfl rfl 2 (by decide) (hts _ q1_160) (fun _ h9 => h9) rfl hin rfl (by decide +kernel) rfl rfl (Nat.le_of_ble_eq_true rfl) dX2_init_20 (fun H locs hP hD hS => ?_)
  have hP : va_P D vwCl [(h0, .inr (2, [.ref q0, .ref h1, .ref h2])), (q0, .inl (cA0, 16384, .inl (fun _ => 0)))] H := hP
  have hD : va_D A [(h0, .inr (2, [.ref q0, .ref h1, .ref h2])), (q0, .inl (cA0, 16384, .inl (fun _ => 0)))] := hD
  have hK := hK.sub (tys' := [(cA0, .int)]) [0] rfl
  exact W.vret hx hb hr (fun t ht hW => ⟨⟨(fun _ => q0, (cA0, 0, 0)), rfl, trivial, by rw [ht]; exact hP, va_K.moved hW.alike hK, hD⟩, hS.F ht⟩) hS.2.2 dX2_init_23
set_option maxHeartbeats 4000000 in
theorem c_X4_init (l : Launch) (D : va_G) (h0 h1 h2 sz : Nat) : Met l yX4_init (.code yX4_init cX4_init 3 none :: gT) { frames := 1, cells := 1, slots := 15, locals := 40 } (va_Pc [.ref h0, .ref h1, .ref h2] (fun U => U.heap.size = sz ∧ va_P D vwCl [(h0, .inr (4, [.null, .null, .null, .int 0, .int 0]))] U.heap ∧ va_K D vwCl [] U ∧ va_D (fun _ => True) [(h0, .inr (4, [.null, .null, .null, .int 0, .int 0]))]))
    (va_Qv (fun _ : kSt => True) (fun u t => va_P D vwCl [(h0, .inr (4, [.ref h1, .ref h2, .ref (u.1 0), .int 0, .int (-1)])), ((u.1 0), .inl (u.2.1, 15, .inl (fun _ => 0)))] t.heap ∧ va_K D vwCl [(u.2.1, .int)] t ∧ va_D (va_A [(h0, .inr (4, [.null, .null, .null, .int 0, .int 0]))] sz) [(h0, .inr (4, [.ref h1, .ref h2, .ref (u.1 0), .int 0, .int (-1)])), ((u.1 0), .inl (u.2.1, 15, .inl (fun _ => 0)))]) (va_A [(h0, .inr (4, [.null, .null, .null, .int 0, .int 0]))] sz)) 1 15 (va_A [(h0, .inr (4, [.null, .null, .null, .int 0, .int 0]))] sz) := by
  refine Met.ofW (cc := cX4_init) (maxL := 3) (ret := none) (by decide) rfl ?_
  intro p e s m args below meth c s₁ B hml hv
  obtain ⟨rfl, hsz, hP, hK, hD0⟩ := hv
  have hx := B.exec
  have hb := B.bytes
  have hr := B.returns
  have hts0 := atoms_spec (ws := (.code yX4_init cX4_init 3 none :: gT)) B.pre
  have hts : ∀ w ∈ gT, w.before _ s = true := fun w hw => hts0 w (List.mem_cons_of_mem _ hw)
  have hown : s.vm.findClass RX4 = some m.cls := findClass_of_methodNamed B.named
  have hlocks := B.notSynchronized
  have hin : meth.name = "<init>" := (name_of_methodNamed B.named B.method).1
  subst hsz
  have hD := hD0.self (sz := s.heap.size)
  generalize hAe : va_A [(h0, (.inr (4, [.null, .null, .null, .int 0, .int 0]) : va_E))] s.heap.size = A at hD ⊢
  have hA : ∀ q : Nat, s.heap.size ≤ q → A q := fun q h => by rw [← hAe]; exact Or.inr h
  have hS : va_S A s.heap s.heap [] := va_S.rf
  have hl := lv_entry ([.ref h0, .ref h1, .ref h2]) (n := 3) (Nat.le_of_ble_eq_true rfl)
  rw [lg_entry_eq]
  generalize (lg_sl ([.ref h0, .ref h1, .ref h2]) ++ List.replicate (3 - (lg_sl ([.ref h0, .ref h1, .ref h2])).length) Slot.unset).toArray = ls at hl ⊢
  have hl : lv_has ls 3 [(0, .ref h0), (1, .ref h1), (2, .ref h2)] := hl
  refine lv_aload_n hx hb dX4_init_0 rfl (lv_at hl 0 rfl) ?_
  refine W.objInit hx hb hown (hts _ q1_173) (hts _ q1_20) (hts _ q1_21) rfl (by rw [hml]; exact hl.1) rfl dX4_init_1 (Nat.le_of_ble_eq_true rfl) (Nat.le_of_ble_eq_true rfl) ?_
  refine W.eq (g2 := F0 m 4 ls []) rfl ?_
  refine lv_aload_n hx hb dX4_init_4 rfl (lv_at hl 0 rfl) ?_
  refine lv_aload_n hx hb dX4_init_5 rfl (lv_at hl 1 rfl) ?_
  refine va_putF (D := D) (ci := 4) (v := .ref h1) (ty := .object "HypergraphDualizer$Hypergraph") (C := RX4) (T := TX4) (N := 5) hx hb hts uX4 tyX4 tyX4_ok nmX4 hown hK hP hD hS 0 rfl rfl 0 (by decide) (hts _ q1_174) (fun _ h9 => h9) rfl hin rfl (by decide +kernel) rfl rfl (Nat.le_of_ble_eq_true rfl) dX4_init_6 (fun H locs hP hD hS => ?_)
  have hP : va_P D vwCl [(h0, .inr (4, [.ref h1, .null, .null, .int 0, .int 0]))] H := hP
  have hD : va_D A [(h0, .inr (4, [.ref h1, .null, .null, .int 0, .int 0]))] := hD
  refine lv_aload_n hx hb dX4_init_9 rfl (lv_at hl 0 rfl) ?_
  refine lv_aload_n hx hb dX4_init_10 rfl (lv_at hl 2 rfl) ?_
  refine va_putF (D := D) (ci := 4) (v := .ref h2) (ty := .object "HypergraphDualizer$Family") (C := RX4) (T := TX4) (N := 5) hx hb hts uX4 tyX4 tyX4_ok nmX4 hown hK hP hD hS 0 rfl rfl 1 (by decide) (hts _ q1_175) (fun _ h9 => h9) rfl hin rfl (by decide +kernel) rfl rfl (Nat.le_of_ble_eq_true rfl) dX4_init_11 (fun H locs hP hD hS => ?_)
  have hP : va_P D vwCl [(h0, .inr (4, [.ref h1, .ref h2, .null, .int 0, .int 0]))] H := hP
  have hD : va_D A [(h0, .inr (4, [.ref h1, .ref h2, .null, .int 0, .int 0]))] := hD
  refine lv_aload_n hx hb dX4_init_14 rfl (lv_at hl 0 rfl) ?_
  refine lv_bipush hx hb dX4_init_15 rfl ?_
  refine va_newa (atype := .int) (ty := .int) (a0 := (15, .inl (fun _ => 0))) hx hb (hts _ q1_54) rfl hK hP hD hS hA (fun _ => rfl) (by decide) rfl (by decide) (by decide) (by decide) dX4_init_17 (fun q0 cA0 H hK hP hD hS => ?_)
  have hP : va_P D vwCl [(h0, .inr (4, [.ref h1, .ref h2, .null, .int 0, .int 0])), (q0, .inl (cA0, 15, .inl (fun _ => 0)))] H := hP
  have hD : va_D A [(h0, .inr (4, [.ref h1, .ref h2, .null, .int 0, .int 0])), (q0, .inl (cA0, 15, .inl (fun _ => 0)))] := hD
  have hK : va_K D vwCl [(cA0, .int)] s := hK
  refine va_putF (D := D) (ci := 4) (v := .ref q0) (ty := .array .int) (C := RX4) (T := TX4) (N := 5) hx hb hts uX4 tyX4 tyX4_ok nmX4 hown hK hP hD hS 0 rfl rfl 2 (by decide) (hts _ q1_176) (fun _ h9 => h9) rfl hin rfl (by decide +kernel) rfl rfl (Nat.le_of_ble_eq_true rfl) dX4_init_19 (fun H locs hP hD hS => ?_)
  have hP : va_P D vwCl [(h0, .inr (4, [.ref h1, .ref h2, .ref q0, .int 0, .int 0])), (q0, .inl (cA0, 15, .inl (fun _ => 0)))] H := hP
  have hD : va_D A [(h0, .inr (4, [.ref h1, .ref h2, .ref q0, .int 0, .int 0])), (q0, .inl (cA0, 15, .inl (fun _ => 0)))] := hD
  refine lv_aload_n hx hb dX4_init_22 rfl (lv_at hl 0 rfl) ?_
  refine lv_iconst hx hb dX4_init_23 rfl ?_
  refine va_put (D := D) (ci := 4) (v := .int (-1)) (ty := .int) (C := RX4) (T := TX4) (N := 5) hx hb hts uX4 tyX4 tyX4_ok nmX4 hown hK hP hD hS 0 rfl rfl 4 (by decide) (hts _ q1_178) (fun _ h9 => h9) rfl (by decide +kernel) rfl rfl (Nat.le_of_ble_eq_true rfl) dX4_init_24 (fun H locs hP hD hS => ?_)
  have hP : va_P D vwCl [(h0, .inr (4, [.ref h1, .ref h2, .ref q0, .int 0, .int (-1)])), (q0, .inl (cA0, 15, .inl (fun _ => 0)))] H := hP
  have hD : va_D A [(h0, .inr (4, [.ref h1, .ref h2, .ref q0, .int 0, .int (-1)])), (q0, .inl (cA0, 15, .inl (fun _ => 0)))] := hD
  have hK := hK.sub (tys' := [(cA0, .int)]) [0] rfl
  exact W.vret hx hb hr (fun t ht hW => ⟨⟨(fun _ => q0, (cA0, 0, 0)), rfl, trivial, by rw [ht]; exact hP, va_K.moved hW.alike hK, hD⟩, hS.F ht⟩) hS.2.2 dX4_init_27
set_option maxHeartbeats 4000000 in
theorem c_X0_init (l : Launch) (D : va_G) (h0 h1 h2 sz : Nat) : Met l yX0_init (.code yX0_init cX0_init 3 none :: gT) { frames := 1, cells := 5, slots := 7947, locals := 40 } (va_Pc [.ref h0, .ref h1, .ref h2] (fun U => U.heap.size = sz ∧ va_P D vwCl [(h0, .inr (0, [.null, .null, .null, .null, .null, .null, .null, .int 0, .int 0, .int 0]))] U.heap ∧ va_K D vwCl [] U ∧ va_D (fun _ => True) [(h0, .inr (0, [.null, .null, .null, .null, .null, .null, .null, .int 0, .int 0, .int 0]))]))
    (va_Qv (fun _ : kSt => True) (fun u t => va_P D vwCl [(h0, .inr (0, [.ref h1, .ref h2, .ref (u.1 0), .ref (u.1 1), .ref (u.1 2), .ref (u.1 3), .ref (u.1 4), .int 0, .int 0, .int (-1)])), ((u.1 0), .inl (u.2.1, 14, .inl (fun _ => 0))), ((u.1 1), .inl (u.2.1, 2303, .inl (fun _ => 0))), ((u.1 2), .inl (u.2.1, 2303, .inl (fun _ => 0))), ((u.1 3), .inl (u.2.1, 2303, .inl (fun _ => 0))), ((u.1 4), .inl (u.2.1, 1024, .inl (fun _ => 0)))] t.heap ∧ va_K D vwCl [(u.2.1, .int)] t ∧ va_D (va_A [(h0, .inr (0, [.null, .null, .null, .null, .null, .null, .null, .int 0, .int 0, .int 0]))] sz) [(h0, .inr (0, [.ref h1, .ref h2, .ref (u.1 0), .ref (u.1 1), .ref (u.1 2), .ref (u.1 3), .ref (u.1 4), .int 0, .int 0, .int (-1)])), ((u.1 0), .inl (u.2.1, 14, .inl (fun _ => 0))), ((u.1 1), .inl (u.2.1, 2303, .inl (fun _ => 0))), ((u.1 2), .inl (u.2.1, 2303, .inl (fun _ => 0))), ((u.1 3), .inl (u.2.1, 2303, .inl (fun _ => 0))), ((u.1 4), .inl (u.2.1, 1024, .inl (fun _ => 0)))]) (va_A [(h0, .inr (0, [.null, .null, .null, .null, .null, .null, .null, .int 0, .int 0, .int 0]))] sz)) 5 7947 (va_A [(h0, .inr (0, [.null, .null, .null, .null, .null, .null, .null, .int 0, .int 0, .int 0]))] sz) := by
  refine Met.ofW (cc := cX0_init) (maxL := 3) (ret := none) (by decide) rfl ?_
  intro p e s m args below meth c s₁ B hml hv
  obtain ⟨rfl, hsz, hP, hK, hD0⟩ := hv
  have hx := B.exec
  have hb := B.bytes
  have hr := B.returns
  have hts0 := atoms_spec (ws := (.code yX0_init cX0_init 3 none :: gT)) B.pre
  have hts : ∀ w ∈ gT, w.before _ s = true := fun w hw => hts0 w (List.mem_cons_of_mem _ hw)
  have hown : s.vm.findClass RX0 = some m.cls := findClass_of_methodNamed B.named
  have hlocks := B.notSynchronized
  have hin : meth.name = "<init>" := (name_of_methodNamed B.named B.method).1
  subst hsz
  have hD := hD0.self (sz := s.heap.size)
  generalize hAe : va_A [(h0, (.inr (0, [.null, .null, .null, .null, .null, .null, .null, .int 0, .int 0, .int 0]) : va_E))] s.heap.size = A at hD ⊢
  have hA : ∀ q : Nat, s.heap.size ≤ q → A q := fun q h => by rw [← hAe]; exact Or.inr h
  have hS : va_S A s.heap s.heap [] := va_S.rf
  have hl := lv_entry ([.ref h0, .ref h1, .ref h2]) (n := 3) (Nat.le_of_ble_eq_true rfl)
  rw [lg_entry_eq]
  generalize (lg_sl ([.ref h0, .ref h1, .ref h2]) ++ List.replicate (3 - (lg_sl ([.ref h0, .ref h1, .ref h2])).length) Slot.unset).toArray = ls at hl ⊢
  have hl : lv_has ls 3 [(0, .ref h0), (1, .ref h1), (2, .ref h2)] := hl
  refine lv_aload_n hx hb dX0_init_0 rfl (lv_at hl 0 rfl) ?_
  refine W.objInit hx hb hown (hts _ q1_195) (hts _ q1_20) (hts _ q1_21) rfl (by rw [hml]; exact hl.1) rfl dX0_init_1 (Nat.le_of_ble_eq_true rfl) (Nat.le_of_ble_eq_true rfl) ?_
  refine W.eq (g2 := F0 m 4 ls []) rfl ?_
  refine lv_aload_n hx hb dX0_init_4 rfl (lv_at hl 0 rfl) ?_
  refine lv_aload_n hx hb dX0_init_5 rfl (lv_at hl 1 rfl) ?_
  refine va_putF (D := D) (ci := 0) (v := .ref h1) (ty := .object "HypergraphDualizer$Hypergraph") (C := RX0) (T := TX0) (N := 10) hx hb hts uX0 tyX0 tyX0_ok nmX0 hown hK hP hD hS 0 rfl rfl 0 (by decide) (hts _ q1_196) (fun _ h9 => h9) rfl hin rfl (by decide +kernel) rfl rfl (Nat.le_of_ble_eq_true rfl) dX0_init_6 (fun H locs hP hD hS => ?_)
  have hP : va_P D vwCl [(h0, .inr (0, [.ref h1, .null, .null, .null, .null, .null, .null, .int 0, .int 0, .int 0]))] H := hP
  have hD : va_D A [(h0, .inr (0, [.ref h1, .null, .null, .null, .null, .null, .null, .int 0, .int 0, .int 0]))] := hD
  refine lv_aload_n hx hb dX0_init_9 rfl (lv_at hl 0 rfl) ?_
  refine lv_aload_n hx hb dX0_init_10 rfl (lv_at hl 2 rfl) ?_
  refine va_putF (D := D) (ci := 0) (v := .ref h2) (ty := .object "HypergraphDualizer$Family") (C := RX0) (T := TX0) (N := 10) hx hb hts uX0 tyX0 tyX0_ok nmX0 hown hK hP hD hS 0 rfl rfl 1 (by decide) (hts _ q1_197) (fun _ h9 => h9) rfl hin rfl (by decide +kernel) rfl rfl (Nat.le_of_ble_eq_true rfl) dX0_init_11 (fun H locs hP hD hS => ?_)
  have hP : va_P D vwCl [(h0, .inr (0, [.ref h1, .ref h2, .null, .null, .null, .null, .null, .int 0, .int 0, .int 0]))] H := hP
  have hD : va_D A [(h0, .inr (0, [.ref h1, .ref h2, .null, .null, .null, .null, .null, .int 0, .int 0, .int 0]))] := hD
  refine lv_aload_n hx hb dX0_init_14 rfl (lv_at hl 0 rfl) ?_
  refine lv_bipush hx hb dX0_init_15 rfl ?_
  refine va_newa (atype := .int) (ty := .int) (a0 := (14, .inl (fun _ => 0))) hx hb (hts _ q1_54) rfl hK hP hD hS hA (fun _ => rfl) (by decide) rfl (by decide) (by decide) (by decide) dX0_init_17 (fun q0 cA0 H hK hP hD hS => ?_)
  have hP : va_P D vwCl [(h0, .inr (0, [.ref h1, .ref h2, .null, .null, .null, .null, .null, .int 0, .int 0, .int 0])), (q0, .inl (cA0, 14, .inl (fun _ => 0)))] H := hP
  have hD : va_D A [(h0, .inr (0, [.ref h1, .ref h2, .null, .null, .null, .null, .null, .int 0, .int 0, .int 0])), (q0, .inl (cA0, 14, .inl (fun _ => 0)))] := hD
  have hK : va_K D vwCl [(cA0, .int)] s := hK
  refine va_putF (D := D) (ci := 0) (v := .ref q0) (ty := .array .int) (C := RX0) (T := TX0) (N := 10) hx hb hts uX0 tyX0 tyX0_ok nmX0 hown hK hP hD hS 0 rfl rfl 2 (by decide) (hts _ q1_198) (fun _ h9 => h9) rfl hin rfl (by decide +kernel) rfl rfl (Nat.le_of_ble_eq_true rfl) dX0_init_19 (fun H locs hP hD hS => ?_)
  have hP : va_P D vwCl [(h0, .inr (0, [.ref h1, .ref h2, .ref q0, .null, .null, .null, .null, .int 0, .int 0, .int 0])), (q0, .inl (cA0, 14, .inl (fun _ => 0)))] H := hP
  have hD : va_D A [(h0, .inr (0, [.ref h1, .ref h2, .ref q0, .null, .null, .null, .null, .int 0, .int 0, .int 0])), (q0, .inl (cA0, 14, .inl (fun _ => 0)))] := hD
  refine lv_aload_n hx hb dX0_init_22 rfl (lv_at hl 0 rfl) ?_
  refine lv_sipush hx hb dX0_init_23 rfl ?_
  refine va_newa (atype := .int) (ty := .int) (a0 := (2303, .inl (fun _ => 0))) hx hb (hts _ q1_54) rfl hK hP hD hS hA (fun _ => rfl) (by decide) rfl (by decide) (by decide) (by decide) dX0_init_26 (fun q1 cA1 H hK hP hD hS => ?_)
  have hP : va_P D vwCl [(h0, .inr (0, [.ref h1, .ref h2, .ref q0, .null, .null, .null, .null, .int 0, .int 0, .int 0])), (q0, .inl (cA0, 14, .inl (fun _ => 0))), (q1, .inl (cA1, 2303, .inl (fun _ => 0)))] H := hP
  have hD : va_D A [(h0, .inr (0, [.ref h1, .ref h2, .ref q0, .null, .null, .null, .null, .int 0, .int 0, .int 0])), (q0, .inl (cA0, 14, .inl (fun _ => 0))), (q1, .inl (cA1, 2303, .inl (fun _ => 0)))] := hD
  have hK : va_K D vwCl [(cA0, .int), (cA1, .int)] s := hK
  refine va_putF (D := D) (ci := 0) (v := .ref q1) (ty := .array .int) (C := RX0) (T := TX0) (N := 10) hx hb hts uX0 tyX0 tyX0_ok nmX0 hown hK hP hD hS 0 rfl rfl 3 (by decide) (hts _ q1_199) (fun _ h9 => h9) rfl hin rfl (by decide +kernel) rfl rfl (Nat.le_of_ble_eq_true rfl) dX0_init_28 (fun H locs hP hD hS => ?_)
  have hP : va_P D vwCl [(h0, .inr (0, [.ref h1, .ref h2, .ref q0, .ref q1, .null, .null, .null, .int 0, .int 0, .int 0])), (q0, .inl (cA0, 14, .inl (fun _ => 0))), (q1, .inl (cA1, 2303, .inl (fun _ => 0)))] H := hP
  have hD : va_D A [(h0, .inr (0, [.ref h1, .ref h2, .ref q0, .ref q1, .null, .null, .null, .int 0, .int 0, .int 0])), (q0, .inl (cA0, 14, .inl (fun _ => 0))), (q1, .inl (cA1, 2303, .inl (fun _ => 0)))] := hD
  refine lv_aload_n hx hb dX0_init_31 rfl (lv_at hl 0 rfl) ?_
  refine lv_sipush hx hb dX0_init_32 rfl ?_
  refine va_newa (atype := .int) (ty := .int) (a0 := (2303, .inl (fun _ => 0))) hx hb (hts _ q1_54) rfl hK hP hD hS hA (fun _ => rfl) (by decide) rfl (by decide) (by decide) (by decide) dX0_init_35 (fun q2 cA2 H hK hP hD hS => ?_)
  have hP : va_P D vwCl [(h0, .inr (0, [.ref h1, .ref h2, .ref q0, .ref q1, .null, .null, .null, .int 0, .int 0, .int 0])), (q0, .inl (cA0, 14, .inl (fun _ => 0))), (q1, .inl (cA1, 2303, .inl (fun _ => 0))), (q2, .inl (cA2, 2303, .inl (fun _ => 0)))] H := hP
  have hD : va_D A [(h0, .inr (0, [.ref h1, .ref h2, .ref q0, .ref q1, .null, .null, .null, .int 0, .int 0, .int 0])), (q0, .inl (cA0, 14, .inl (fun _ => 0))), (q1, .inl (cA1, 2303, .inl (fun _ => 0))), (q2, .inl (cA2, 2303, .inl (fun _ => 0)))] := hD
  have hK : va_K D vwCl [(cA0, .int), (cA1, .int), (cA2, .int)] s := hK
  refine va_putF (D := D) (ci := 0) (v := .ref q2) (ty := .array .int) (C := RX0) (T := TX0) (N := 10) hx hb hts uX0 tyX0 tyX0_ok nmX0 hown hK hP hD hS 0 rfl rfl 4 (by decide) (hts _ q1_200) (fun _ h9 => h9) rfl hin rfl (by decide +kernel) rfl rfl (Nat.le_of_ble_eq_true rfl) dX0_init_37 (fun H locs hP hD hS => ?_)
  have hP : va_P D vwCl [(h0, .inr (0, [.ref h1, .ref h2, .ref q0, .ref q1, .ref q2, .null, .null, .int 0, .int 0, .int 0])), (q0, .inl (cA0, 14, .inl (fun _ => 0))), (q1, .inl (cA1, 2303, .inl (fun _ => 0))), (q2, .inl (cA2, 2303, .inl (fun _ => 0)))] H := hP
  have hD : va_D A [(h0, .inr (0, [.ref h1, .ref h2, .ref q0, .ref q1, .ref q2, .null, .null, .int 0, .int 0, .int 0])), (q0, .inl (cA0, 14, .inl (fun _ => 0))), (q1, .inl (cA1, 2303, .inl (fun _ => 0))), (q2, .inl (cA2, 2303, .inl (fun _ => 0)))] := hD
  refine lv_aload_n hx hb dX0_init_40 rfl (lv_at hl 0 rfl) ?_
  refine lv_sipush hx hb dX0_init_41 rfl ?_
  refine va_newa (atype := .int) (ty := .int) (a0 := (2303, .inl (fun _ => 0))) hx hb (hts _ q1_54) rfl hK hP hD hS hA (fun _ => rfl) (by decide) rfl (by decide) (by decide) (by decide) dX0_init_44 (fun q3 cA3 H hK hP hD hS => ?_)
  have hP : va_P D vwCl [(h0, .inr (0, [.ref h1, .ref h2, .ref q0, .ref q1, .ref q2, .null, .null, .int 0, .int 0, .int 0])), (q0, .inl (cA0, 14, .inl (fun _ => 0))), (q1, .inl (cA1, 2303, .inl (fun _ => 0))), (q2, .inl (cA2, 2303, .inl (fun _ => 0))), (q3, .inl (cA3, 2303, .inl (fun _ => 0)))] H := hP
  have hD : va_D A [(h0, .inr (0, [.ref h1, .ref h2, .ref q0, .ref q1, .ref q2, .null, .null, .int 0, .int 0, .int 0])), (q0, .inl (cA0, 14, .inl (fun _ => 0))), (q1, .inl (cA1, 2303, .inl (fun _ => 0))), (q2, .inl (cA2, 2303, .inl (fun _ => 0))), (q3, .inl (cA3, 2303, .inl (fun _ => 0)))] := hD
  have hK : va_K D vwCl [(cA0, .int), (cA1, .int), (cA2, .int), (cA3, .int)] s := hK
  refine va_putF (D := D) (ci := 0) (v := .ref q3) (ty := .array .int) (C := RX0) (T := TX0) (N := 10) hx hb hts uX0 tyX0 tyX0_ok nmX0 hown hK hP hD hS 0 rfl rfl 5 (by decide) (hts _ q1_201) (fun _ h9 => h9) rfl hin rfl (by decide +kernel) rfl rfl (Nat.le_of_ble_eq_true rfl) dX0_init_46 (fun H locs hP hD hS => ?_)
  have hP : va_P D vwCl [(h0, .inr (0, [.ref h1, .ref h2, .ref q0, .ref q1, .ref q2, .ref q3, .null, .int 0, .int 0, .int 0])), (q0, .inl (cA0, 14, .inl (fun _ => 0))), (q1, .inl (cA1, 2303, .inl (fun _ => 0))), (q2, .inl (cA2, 2303, .inl (fun _ => 0))), (q3, .inl (cA3, 2303, .inl (fun _ => 0)))] H := hP
  have hD : va_D A [(h0, .inr (0, [.ref h1, .ref h2, .ref q0, .ref q1, .ref q2, .ref q3, .null, .int 0, .int 0, .int 0])), (q0, .inl (cA0, 14, .inl (fun _ => 0))), (q1, .inl (cA1, 2303, .inl (fun _ => 0))), (q2, .inl (cA2, 2303, .inl (fun _ => 0))), (q3, .inl (cA3, 2303, .inl (fun _ => 0)))] := hD
  refine lv_aload_n hx hb dX0_init_49 rfl (lv_at hl 0 rfl) ?_
  refine lv_sipush hx hb dX0_init_50 rfl ?_
  refine va_newa (atype := .int) (ty := .int) (a0 := (1024, .inl (fun _ => 0))) hx hb (hts _ q1_54) rfl hK hP hD hS hA (fun _ => rfl) (by decide) rfl (by decide) (by decide) (by decide) dX0_init_53 (fun q4 cA4 H hK hP hD hS => ?_)
  have hP : va_P D vwCl [(h0, .inr (0, [.ref h1, .ref h2, .ref q0, .ref q1, .ref q2, .ref q3, .null, .int 0, .int 0, .int 0])), (q0, .inl (cA0, 14, .inl (fun _ => 0))), (q1, .inl (cA1, 2303, .inl (fun _ => 0))), (q2, .inl (cA2, 2303, .inl (fun _ => 0))), (q3, .inl (cA3, 2303, .inl (fun _ => 0))), (q4, .inl (cA4, 1024, .inl (fun _ => 0)))] H := hP
  have hD : va_D A [(h0, .inr (0, [.ref h1, .ref h2, .ref q0, .ref q1, .ref q2, .ref q3, .null, .int 0, .int 0, .int 0])), (q0, .inl (cA0, 14, .inl (fun _ => 0))), (q1, .inl (cA1, 2303, .inl (fun _ => 0))), (q2, .inl (cA2, 2303, .inl (fun _ => 0))), (q3, .inl (cA3, 2303, .inl (fun _ => 0))), (q4, .inl (cA4, 1024, .inl (fun _ => 0)))] := hD
  have hK : va_K D vwCl [(cA0, .int), (cA1, .int), (cA2, .int), (cA3, .int), (cA4, .int)] s := hK
  refine va_putF (D := D) (ci := 0) (v := .ref q4) (ty := .array .int) (C := RX0) (T := TX0) (N := 10) hx hb hts uX0 tyX0 tyX0_ok nmX0 hown hK hP hD hS 0 rfl rfl 6 (by decide) (hts _ q1_202) (fun _ h9 => h9) rfl hin rfl (by decide +kernel) rfl rfl (Nat.le_of_ble_eq_true rfl) dX0_init_55 (fun H locs hP hD hS => ?_)
  have hP : va_P D vwCl [(h0, .inr (0, [.ref h1, .ref h2, .ref q0, .ref q1, .ref q2, .ref q3, .ref q4, .int 0, .int 0, .int 0])), (q0, .inl (cA0, 14, .inl (fun _ => 0))), (q1, .inl (cA1, 2303, .inl (fun _ => 0))), (q2, .inl (cA2, 2303, .inl (fun _ => 0))), (q3, .inl (cA3, 2303, .inl (fun _ => 0))), (q4, .inl (cA4, 1024, .inl (fun _ => 0)))] H := hP
  have hD : va_D A [(h0, .inr (0, [.ref h1, .ref h2, .ref q0, .ref q1, .ref q2, .ref q3, .ref q4, .int 0, .int 0, .int 0])), (q0, .inl (cA0, 14, .inl (fun _ => 0))), (q1, .inl (cA1, 2303, .inl (fun _ => 0))), (q2, .inl (cA2, 2303, .inl (fun _ => 0))), (q3, .inl (cA3, 2303, .inl (fun _ => 0))), (q4, .inl (cA4, 1024, .inl (fun _ => 0)))] := hD
  refine lv_aload_n hx hb dX0_init_58 rfl (lv_at hl 0 rfl) ?_
  refine lv_iconst hx hb dX0_init_59 rfl ?_
  refine va_put (D := D) (ci := 0) (v := .int (-1)) (ty := .int) (C := RX0) (T := TX0) (N := 10) hx hb hts uX0 tyX0 tyX0_ok nmX0 hown hK hP hD hS 0 rfl rfl 9 (by decide) (hts _ q1_205) (fun _ h9 => h9) rfl (by decide +kernel) rfl rfl (Nat.le_of_ble_eq_true rfl) dX0_init_60 (fun H locs hP hD hS => ?_)
  have hP : va_P D vwCl [(h0, .inr (0, [.ref h1, .ref h2, .ref q0, .ref q1, .ref q2, .ref q3, .ref q4, .int 0, .int 0, .int (-1)])), (q0, .inl (cA0, 14, .inl (fun _ => 0))), (q1, .inl (cA1, 2303, .inl (fun _ => 0))), (q2, .inl (cA2, 2303, .inl (fun _ => 0))), (q3, .inl (cA3, 2303, .inl (fun _ => 0))), (q4, .inl (cA4, 1024, .inl (fun _ => 0)))] H := hP
  have hD : va_D A [(h0, .inr (0, [.ref h1, .ref h2, .ref q0, .ref q1, .ref q2, .ref q3, .ref q4, .int 0, .int 0, .int (-1)])), (q0, .inl (cA0, 14, .inl (fun _ => 0))), (q1, .inl (cA1, 2303, .inl (fun _ => 0))), (q2, .inl (cA2, 2303, .inl (fun _ => 0))), (q3, .inl (cA3, 2303, .inl (fun _ => 0))), (q4, .inl (cA4, 1024, .inl (fun _ => 0)))] := hD
  have z1 : cA0 = cA1 := by
    have a1 : s.vm.findClass ("[" ++ FieldType.int.toString) = some cA1 := (hK.2 1 _ rfl).2
    have a0 : s.vm.findClass ("[" ++ FieldType.int.toString) = some cA0 := (hK.2 0 _ rfl).2
    exact Option.some.inj (a0.symm.trans a1)
  have z2 : cA0 = cA2 := by
    have a1 : s.vm.findClass ("[" ++ FieldType.int.toString) = some cA2 := (hK.2 2 _ rfl).2
    have a0 : s.vm.findClass ("[" ++ FieldType.int.toString) = some cA0 := (hK.2 0 _ rfl).2
    exact Option.some.inj (a0.symm.trans a1)
  have z3 : cA0 = cA3 := by
    have a1 : s.vm.findClass ("[" ++ FieldType.int.toString) = some cA3 := (hK.2 3 _ rfl).2
    have a0 : s.vm.findClass ("[" ++ FieldType.int.toString) = some cA0 := (hK.2 0 _ rfl).2
    exact Option.some.inj (a0.symm.trans a1)
  have z4 : cA0 = cA4 := by
    have a1 : s.vm.findClass ("[" ++ FieldType.int.toString) = some cA4 := (hK.2 4 _ rfl).2
    have a0 : s.vm.findClass ("[" ++ FieldType.int.toString) = some cA0 := (hK.2 0 _ rfl).2
    exact Option.some.inj (a0.symm.trans a1)
  subst z1
  subst z2
  subst z3
  subst z4
  have hK := hK.sub (tys' := [(cA0, .int)]) [0] rfl
  exact W.vret hx hb hr (fun t ht hW => ⟨⟨(fun i => match i with | 0 => q0 | 1 => q1 | 2 => q2 | 3 => q3 | _ => q4, (cA0, 0, 0)), rfl, trivial, by rw [ht]; exact hP, va_K.moved hW.alike hK, hD⟩, hS.F ht⟩) hS.2.2 dX0_init_63
