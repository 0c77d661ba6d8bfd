set_option maxHeartbeats 2000000 in
set_option maxRecDepth 100000 in
theorem law_c0 {X : lX} (ok : lOk X) {i : Nat} {x3 : Int32} (hx3 : x3 = nI i) (hi : i + 3 ≤ lL X) {ver : Nat} {s : sT} {Mx Mm : gM} (hI : XI ver s Mx) (hJ : MI s Mm) (hv : ver < 999999) (K : ∀ (v1 : Nat) (s1 : sT) (M1 M2 : gM), XI v1 s1 M1 → MI s1 M2 → v1 ≤ ver + 1 → lJ X 989 x3 [] M1 M2) : lJ X 196 x3 [] Mx Mm := by
  refine l_ax ok dL_law_196 ?_
  refine l_arg 1 (by decide) (by decide) ok hx3 hi dL_law_197 dL_law_198 dL_law_199 dL_law_200 dL_law_201 ?_
  refine l_cx (st := []) (as := [.inl (lxs X (i + 1))]) ok (k_X8_reset (X_reset hI hv (Q := fun r M1 => ∃ v1, XI v1 (o_reset s (lxs X (i + 1))).2 M1 ∧ v1 ≤ ver + 1 ∧ r = (o_reset s (lxs X (i + 1))).1) (fun M1 v1 h1 h2 => ⟨v1, h1, h2, rfl⟩))) s_X8_reset rfl cl0 sel_X8_reset ins_X8_reset q2_27 ⟨Nat.le_of_ble_eq_true rfl, Nat.le_of_ble_eq_true rfl⟩ (Nat.zero_le _) rfl dL_law_202 ?_
  rintro r M1 ⟨v1, h1, h2, rfl⟩
  refine l_am ok dL_law_205 ?_
  refine l_arg 1 (by decide) (by decide) ok hx3 hi dL_law_206 dL_law_207 dL_law_208 dL_law_209 dL_law_210 ?_
  refine l_cm (st := [.inl _]) (as := [.inl (lxs X (i + 1))]) ok (k_X9_reset (N_reset hJ (Q := fun r2 M2 => MI (o_reset s (lxs X (i + 1))).2 M2 ∧ r2 = (o_reset s (lxs X (i + 1))).1) (fun M2 h3 => ⟨h3, rfl⟩))) s_X9_reset rfl cl42 sel_X9_reset ins_X9_reset q4_79 ⟨Nat.le_of_ble_eq_true rfl, Nat.le_of_ble_eq_true rfl⟩ (Nat.le_of_ble_eq_true rfl) rfl dL_law_211 ?_
  rintro r2 M2 ⟨h3, rfl⟩
  exact l_eq ok dL_law_214 (by decide) (K v1 _ M1 M2 h1 h3 h2)
set_option maxHeartbeats 2000000 in
set_option maxRecDepth 100000 in
theorem law_c1 {X : lX} (ok : lOk X) {i : Nat} {x3 : Int32} (hx3 : x3 = nI i) (hi : i + 3 ≤ lL X) {ver : Nat} {s : sT} {Mx Mm : gM} (hI : XI ver s Mx) (hJ : MI s Mm) (hv : ver < 999999) (K : ∀ (v1 : Nat) (s1 : sT) (M1 M2 : gM), XI v1 s1 M1 → MI s1 M2 → v1 ≤ ver + 1 → lJ X 989 x3 [] M1 M2) : lJ X 219 x3 [] Mx Mm := by
  refine l_ax ok dL_law_219 ?_
  refine l_arg 1 (by decide) (by decide) ok hx3 hi dL_law_220 dL_law_221 dL_law_222 dL_law_223 dL_law_224 ?_
  refine l_cx (st := []) (as := [.inl (lxs X (i + 1))]) ok (k_X8_addEdge (X_addEdge hI hv (Q := fun r M1 => ∃ v1, XI v1 (o_addEdge s (lxs X (i + 1))).2 M1 ∧ v1 ≤ ver + 1 ∧ r = (o_addEdge s (lxs X (i + 1))).1) (fun M1 v1 h1 h2 => ⟨v1, h1, h2, rfl⟩))) s_X8_addEdge rfl cl0 sel_X8_addEdge ins_X8_addEdge q2_46 ⟨Nat.le_of_ble_eq_true rfl, Nat.le_of_ble_eq_true rfl⟩ (Nat.zero_le _) rfl dL_law_225 ?_
  rintro r M1 ⟨v1, h1, h2, rfl⟩
  refine l_am ok dL_law_228 ?_
  refine l_arg 1 (by decide) (by decide) ok hx3 hi dL_law_229 dL_law_230 dL_law_231 dL_law_232 dL_law_233 ?_
  refine l_cm (st := [.inl _]) (as := [.inl (lxs X (i + 1))]) ok (k_X9_addEdge (N_addEdge hJ (Q := fun r2 M2 => MI (o_addEdge s (lxs X (i + 1))).2 M2 ∧ r2 = (o_addEdge s (lxs X (i + 1))).1) (fun M2 h3 => ⟨h3, rfl⟩))) s_X9_addEdge rfl cl42 sel_X9_addEdge ins_X9_addEdge q4_94 ⟨Nat.le_of_ble_eq_true rfl, Nat.le_of_ble_eq_true rfl⟩ (Nat.le_of_ble_eq_true rfl) rfl dL_law_234 ?_
  rintro r2 M2 ⟨h3, rfl⟩
  exact l_eq ok dL_law_237 (by decide) (K v1 _ M1 M2 h1 h3 h2)
