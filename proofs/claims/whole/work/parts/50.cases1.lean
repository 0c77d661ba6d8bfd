set_option maxHeartbeats 2000000 in
set_option maxRecDepth 100000 in
theorem law_c0 {X : lX} (ok : lOk X) {i : Nat} {x3 : Int32} (hx3 : x3 = nI i) (hi : i + 3 ≤ lL X) {ver : Nat} {s : sT} {Mx Mm : gM} (hI : XI ver s Mx) (hJ : MI s Mm) (hv : ver < 999999) (K : ∀ (v1 : Nat) (s1 : sT) (M1 M2 : gM), XI v1 s1 M1 → MI s1 M2 → v1 ≤ ver + 1 → lJ X 989 x3 [] M1 M2) : lJ X 196 x3 [] Mx Mm := by
  refine l_ax ok dL_law_196 ?_
  refine l_arg 1 (by decide) (by decide) ok hx3 hi dL_law_197 dL_law_198 dL_law_199 dL_law_200 dL_law_201 ?_
  refine l_cx (st := []) (as := [.inl (lxs X (i + 1))]) ok (k_X8_reset (X_reset hI hv (Q := fun r M1 => ∃ v1, XI v1 (o_reset s (lxs X (i + 1))).2 M1 ∧ v1 ≤ ver + 1 ∧ r = (o_reset s (lxs X (i + 1))).1) (fun M1 v1 h1 h2 => ⟨v1, h1, h2, rfl⟩))) s_X8_reset rfl cl0 sel_X8_reset ins_X8_reset q2_27 ⟨Nat.le_of_ble_eq_true rfl, Nat.le_of_ble_eq_true rfl⟩ (Nat.zero_le _) rfl dL_law_202 ?_
  rintro r M1 ⟨v1, h1, h2, rfl⟩
  refine l_am ok dL_law_205 ?_
  refine l_arg 1 (by decide) (by decide) ok hx3 hi dL_law_206 dL_law_207 dL_law_208 dL_law_209 dL_law_210 ?_
  refine l_cm (st := [.inl _]) (as := [.inl (lxs X (i + 1))]) ok (k_X9_reset (N_reset hJ (Q := fun r2 M2 => MI (o_reset s (lxs X (i + 1))).2 M2 ∧ r2 = (o_reset s (lxs X (i + 1))).1) (fun M2 h3 => ⟨h3, rfl⟩))) s_X9_reset rfl cl42 sel_X9_reset ins_X9_reset q4_79 ⟨Nat.le_of_ble_eq_true rfl, Nat.le_of_ble_eq_true rfl⟩ (Nat.le_of_ble_eq_true rfl) rfl dL_law_211 ?_
  rintro r2 M2 ⟨h3, rfl⟩
  exact l_eq ok dL_law_214 (by decide) (K v1 _ M1 M2 h1 h3 h2)
set_option maxHeartbeats 2000000 in
set_option maxRecDepth 100000 in
theorem law_c1 {X : lX} (ok : lOk X) {i : Nat} {x3 : Int32} (hx3 : x3 = nI i) (hi : i + 3 ≤ lL X) {ver : Nat} {s : sT} {Mx Mm : gM} (hI : XI ver s Mx) (hJ : MI s Mm) (hv : ver < 999999) (K : ∀ (v1 : Nat) (s1 : sT) (M1 M2 : gM), XI v1 s1 M1 → MI s1 M2 → v1 ≤ ver + 1 → lJ X 989 x3 [] M1 M2) : lJ X 219 x3 [] Mx Mm := by
  refine l_ax ok dL_law_219 ?_
  refine l_arg 1 (by decide) (by decide) ok hx3 hi dL_law_220 dL_law_221 dL_law_222 dL_law_223 dL_law_224 ?_
  refine l_cx (st := []) (as := [.inl (lxs X (i + 1))]) ok (k_X8_addEdge (X_addEdge hI hv (Q := fun r M1 => ∃ v1, XI v1 (o_addEdge s (lxs X (i + 1))).2 M1 ∧ v1 ≤ ver + 1 ∧ r = (o_addEdge s (lxs X (i + 1))).1) (fun M1 v1 h1 h2 => ⟨v1, h1, h2, rfl⟩))) s_X8_addEdge rfl cl0 sel_X8_addEdge ins_X8_addEdge q2_46 ⟨Nat.le_of_ble_eq_true rfl, Nat.le_of_ble_eq_true rfl⟩ (Nat.zero_le _) rfl dL_law_225 ?_
  rintro r M1 ⟨v1, h1, h2, rfl⟩
  refine l_am ok dL_law_228 ?_
  refine l_arg 1 (by decide) (by decide) ok hx3 hi dL_law_229 dL_law_230 dL_law_231 dL_law_232 dL_law_233 ?_
  refine l_cm (st := [.inl _]) (as := [.inl (lxs X (i + 1))]) ok (k_X9_addEdge (N_addEdge hJ (Q := fun r2 M2 => MI (o_addEdge s (lxs X (i + 1))).2 M2 ∧ r2 = (o_addEdge s (lxs X (i + 1))).1) (fun M2 h3 => ⟨h3, rfl⟩))) s_X9_addEdge rfl cl42 sel_X9_addEdge ins_X9_addEdge q4_94 ⟨Nat.le_of_ble_eq_true rfl, Nat.le_of_ble_eq_true rfl⟩ (Nat.le_of_ble_eq_true rfl) rfl dL_law_234 ?_
  rintro r2 M2 ⟨h3, rfl⟩
  exact l_eq ok dL_law_237 (by decide) (K v1 _ M1 M2 h1 h3 h2)
set_option maxHeartbeats 2000000 in
set_option maxRecDepth 100000 in
theorem law_c2 {X : lX} (ok : lOk X) {i : Nat} {x3 : Int32} (hx3 : x3 = nI i) (hi : i + 3 ≤ lL X) {ver : Nat} {s : sT} {Mx Mm : gM} (hI : XI ver s Mx) (hJ : MI s Mm) (hv : ver < 999999) (K : ∀ (v1 : Nat) (s1 : sT) (M1 M2 : gM), XI v1 s1 M1 → MI s1 M2 → v1 ≤ ver + 1 → lJ X 989 x3 [] M1 M2) : lJ X 242 x3 [] Mx Mm := by
  refine l_ax ok dL_law_242 ?_
  refine l_arg 1 (by decide) (by decide) ok hx3 hi dL_law_243 dL_law_244 dL_law_245 dL_law_246 dL_law_247 ?_
  refine l_cx (st := []) (as := [.inl (lxs X (i + 1))]) ok (k_X8_removeEdge (X_removeEdge hI hv (Q := fun r M1 => ∃ v1, XI v1 (o_removeEdge s (lxs X (i + 1))).2 M1 ∧ v1 ≤ ver + 1 ∧ r = (o_removeEdge s (lxs X (i + 1))).1) (fun M1 v1 h1 h2 => ⟨v1, h1, h2, rfl⟩))) s_X8_removeEdge rfl cl0 sel_X8_removeEdge ins_X8_removeEdge q2_81 ⟨Nat.le_of_ble_eq_true rfl, Nat.le_of_ble_eq_true rfl⟩ (Nat.zero_le _) rfl dL_law_248 ?_
  rintro r M1 ⟨v1, h1, h2, rfl⟩
  refine l_am ok dL_law_251 ?_
  refine l_arg 1 (by decide) (by decide) ok hx3 hi dL_law_252 dL_law_253 dL_law_254 dL_law_255 dL_law_256 ?_
  refine l_cm (st := [.inl _]) (as := [.inl (lxs X (i + 1))]) ok (k_X9_removeEdge (N_removeEdge hJ (Q := fun r2 M2 => MI (o_removeEdge s (lxs X (i + 1))).2 M2 ∧ r2 = (o_removeEdge s (lxs X (i + 1))).1) (fun M2 h3 => ⟨h3, rfl⟩))) s_X9_removeEdge rfl cl42 sel_X9_removeEdge ins_X9_removeEdge q4_122 ⟨Nat.le_of_ble_eq_true rfl, Nat.le_of_ble_eq_true rfl⟩ (Nat.le_of_ble_eq_true rfl) rfl dL_law_257 ?_
  rintro r2 M2 ⟨h3, rfl⟩
  exact l_eq ok dL_law_260 (by decide) (K v1 _ M1 M2 h1 h3 h2)
set_option maxHeartbeats 2000000 in
set_option maxRecDepth 100000 in
theorem law_c3 {X : lX} (ok : lOk X) {i : Nat} {x3 : Int32} (hx3 : x3 = nI i) (hi : i + 3 ≤ lL X) {ver : Nat} {s : sT} {Mx Mm : gM} (hI : XI ver s Mx) (hJ : MI s Mm) (hv : ver < 999999) (K : ∀ (v1 : Nat) (s1 : sT) (M1 M2 : gM), XI v1 s1 M1 → MI s1 M2 → v1 ≤ ver + 1 → lJ X 989 x3 [] M1 M2) : lJ X 265 x3 [] Mx Mm := by
  refine l_ax ok dL_law_265 ?_
  refine l_cx (st := []) (as := []) ok (k_X8_minimize (X_minimize hI hv (Q := fun r M1 => ∃ v1, XI v1 (o_minimize s).2 M1 ∧ v1 ≤ ver + 1 ∧ r = (o_minimize s).1) (fun M1 v1 h1 h2 => ⟨v1, h1, h2, rfl⟩))) s_X8_minimize rfl cl0 sel_X8_minimize ins_X8_minimize q2_98 ⟨Nat.le_of_ble_eq_true rfl, Nat.le_of_ble_eq_true rfl⟩ (Nat.zero_le _) rfl dL_law_266 ?_
  rintro r M1 ⟨v1, h1, h2, rfl⟩
  refine l_am ok dL_law_269 ?_
  refine l_cm (st := [.inl _]) (as := []) ok (k_X9_minimize (N_minimize hJ (Q := fun r2 M2 => MI (o_minimize s).2 M2 ∧ r2 = (o_minimize s).1) (fun M2 h3 => ⟨h3, rfl⟩))) s_X9_minimize rfl cl42 sel_X9_minimize ins_X9_minimize q4_134 ⟨Nat.le_of_ble_eq_true rfl, Nat.le_of_ble_eq_true rfl⟩ (Nat.le_of_ble_eq_true rfl) rfl dL_law_270 ?_
  rintro r2 M2 ⟨h3, rfl⟩
  exact l_eq ok dL_law_273 (by decide) (K v1 _ M1 M2 h1 h3 h2)
set_option maxHeartbeats 2000000 in
set_option maxRecDepth 100000 in
theorem law_c4 {X : lX} (ok : lOk X) {i : Nat} {x3 : Int32} (hx3 : x3 = nI i) (hi : i + 3 ≤ lL X) {ver : Nat} {s : sT} {Mx Mm : gM} (hI : XI ver s Mx) (hJ : MI s Mm) (hv : ver < 999999) (K : ∀ (v1 : Nat) (s1 : sT) (M1 M2 : gM), XI v1 s1 M1 → MI s1 M2 → v1 ≤ ver + 1 → lJ X 989 x3 [] M1 M2) : lJ X 278 x3 [] Mx Mm := by
  refine l_ax ok dL_law_278 ?_
  refine l_arg 1 (by decide) (by decide) ok hx3 hi dL_law_279 dL_law_280 dL_law_281 dL_law_282 dL_law_283 ?_
  refine l_cx (st := []) (as := [.inl (lxs X (i + 1))]) ok (k_X8_contract (X_contract hI hv (Q := fun r M1 => ∃ v1, XI v1 (o_contract s (lxs X (i + 1))).2 M1 ∧ v1 ≤ ver + 1 ∧ r = (o_contract s (lxs X (i + 1))).1) (fun M1 v1 h1 h2 => ⟨v1, h1, h2, rfl⟩))) s_X8_contract rfl cl0 sel_X8_contract ins_X8_contract q2_113 ⟨Nat.le_of_ble_eq_true rfl, Nat.le_of_ble_eq_true rfl⟩ (Nat.zero_le _) rfl dL_law_284 ?_
  rintro r M1 ⟨v1, h1, h2, rfl⟩
  refine l_am ok dL_law_287 ?_
  refine l_arg 1 (by decide) (by decide) ok hx3 hi dL_law_288 dL_law_289 dL_law_290 dL_law_291 dL_law_292 ?_
  refine l_cm (st := [.inl _]) (as := [.inl (lxs X (i + 1))]) ok (k_X9_contract (N_contract hJ (Q := fun r2 M2 => MI (o_contract s (lxs X (i + 1))).2 M2 ∧ r2 = (o_contract s (lxs X (i + 1))).1) (fun M2 h3 => ⟨h3, rfl⟩))) s_X9_contract rfl cl42 sel_X9_contract ins_X9_contract q4_150 ⟨Nat.le_of_ble_eq_true rfl, Nat.le_of_ble_eq_true rfl⟩ (Nat.le_of_ble_eq_true rfl) rfl dL_law_293 ?_
  rintro r2 M2 ⟨h3, rfl⟩
  exact l_eq ok dL_law_296 (by decide) (K v1 _ M1 M2 h1 h3 h2)
set_option maxHeartbeats 2000000 in
set_option maxRecDepth 100000 in
theorem law_c5 {X : lX} (ok : lOk X) {i : Nat} {x3 : Int32} (hx3 : x3 = nI i) (hi : i + 3 ≤ lL X) {ver : Nat} {s : sT} {Mx Mm : gM} (hI : XI ver s Mx) (hJ : MI s Mm) (hv : ver < 999999) (K : ∀ (v1 : Nat) (s1 : sT) (M1 M2 : gM), XI v1 s1 M1 → MI s1 M2 → v1 ≤ ver + 1 → lJ X 989 x3 [] M1 M2) : lJ X 301 x3 [] Mx Mm := by
  refine l_ax ok dL_law_301 ?_
  refine l_arg 1 (by decide) (by decide) ok hx3 hi dL_law_302 dL_law_303 dL_law_304 dL_law_305 dL_law_306 ?_
  refine l_cx (st := []) (as := [.inl (lxs X (i + 1))]) ok (k_X8_delete (X_delete hI hv (Q := fun r M1 => ∃ v1, XI v1 (o_delete s (lxs X (i + 1))).2 M1 ∧ v1 ≤ ver + 1 ∧ r = (o_delete s (lxs X (i + 1))).1) (fun M1 v1 h1 h2 => ⟨v1, h1, h2, rfl⟩))) s_X8_delete rfl cl0 sel_X8_delete ins_X8_delete q2_132 ⟨Nat.le_of_ble_eq_true rfl, Nat.le_of_ble_eq_true rfl⟩ (Nat.zero_le _) rfl dL_law_307 ?_
  rintro r M1 ⟨v1, h1, h2, rfl⟩
  refine l_am ok dL_law_310 ?_
  refine l_arg 1 (by decide) (by decide) ok hx3 hi dL_law_311 dL_law_312 dL_law_313 dL_law_314 dL_law_315 ?_
  refine l_cm (st := [.inl _]) (as := [.inl (lxs X (i + 1))]) ok (k_X9_delete (N_delete hJ (Q := fun r2 M2 => MI (o_delete s (lxs X (i + 1))).2 M2 ∧ r2 = (o_delete s (lxs X (i + 1))).1) (fun M2 h3 => ⟨h3, rfl⟩))) s_X9_delete rfl cl42 sel_X9_delete ins_X9_delete q4_165 ⟨Nat.le_of_ble_eq_true rfl, Nat.le_of_ble_eq_true rfl⟩ (Nat.le_of_ble_eq_true rfl) rfl dL_law_316 ?_
  rintro r2 M2 ⟨h3, rfl⟩
  exact l_eq ok dL_law_319 (by decide) (K v1 _ M1 M2 h1 h3 h2)
set_option maxHeartbeats 2000000 in
set_option maxRecDepth 100000 in
theorem law_c6 {X : lX} (ok : lOk X) {i : Nat} {x3 : Int32} (hx3 : x3 = nI i) (hi : i + 3 ≤ lL X) {ver : Nat} {s : sT} {Mx Mm : gM} (hI : XI ver s Mx) (hJ : MI s Mm) (hv : ver < 999999) (K : ∀ (v1 : Nat) (s1 : sT) (M1 M2 : gM), XI v1 s1 M1 → MI s1 M2 → v1 ≤ ver + 1 → lJ X 989 x3 [] M1 M2) : lJ X 324 x3 [] Mx Mm := by
  refine l_ax ok dL_law_324 ?_
  refine l_cx (st := []) (as := []) ok (k_X8_dualize (X_dualize hI hv (Q := fun r M1 => ∃ v1, XI v1 (o_dualize s).2 M1 ∧ v1 ≤ ver + 1 ∧ r = (o_dualize s).1) (fun M1 v1 h1 h2 => ⟨v1, h1, h2, rfl⟩))) s_X8_dualize rfl cl0 sel_X8_dualize ins_X8_dualize q2_136 ⟨Nat.le_of_ble_eq_true rfl, Nat.le_of_ble_eq_true rfl⟩ (Nat.zero_le _) rfl dL_law_325 ?_
  rintro r M1 ⟨v1, h1, h2, rfl⟩
  refine l_am ok dL_law_328 ?_
  refine l_cm (st := [.inl _]) (as := []) ok (k_X9_dualize (N_dualize hJ (Q := fun r2 M2 => MI (o_dualize s).2 M2 ∧ r2 = (o_dualize s).1) (fun M2 h3 => ⟨h3, rfl⟩))) s_X9_dualize rfl cl42 sel_X9_dualize ins_X9_dualize q4_217 ⟨Nat.le_of_ble_eq_true rfl, Nat.le_of_ble_eq_true rfl⟩ (Nat.le_of_ble_eq_true rfl) rfl dL_law_329 ?_
  rintro r2 M2 ⟨h3, rfl⟩
  exact l_eq ok dL_law_332 (by decide) (K v1 _ M1 M2 h1 h3 h2)
set_option maxHeartbeats 2000000 in
set_option maxRecDepth 100000 in
theorem law_c7 {X : lX} (ok : lOk X) {i : Nat} {x3 : Int32} (hx3 : x3 = nI i) (hi : i + 3 ≤ lL X) {ver : Nat} {s : sT} {Mx Mm : gM} (hI : XI ver s Mx) (hJ : MI s Mm) (hv : ver < 999999) (K : ∀ (v1 : Nat) (s1 : sT) (M1 M2 : gM), XI v1 s1 M1 → MI s1 M2 → v1 ≤ ver + 1 → lJ X 989 x3 [] M1 M2) : lJ X 337 x3 [] Mx Mm := by
  refine l_ax ok dL_law_337 ?_
  refine l_cx (st := []) (as := []) ok (k_X8_undo (X_undo hI hv (Q := fun r M1 => ∃ v1, XI v1 (o_undo s).2 M1 ∧ v1 ≤ ver + 1 ∧ r = (o_undo s).1) (fun M1 v1 h1 h2 => ⟨v1, h1, h2, rfl⟩))) s_X8_undo rfl cl0 sel_X8_undo ins_X8_undo q2_166 ⟨Nat.le_of_ble_eq_true rfl, Nat.le_of_ble_eq_true rfl⟩ (Nat.zero_le _) rfl dL_law_338 ?_
  rintro r M1 ⟨v1, h1, h2, rfl⟩
  refine l_am ok dL_law_341 ?_
  refine l_cm (st := [.inl _]) (as := []) ok (k_X9_undo (N_undo hJ (Q := fun r2 M2 => MI (o_undo s).2 M2 ∧ r2 = (o_undo s).1) (fun M2 h3 => ⟨h3, rfl⟩))) s_X9_undo rfl cl42 sel_X9_undo ins_X9_undo q4_86 ⟨Nat.le_of_ble_eq_true rfl, Nat.le_of_ble_eq_true rfl⟩ (Nat.le_of_ble_eq_true rfl) rfl dL_law_342 ?_
  rintro r2 M2 ⟨h3, rfl⟩
  exact l_eq ok dL_law_345 (by decide) (K v1 _ M1 M2 h1 h3 h2)
set_option maxHeartbeats 2000000 in
set_option maxRecDepth 100000 in
theorem law_c8 {X : lX} (ok : lOk X) {i : Nat} {x3 : Int32} (hx3 : x3 = nI i) (hi : i + 3 ≤ lL X) {ver : Nat} {s : sT} {Mx Mm : gM} (hI : XI ver s Mx) (hJ : MI s Mm) (hv : ver < 999999) (K : ∀ (v1 : Nat) (s1 : sT) (M1 M2 : gM), XI v1 s1 M1 → MI s1 M2 → v1 ≤ ver + 1 → lJ X 989 x3 [] M1 M2) : lJ X 350 x3 [] Mx Mm := by
  refine l_ax ok dL_law_350 ?_
  refine l_cx (st := []) (as := []) ok (k_X8_redo (X_redo hI hv (Q := fun r M1 => ∃ v1, XI v1 (o_redo s).2 M1 ∧ v1 ≤ ver + 1 ∧ r = (o_redo s).1) (fun M1 v1 h1 h2 => ⟨v1, h1, h2, rfl⟩))) s_X8_redo rfl cl0 sel_X8_redo ins_X8_redo q2_186 ⟨Nat.le_of_ble_eq_true rfl, Nat.le_of_ble_eq_true rfl⟩ (Nat.zero_le _) rfl dL_law_351 ?_
  rintro r M1 ⟨v1, h1, h2, rfl⟩
  refine l_am ok dL_law_354 ?_
  refine l_cm (st := [.inl _]) (as := []) ok (k_X9_redo (N_redo hJ (Q := fun r2 M2 => MI (o_redo s).2 M2 ∧ r2 = (o_redo s).1) (fun M2 h3 => ⟨h3, rfl⟩))) s_X9_redo rfl cl42 sel_X9_redo ins_X9_redo q4_90 ⟨Nat.le_of_ble_eq_true rfl, Nat.le_of_ble_eq_true rfl⟩ (Nat.le_of_ble_eq_true rfl) rfl dL_law_355 ?_
  rintro r2 M2 ⟨h3, rfl⟩
  exact l_eq ok dL_law_358 (by decide) (K v1 _ M1 M2 h1 h3 h2)
set_option maxHeartbeats 2000000 in
set_option maxRecDepth 100000 in
theorem law_c9 {X : lX} (ok : lOk X) {i : Nat} {x3 : Int32} (hx3 : x3 = nI i) (hi : i + 3 ≤ lL X) {ver : Nat} {s : sT} {Mx Mm : gM} (hI : XI ver s Mx) (hJ : MI s Mm) (hv : ver < 999999) (K : ∀ (v1 : Nat) (s1 : sT) (M1 M2 : gM), XI v1 s1 M1 → MI s1 M2 → v1 ≤ ver + 1 → lJ X 989 x3 [] M1 M2) : lJ X 363 x3 [] Mx Mm := by
  refine l_ax ok dL_law_363 ?_
  refine l_arg 1 (by decide) (by decide) ok hx3 hi dL_law_364 dL_law_365 dL_law_366 dL_law_367 dL_law_368 ?_
  refine l_cx (st := []) (as := [.inl (lxs X (i + 1))]) ok (k_X8_edge (X_edge hI (Q := fun r M1 => ∃ v1, XI v1 (o_edge s (lxs X (i + 1))).2 M1 ∧ v1 ≤ ver + 1 ∧ r = (o_edge s (lxs X (i + 1))).1) (fun M1 v1 h1 h2 => ⟨v1, h1, h2, rfl⟩))) s_X8_edge rfl cl0 sel_X8_edge ins_X8_edge q2_198 ⟨Nat.le_of_ble_eq_true rfl, Nat.le_of_ble_eq_true rfl⟩ (Nat.zero_le _) rfl dL_law_369 ?_
  rintro r M1 ⟨v1, h1, h2, rfl⟩
  refine l_am ok dL_law_372 ?_
  refine l_arg 1 (by decide) (by decide) ok hx3 hi dL_law_373 dL_law_374 dL_law_375 dL_law_376 dL_law_377 ?_
  refine l_cm (st := [.inl _]) (as := [.inl (lxs X (i + 1))]) ok (k_X9_edge (N_edge hJ (Q := fun r2 M2 => MI (o_edge s (lxs X (i + 1))).2 M2 ∧ r2 = (o_edge s (lxs X (i + 1))).1) (fun M2 h3 => ⟨h3, rfl⟩))) s_X9_edge rfl cl42 sel_X9_edge ins_X9_edge q4_169 ⟨Nat.le_of_ble_eq_true rfl, Nat.le_of_ble_eq_true rfl⟩ (Nat.le_of_ble_eq_true rfl) rfl dL_law_378 ?_
  rintro r2 M2 ⟨h3, rfl⟩
  exact l_eq ok dL_law_381 (by decide) (K v1 _ M1 M2 h1 h3 h2)
set_option maxHeartbeats 2000000 in
set_option maxRecDepth 100000 in
theorem law_c10 {X : lX} (ok : lOk X) {i : Nat} {x3 : Int32} (hx3 : x3 = nI i) (hi : i + 3 ≤ lL X) {ver : Nat} {s : sT} {Mx Mm : gM} (hI : XI ver s Mx) (hJ : MI s Mm) (hv : ver < 999999) (K : ∀ (v1 : Nat) (s1 : sT) (M1 M2 : gM), XI v1 s1 M1 → MI s1 M2 → v1 ≤ ver + 1 → lJ X 989 x3 [] M1 M2) : lJ X 386 x3 [] Mx Mm := by
  refine l_ax ok dL_law_386 ?_
  refine l_arg 1 (by decide) (by decide) ok hx3 hi dL_law_387 dL_law_388 dL_law_389 dL_law_390 dL_law_391 ?_
  refine l_cx (st := []) (as := [.inl (lxs X (i + 1))]) ok (k_X8_value (X_value hI (Q := fun r M1 => ∃ v1, XI v1 (o_value s (lxs X (i + 1))).2 M1 ∧ v1 ≤ ver + 1 ∧ r = (o_value s (lxs X (i + 1))).1) (fun M1 v1 h1 h2 => ⟨v1, h1, h2, rfl⟩))) s_X8_value rfl cl0 sel_X8_value ins_X8_value q2_202 ⟨Nat.le_of_ble_eq_true rfl, Nat.le_of_ble_eq_true rfl⟩ (Nat.zero_le _) rfl dL_law_392 ?_
  rintro r M1 ⟨v1, h1, h2, rfl⟩
  refine l_am ok dL_law_395 ?_
  refine l_arg 1 (by decide) (by decide) ok hx3 hi dL_law_396 dL_law_397 dL_law_398 dL_law_399 dL_law_400 ?_
  refine l_cm (st := [.inl _]) (as := [.inl (lxs X (i + 1))]) ok (k_X9_value (N_value hJ (Q := fun r2 M2 => MI (o_value s (lxs X (i + 1))).2 M2 ∧ r2 = (o_value s (lxs X (i + 1))).1) (fun M2 h3 => ⟨h3, rfl⟩))) s_X9_value rfl cl42 sel_X9_value ins_X9_value q4_173 ⟨Nat.le_of_ble_eq_true rfl, Nat.le_of_ble_eq_true rfl⟩ (Nat.le_of_ble_eq_true rfl) rfl dL_law_401 ?_
  rintro r2 M2 ⟨h3, rfl⟩
  exact l_eq ok dL_law_404 (by decide) (K v1 _ M1 M2 h1 h3 h2)
set_option maxHeartbeats 2000000 in
set_option maxRecDepth 100000 in
theorem law_c11 {X : lX} (ok : lOk X) {i : Nat} {x3 : Int32} (hx3 : x3 = nI i) (hi : i + 3 ≤ lL X) {ver : Nat} {s : sT} {Mx Mm : gM} (hI : XI ver s Mx) (hJ : MI s Mm) (hv : ver < 999999) (K : ∀ (v1 : Nat) (s1 : sT) (M1 M2 : gM), XI v1 s1 M1 → MI s1 M2 → v1 ≤ ver + 1 → lJ X 989 x3 [] M1 M2) : lJ X 409 x3 [] Mx Mm := by
  refine l_ax ok dL_law_409 ?_
  refine l_arg 1 (by decide) (by decide) ok hx3 hi dL_law_410 dL_law_411 dL_law_412 dL_law_413 dL_law_414 ?_
  refine l_cx (st := []) (as := [.inl (lxs X (i + 1))]) ok (k_X8_edgesOf (X_edgesOf hI (Q := fun r M1 => ∃ v1, XI v1 (o_edgesOf s (lxs X (i + 1))).2 M1 ∧ v1 ≤ ver + 1 ∧ r = (o_edgesOf s (lxs X (i + 1))).1) (fun M1 v1 h1 h2 => ⟨v1, h1, h2, rfl⟩))) s_X8_edgesOf rfl cl0 sel_X8_edgesOf ins_X8_edgesOf q2_215 ⟨Nat.le_of_ble_eq_true rfl, Nat.le_of_ble_eq_true rfl⟩ (Nat.zero_le _) rfl dL_law_415 ?_
  rintro r M1 ⟨v1, h1, h2, rfl⟩
  refine l_am ok dL_law_418 ?_
  refine l_arg 1 (by decide) (by decide) ok hx3 hi dL_law_419 dL_law_420 dL_law_421 dL_law_422 dL_law_423 ?_
  refine l_cm (st := [.inl _]) (as := [.inl (lxs X (i + 1))]) ok (k_X9_edgesOf (N_edgesOf hJ (Q := fun r2 M2 => MI (o_edgesOf s (lxs X (i + 1))).2 M2 ∧ r2 = (o_edgesOf s (lxs X (i + 1))).1) (fun M2 h3 => ⟨h3, rfl⟩))) s_X9_edgesOf rfl cl42 sel_X9_edgesOf ins_X9_edgesOf q4_177 ⟨Nat.le_of_ble_eq_true rfl, Nat.le_of_ble_eq_true rfl⟩ (Nat.le_of_ble_eq_true rfl) rfl dL_law_424 ?_
  rintro r2 M2 ⟨h3, rfl⟩
  exact l_eq ok dL_law_427 (by decide) (K v1 _ M1 M2 h1 h3 h2)
set_option maxHeartbeats 2000000 in
set_option maxRecDepth 100000 in
theorem law_c12 {X : lX} (ok : lOk X) {i : Nat} {x3 : Int32} (hx3 : x3 = nI i) (hi : i + 3 ≤ lL X) {ver : Nat} {s : sT} {Mx Mm : gM} (hI : XI ver s Mx) (hJ : MI s Mm) (hv : ver < 999999) (K : ∀ (v1 : Nat) (s1 : sT) (M1 M2 : gM), XI v1 s1 M1 → MI s1 M2 → v1 ≤ ver + 1 → lJ X 989 x3 [] M1 M2) : lJ X 432 x3 [] Mx Mm := by
  refine l_ax ok dL_law_432 ?_
  refine l_arg 1 (by decide) (by decide) ok hx3 hi dL_law_433 dL_law_434 dL_law_435 dL_law_436 dL_law_437 ?_
  refine l_arg 2 (by decide) (by decide) ok hx3 hi dL_law_438 dL_law_439 dL_law_440 dL_law_441 dL_law_442 ?_
  refine l_cx (st := []) (as := [.inl (lxs X (i + 1)), .inl (lxs X (i + 2))]) ok (k_X8_setWeight (X_setWeight hI (Q := fun r M1 => ∃ v1, XI v1 (o_setWeight s (lxs X (i + 1)) (lxs X (i + 2))).2 M1 ∧ v1 ≤ ver + 1 ∧ r = (o_setWeight s (lxs X (i + 1)) (lxs X (i + 2))).1) (fun M1 v1 h1 h2 => ⟨v1, h1, h2, rfl⟩))) s_X8_setWeight rfl cl0 sel_X8_setWeight ins_X8_setWeight q2_219 ⟨Nat.le_of_ble_eq_true rfl, Nat.le_of_ble_eq_true rfl⟩ (Nat.zero_le _) rfl dL_law_443 ?_
  rintro r M1 ⟨v1, h1, h2, rfl⟩
  refine l_am ok dL_law_446 ?_
  refine l_arg 1 (by decide) (by decide) ok hx3 hi dL_law_447 dL_law_448 dL_law_449 dL_law_450 dL_law_451 ?_
  refine l_arg 2 (by decide) (by decide) ok hx3 hi dL_law_452 dL_law_453 dL_law_454 dL_law_455 dL_law_456 ?_
  refine l_cm (st := [.inl _]) (as := [.inl (lxs X (i + 1)), .inl (lxs X (i + 2))]) ok (k_X9_setWeight (N_setWeight hJ (Q := fun r2 M2 => MI (o_setWeight s (lxs X (i + 1)) (lxs X (i + 2))).2 M2 ∧ r2 = (o_setWeight s (lxs X (i + 1)) (lxs X (i + 2))).1) (fun M2 h3 => ⟨h3, rfl⟩))) s_X9_setWeight rfl cl42 sel_X9_setWeight ins_X9_setWeight q4_181 ⟨Nat.le_of_ble_eq_true rfl, Nat.le_of_ble_eq_true rfl⟩ (Nat.le_of_ble_eq_true rfl) rfl dL_law_457 ?_
  rintro r2 M2 ⟨h3, rfl⟩
  exact l_eq ok dL_law_460 (by decide) (K v1 _ M1 M2 h1 h3 h2)
set_option maxHeartbeats 2000000 in
set_option maxRecDepth 100000 in
theorem law_c13 {X : lX} (ok : lOk X) {i : Nat} {x3 : Int32} (hx3 : x3 = nI i) (hi : i + 3 ≤ lL X) {ver : Nat} {s : sT} {Mx Mm : gM} (hI : XI ver s Mx) (hJ : MI s Mm) (hv : ver < 999999) (K : ∀ (v1 : Nat) (s1 : sT) (M1 M2 : gM), XI v1 s1 M1 → MI s1 M2 → v1 ≤ ver + 1 → lJ X 989 x3 [] M1 M2) : lJ X 465 x3 [] Mx Mm := by
  refine l_ax ok dL_law_465 ?_
  refine l_arg 1 (by decide) (by decide) ok hx3 hi dL_law_466 dL_law_467 dL_law_468 dL_law_469 dL_law_470 ?_
  refine l_cx (st := []) (as := [.inl (lxs X (i + 1))]) ok (k_X8_missed (X_missed hI (Q := fun r M1 => ∃ v1, XI v1 (o_missed s (lxs X (i + 1))).2 M1 ∧ v1 ≤ ver + 1 ∧ r = (o_missed s (lxs X (i + 1))).1) (fun M1 v1 h1 h2 => ⟨v1, h1, h2, rfl⟩))) s_X8_missed rfl cl0 sel_X8_missed ins_X8_missed q2_223 ⟨Nat.le_of_ble_eq_true rfl, Nat.le_of_ble_eq_true rfl⟩ (Nat.zero_le _) rfl dL_law_471 ?_
  rintro r M1 ⟨v1, h1, h2, rfl⟩
  refine l_am ok dL_law_474 ?_
  refine l_arg 1 (by decide) (by decide) ok hx3 hi dL_law_475 dL_law_476 dL_law_477 dL_law_478 dL_law_479 ?_
  refine l_cm (st := [.inl _]) (as := [.inl (lxs X (i + 1))]) ok (k_X9_missed (N_missed hJ (Q := fun r2 M2 => MI (o_missed s (lxs X (i + 1))).2 M2 ∧ r2 = (o_missed s (lxs X (i + 1))).1) (fun M2 h3 => ⟨h3, rfl⟩))) s_X9_missed rfl cl42 sel_X9_missed ins_X9_missed q4_185 ⟨Nat.le_of_ble_eq_true rfl, Nat.le_of_ble_eq_true rfl⟩ (Nat.le_of_ble_eq_true rfl) rfl dL_law_480 ?_
  rintro r2 M2 ⟨h3, rfl⟩
  exact l_eq ok dL_law_483 (by decide) (K v1 _ M1 M2 h1 h3 h2)
set_option maxHeartbeats 2000000 in
set_option maxRecDepth 100000 in
theorem law_c14 {X : lX} (ok : lOk X) {i : Nat} {x3 : Int32} (hx3 : x3 = nI i) (hi : i + 3 ≤ lL X) {ver : Nat} {s : sT} {Mx Mm : gM} (hI : XI ver s Mx) (hJ : MI s Mm) (hv : ver < 999999) (K : ∀ (v1 : Nat) (s1 : sT) (M1 M2 : gM), XI v1 s1 M1 → MI s1 M2 → v1 ≤ ver + 1 → lJ X 989 x3 [] M1 M2) : lJ X 488 x3 [] Mx Mm := by
  refine l_ax ok dL_law_488 ?_
  refine l_arg 1 (by decide) (by decide) ok hx3 hi dL_law_489 dL_law_490 dL_law_491 dL_law_492 dL_law_493 ?_
  refine l_arg 2 (by decide) (by decide) ok hx3 hi dL_law_494 dL_law_495 dL_law_496 dL_law_497 dL_law_498 ?_
  refine l_cx (st := []) (as := [.inl (lxs X (i + 1)), .inl (lxs X (i + 2))]) ok (k_X8_privateEdges (X_private hI (Q := fun r M1 => ∃ v1, XI v1 (o_private s (lxs X (i + 1)) (lxs X (i + 2))).2 M1 ∧ v1 ≤ ver + 1 ∧ r = (o_private s (lxs X (i + 1)) (lxs X (i + 2))).1) (fun M1 v1 h1 h2 => ⟨v1, h1, h2, rfl⟩))) s_X8_privateEdges rfl cl0 sel_X8_privateEdges ins_X8_privateEdges q2_232 ⟨Nat.le_of_ble_eq_true rfl, Nat.le_of_ble_eq_true rfl⟩ (Nat.zero_le _) rfl dL_law_499 ?_
  rintro r M1 ⟨v1, h1, h2, rfl⟩
  refine l_am ok dL_law_502 ?_
  refine l_arg 1 (by decide) (by decide) ok hx3 hi dL_law_503 dL_law_504 dL_law_505 dL_law_506 dL_law_507 ?_
  refine l_arg 2 (by decide) (by decide) ok hx3 hi dL_law_508 dL_law_509 dL_law_510 dL_law_511 dL_law_512 ?_
  refine l_cm (st := [.inl _]) (as := [.inl (lxs X (i + 1)), .inl (lxs X (i + 2))]) ok (k_X9_privateEdges (N_privateEdges hJ (Q := fun r2 M2 => MI (o_private s (lxs X (i + 1)) (lxs X (i + 2))).2 M2 ∧ r2 = (o_private s (lxs X (i + 1)) (lxs X (i + 2))).1) (fun M2 h3 => ⟨h3, rfl⟩))) s_X9_privateEdges rfl cl42 sel_X9_privateEdges ins_X9_privateEdges q4_193 ⟨Nat.le_of_ble_eq_true rfl, Nat.le_of_ble_eq_true rfl⟩ (Nat.le_of_ble_eq_true rfl) rfl dL_law_513 ?_
  rintro r2 M2 ⟨h3, rfl⟩
  exact l_eq ok dL_law_516 (by decide) (K v1 _ M1 M2 h1 h3 h2)
set_option maxHeartbeats 2000000 in
set_option maxRecDepth 100000 in
theorem law_c15 {X : lX} (ok : lOk X) {i : Nat} {x3 : Int32} (hx3 : x3 = nI i) (hi : i + 3 ≤ lL X) {ver : Nat} {s : sT} {Mx Mm : gM} (hI : XI ver s Mx) (hJ : MI s Mm) (hv : ver < 999999) (K : ∀ (v1 : Nat) (s1 : sT) (M1 M2 : gM), XI v1 s1 M1 → MI s1 M2 → v1 ≤ ver + 1 → lJ X 989 x3 [] M1 M2) : lJ X 521 x3 [] Mx Mm := by
  refine l_ax ok dL_law_521 ?_
  refine l_arg 1 (by decide) (by decide) ok hx3 hi dL_law_522 dL_law_523 dL_law_524 dL_law_525 dL_law_526 ?_
  refine l_cx (st := []) (as := [.inl (lxs X (i + 1))]) ok (k_X8_kindOf (X_kindOf hI (Q := fun r M1 => ∃ v1, XI v1 (o_kindOf s (lxs X (i + 1))).2 M1 ∧ v1 ≤ ver + 1 ∧ r = (o_kindOf s (lxs X (i + 1))).1) (fun M1 v1 h1 h2 => ⟨v1, h1, h2, rfl⟩))) s_X8_kindOf rfl cl0 sel_X8_kindOf ins_X8_kindOf q3_1 ⟨Nat.le_of_ble_eq_true rfl, Nat.le_of_ble_eq_true rfl⟩ (Nat.zero_le _) rfl dL_law_527 ?_
  rintro r M1 ⟨v1, h1, h2, rfl⟩
  refine l_am ok dL_law_530 ?_
  refine l_arg 1 (by decide) (by decide) ok hx3 hi dL_law_531 dL_law_532 dL_law_533 dL_law_534 dL_law_535 ?_
  refine l_cm (st := [.inl _]) (as := [.inl (lxs X (i + 1))]) ok (k_X9_kindOf (N_kindOf hJ (Q := fun r2 M2 => MI (o_kindOf s (lxs X (i + 1))).2 M2 ∧ r2 = (o_kindOf s (lxs X (i + 1))).1) (fun M2 h3 => ⟨h3, rfl⟩))) s_X9_kindOf rfl cl42 sel_X9_kindOf ins_X9_kindOf q4_201 ⟨Nat.le_of_ble_eq_true rfl, Nat.le_of_ble_eq_true rfl⟩ (Nat.le_of_ble_eq_true rfl) rfl dL_law_536 ?_
  rintro r2 M2 ⟨h3, rfl⟩
  exact l_eq ok dL_law_539 (by decide) (K v1 _ M1 M2 h1 h3 h2)
set_option maxHeartbeats 2000000 in
set_option maxRecDepth 100000 in
theorem law_c16 {X : lX} (ok : lOk X) {i : Nat} {x3 : Int32} (hx3 : x3 = nI i) (hi : i + 3 ≤ lL X) {ver : Nat} {s : sT} {Mx Mm : gM} (hI : XI ver s Mx) (hJ : MI s Mm) (hv : ver < 999999) (K : ∀ (v1 : Nat) (s1 : sT) (M1 M2 : gM), XI v1 s1 M1 → MI s1 M2 → v1 ≤ ver + 1 → lJ X 989 x3 [] M1 M2) : lJ X 544 x3 [] Mx Mm := by
  refine l_ax ok dL_law_544 ?_
  refine l_arg 1 (by decide) (by decide) ok hx3 hi dL_law_545 dL_law_546 dL_law_547 dL_law_548 dL_law_549 ?_
  refine l_cx (st := []) (as := [.inl (lxs X (i + 1))]) ok (k_X8_shrink (X_shrink hI (Q := fun r M1 => ∃ v1, XI v1 (o_shrink s (lxs X (i + 1))).2 M1 ∧ v1 ≤ ver + 1 ∧ r = (o_shrink s (lxs X (i + 1))).1) (fun M1 v1 h1 h2 => ⟨v1, h1, h2, rfl⟩))) s_X8_shrink rfl cl0 sel_X8_shrink ins_X8_shrink q3_12 ⟨Nat.le_of_ble_eq_true rfl, Nat.le_of_ble_eq_true rfl⟩ (Nat.zero_le _) rfl dL_law_550 ?_
  rintro r M1 ⟨v1, h1, h2, rfl⟩
  refine l_am ok dL_law_553 ?_
  refine l_arg 1 (by decide) (by decide) ok hx3 hi dL_law_554 dL_law_555 dL_law_556 dL_law_557 dL_law_558 ?_
  refine l_cm (st := [.inl _]) (as := [.inl (lxs X (i + 1))]) ok (k_X9_shrink (N_shrink hJ (Q := fun r2 M2 => MI (o_shrink s (lxs X (i + 1))).2 M2 ∧ r2 = (o_shrink s (lxs X (i + 1))).1) (fun M2 h3 => ⟨h3, rfl⟩))) s_X9_shrink rfl cl42 sel_X9_shrink ins_X9_shrink q4_209 ⟨Nat.le_of_ble_eq_true rfl, Nat.le_of_ble_eq_true rfl⟩ (Nat.le_of_ble_eq_true rfl) rfl dL_law_559 ?_
  rintro r2 M2 ⟨h3, rfl⟩
  exact l_eq ok dL_law_562 (by decide) (K v1 _ M1 M2 h1 h3 h2)
set_option maxHeartbeats 2000000 in
set_option maxRecDepth 100000 in
theorem law_c17 {X : lX} (ok : lOk X) {i : Nat} {x3 : Int32} (hx3 : x3 = nI i) (hi : i + 3 ≤ lL X) {ver : Nat} {s : sT} {Mx Mm : gM} (hI : XI ver s Mx) (hJ : MI s Mm) (hv : ver < 999999) (K : ∀ (v1 : Nat) (s1 : sT) (M1 M2 : gM), XI v1 s1 M1 → MI s1 M2 → v1 ≤ ver + 1 → lJ X 989 x3 [] M1 M2) : lJ X 567 x3 [] Mx Mm := by
  refine l_ax ok dL_law_567 ?_
  refine l_arg 1 (by decide) (by decide) ok hx3 hi dL_law_568 dL_law_569 dL_law_570 dL_law_571 dL_law_572 ?_
  refine l_cx (st := []) (as := [.inl (lxs X (i + 1))]) ok (k_X8_grow (X_grow hI (Q := fun r M1 => ∃ v1, XI v1 (o_grow s (lxs X (i + 1))).2 M1 ∧ v1 ≤ ver + 1 ∧ r = (o_grow s (lxs X (i + 1))).1) (fun M1 v1 h1 h2 => ⟨v1, h1, h2, rfl⟩))) s_X8_grow rfl cl0 sel_X8_grow ins_X8_grow q3_16 ⟨Nat.le_of_ble_eq_true rfl, Nat.le_of_ble_eq_true rfl⟩ (Nat.zero_le _) rfl dL_law_573 ?_
  rintro r M1 ⟨v1, h1, h2, rfl⟩
  refine l_am ok dL_law_576 ?_
  refine l_arg 1 (by decide) (by decide) ok hx3 hi dL_law_577 dL_law_578 dL_law_579 dL_law_580 dL_law_581 ?_
  refine l_cm (st := [.inl _]) (as := [.inl (lxs X (i + 1))]) ok (k_X9_grow (N_grow hJ (Q := fun r2 M2 => MI (o_grow s (lxs X (i + 1))).2 M2 ∧ r2 = (o_grow s (lxs X (i + 1))).1) (fun M2 h3 => ⟨h3, rfl⟩))) s_X9_grow rfl cl42 sel_X9_grow ins_X9_grow q4_213 ⟨Nat.le_of_ble_eq_true rfl, Nat.le_of_ble_eq_true rfl⟩ (Nat.le_of_ble_eq_true rfl) rfl dL_law_582 ?_
  rintro r2 M2 ⟨h3, rfl⟩
  exact l_eq ok dL_law_585 (by decide) (K v1 _ M1 M2 h1 h3 h2)
set_option maxHeartbeats 2000000 in
set_option maxRecDepth 100000 in
theorem law_c18 {X : lX} (ok : lOk X) {i : Nat} {x3 : Int32} (hx3 : x3 = nI i) (hi : i + 3 ≤ lL X) {ver : Nat} {s : sT} {Mx Mm : gM} (hI : XI ver s Mx) (hJ : MI s Mm) (hv : ver < 999999) (K : ∀ (v1 : Nat) (s1 : sT) (M1 M2 : gM), XI v1 s1 M1 → MI s1 M2 → v1 ≤ ver + 1 → lJ X 989 x3 [] M1 M2) : lJ X 590 x3 [] Mx Mm := by
  refine l_ax ok dL_law_590 ?_
  refine l_cx (st := []) (as := []) ok (k_X8_answerCount (X_answerCount hI (Q := fun r M1 => ∃ v1, XI v1 (o_answerCount s).2 M1 ∧ v1 ≤ ver + 1 ∧ r = (o_answerCount s).1) (fun M1 v1 h1 h2 => ⟨v1, h1, h2, rfl⟩))) s_X8_answerCount rfl cl0 sel_X8_answerCount ins_X8_answerCount q3_24 ⟨Nat.le_of_ble_eq_true rfl, Nat.le_of_ble_eq_true rfl⟩ (Nat.zero_le _) rfl dL_law_591 ?_
  rintro r M1 ⟨v1, h1, h2, rfl⟩
  refine l_am ok dL_law_594 ?_
  refine l_cm (st := [.inl _]) (as := []) ok (k_X9_answerCount (N_answerCount hJ (Q := fun r2 M2 => MI (o_answerCount s).2 M2 ∧ r2 = (o_answerCount s).1) (fun M2 h3 => ⟨h3, rfl⟩))) s_X9_answerCount rfl cl42 sel_X9_answerCount ins_X9_answerCount q5_0 ⟨Nat.le_of_ble_eq_true rfl, Nat.le_of_ble_eq_true rfl⟩ (Nat.le_of_ble_eq_true rfl) rfl dL_law_595 ?_
  rintro r2 M2 ⟨h3, rfl⟩
  exact l_eq ok dL_law_598 (by decide) (K v1 _ M1 M2 h1 h3 h2)
set_option maxHeartbeats 2000000 in
set_option maxRecDepth 100000 in
theorem law_c19 {X : lX} (ok : lOk X) {i : Nat} {x3 : Int32} (hx3 : x3 = nI i) (hi : i + 3 ≤ lL X) {ver : Nat} {s : sT} {Mx Mm : gM} (hI : XI ver s Mx) (hJ : MI s Mm) (hv : ver < 999999) (K : ∀ (v1 : Nat) (s1 : sT) (M1 M2 : gM), XI v1 s1 M1 → MI s1 M2 → v1 ≤ ver + 1 → lJ X 989 x3 [] M1 M2) : lJ X 603 x3 [] Mx Mm := by
  refine l_ax ok dL_law_603 ?_
  refine l_arg 1 (by decide) (by decide) ok hx3 hi dL_law_604 dL_law_605 dL_law_606 dL_law_607 dL_law_608 ?_
  refine l_cx (st := []) (as := [.inl (lxs X (i + 1))]) ok (k_X8_answer (X_answer hI (Q := fun r M1 => ∃ v1, XI v1 (o_answer s (lxs X (i + 1))).2 M1 ∧ v1 ≤ ver + 1 ∧ r = (o_answer s (lxs X (i + 1))).1) (fun M1 v1 h1 h2 => ⟨v1, h1, h2, rfl⟩))) s_X8_answer rfl cl0 sel_X8_answer ins_X8_answer q3_28 ⟨Nat.le_of_ble_eq_true rfl, Nat.le_of_ble_eq_true rfl⟩ (Nat.zero_le _) rfl dL_law_609 ?_
  rintro r M1 ⟨v1, h1, h2, rfl⟩
  refine l_am ok dL_law_612 ?_
  refine l_arg 1 (by decide) (by decide) ok hx3 hi dL_law_613 dL_law_614 dL_law_615 dL_law_616 dL_law_617 ?_
  refine l_cm (st := [.inl _]) (as := [.inl (lxs X (i + 1))]) ok (k_X9_answer (N_answer hJ (Q := fun r2 M2 => MI (o_answer s (lxs X (i + 1))).2 M2 ∧ r2 = (o_answer s (lxs X (i + 1))).1) (fun M2 h3 => ⟨h3, rfl⟩))) s_X9_answer rfl cl42 sel_X9_answer ins_X9_answer q5_4 ⟨Nat.le_of_ble_eq_true rfl, Nat.le_of_ble_eq_true rfl⟩ (Nat.le_of_ble_eq_true rfl) rfl dL_law_618 ?_
  rintro r2 M2 ⟨h3, rfl⟩
  exact l_eq ok dL_law_621 (by decide) (K v1 _ M1 M2 h1 h3 h2)
set_option maxHeartbeats 2000000 in
set_option maxRecDepth 100000 in
theorem law_c20 {X : lX} (ok : lOk X) {i : Nat} {x3 : Int32} (hx3 : x3 = nI i) (hi : i + 3 ≤ lL X) {ver : Nat} {s : sT} {Mx Mm : gM} (hI : XI ver s Mx) (hJ : MI s Mm) (hv : ver < 999999) (K : ∀ (v1 : Nat) (s1 : sT) (M1 M2 : gM), XI v1 s1 M1 → MI s1 M2 → v1 ≤ ver + 1 → lJ X 989 x3 [] M1 M2) : lJ X 626 x3 [] Mx Mm := by
  refine l_ax ok dL_law_626 ?_
  refine l_arg 1 (by decide) (by decide) ok hx3 hi dL_law_627 dL_law_628 dL_law_629 dL_law_630 dL_law_631 ?_
  refine l_cx (st := []) (as := [.inl (lxs X (i + 1))]) ok (k_X8_delay (X_delay hI (Q := fun r M1 => ∃ v1, XI v1 (o_delay s (lxs X (i + 1))).2 M1 ∧ v1 ≤ ver + 1 ∧ r = (o_delay s (lxs X (i + 1))).1) (fun M1 v1 h1 h2 => ⟨v1, h1, h2, rfl⟩))) s_X8_delay rfl cl0 sel_X8_delay ins_X8_delay q3_36 ⟨Nat.le_of_ble_eq_true rfl, Nat.le_of_ble_eq_true rfl⟩ (Nat.zero_le _) rfl dL_law_632 ?_
  rintro r M1 ⟨v1, h1, h2, rfl⟩
  refine l_am ok dL_law_635 ?_
  refine l_arg 1 (by decide) (by decide) ok hx3 hi dL_law_636 dL_law_637 dL_law_638 dL_law_639 dL_law_640 ?_
  refine l_cm (st := [.inl _]) (as := [.inl (lxs X (i + 1))]) ok (k_X9_delay (N_delay hJ (Q := fun r2 M2 => MI (o_delay s (lxs X (i + 1))).2 M2 ∧ r2 = (o_delay s (lxs X (i + 1))).1) (fun M2 h3 => ⟨h3, rfl⟩))) s_X9_delay rfl cl42 sel_X9_delay ins_X9_delay q5_8 ⟨Nat.le_of_ble_eq_true rfl, Nat.le_of_ble_eq_true rfl⟩ (Nat.le_of_ble_eq_true rfl) rfl dL_law_641 ?_
  rintro r2 M2 ⟨h3, rfl⟩
  exact l_eq ok dL_law_644 (by decide) (K v1 _ M1 M2 h1 h3 h2)
set_option maxHeartbeats 2000000 in
set_option maxRecDepth 100000 in
theorem law_c21 {X : lX} (ok : lOk X) {i : Nat} {x3 : Int32} (hx3 : x3 = nI i) (hi : i + 3 ≤ lL X) {ver : Nat} {s : sT} {Mx Mm : gM} (hI : XI ver s Mx) (hJ : MI s Mm) (hv : ver < 999999) (K : ∀ (v1 : Nat) (s1 : sT) (M1 M2 : gM), XI v1 s1 M1 → MI s1 M2 → v1 ≤ ver + 1 → lJ X 989 x3 [] M1 M2) : lJ X 649 x3 [] Mx Mm := by
  refine l_ax ok dL_law_649 ?_
  refine l_cx (st := []) (as := []) ok (k_X8_visits (X_visits hI (Q := fun r M1 => ∃ v1, XI v1 (o_visits s).2 M1 ∧ v1 ≤ ver + 1 ∧ r = (o_visits s).1) (fun M1 v1 h1 h2 => ⟨v1, h1, h2, rfl⟩))) s_X8_visits rfl cl0 sel_X8_visits ins_X8_visits q3_40 ⟨Nat.le_of_ble_eq_true rfl, Nat.le_of_ble_eq_true rfl⟩ (Nat.zero_le _) rfl dL_law_650 ?_
  rintro r M1 ⟨v1, h1, h2, rfl⟩
  refine l_am ok dL_law_653 ?_
  refine l_cm (st := [.inl _]) (as := []) ok (k_X9_visits (N_visits hJ (Q := fun r2 M2 => MI (o_visits s).2 M2 ∧ r2 = (o_visits s).1) (fun M2 h3 => ⟨h3, rfl⟩))) s_X9_visits rfl cl42 sel_X9_visits ins_X9_visits q5_12 ⟨Nat.le_of_ble_eq_true rfl, Nat.le_of_ble_eq_true rfl⟩ (Nat.le_of_ble_eq_true rfl) rfl dL_law_654 ?_
  rintro r2 M2 ⟨h3, rfl⟩
  exact l_eq ok dL_law_657 (by decide) (K v1 _ M1 M2 h1 h3 h2)
set_option maxHeartbeats 2000000 in
set_option maxRecDepth 100000 in
theorem law_c22 {X : lX} (ok : lOk X) {i : Nat} {x3 : Int32} (hx3 : x3 = nI i) (hi : i + 3 ≤ lL X) {ver : Nat} {s : sT} {Mx Mm : gM} (hI : XI ver s Mx) (hJ : MI s Mm) (hv : ver < 999999) (K : ∀ (v1 : Nat) (s1 : sT) (M1 M2 : gM), XI v1 s1 M1 → MI s1 M2 → v1 ≤ ver + 1 → lJ X 989 x3 [] M1 M2) : lJ X 662 x3 [] Mx Mm := by
  refine l_ax ok dL_law_662 ?_
  refine l_arg 1 (by decide) (by decide) ok hx3 hi dL_law_663 dL_law_664 dL_law_665 dL_law_666 dL_law_667 ?_
  refine l_cx (st := []) (as := [.inl (lxs X (i + 1))]) ok (k_X8_next (X_next hI (Q := fun r M1 => ∃ v1, XI v1 (o_next s (lxs X (i + 1))).2 M1 ∧ v1 ≤ ver + 1 ∧ r = (o_next s (lxs X (i + 1))).1) (fun M1 v1 h1 h2 => ⟨v1, h1, h2, rfl⟩))) s_X8_next rfl cl0 sel_X8_next ins_X8_next q3_44 ⟨Nat.le_of_ble_eq_true rfl, Nat.le_of_ble_eq_true rfl⟩ (Nat.zero_le _) rfl dL_law_668 ?_
  rintro r M1 ⟨v1, h1, h2, rfl⟩
  refine l_am ok dL_law_671 ?_
  refine l_arg 1 (by decide) (by decide) ok hx3 hi dL_law_672 dL_law_673 dL_law_674 dL_law_675 dL_law_676 ?_
  refine l_cm (st := [.inl _]) (as := [.inl (lxs X (i + 1))]) ok (k_X9_next (N_next hJ (Q := fun r2 M2 => MI (o_next s (lxs X (i + 1))).2 M2 ∧ r2 = (o_next s (lxs X (i + 1))).1) (fun M2 h3 => ⟨h3, rfl⟩))) s_X9_next rfl cl42 sel_X9_next ins_X9_next q5_16 ⟨Nat.le_of_ble_eq_true rfl, Nat.le_of_ble_eq_true rfl⟩ (Nat.le_of_ble_eq_true rfl) rfl dL_law_677 ?_
  rintro r2 M2 ⟨h3, rfl⟩
  exact l_eq ok dL_law_680 (by decide) (K v1 _ M1 M2 h1 h3 h2)
set_option maxHeartbeats 2000000 in
set_option maxRecDepth 100000 in
theorem law_c23 {X : lX} (ok : lOk X) {i : Nat} {x3 : Int32} (hx3 : x3 = nI i) (hi : i + 3 ≤ lL X) {ver : Nat} {s : sT} {Mx Mm : gM} (hI : XI ver s Mx) (hJ : MI s Mm) (hv : ver < 999999) (K : ∀ (v1 : Nat) (s1 : sT) (M1 M2 : gM), XI v1 s1 M1 → MI s1 M2 → v1 ≤ ver + 1 → lJ X 989 x3 [] M1 M2) : lJ X 685 x3 [] Mx Mm := by
  refine l_ax ok dL_law_685 ?_
  refine l_arg 1 (by decide) (by decide) ok hx3 hi dL_law_686 dL_law_687 dL_law_688 dL_law_689 dL_law_690 ?_
  refine l_cx (st := []) (as := [.inl (lxs X (i + 1))]) ok (k_X8_answersOfSize (X_answersOfSize hI (Q := fun r M1 => ∃ v1, XI v1 (o_answersOfSize s (lxs X (i + 1))).2 M1 ∧ v1 ≤ ver + 1 ∧ r = (o_answersOfSize s (lxs X (i + 1))).1) (fun M1 v1 h1 h2 => ⟨v1, h1, h2, rfl⟩))) s_X8_answersOfSize rfl cl0 sel_X8_answersOfSize ins_X8_answersOfSize q3_48 ⟨Nat.le_of_ble_eq_true rfl, Nat.le_of_ble_eq_true rfl⟩ (Nat.zero_le _) rfl dL_law_691 ?_
  rintro r M1 ⟨v1, h1, h2, rfl⟩
  refine l_am ok dL_law_694 ?_
  refine l_arg 1 (by decide) (by decide) ok hx3 hi dL_law_695 dL_law_696 dL_law_697 dL_law_698 dL_law_699 ?_
  refine l_cm (st := [.inl _]) (as := [.inl (lxs X (i + 1))]) ok (k_X9_answersOfSize (N_answersOfSize hJ (Q := fun r2 M2 => MI (o_answersOfSize s (lxs X (i + 1))).2 M2 ∧ r2 = (o_answersOfSize s (lxs X (i + 1))).1) (fun M2 h3 => ⟨h3, rfl⟩))) s_X9_answersOfSize rfl cl42 sel_X9_answersOfSize ins_X9_answersOfSize q5_20 ⟨Nat.le_of_ble_eq_true rfl, Nat.le_of_ble_eq_true rfl⟩ (Nat.le_of_ble_eq_true rfl) rfl dL_law_700 ?_
  rintro r2 M2 ⟨h3, rfl⟩
  exact l_eq ok dL_law_703 (by decide) (K v1 _ M1 M2 h1 h3 h2)
set_option maxHeartbeats 2000000 in
set_option maxRecDepth 100000 in
theorem law_c24 {X : lX} (ok : lOk X) {i : Nat} {x3 : Int32} (hx3 : x3 = nI i) (hi : i + 3 ≤ lL X) {ver : Nat} {s : sT} {Mx Mm : gM} (hI : XI ver s Mx) (hJ : MI s Mm) (hv : ver < 999999) (K : ∀ (v1 : Nat) (s1 : sT) (M1 M2 : gM), XI v1 s1 M1 → MI s1 M2 → v1 ≤ ver + 1 → lJ X 989 x3 [] M1 M2) : lJ X 708 x3 [] Mx Mm := by
  refine l_ax ok dL_law_708 ?_
  refine l_arg 1 (by decide) (by decide) ok hx3 hi dL_law_709 dL_law_710 dL_law_711 dL_law_712 dL_law_713 ?_
  refine l_cx (st := []) (as := [.inl (lxs X (i + 1))]) ok (k_X8_answersWith (X_answersWith hI (Q := fun r M1 => ∃ v1, XI v1 (o_answersWith s (lxs X (i + 1))).2 M1 ∧ v1 ≤ ver + 1 ∧ r = (o_answersWith s (lxs X (i + 1))).1) (fun M1 v1 h1 h2 => ⟨v1, h1, h2, rfl⟩))) s_X8_answersWith rfl cl0 sel_X8_answersWith ins_X8_answersWith q3_57 ⟨Nat.le_of_ble_eq_true rfl, Nat.le_of_ble_eq_true rfl⟩ (Nat.zero_le _) rfl dL_law_714 ?_
  rintro r M1 ⟨v1, h1, h2, rfl⟩
  refine l_am ok dL_law_717 ?_
  refine l_arg 1 (by decide) (by decide) ok hx3 hi dL_law_718 dL_law_719 dL_law_720 dL_law_721 dL_law_722 ?_
  refine l_cm (st := [.inl _]) (as := [.inl (lxs X (i + 1))]) ok (k_X9_answersWith (N_answersWith hJ (Q := fun r2 M2 => MI (o_answersWith s (lxs X (i + 1))).2 M2 ∧ r2 = (o_answersWith s (lxs X (i + 1))).1) (fun M2 h3 => ⟨h3, rfl⟩))) s_X9_answersWith rfl cl42 sel_X9_answersWith ins_X9_answersWith q5_24 ⟨Nat.le_of_ble_eq_true rfl, Nat.le_of_ble_eq_true rfl⟩ (Nat.le_of_ble_eq_true rfl) rfl dL_law_723 ?_
  rintro r2 M2 ⟨h3, rfl⟩
  exact l_eq ok dL_law_726 (by decide) (K v1 _ M1 M2 h1 h3 h2)
set_option maxHeartbeats 2000000 in
set_option maxRecDepth 100000 in
theorem law_c25 {X : lX} (ok : lOk X) {i : Nat} {x3 : Int32} (hx3 : x3 = nI i) (hi : i + 3 ≤ lL X) {ver : Nat} {s : sT} {Mx Mm : gM} (hI : XI ver s Mx) (hJ : MI s Mm) (hv : ver < 999999) (K : ∀ (v1 : Nat) (s1 : sT) (M1 M2 : gM), XI v1 s1 M1 → MI s1 M2 → v1 ≤ ver + 1 → lJ X 989 x3 [] M1 M2) : lJ X 731 x3 [] Mx Mm := by
  refine l_ax ok dL_law_731 ?_
  refine l_arg 1 (by decide) (by decide) ok hx3 hi dL_law_732 dL_law_733 dL_law_734 dL_law_735 dL_law_736 ?_
  refine l_cx (st := []) (as := [.inl (lxs X (i + 1))]) ok (k_X8_lightest (X_lightest hI (Q := fun r M1 => ∃ v1, XI v1 s M1 ∧ v1 ≤ ver + 1 ∧ lightO s (lxs X (i + 1)) r) (fun M1 v1 r h0 h1 h2 => ⟨v1, h1, h2, h0⟩))) s_X8_lightest rfl cl0 sel_X8_lightest ins_X8_lightest q3_65 ⟨Nat.le_of_ble_eq_true rfl, Nat.le_of_ble_eq_true rfl⟩ (Nat.zero_le _) rfl dL_law_737 ?_
  rintro r M1 ⟨v1, h1, h2, h0⟩
  refine l_am ok dL_law_740 ?_
  refine l_arg 1 (by decide) (by decide) ok hx3 hi dL_law_741 dL_law_742 dL_law_743 dL_law_744 dL_law_745 ?_
  refine l_cm (st := [.inl r]) (as := [.inl (lxs X (i + 1))]) ok (k_X9_lightest (N_lightest hJ (Q := fun r2 M2 => MI s M2 ∧ lightO s (lxs X (i + 1)) r2) (fun M2 r2 h4 h3 => ⟨h3, h4⟩))) s_X9_lightest rfl cl42 sel_X9_lightest ins_X9_lightest q5_28 ⟨Nat.le_of_ble_eq_true rfl, Nat.le_of_ble_eq_true rfl⟩ (Nat.le_of_ble_eq_true rfl) rfl dL_law_746 ?_
  rintro r2 M2 ⟨h3, h4⟩
  cases lightO_uniq hI h0 h4
  exact l_eq ok dL_law_749 (by decide) (K v1 _ M1 M2 h1 h3 h2)
set_option maxHeartbeats 2000000 in
set_option maxRecDepth 100000 in
theorem law_c26 {X : lX} (ok : lOk X) {i : Nat} {x3 : Int32} (hx3 : x3 = nI i) (hi : i + 3 ≤ lL X) {ver : Nat} {s : sT} {Mx Mm : gM} (hI : XI ver s Mx) (hJ : MI s Mm) (hv : ver < 999999) (K : ∀ (v1 : Nat) (s1 : sT) (M1 M2 : gM), XI v1 s1 M1 → MI s1 M2 → v1 ≤ ver + 1 → lJ X 989 x3 [] M1 M2) : lJ X 754 x3 [] Mx Mm := by
  refine l_ax ok dL_law_754 ?_
  refine l_arg 1 (by decide) (by decide) ok hx3 hi dL_law_755 dL_law_756 dL_law_757 dL_law_758 dL_law_759 ?_
  refine l_cx (st := []) (as := [.inl (lxs X (i + 1))]) ok (k_X8_weightOf (X_weightOf hI (Q := fun r M1 => ∃ v1, XI v1 (o_weightOf s (lxs X (i + 1))).2 M1 ∧ v1 ≤ ver + 1 ∧ r = (o_weightOf s (lxs X (i + 1))).1) (fun M1 v1 h1 h2 => ⟨v1, h1, h2, rfl⟩))) s_X8_weightOf rfl cl0 sel_X8_weightOf ins_X8_weightOf q3_83 ⟨Nat.le_of_ble_eq_true rfl, Nat.le_of_ble_eq_true rfl⟩ (Nat.zero_le _) rfl dL_law_760 ?_
  rintro r M1 ⟨v1, h1, h2, rfl⟩
  refine l_am ok dL_law_763 ?_
  refine l_arg 1 (by decide) (by decide) ok hx3 hi dL_law_764 dL_law_765 dL_law_766 dL_law_767 dL_law_768 ?_
  refine l_cm (st := [.inl _]) (as := [.inl (lxs X (i + 1))]) ok (k_X9_weightOf (N_weightOf hJ (Q := fun r2 M2 => MI (o_weightOf s (lxs X (i + 1))).2 M2 ∧ r2 = (o_weightOf s (lxs X (i + 1))).1) (fun M2 h3 => ⟨h3, rfl⟩))) s_X9_weightOf rfl cl42 sel_X9_weightOf ins_X9_weightOf q5_36 ⟨Nat.le_of_ble_eq_true rfl, Nat.le_of_ble_eq_true rfl⟩ (Nat.le_of_ble_eq_true rfl) rfl dL_law_769 ?_
  rintro r2 M2 ⟨h3, rfl⟩
  exact l_eq ok dL_law_772 (by decide) (K v1 _ M1 M2 h1 h3 h2)
set_option maxHeartbeats 2000000 in
set_option maxRecDepth 100000 in
theorem law_c27 {X : lX} (ok : lOk X) {i : Nat} {x3 : Int32} (hx3 : x3 = nI i) (hi : i + 3 ≤ lL X) {ver : Nat} {s : sT} {Mx Mm : gM} (hI : XI ver s Mx) (hJ : MI s Mm) (hv : ver < 999999) (K : ∀ (v1 : Nat) (s1 : sT) (M1 M2 : gM), XI v1 s1 M1 → MI s1 M2 → v1 ≤ ver + 1 → lJ X 989 x3 [] M1 M2) : lJ X 777 x3 [] Mx Mm := by
  refine l_ax ok dL_law_777 ?_
  refine l_arg 1 (by decide) (by decide) ok hx3 hi dL_law_778 dL_law_779 dL_law_780 dL_law_781 dL_law_782 ?_
  refine l_cx (st := []) (as := [.inl (lxs X (i + 1))]) ok (k_X8_hittingSets (X_hittingSets hI (Q := fun r M1 => ∃ v1, XI v1 (o_hittingSets s (lxs X (i + 1))).2 M1 ∧ v1 ≤ ver + 1 ∧ r = (o_hittingSets s (lxs X (i + 1))).1) (fun M1 v1 h1 h2 => ⟨v1, h1, h2, rfl⟩))) s_X8_hittingSets rfl cl0 sel_X8_hittingSets ins_X8_hittingSets q3_88 ⟨Nat.le_of_ble_eq_true rfl, Nat.le_of_ble_eq_true rfl⟩ (Nat.zero_le _) rfl dL_law_783 ?_
  rintro r M1 ⟨v1, h1, h2, rfl⟩
  refine l_am ok dL_law_786 ?_
  refine l_arg 1 (by decide) (by decide) ok hx3 hi dL_law_787 dL_law_788 dL_law_789 dL_law_790 dL_law_791 ?_
  refine l_cm (st := [.inl _]) (as := [.inl (lxs X (i + 1))]) ok (k_X9_hittingSets (N_hittingSets hJ (Q := fun r2 M2 => MI (o_hittingSets s (lxs X (i + 1))).2 M2 ∧ r2 = (o_hittingSets s (lxs X (i + 1))).1) (fun M2 h3 => ⟨h3, rfl⟩))) s_X9_hittingSets rfl cl42 sel_X9_hittingSets ins_X9_hittingSets q5_40 ⟨Nat.le_of_ble_eq_true rfl, Nat.le_of_ble_eq_true rfl⟩ (Nat.le_of_ble_eq_true rfl) rfl dL_law_792 ?_
  rintro r2 M2 ⟨h3, rfl⟩
  exact l_eq ok dL_law_795 (by decide) (K v1 _ M1 M2 h1 h3 h2)
set_option maxHeartbeats 2000000 in
set_option maxRecDepth 100000 in
theorem law_c29 {X : lX} (ok : lOk X) {i : Nat} {x3 : Int32} (hx3 : x3 = nI i) (hi : i + 3 ≤ lL X) {ver : Nat} {s : sT} {Mx Mm : gM} (hI : XI ver s Mx) (hJ : MI s Mm) (hv : ver < 999999) (K : ∀ (v1 : Nat) (s1 : sT) (M1 M2 : gM), XI v1 s1 M1 → MI s1 M2 → v1 ≤ ver + 1 → lJ X 989 x3 [] M1 M2) : lJ X 843 x3 [] Mx Mm := by
  refine l_ax ok dL_law_843 ?_
  refine l_arg 1 (by decide) (by decide) ok hx3 hi dL_law_844 dL_law_845 dL_law_846 dL_law_847 dL_law_848 ?_
  refine l_cx (st := []) (as := [.inl (lxs X (i + 1))]) ok (k_X8_diagramSize (X_diagramSize hI (Q := fun r M1 => ∃ v1, XI v1 (o_diagramSize s (lxs X (i + 1))).2 M1 ∧ v1 ≤ ver + 1 ∧ r = (o_diagramSize s (lxs X (i + 1))).1) (fun M1 v1 h1 h2 => ⟨v1, h1, h2, rfl⟩))) s_X8_diagramSize rfl cl0 sel_X8_diagramSize ins_X8_diagramSize q3_122 ⟨Nat.le_of_ble_eq_true rfl, Nat.le_of_ble_eq_true rfl⟩ (Nat.zero_le _) rfl dL_law_849 ?_
  rintro r M1 ⟨v1, h1, h2, rfl⟩
  refine l_am ok dL_law_852 ?_
  refine l_arg 1 (by decide) (by decide) ok hx3 hi dL_law_853 dL_law_854 dL_law_855 dL_law_856 dL_law_857 ?_
  refine l_cm (st := [.inl _]) (as := [.inl (lxs X (i + 1))]) ok (k_X9_diagramSize (N_diagramSize hJ (Q := fun r2 M2 => MI (o_diagramSize s (lxs X (i + 1))).2 M2 ∧ r2 = (o_diagramSize s (lxs X (i + 1))).1) (fun M2 h3 => ⟨h3, rfl⟩))) s_X9_diagramSize rfl cl42 sel_X9_diagramSize ins_X9_diagramSize q5_52 ⟨Nat.le_of_ble_eq_true rfl, Nat.le_of_ble_eq_true rfl⟩ (Nat.le_of_ble_eq_true rfl) rfl dL_law_858 ?_
  rintro r2 M2 ⟨h3, rfl⟩
  exact l_eq ok dL_law_861 (by decide) (K v1 _ M1 M2 h1 h3 h2)
set_option maxHeartbeats 2000000 in
set_option maxRecDepth 100000 in
theorem law_c30 {X : lX} (ok : lOk X) {i : Nat} {x3 : Int32} (hx3 : x3 = nI i) (hi : i + 3 ≤ lL X) {ver : Nat} {s : sT} {Mx Mm : gM} (hI : XI ver s Mx) (hJ : MI s Mm) (hv : ver < 999999) (K : ∀ (v1 : Nat) (s1 : sT) (M1 M2 : gM), XI v1 s1 M1 → MI s1 M2 → v1 ≤ ver + 1 → lJ X 989 x3 [] M1 M2) : lJ X 866 x3 [] Mx Mm := by
  refine l_ax ok dL_law_866 ?_
  refine l_arg 1 (by decide) (by decide) ok hx3 hi dL_law_867 dL_law_868 dL_law_869 dL_law_870 dL_law_871 ?_
  refine l_arg 2 (by decide) (by decide) ok hx3 hi dL_law_872 dL_law_873 dL_law_874 dL_law_875 dL_law_876 ?_
  refine l_cx (st := []) (as := [.inl (lxs X (i + 1)), .inl (lxs X (i + 2))]) ok (k_X8_nodesAt (X_nodesAt hI (Q := fun r M1 => ∃ v1, XI v1 (o_nodesAt s (lxs X (i + 1)) (lxs X (i + 2))).2 M1 ∧ v1 ≤ ver + 1 ∧ r = (o_nodesAt s (lxs X (i + 1)) (lxs X (i + 2))).1) (fun M1 v1 h1 h2 => ⟨v1, h1, h2, rfl⟩))) s_X8_nodesAt rfl cl0 sel_X8_nodesAt ins_X8_nodesAt q3_150 ⟨Nat.le_of_ble_eq_true rfl, Nat.le_of_ble_eq_true rfl⟩ (Nat.zero_le _) rfl dL_law_877 ?_
  rintro r M1 ⟨v1, h1, h2, rfl⟩
  refine l_am ok dL_law_880 ?_
  refine l_arg 1 (by decide) (by decide) ok hx3 hi dL_law_881 dL_law_882 dL_law_883 dL_law_884 dL_law_885 ?_
  refine l_arg 2 (by decide) (by decide) ok hx3 hi dL_law_886 dL_law_887 dL_law_888 dL_law_889 dL_law_890 ?_
  refine l_cm (st := [.inl _]) (as := [.inl (lxs X (i + 1)), .inl (lxs X (i + 2))]) ok (k_X9_nodesAt (N_nodesAt hJ (Q := fun r2 M2 => MI (o_nodesAt s (lxs X (i + 1)) (lxs X (i + 2))).2 M2 ∧ r2 = (o_nodesAt s (lxs X (i + 1)) (lxs X (i + 2))).1) (fun M2 h3 => ⟨h3, rfl⟩))) s_X9_nodesAt rfl cl42 sel_X9_nodesAt ins_X9_nodesAt q5_72 ⟨Nat.le_of_ble_eq_true rfl, Nat.le_of_ble_eq_true rfl⟩ (Nat.le_of_ble_eq_true rfl) rfl dL_law_891 ?_
  rintro r2 M2 ⟨h3, rfl⟩
  exact l_eq ok dL_law_894 (by decide) (K v1 _ M1 M2 h1 h3 h2)
set_option maxHeartbeats 2000000 in
set_option maxRecDepth 100000 in
theorem law_c31 {X : lX} (ok : lOk X) {i : Nat} {x3 : Int32} (hx3 : x3 = nI i) (hi : i + 3 ≤ lL X) {ver : Nat} {s : sT} {Mx Mm : gM} (hI : XI ver s Mx) (hJ : MI s Mm) (hv : ver < 999999) (K : ∀ (v1 : Nat) (s1 : sT) (M1 M2 : gM), XI v1 s1 M1 → MI s1 M2 → v1 ≤ ver + 1 → lJ X 989 x3 [] M1 M2) : lJ X 899 x3 [] Mx Mm := by
  refine l_ax ok dL_law_899 ?_
  refine l_cx (st := []) (as := []) ok (k_X8_isSelfDual (X_isSelfDual hI (Q := fun r M1 => ∃ v1, XI v1 s M1 ∧ v1 ≤ ver + 1 ∧ selfO s r) (fun M1 v1 r h0 h1 h2 => ⟨v1, h1, h2, h0⟩))) s_X8_isSelfDual rfl cl0 sel_X8_isSelfDual ins_X8_isSelfDual q3_158 ⟨Nat.le_of_ble_eq_true rfl, Nat.le_of_ble_eq_true rfl⟩ (Nat.zero_le _) rfl dL_law_900 ?_
  rintro r M1 ⟨v1, h1, h2, h0⟩
  refine l_am ok dL_law_903 ?_
  refine l_cm (st := [.inl r]) (as := []) ok (k_X9_isSelfDual (N_isSelfDual hJ (Q := fun r2 M2 => MI s M2 ∧ selfO s r2) (fun M2 r2 h4 h3 => ⟨h3, h4⟩))) s_X9_isSelfDual rfl cl42 sel_X9_isSelfDual ins_X9_isSelfDual q5_88 ⟨Nat.le_of_ble_eq_true rfl, Nat.le_of_ble_eq_true rfl⟩ (Nat.le_of_ble_eq_true rfl) rfl dL_law_904 ?_
  rintro r2 M2 ⟨h3, h4⟩
  cases selfO_uniq h0 h4
  exact l_eq ok dL_law_907 (by decide) (K v1 _ M1 M2 h1 h3 h2)
set_option maxHeartbeats 2000000 in
set_option maxRecDepth 100000 in
theorem law_c32 {X : lX} (ok : lOk X) {i : Nat} {x3 : Int32} (hx3 : x3 = nI i) (hi : i + 3 ≤ lL X) {ver : Nat} {s : sT} {Mx Mm : gM} (hI : XI ver s Mx) (hJ : MI s Mm) (hv : ver < 999999) (K : ∀ (v1 : Nat) (s1 : sT) (M1 M2 : gM), XI v1 s1 M1 → MI s1 M2 → v1 ≤ ver + 1 → lJ X 989 x3 [] M1 M2) : lJ X 912 x3 [] Mx Mm := by
  refine l_ax ok dL_law_912 ?_
  refine l_cx (st := []) (as := []) ok (k_X8_difference (X_difference hI (Q := fun r M1 => ∃ v1, XI v1 s M1 ∧ v1 ≤ ver + 1 ∧ diffO s r) (fun M1 v1 r h0 h1 h2 => ⟨v1, h1, h2, h0⟩))) s_X8_difference rfl cl0 sel_X8_difference ins_X8_difference q3_172 ⟨Nat.le_of_ble_eq_true rfl, Nat.le_of_ble_eq_true rfl⟩ (Nat.zero_le _) rfl dL_law_913 ?_
  rintro r M1 ⟨v1, h1, h2, h0⟩
  refine l_am ok dL_law_916 ?_
  refine l_cm (st := [.inl r]) (as := []) ok (k_X9_difference (N_difference hJ (Q := fun r2 M2 => MI s M2 ∧ diffO s r2) (fun M2 r2 h4 h3 => ⟨h3, h4⟩))) s_X9_difference rfl cl42 sel_X9_difference ins_X9_difference q5_76 ⟨Nat.le_of_ble_eq_true rfl, Nat.le_of_ble_eq_true rfl⟩ (Nat.le_of_ble_eq_true rfl) rfl dL_law_917 ?_
  rintro r2 M2 ⟨h3, h4⟩
  cases diffO_uniq h0 h4
  exact l_eq ok dL_law_920 (by decide) (K v1 _ M1 M2 h1 h3 h2)
set_option maxHeartbeats 2000000 in
set_option maxRecDepth 100000 in
theorem law_c33 {X : lX} (ok : lOk X) {i : Nat} {x3 : Int32} (hx3 : x3 = nI i) (hi : i + 3 ≤ lL X) {ver : Nat} {s : sT} {Mx Mm : gM} (hI : XI ver s Mx) (hJ : MI s Mm) (hv : ver < 999999) (K : ∀ (v1 : Nat) (s1 : sT) (M1 M2 : gM), XI v1 s1 M1 → MI s1 M2 → v1 ≤ ver + 1 → lJ X 989 x3 [] M1 M2) : lJ X 925 x3 [] Mx Mm := by
  refine l_ax ok dL_law_925 ?_
  refine l_cx (st := []) (as := []) ok (k_X8_isIntersecting (X_isIntersecting hI (Q := fun r M1 => ∃ v1, XI v1 (o_isIntersecting s).2 M1 ∧ v1 ≤ ver + 1 ∧ r = (o_isIntersecting s).1) (fun M1 v1 h1 h2 => ⟨v1, h1, h2, rfl⟩))) s_X8_isIntersecting rfl cl0 sel_X8_isIntersecting ins_X8_isIntersecting q3_176 ⟨Nat.le_of_ble_eq_true rfl, Nat.le_of_ble_eq_true rfl⟩ (Nat.zero_le _) rfl dL_law_926 ?_
  rintro r M1 ⟨v1, h1, h2, rfl⟩
  refine l_am ok dL_law_929 ?_
  refine l_cm (st := [.inl _]) (as := []) ok (k_X9_isIntersecting (N_isIntersecting hJ (Q := fun r2 M2 => MI (o_isIntersecting s).2 M2 ∧ r2 = (o_isIntersecting s).1) (fun M2 h3 => ⟨h3, rfl⟩))) s_X9_isIntersecting rfl cl42 sel_X9_isIntersecting ins_X9_isIntersecting q5_93 ⟨Nat.le_of_ble_eq_true rfl, Nat.le_of_ble_eq_true rfl⟩ (Nat.le_of_ble_eq_true rfl) rfl dL_law_930 ?_
  rintro r2 M2 ⟨h3, rfl⟩
  exact l_eq ok dL_law_933 (by decide) (K v1 _ M1 M2 h1 h3 h2)
set_option maxHeartbeats 2000000 in
set_option maxRecDepth 100000 in
theorem law_c34 {X : lX} (ok : lOk X) {i : Nat} {x3 : Int32} (hx3 : x3 = nI i) (hi : i + 3 ≤ lL X) {ver : Nat} {s : sT} {Mx Mm : gM} (hI : XI ver s Mx) (hJ : MI s Mm) (hv : ver < 999999) (K : ∀ (v1 : Nat) (s1 : sT) (M1 M2 : gM), XI v1 s1 M1 → MI s1 M2 → v1 ≤ ver + 1 → lJ X 989 x3 [] M1 M2) : lJ X 938 x3 [] Mx Mm := by
  refine l_ax ok dL_law_938 ?_
  refine l_arg 1 (by decide) (by decide) ok hx3 hi dL_law_939 dL_law_940 dL_law_941 dL_law_942 dL_law_943 ?_
  refine l_i2c ok dL_law_944 ?_
  refine l_cx (st := []) (as := [.inl (nI (chq (lxs X (i + 1))))]) ok (k_X8_type (X_type hI (chq_lt _) (Q := fun r M1 => ∃ v1, XI v1 (o_type s (chq (lxs X (i + 1)))).2 M1 ∧ v1 ≤ ver + 1 ∧ r = (o_type s (chq (lxs X (i + 1)))).1) (fun M1 v1 h1 h2 => ⟨v1, h1, h2, rfl⟩))) s_X8_type rfl cl0 sel_X8_type ins_X8_type q3_184 ⟨Nat.le_of_ble_eq_true rfl, Nat.le_of_ble_eq_true rfl⟩ (Nat.zero_le _) rfl dL_law_945 ?_
  rintro r M1 ⟨v1, h1, h2, rfl⟩
  refine l_am ok dL_law_948 ?_
  refine l_arg 1 (by decide) (by decide) ok hx3 hi dL_law_949 dL_law_950 dL_law_951 dL_law_952 dL_law_953 ?_
  refine l_i2c ok dL_law_954 ?_
  refine l_cm (st := [.inl _]) (as := [.inl (nI (chq (lxs X (i + 1))))]) ok (k_X9_type (N_type hJ (chq_lt _) (Q := fun r2 M2 => MI (o_type s (chq (lxs X (i + 1)))).2 M2 ∧ r2 = (o_type s (chq (lxs X (i + 1)))).1) (fun M2 h3 => ⟨h3, rfl⟩))) s_X9_type rfl cl42 sel_X9_type ins_X9_type q5_97 ⟨Nat.le_of_ble_eq_true rfl, Nat.le_of_ble_eq_true rfl⟩ (Nat.le_of_ble_eq_true rfl) rfl dL_law_955 ?_
  rintro r2 M2 ⟨h3, rfl⟩
  exact l_eq ok dL_law_958 (by decide) (K v1 _ M1 M2 h1 h3 h2)
set_option maxHeartbeats 2000000 in
set_option maxRecDepth 100000 in
theorem law_c35 {X : lX} (ok : lOk X) {i : Nat} {x3 : Int32} (hx3 : x3 = nI i) (hi : i + 3 ≤ lL X) {ver : Nat} {s : sT} {Mx Mm : gM} (hI : XI ver s Mx) (hJ : MI s Mm) (hv : ver < 999999) (K : ∀ (v1 : Nat) (s1 : sT) (M1 M2 : gM), XI v1 s1 M1 → MI s1 M2 → v1 ≤ ver + 1 → lJ X 989 x3 [] M1 M2) : lJ X 963 x3 [] Mx Mm := by
  refine l_ax ok dL_law_963 ?_
  refine l_cx (st := []) (as := []) ok (k_X8_clearText (X_clearText hI (Q := fun r M1 => ∃ v1, XI v1 (o_clearText s).2 M1 ∧ v1 ≤ ver + 1 ∧ r = (o_clearText s).1) (fun M1 v1 h1 h2 => ⟨v1, h1, h2, rfl⟩))) s_X8_clearText rfl cl0 sel_X8_clearText ins_X8_clearText q3_192 ⟨Nat.le_of_ble_eq_true rfl, Nat.le_of_ble_eq_true rfl⟩ (Nat.zero_le _) rfl dL_law_964 ?_
  rintro r M1 ⟨v1, h1, h2, rfl⟩
  refine l_am ok dL_law_967 ?_
  refine l_cm (st := [.inl _]) (as := []) ok (k_X9_clearText (N_clearText hJ (Q := fun r2 M2 => MI (o_clearText s).2 M2 ∧ r2 = (o_clearText s).1) (fun M2 h3 => ⟨h3, rfl⟩))) s_X9_clearText rfl cl42 sel_X9_clearText ins_X9_clearText q5_101 ⟨Nat.le_of_ble_eq_true rfl, Nat.le_of_ble_eq_true rfl⟩ (Nat.le_of_ble_eq_true rfl) rfl dL_law_968 ?_
  rintro r2 M2 ⟨h3, rfl⟩
  exact l_eq ok dL_law_971 (by decide) (K v1 _ M1 M2 h1 h3 h2)
set_option maxHeartbeats 2000000 in
set_option maxRecDepth 100000 in
theorem law_c36 {X : lX} (ok : lOk X) {i : Nat} {x3 : Int32} (hx3 : x3 = nI i) (hi : i + 3 ≤ lL X) {ver : Nat} {s : sT} {Mx Mm : gM} (hI : XI ver s Mx) (hJ : MI s Mm) (hv : ver < 999999) (K : ∀ (v1 : Nat) (s1 : sT) (M1 M2 : gM), XI v1 s1 M1 → MI s1 M2 → v1 ≤ ver + 1 → lJ X 989 x3 [] M1 M2) : lJ X 976 x3 [] Mx Mm := by
  refine l_ax ok dL_law_976 ?_
  refine l_cx (st := []) (as := []) ok (k_X8_readEdges (X_readEdges hI hv (Q := fun r M1 => ∃ v1, XI v1 (o_readEdges s).2 M1 ∧ v1 ≤ ver + 1 ∧ r = (o_readEdges s).1) (fun M1 v1 h1 h2 => ⟨v1, h1, h2, rfl⟩))) s_X8_readEdges rfl cl0 sel_X8_readEdges ins_X8_readEdges q3_196 ⟨Nat.le_of_ble_eq_true rfl, Nat.le_of_ble_eq_true rfl⟩ (Nat.zero_le _) rfl dL_law_977 ?_
  rintro r M1 ⟨v1, h1, h2, rfl⟩
  refine l_am ok dL_law_980 ?_
  refine l_cm (st := [.inl _]) (as := []) ok (k_X9_readEdges (N_readEdges hJ (Q := fun r2 M2 => MI (o_readEdges s).2 M2 ∧ r2 = (o_readEdges s).1) (fun M2 h3 => ⟨h3, rfl⟩))) s_X9_readEdges rfl cl42 sel_X9_readEdges ins_X9_readEdges q5_105 ⟨Nat.le_of_ble_eq_true rfl, Nat.le_of_ble_eq_true rfl⟩ (Nat.le_of_ble_eq_true rfl) rfl dL_law_981 ?_
  rintro r2 M2 ⟨h3, rfl⟩
  exact l_eq ok dL_law_984 (by decide) (K v1 _ M1 M2 h1 h3 h2)
