def gT : List Cond := (k2_sels lw_privs ++ tables_1).filter goodWord
theorem gin {w : Cond} {l : List Cond} {i : Nat} (hl : ∀ w ∈ l, w ∈ lw_tbl) (h : l[i]? = some w) (hg : goodWord w = true) : w ∈ gT := List.mem_filter.mpr ⟨hl w (List.mem_of_getElem? h), hg⟩
theorem gin_0 : ∀ w ∈ k2_sels lw_privs, w ∈ lw_tbl := fun w h => List.mem_append_left _ h
theorem gin_1 : ∀ w ∈ tables_1_1, w ∈ lw_tbl := fun w h => List.mem_append_right (k2_sels lw_privs) (show w ∈ tables_1 from (List.mem_append_left _ h))
theorem gin_2 : ∀ w ∈ tables_1_2, w ∈ lw_tbl := fun w h => List.mem_append_right (k2_sels lw_privs) (show w ∈ tables_1 from (List.mem_append_right _ (List.mem_append_left _ h)))
theorem gin_3 : ∀ w ∈ tables_1_3, w ∈ lw_tbl := fun w h => List.mem_append_right (k2_sels lw_privs) (show w ∈ tables_1 from (List.mem_append_right _ (List.mem_append_right _ (List.mem_append_left _ h))))
theorem gin_4 : ∀ w ∈ tables_1_4, w ∈ lw_tbl := fun w h => List.mem_append_right (k2_sels lw_privs) (show w ∈ tables_1 from (List.mem_append_right _ (List.mem_append_right _ (List.mem_append_right _ (List.mem_append_left _ h)))))
theorem gin_5 : ∀ w ∈ tables_1_5, w ∈ lw_tbl := fun w h => List.mem_append_right (k2_sels lw_privs) (show w ∈ tables_1 from (List.mem_append_right _ (List.mem_append_right _ (List.mem_append_right _ (List.mem_append_right _ h)))))
theorem q1_0 : Jvm.Cond.initialized "HypergraphDualizerLaw" ∈ gT := gin gin_1 (i := 0) rfl rfl
theorem q1_1 : Jvm.Cond.initialized "HypergraphDualizer" ∈ gT := gin gin_1 (i := 1) rfl rfl
theorem q1_2 : Jvm.Cond.initialized "HypergraphDualizer$Hypergraph" ∈ gT := gin gin_1 (i := 2) rfl rfl
theorem q1_3 : Jvm.Cond.initialized "HypergraphDualizer$History" ∈ gT := gin gin_1 (i := 3) rfl rfl
theorem q1_4 : Jvm.Cond.initialized "HypergraphDualizer$Weights" ∈ gT := gin gin_1 (i := 4) rfl rfl
theorem q1_5 : Jvm.Cond.initialized "HypergraphDualizer$Search" ∈ gT := gin gin_1 (i := 5) rfl rfl
theorem q1_6 : Jvm.Cond.initialized "HypergraphDualizer$Family" ∈ gT := gin gin_1 (i := 6) rfl rfl
theorem q1_7 : Jvm.Cond.initialized "HypergraphDualizer$HittingCounts" ∈ gT := gin gin_1 (i := 7) rfl rfl
theorem q1_8 : Jvm.Cond.initialized "HypergraphDualizer$Diagram" ∈ gT := gin gin_1 (i := 8) rfl rfl
theorem q1_9 : Jvm.Cond.initialized "HypergraphDualizer$EdgeText" ∈ gT := gin gin_1 (i := 9) rfl rfl
theorem q1_10 : Jvm.Cond.initialized "HypergraphDualizerModel" ∈ gT := gin gin_1 (i := 10) rfl rfl
theorem q1_11 : Jvm.Cond.initialized "java/lang/System" ∈ gT := gin gin_1 (i := 11) rfl rfl
theorem q1_12 : Jvm.Cond.initialized "java/lang/Math" ∈ gT := gin gin_1 (i := 12) rfl rfl
theorem q1_13 : Jvm.Cond.initialized "java/lang/Integer" ∈ gT := gin gin_1 (i := 13) rfl rfl
theorem q1_14 : Jvm.Cond.classLink "HypergraphDualizerLaw" (7 : Nat) "HypergraphDualizer" ∈ gT := gin gin_1 (i := 14) rfl rfl
theorem q1_15 : Jvm.Cond.instantiable "HypergraphDualizer" (6 : Nat) ∈ gT := gin gin_1 (i := 15) rfl rfl
theorem q1_16 : Jvm.Cond.methodLink "HypergraphDualizerLaw" (9 : Nat) ({ cls := "HypergraphDualizer", name := "<init>", desc := "()V" } : Jvm.MethodName) ∈ gT := gin gin_1 (i := 16) rfl rfl
theorem q1_17 : Jvm.Cond.instanceMethod ({ cls := "HypergraphDualizer", name := "<init>", desc := "()V" } : Jvm.MethodName) ∈ gT := gin gin_1 (i := 17) rfl rfl
theorem q1_18 : Jvm.Cond.code ({ cls := "HypergraphDualizer", name := "<init>", desc := "()V" } : Jvm.MethodName) prog_1_method_1_code (2 : Nat) (Option.none : Option Jvm.ClassFile.FieldType) ∈ gT := gin gin_1 (i := 18) rfl rfl
theorem q1_19 : Jvm.Cond.methodLink "HypergraphDualizer" (3 : Nat) ({ cls := "java/lang/Object", name := "<init>", desc := "()V" } : Jvm.MethodName) ∈ gT := gin gin_1 (i := 19) rfl rfl
theorem q1_20 : Jvm.Cond.instanceMethod ({ cls := "java/lang/Object", name := "<init>", desc := "()V" } : Jvm.MethodName) ∈ gT := gin gin_1 (i := 20) rfl rfl
theorem q1_21 : Jvm.Cond.code ({ cls := "java/lang/Object", name := "<init>", desc := "()V" } : Jvm.MethodName) object_method_1_code (1 : Nat) (Option.none : Option Jvm.ClassFile.FieldType) ∈ gT := gin gin_1 (i := 21) rfl rfl
theorem q1_22 : Jvm.Cond.classLink "HypergraphDualizer" (9 : Nat) "HypergraphDualizer$Hypergraph" ∈ gT := gin gin_1 (i := 22) rfl rfl
theorem q1_23 : Jvm.Cond.instantiable "HypergraphDualizer$Hypergraph" (6 : Nat) ∈ gT := gin gin_1 (i := 23) rfl rfl
theorem q1_24 : Jvm.Cond.methodLink "HypergraphDualizer" (11 : Nat) ({ cls := "HypergraphDualizer$Hypergraph", name := "<init>", desc := "()V" } : Jvm.MethodName) ∈ gT := gin gin_1 (i := 24) rfl rfl
theorem q1_25 : Jvm.Cond.instanceMethod ({ cls := "HypergraphDualizer$Hypergraph", name := "<init>", desc := "()V" } : Jvm.MethodName) ∈ gT := gin gin_1 (i := 25) rfl rfl
theorem q1_26 : Jvm.Cond.code ({ cls := "HypergraphDualizer$Hypergraph", name := "<init>", desc := "()V" } : Jvm.MethodName) prog_7_method_1_code (1 : Nat) (Option.none : Option Jvm.ClassFile.FieldType) ∈ gT := gin gin_1 (i := 26) rfl rfl
theorem q1_27 : Jvm.Cond.methodLink "HypergraphDualizer$Hypergraph" (3 : Nat) ({ cls := "java/lang/Object", name := "<init>", desc := "()V" } : Jvm.MethodName) ∈ gT := gin gin_1 (i := 27) rfl rfl
theorem q1_28 : Jvm.Cond.classLink "HypergraphDualizer$Hypergraph" (22 : Nat) "HypergraphDualizer$History" ∈ gT := gin gin_1 (i := 28) rfl rfl
theorem q1_29 : Jvm.Cond.instantiable "HypergraphDualizer$History" (5 : Nat) ∈ gT := gin gin_1 (i := 29) rfl rfl
theorem q1_30 : Jvm.Cond.methodLink "HypergraphDualizer$Hypergraph" (24 : Nat) ({ cls := "HypergraphDualizer$History", name := "<init>", desc := "()V" } : Jvm.MethodName) ∈ gT := gin gin_1 (i := 30) rfl rfl
theorem q1_31 : Jvm.Cond.instanceMethod ({ cls := "HypergraphDualizer$History", name := "<init>", desc := "()V" } : Jvm.MethodName) ∈ gT := gin gin_1 (i := 31) rfl rfl
theorem q1_32 : Jvm.Cond.code ({ cls := "HypergraphDualizer$History", name := "<init>", desc := "()V" } : Jvm.MethodName) prog_5_method_1_code (1 : Nat) (Option.none : Option Jvm.ClassFile.FieldType) ∈ gT := gin gin_1 (i := 32) rfl rfl
theorem q1_33 : Jvm.Cond.methodLink "HypergraphDualizer$History" (3 : Nat) ({ cls := "java/lang/Object", name := "<init>", desc := "()V" } : Jvm.MethodName) ∈ gT := gin gin_1 (i := 33) rfl rfl
theorem q1_34 : Jvm.Cond.classLink "HypergraphDualizer$History" (11 : Nat) "[[I" ∈ gT := gin gin_1 (i := 34) rfl rfl
theorem q1_36 : Jvm.Cond.fieldLink "HypergraphDualizer$History" (20 : Nat) "HypergraphDualizer$History" "undoable" "I" ∈ gT := gin gin_1 (i := 36) rfl rfl
theorem q1_37 : Jvm.Cond.fieldLink "HypergraphDualizer" (138 : Nat) "HypergraphDualizer$History" "undoable" "I" ∈ gT := gin gin_1 (i := 37) rfl rfl
theorem q1_38 : Jvm.Cond.fieldLink "HypergraphDualizer$History" (24 : Nat) "HypergraphDualizer$History" "redoable" "I" ∈ gT := gin gin_1 (i := 38) rfl rfl
theorem q1_39 : Jvm.Cond.fieldLink "HypergraphDualizer" (146 : Nat) "HypergraphDualizer$History" "redoable" "I" ∈ gT := gin gin_1 (i := 39) rfl rfl
theorem q1_40 : Jvm.Cond.fieldLink "HypergraphDualizer$History" (13 : Nat) "HypergraphDualizer$History" "rows" "[[I" ∈ gT := gin gin_1 (i := 40) rfl rfl
theorem q1_41 : Jvm.Cond.fieldLink "HypergraphDualizer$History" (16 : Nat) "HypergraphDualizer$History" "counts" "[I" ∈ gT := gin gin_1 (i := 41) rfl rfl
theorem q1_42 : Jvm.Cond.fieldLink "HypergraphDualizer$History" (27 : Nat) "HypergraphDualizer$History" "now" "I" ∈ gT := gin gin_1 (i := 42) rfl rfl
theorem q1_43 : Jvm.Cond.lays "HypergraphDualizer$History" "HypergraphDualizer$History" "undoable" "I" ∈ gT := gin gin_1 (i := 43) rfl rfl
theorem q1_45 : Jvm.Cond.lays "HypergraphDualizer$History" "HypergraphDualizer$History" "redoable" "I" ∈ gT := gin gin_1 (i := 45) rfl rfl
theorem q1_47 : Jvm.Cond.laysFinal "HypergraphDualizer$History" "HypergraphDualizer$History" "rows" "[[I" ∈ gT := gin gin_1 (i := 47) rfl rfl
theorem q1_49 : Jvm.Cond.laysFinal "HypergraphDualizer$History" "HypergraphDualizer$History" "counts" "[I" ∈ gT := gin gin_1 (i := 49) rfl rfl
theorem q1_51 : Jvm.Cond.lays "HypergraphDualizer$History" "HypergraphDualizer$History" "now" "I" ∈ gT := gin gin_1 (i := 51) rfl rfl
theorem q1_54 : Jvm.Cond.arrayClass Jvm.ClassFile.FieldType.int ∈ gT := gin gin_1 (i := 54) rfl rfl
theorem q1_55 : Jvm.Cond.fieldLink "HypergraphDualizer$Hypergraph" (9 : Nat) "HypergraphDualizer$Hypergraph" "vertices" "I" ∈ gT := gin gin_1 (i := 55) rfl rfl
theorem q1_56 : Jvm.Cond.fieldLink "HypergraphDualizer" (63 : Nat) "HypergraphDualizer$Hypergraph" "vertices" "I" ∈ gT := gin gin_1 (i := 56) rfl rfl
theorem q1_57 : Jvm.Cond.fieldLink "HypergraphDualizer$Search" (42 : Nat) "HypergraphDualizer$Hypergraph" "vertices" "I" ∈ gT := gin gin_1 (i := 57) rfl rfl
theorem q1_58 : Jvm.Cond.fieldLink "HypergraphDualizer$Family" (47 : Nat) "HypergraphDualizer$Hypergraph" "vertices" "I" ∈ gT := gin gin_1 (i := 58) rfl rfl
theorem q1_59 : Jvm.Cond.fieldLink "HypergraphDualizer$EdgeText" (39 : Nat) "HypergraphDualizer$Hypergraph" "vertices" "I" ∈ gT := gin gin_1 (i := 59) rfl rfl
theorem q1_60 : Jvm.Cond.fieldLink "HypergraphDualizer$HittingCounts" (42 : Nat) "HypergraphDualizer$Hypergraph" "vertices" "I" ∈ gT := gin gin_1 (i := 60) rfl rfl
theorem q1_61 : Jvm.Cond.fieldLink "HypergraphDualizer$Diagram" (57 : Nat) "HypergraphDualizer$Hypergraph" "vertices" "I" ∈ gT := gin gin_1 (i := 61) rfl rfl
theorem q1_62 : Jvm.Cond.fieldLink "HypergraphDualizer$Hypergraph" (29 : Nat) "HypergraphDualizer$Hypergraph" "count" "I" ∈ gT := gin gin_1 (i := 62) rfl rfl
theorem q1_63 : Jvm.Cond.fieldLink "HypergraphDualizer$Family" (28 : Nat) "HypergraphDualizer$Hypergraph" "count" "I" ∈ gT := gin gin_1 (i := 63) rfl rfl
theorem q1_64 : Jvm.Cond.fieldLink "HypergraphDualizer" (87 : Nat) "HypergraphDualizer$Hypergraph" "count" "I" ∈ gT := gin gin_1 (i := 64) rfl rfl
theorem q1_65 : Jvm.Cond.fieldLink "HypergraphDualizer$Search" (80 : Nat) "HypergraphDualizer$Hypergraph" "count" "I" ∈ gT := gin gin_1 (i := 65) rfl rfl
theorem q1_66 : Jvm.Cond.fieldLink "HypergraphDualizer$Hypergraph" (15 : Nat) "HypergraphDualizer$Hypergraph" "edges" "[I" ∈ gT := gin gin_1 (i := 66) rfl rfl
theorem q1_67 : Jvm.Cond.fieldLink "HypergraphDualizer$Family" (23 : Nat) "HypergraphDualizer$Hypergraph" "edges" "[I" ∈ gT := gin gin_1 (i := 67) rfl rfl
theorem q1_68 : Jvm.Cond.fieldLink "HypergraphDualizer" (93 : Nat) "HypergraphDualizer$Hypergraph" "edges" "[I" ∈ gT := gin gin_1 (i := 68) rfl rfl
theorem q1_69 : Jvm.Cond.fieldLink "HypergraphDualizer$Search" (83 : Nat) "HypergraphDualizer$Hypergraph" "edges" "[I" ∈ gT := gin gin_1 (i := 69) rfl rfl
theorem q1_70 : Jvm.Cond.fieldLink "HypergraphDualizer$Hypergraph" (19 : Nat) "HypergraphDualizer$Hypergraph" "edgesAt" "[I" ∈ gT := gin gin_1 (i := 70) rfl rfl
theorem q1_71 : Jvm.Cond.fieldLink "HypergraphDualizer$Search" (65 : Nat) "HypergraphDualizer$Hypergraph" "edgesAt" "[I" ∈ gT := gin gin_1 (i := 71) rfl rfl
theorem q1_72 : Jvm.Cond.fieldLink "HypergraphDualizer$Family" (50 : Nat) "HypergraphDualizer$Hypergraph" "edgesAt" "[I" ∈ gT := gin gin_1 (i := 72) rfl rfl
theorem q1_73 : Jvm.Cond.fieldLink "HypergraphDualizer" (110 : Nat) "HypergraphDualizer$Hypergraph" "edgesAt" "[I" ∈ gT := gin gin_1 (i := 73) rfl rfl
theorem q1_74 : Jvm.Cond.fieldLink "HypergraphDualizer$Hypergraph" (25 : Nat) "HypergraphDualizer$Hypergraph" "history" "LHypergraphDualizer$History;" ∈ gT := gin gin_1 (i := 74) rfl rfl
theorem q1_75 : Jvm.Cond.fieldLink "HypergraphDualizer" (134 : Nat) "HypergraphDualizer$Hypergraph" "history" "LHypergraphDualizer$History;" ∈ gT := gin gin_1 (i := 75) rfl rfl
theorem q1_76 : Jvm.Cond.fieldLink "HypergraphDualizer$Search" (26 : Nat) "HypergraphDualizer$Hypergraph" "version" "I" ∈ gT := gin gin_1 (i := 76) rfl rfl
theorem q1_77 : Jvm.Cond.fieldLink "HypergraphDualizer$HittingCounts" (33 : Nat) "HypergraphDualizer$Hypergraph" "version" "I" ∈ gT := gin gin_1 (i := 77) rfl rfl
theorem q1_78 : Jvm.Cond.fieldLink "HypergraphDualizer$Diagram" (46 : Nat) "HypergraphDualizer$Hypergraph" "version" "I" ∈ gT := gin gin_1 (i := 78) rfl rfl
theorem q1_79 : Jvm.Cond.fieldLink "HypergraphDualizer$Hypergraph" (71 : Nat) "HypergraphDualizer$Hypergraph" "version" "I" ∈ gT := gin gin_1 (i := 79) rfl rfl
theorem q1_80 : Jvm.Cond.lays "HypergraphDualizer$Hypergraph" "HypergraphDualizer$Hypergraph" "vertices" "I" ∈ gT := gin gin_1 (i := 80) rfl rfl
theorem q1_82 : Jvm.Cond.lays "HypergraphDualizer$Hypergraph" "HypergraphDualizer$Hypergraph" "count" "I" ∈ gT := gin gin_1 (i := 82) rfl rfl
theorem q1_84 : Jvm.Cond.laysFinal "HypergraphDualizer$Hypergraph" "HypergraphDualizer$Hypergraph" "edges" "[I" ∈ gT := gin gin_1 (i := 84) rfl rfl
theorem q1_86 : Jvm.Cond.laysFinal "HypergraphDualizer$Hypergraph" "HypergraphDualizer$Hypergraph" "edgesAt" "[I" ∈ gT := gin gin_1 (i := 86) rfl rfl
theorem q1_88 : Jvm.Cond.laysFinal "HypergraphDualizer$Hypergraph" "HypergraphDualizer$Hypergraph" "history" "LHypergraphDualizer$History;" ∈ gT := gin gin_1 (i := 88) rfl rfl
theorem q1_90 : Jvm.Cond.lays "HypergraphDualizer$Hypergraph" "HypergraphDualizer$Hypergraph" "version" "I" ∈ gT := gin gin_1 (i := 90) rfl rfl
theorem q1_93 : Jvm.Cond.classLink "HypergraphDualizer" (16 : Nat) "HypergraphDualizer$Weights" ∈ gT := gin gin_1 (i := 93) rfl rfl
theorem q1_94 : Jvm.Cond.instantiable "HypergraphDualizer$Weights" (2 : Nat) ∈ gT := gin gin_1 (i := 94) rfl rfl
theorem q1_95 : Jvm.Cond.methodLink "HypergraphDualizer" (18 : Nat) ({ cls := "HypergraphDualizer$Weights", name := "<init>", desc := "()V" } : Jvm.MethodName) ∈ gT := gin gin_1 (i := 95) rfl rfl
theorem q1_96 : Jvm.Cond.instanceMethod ({ cls := "HypergraphDualizer$Weights", name := "<init>", desc := "()V" } : Jvm.MethodName) ∈ gT := gin gin_1 (i := 96) rfl rfl
theorem q1_97 : Jvm.Cond.code ({ cls := "HypergraphDualizer$Weights", name := "<init>", desc := "()V" } : Jvm.MethodName) prog_9_method_1_code (1 : Nat) (Option.none : Option Jvm.ClassFile.FieldType) ∈ gT := gin gin_1 (i := 97) rfl rfl
theorem q1_98 : Jvm.Cond.methodLink "HypergraphDualizer$Weights" (3 : Nat) ({ cls := "java/lang/Object", name := "<init>", desc := "()V" } : Jvm.MethodName) ∈ gT := gin gin_1 (i := 98) rfl rfl
theorem q1_99 : Jvm.Cond.fieldLink "HypergraphDualizer$Weights" (9 : Nat) "HypergraphDualizer$Weights" "ofVertex" "[I" ∈ gT := gin gin_1 (i := 99) rfl rfl
theorem q1_100 : Jvm.Cond.fieldLink "HypergraphDualizer" (155 : Nat) "HypergraphDualizer$Weights" "ofVertex" "[I" ∈ gT := gin gin_1 (i := 100) rfl rfl
theorem q1_101 : Jvm.Cond.fieldLink "HypergraphDualizer$Weights" (15 : Nat) "HypergraphDualizer$Weights" "keys" "[I" ∈ gT := gin gin_1 (i := 101) rfl rfl
theorem q1_102 : Jvm.Cond.laysFinal "HypergraphDualizer$Weights" "HypergraphDualizer$Weights" "ofVertex" "[I" ∈ gT := gin gin_1 (i := 102) rfl rfl
theorem q1_104 : Jvm.Cond.laysFinal "HypergraphDualizer$Weights" "HypergraphDualizer$Weights" "keys" "[I" ∈ gT := gin gin_1 (i := 104) rfl rfl
theorem q1_107 : Jvm.Cond.methodLink "HypergraphDualizer" (23 : Nat) ({ cls := "HypergraphDualizer$Weights", name := "startAnew", desc := "()V" } : Jvm.MethodName) ∈ gT := gin gin_1 (i := 107) rfl rfl
theorem q1_108 : Jvm.Cond.instanceMethod ({ cls := "HypergraphDualizer$Weights", name := "startAnew", desc := "()V" } : Jvm.MethodName) ∈ gT := gin gin_1 (i := 108) rfl rfl
theorem q1_109 : Jvm.Cond.selects "HypergraphDualizer$Weights" ({ cls := "HypergraphDualizer$Weights", name := "startAnew", desc := "()V" } : Jvm.MethodName) ({ cls := "HypergraphDualizer$Weights", name := "startAnew", desc := "()V" } : Jvm.MethodName) ∈ gT := gin gin_1 (i := 109) rfl rfl
theorem q1_110 : Jvm.Cond.code ({ cls := "HypergraphDualizer$Weights", name := "startAnew", desc := "()V" } : Jvm.MethodName) prog_9_method_2_code (2 : Nat) (Option.none : Option Jvm.ClassFile.FieldType) ∈ gT := gin gin_1 (i := 110) rfl rfl
theorem q1_111 : Jvm.Cond.classLink "HypergraphDualizer" (26 : Nat) "HypergraphDualizer$Search" ∈ gT := gin gin_1 (i := 111) rfl rfl
theorem q1_112 : Jvm.Cond.instantiable "HypergraphDualizer$Search" (8 : Nat) ∈ gT := gin gin_1 (i := 112) rfl rfl
theorem q1_113 : Jvm.Cond.methodLink "HypergraphDualizer" (28 : Nat) ({ cls := "HypergraphDualizer$Search", name := "<init>", desc := "(LHypergraphDualizer$Hypergraph;)V" } : Jvm.MethodName) ∈ gT := gin gin_1 (i := 113) rfl rfl
theorem q1_114 : Jvm.Cond.instanceMethod ({ cls := "HypergraphDualizer$Search", name := "<init>", desc := "(LHypergraphDualizer$Hypergraph;)V" } : Jvm.MethodName) ∈ gT := gin gin_1 (i := 114) rfl rfl
theorem q1_115 : Jvm.Cond.code ({ cls := "HypergraphDualizer$Search", name := "<init>", desc := "(LHypergraphDualizer$Hypergraph;)V" } : Jvm.MethodName) prog_8_method_1_code (2 : Nat) (Option.none : Option Jvm.ClassFile.FieldType) ∈ gT := gin gin_1 (i := 115) rfl rfl
theorem q1_116 : Jvm.Cond.methodLink "HypergraphDualizer$Search" (3 : Nat) ({ cls := "java/lang/Object", name := "<init>", desc := "()V" } : Jvm.MethodName) ∈ gT := gin gin_1 (i := 116) rfl rfl
theorem q1_117 : Jvm.Cond.fieldLink "HypergraphDualizer$Search" (15 : Nat) "HypergraphDualizer$Search" "answers" "[I" ∈ gT := gin gin_1 (i := 117) rfl rfl
theorem q1_118 : Jvm.Cond.fieldLink "HypergraphDualizer$Family" (36 : Nat) "HypergraphDualizer$Search" "answers" "[I" ∈ gT := gin gin_1 (i := 118) rfl rfl
theorem q1_119 : Jvm.Cond.fieldLink "HypergraphDualizer$Weights" (28 : Nat) "HypergraphDualizer$Search" "answers" "[I" ∈ gT := gin gin_1 (i := 119) rfl rfl
theorem q1_120 : Jvm.Cond.fieldLink "HypergraphDualizer" (177 : Nat) "HypergraphDualizer$Search" "answers" "[I" ∈ gT := gin gin_1 (i := 120) rfl rfl
theorem q1_121 : Jvm.Cond.fieldLink "HypergraphDualizer$Search" (19 : Nat) "HypergraphDualizer$Search" "delays" "[I" ∈ gT := gin gin_1 (i := 121) rfl rfl
theorem q1_122 : Jvm.Cond.fieldLink "HypergraphDualizer" (180 : Nat) "HypergraphDualizer$Search" "delays" "[I" ∈ gT := gin gin_1 (i := 122) rfl rfl
theorem q1_123 : Jvm.Cond.fieldLink "HypergraphDualizer$Search" (29 : Nat) "HypergraphDualizer$Search" "found" "I" ∈ gT := gin gin_1 (i := 123) rfl rfl
theorem q1_124 : Jvm.Cond.fieldLink "HypergraphDualizer$Family" (41 : Nat) "HypergraphDualizer$Search" "found" "I" ∈ gT := gin gin_1 (i := 124) rfl rfl
theorem q1_125 : Jvm.Cond.fieldLink "HypergraphDualizer$Weights" (22 : Nat) "HypergraphDualizer$Search" "found" "I" ∈ gT := gin gin_1 (i := 125) rfl rfl
theorem q1_126 : Jvm.Cond.fieldLink "HypergraphDualizer" (125 : Nat) "HypergraphDualizer$Search" "found" "I" ∈ gT := gin gin_1 (i := 126) rfl rfl
theorem q1_127 : Jvm.Cond.fieldLink "HypergraphDualizer$Search" (32 : Nat) "HypergraphDualizer$Search" "visited" "I" ∈ gT := gin gin_1 (i := 127) rfl rfl
theorem q1_128 : Jvm.Cond.fieldLink "HypergraphDualizer" (183 : Nat) "HypergraphDualizer$Search" "visited" "I" ∈ gT := gin gin_1 (i := 128) rfl rfl
theorem q1_129 : Jvm.Cond.fieldLink "HypergraphDualizer$Search" (9 : Nat) "HypergraphDualizer$Search" "graph" "LHypergraphDualizer$Hypergraph;" ∈ gT := gin gin_1 (i := 129) rfl rfl
theorem q1_130 : Jvm.Cond.fieldLink "HypergraphDualizer$Search" (35 : Nat) "HypergraphDualizer$Search" "visitedBefore" "I" ∈ gT := gin gin_1 (i := 130) rfl rfl
theorem q1_131 : Jvm.Cond.fieldLink "HypergraphDualizer$Search" (38 : Nat) "HypergraphDualizer$Search" "givenUp" "Z" ∈ gT := gin gin_1 (i := 131) rfl rfl
theorem q1_132 : Jvm.Cond.fieldLink "HypergraphDualizer$Search" (22 : Nat) "HypergraphDualizer$Search" "version" "I" ∈ gT := gin gin_1 (i := 132) rfl rfl
theorem q1_133 : Jvm.Cond.laysFinal "HypergraphDualizer$Search" "HypergraphDualizer$Search" "answers" "[I" ∈ gT := gin gin_1 (i := 133) rfl rfl
theorem q1_135 : Jvm.Cond.laysFinal "HypergraphDualizer$Search" "HypergraphDualizer$Search" "delays" "[I" ∈ gT := gin gin_1 (i := 135) rfl rfl
theorem q1_137 : Jvm.Cond.lays "HypergraphDualizer$Search" "HypergraphDualizer$Search" "found" "I" ∈ gT := gin gin_1 (i := 137) rfl rfl
theorem q1_139 : Jvm.Cond.lays "HypergraphDualizer$Search" "HypergraphDualizer$Search" "visited" "I" ∈ gT := gin gin_1 (i := 139) rfl rfl
theorem q1_141 : Jvm.Cond.laysFinal "HypergraphDualizer$Search" "HypergraphDualizer$Search" "graph" "LHypergraphDualizer$Hypergraph;" ∈ gT := gin gin_1 (i := 141) rfl rfl
theorem q1_143 : Jvm.Cond.lays "HypergraphDualizer$Search" "HypergraphDualizer$Search" "visitedBefore" "I" ∈ gT := gin gin_1 (i := 143) rfl rfl
theorem q1_145 : Jvm.Cond.lays "HypergraphDualizer$Search" "HypergraphDualizer$Search" "givenUp" "Z" ∈ gT := gin gin_1 (i := 145) rfl rfl
theorem q1_147 : Jvm.Cond.lays "HypergraphDualizer$Search" "HypergraphDualizer$Search" "version" "I" ∈ gT := gin gin_1 (i := 147) rfl rfl
theorem q1_150 : Jvm.Cond.classLink "HypergraphDualizer" (35 : Nat) "HypergraphDualizer$Family" ∈ gT := gin gin_1 (i := 150) rfl rfl
theorem q1_151 : Jvm.Cond.instantiable "HypergraphDualizer$Family" (3 : Nat) ∈ gT := gin gin_1 (i := 151) rfl rfl
theorem q1_152 : Jvm.Cond.methodLink "HypergraphDualizer" (37 : Nat) ({ cls := "HypergraphDualizer$Family", name := "<init>", desc := "(LHypergraphDualizer$Hypergraph;LHypergraphDualizer$Search;)V" } : Jvm.MethodName) ∈ gT := gin gin_1 (i := 152) rfl rfl
theorem q1_153 : Jvm.Cond.instanceMethod ({ cls := "HypergraphDualizer$Family", name := "<init>", desc := "(LHypergraphDualizer$Hypergraph;LHypergraphDualizer$Search;)V" } : Jvm.MethodName) ∈ gT := gin gin_1 (i := 153) rfl rfl
theorem q1_154 : Jvm.Cond.code ({ cls := "HypergraphDualizer$Family", name := "<init>", desc := "(LHypergraphDualizer$Hypergraph;LHypergraphDualizer$Search;)V" } : Jvm.MethodName) prog_4_method_1_code (3 : Nat) (Option.none : Option Jvm.ClassFile.FieldType) ∈ gT := gin gin_1 (i := 154) rfl rfl
theorem q1_155 : Jvm.Cond.methodLink "HypergraphDualizer$Family" (3 : Nat) ({ cls := "java/lang/Object", name := "<init>", desc := "()V" } : Jvm.MethodName) ∈ gT := gin gin_1 (i := 155) rfl rfl
theorem q1_156 : Jvm.Cond.fieldLink "HypergraphDualizer$Family" (9 : Nat) "HypergraphDualizer$Family" "cells" "[I" ∈ gT := gin gin_1 (i := 156) rfl rfl
theorem q1_157 : Jvm.Cond.fieldLink "HypergraphDualizer$HittingCounts" (45 : Nat) "HypergraphDualizer$Family" "cells" "[I" ∈ gT := gin gin_1 (i := 157) rfl rfl
theorem q1_158 : Jvm.Cond.fieldLink "HypergraphDualizer$Diagram" (63 : Nat) "HypergraphDualizer$Family" "cells" "[I" ∈ gT := gin gin_1 (i := 158) rfl rfl
theorem q1_159 : Jvm.Cond.fieldLink "HypergraphDualizer$Family" (15 : Nat) "HypergraphDualizer$Family" "graph" "LHypergraphDualizer$Hypergraph;" ∈ gT := gin gin_1 (i := 159) rfl rfl
theorem q1_160 : Jvm.Cond.fieldLink "HypergraphDualizer$Family" (19 : Nat) "HypergraphDualizer$Family" "search" "LHypergraphDualizer$Search;" ∈ gT := gin gin_1 (i := 160) rfl rfl
theorem q1_161 : Jvm.Cond.laysFinal "HypergraphDualizer$Family" "HypergraphDualizer$Family" "cells" "[I" ∈ gT := gin gin_1 (i := 161) rfl rfl
theorem q1_163 : Jvm.Cond.laysFinal "HypergraphDualizer$Family" "HypergraphDualizer$Family" "graph" "LHypergraphDualizer$Hypergraph;" ∈ gT := gin gin_1 (i := 163) rfl rfl
theorem q1_165 : Jvm.Cond.laysFinal "HypergraphDualizer$Family" "HypergraphDualizer$Family" "search" "LHypergraphDualizer$Search;" ∈ gT := gin gin_1 (i := 165) rfl rfl
theorem q1_168 : Jvm.Cond.classLink "HypergraphDualizer" (40 : Nat) "HypergraphDualizer$HittingCounts" ∈ gT := gin gin_1 (i := 168) rfl rfl
theorem q1_169 : Jvm.Cond.instantiable "HypergraphDualizer$HittingCounts" (5 : Nat) ∈ gT := gin gin_1 (i := 169) rfl rfl
theorem q1_170 : Jvm.Cond.methodLink "HypergraphDualizer" (42 : Nat) ({ cls := "HypergraphDualizer$HittingCounts", name := "<init>", desc := "(LHypergraphDualizer$Hypergraph;LHypergraphDualizer$Family;)V" } : Jvm.MethodName) ∈ gT := gin gin_1 (i := 170) rfl rfl
theorem q1_171 : Jvm.Cond.instanceMethod ({ cls := "HypergraphDualizer$HittingCounts", name := "<init>", desc := "(LHypergraphDualizer$Hypergraph;LHypergraphDualizer$Family;)V" } : Jvm.MethodName) ∈ gT := gin gin_1 (i := 171) rfl rfl
theorem q1_172 : Jvm.Cond.code ({ cls := "HypergraphDualizer$HittingCounts", name := "<init>", desc := "(LHypergraphDualizer$Hypergraph;LHypergraphDualizer$Family;)V" } : Jvm.MethodName) prog_6_method_1_code (3 : Nat) (Option.none : Option Jvm.ClassFile.FieldType) ∈ gT := gin gin_1 (i := 172) rfl rfl
theorem q1_173 : Jvm.Cond.methodLink "HypergraphDualizer$HittingCounts" (3 : Nat) ({ cls := "java/lang/Object", name := "<init>", desc := "()V" } : Jvm.MethodName) ∈ gT := gin gin_1 (i := 173) rfl rfl
theorem q1_174 : Jvm.Cond.fieldLink "HypergraphDualizer$HittingCounts" (9 : Nat) "HypergraphDualizer$HittingCounts" "graph" "LHypergraphDualizer$Hypergraph;" ∈ gT := gin gin_1 (i := 174) rfl rfl
theorem q1_175 : Jvm.Cond.fieldLink "HypergraphDualizer$HittingCounts" (15 : Nat) "HypergraphDualizer$HittingCounts" "family" "LHypergraphDualizer$Family;" ∈ gT := gin gin_1 (i := 175) rfl rfl
theorem q1_176 : Jvm.Cond.fieldLink "HypergraphDualizer$HittingCounts" (19 : Nat) "HypergraphDualizer$HittingCounts" "counts" "[I" ∈ gT := gin gin_1 (i := 176) rfl rfl
theorem q1_177 : Jvm.Cond.fieldLink "HypergraphDualizer$HittingCounts" (30 : Nat) "HypergraphDualizer$HittingCounts" "total" "I" ∈ gT := gin gin_1 (i := 177) rfl rfl
theorem q1_178 : Jvm.Cond.fieldLink "HypergraphDualizer$HittingCounts" (23 : Nat) "HypergraphDualizer$HittingCounts" "version" "I" ∈ gT := gin gin_1 (i := 178) rfl rfl
theorem q1_179 : Jvm.Cond.laysFinal "HypergraphDualizer$HittingCounts" "HypergraphDualizer$HittingCounts" "graph" "LHypergraphDualizer$Hypergraph;" ∈ gT := gin gin_1 (i := 179) rfl rfl
theorem q1_181 : Jvm.Cond.laysFinal "HypergraphDualizer$HittingCounts" "HypergraphDualizer$HittingCounts" "family" "LHypergraphDualizer$Family;" ∈ gT := gin gin_1 (i := 181) rfl rfl
theorem q1_183 : Jvm.Cond.laysFinal "HypergraphDualizer$HittingCounts" "HypergraphDualizer$HittingCounts" "counts" "[I" ∈ gT := gin gin_1 (i := 183) rfl rfl
theorem q1_185 : Jvm.Cond.lays "HypergraphDualizer$HittingCounts" "HypergraphDualizer$HittingCounts" "total" "I" ∈ gT := gin gin_1 (i := 185) rfl rfl
theorem q1_187 : Jvm.Cond.lays "HypergraphDualizer$HittingCounts" "HypergraphDualizer$HittingCounts" "version" "I" ∈ gT := gin gin_1 (i := 187) rfl rfl
theorem q1_190 : Jvm.Cond.classLink "HypergraphDualizer" (49 : Nat) "HypergraphDualizer$Diagram" ∈ gT := gin gin_1 (i := 190) rfl rfl
theorem q1_191 : Jvm.Cond.instantiable "HypergraphDualizer$Diagram" (10 : Nat) ∈ gT := gin gin_1 (i := 191) rfl rfl
theorem q1_192 : Jvm.Cond.methodLink "HypergraphDualizer" (51 : Nat) ({ cls := "HypergraphDualizer$Diagram", name := "<init>", desc := "(LHypergraphDualizer$Hypergraph;LHypergraphDualizer$Family;)V" } : Jvm.MethodName) ∈ gT := gin gin_1 (i := 192) rfl rfl
theorem q1_193 : Jvm.Cond.instanceMethod ({ cls := "HypergraphDualizer$Diagram", name := "<init>", desc := "(LHypergraphDualizer$Hypergraph;LHypergraphDualizer$Family;)V" } : Jvm.MethodName) ∈ gT := gin gin_1 (i := 193) rfl rfl
theorem q1_194 : Jvm.Cond.code ({ cls := "HypergraphDualizer$Diagram", name := "<init>", desc := "(LHypergraphDualizer$Hypergraph;LHypergraphDualizer$Family;)V" } : Jvm.MethodName) prog_2_method_1_code (3 : Nat) (Option.none : Option Jvm.ClassFile.FieldType) ∈ gT := gin gin_1 (i := 194) rfl rfl
theorem q1_195 : Jvm.Cond.methodLink "HypergraphDualizer$Diagram" (5 : Nat) ({ cls := "java/lang/Object", name := "<init>", desc := "()V" } : Jvm.MethodName) ∈ gT := gin gin_1 (i := 195) rfl rfl
theorem q1_196 : Jvm.Cond.fieldLink "HypergraphDualizer$Diagram" (11 : Nat) "HypergraphDualizer$Diagram" "graph" "LHypergraphDualizer$Hypergraph;" ∈ gT := gin gin_1 (i := 196) rfl rfl
theorem q1_197 : Jvm.Cond.fieldLink "HypergraphDualizer$Diagram" (15 : Nat) "HypergraphDualizer$Diagram" "family" "LHypergraphDualizer$Family;" ∈ gT := gin gin_1 (i := 197) rfl rfl
theorem q1_198 : Jvm.Cond.fieldLink "HypergraphDualizer$Diagram" (19 : Nat) "HypergraphDualizer$Diagram" "counts" "[I" ∈ gT := gin gin_1 (i := 198) rfl rfl
theorem q1_199 : Jvm.Cond.fieldLink "HypergraphDualizer$Diagram" (23 : Nat) "HypergraphDualizer$Diagram" "lows" "[I" ∈ gT := gin gin_1 (i := 199) rfl rfl
theorem q1_200 : Jvm.Cond.fieldLink "HypergraphDualizer$Diagram" (26 : Nat) "HypergraphDualizer$Diagram" "highs" "[I" ∈ gT := gin gin_1 (i := 200) rfl rfl
theorem q1_201 : Jvm.Cond.fieldLink "HypergraphDualizer$Diagram" (29 : Nat) "HypergraphDualizer$Diagram" "olders" "[I" ∈ gT := gin gin_1 (i := 201) rfl rfl
theorem q1_202 : Jvm.Cond.fieldLink "HypergraphDualizer$Diagram" (32 : Nat) "HypergraphDualizer$Diagram" "newest" "[I" ∈ gT := gin gin_1 (i := 202) rfl rfl
theorem q1_203 : Jvm.Cond.fieldLink "HypergraphDualizer$Diagram" (43 : Nat) "HypergraphDualizer$Diagram" "nodes" "I" ∈ gT := gin gin_1 (i := 203) rfl rfl
theorem q1_204 : Jvm.Cond.fieldLink "HypergraphDualizer$Diagram" (49 : Nat) "HypergraphDualizer$Diagram" "drawn" "I" ∈ gT := gin gin_1 (i := 204) rfl rfl
theorem q1_205 : Jvm.Cond.fieldLink "HypergraphDualizer$Diagram" (35 : Nat) "HypergraphDualizer$Diagram" "version" "I" ∈ gT := gin gin_1 (i := 205) rfl rfl
theorem q1_206 : Jvm.Cond.laysFinal "HypergraphDualizer$Diagram" "HypergraphDualizer$Diagram" "graph" "LHypergraphDualizer$Hypergraph;" ∈ gT := gin gin_1 (i := 206) rfl rfl
theorem q1_208 : Jvm.Cond.laysFinal "HypergraphDualizer$Diagram" "HypergraphDualizer$Diagram" "family" "LHypergraphDualizer$Family;" ∈ gT := gin gin_1 (i := 208) rfl rfl
theorem q1_210 : Jvm.Cond.laysFinal "HypergraphDualizer$Diagram" "HypergraphDualizer$Diagram" "counts" "[I" ∈ gT := gin gin_1 (i := 210) rfl rfl
theorem q1_212 : Jvm.Cond.laysFinal "HypergraphDualizer$Diagram" "HypergraphDualizer$Diagram" "lows" "[I" ∈ gT := gin gin_1 (i := 212) rfl rfl
theorem q1_214 : Jvm.Cond.laysFinal "HypergraphDualizer$Diagram" "HypergraphDualizer$Diagram" "highs" "[I" ∈ gT := gin gin_1 (i := 214) rfl rfl
theorem q1_216 : Jvm.Cond.laysFinal "HypergraphDualizer$Diagram" "HypergraphDualizer$Diagram" "olders" "[I" ∈ gT := gin gin_1 (i := 216) rfl rfl
theorem q1_218 : Jvm.Cond.laysFinal "HypergraphDualizer$Diagram" "HypergraphDualizer$Diagram" "newest" "[I" ∈ gT := gin gin_1 (i := 218) rfl rfl
theorem q1_220 : Jvm.Cond.lays "HypergraphDualizer$Diagram" "HypergraphDualizer$Diagram" "nodes" "I" ∈ gT := gin gin_1 (i := 220) rfl rfl
theorem q1_222 : Jvm.Cond.lays "HypergraphDualizer$Diagram" "HypergraphDualizer$Diagram" "drawn" "I" ∈ gT := gin gin_1 (i := 222) rfl rfl
theorem q1_224 : Jvm.Cond.lays "HypergraphDualizer$Diagram" "HypergraphDualizer$Diagram" "version" "I" ∈ gT := gin gin_1 (i := 224) rfl rfl
theorem q1_227 : Jvm.Cond.classLink "HypergraphDualizer" (56 : Nat) "HypergraphDualizer$EdgeText" ∈ gT := gin gin_1 (i := 227) rfl rfl
theorem q1_228 : Jvm.Cond.instantiable "HypergraphDualizer$EdgeText" (4 : Nat) ∈ gT := gin gin_1 (i := 228) rfl rfl
theorem q1_229 : Jvm.Cond.methodLink "HypergraphDualizer" (58 : Nat) ({ cls := "HypergraphDualizer$EdgeText", name := "<init>", desc := "()V" } : Jvm.MethodName) ∈ gT := gin gin_1 (i := 229) rfl rfl
theorem q1_230 : Jvm.Cond.instanceMethod ({ cls := "HypergraphDualizer$EdgeText", name := "<init>", desc := "()V" } : Jvm.MethodName) ∈ gT := gin gin_1 (i := 230) rfl rfl
theorem q1_231 : Jvm.Cond.code ({ cls := "HypergraphDualizer$EdgeText", name := "<init>", desc := "()V" } : Jvm.MethodName) prog_3_method_1_code (1 : Nat) (Option.none : Option Jvm.ClassFile.FieldType) ∈ gT := gin gin_1 (i := 231) rfl rfl
theorem q1_232 : Jvm.Cond.methodLink "HypergraphDualizer$EdgeText" (3 : Nat) ({ cls := "java/lang/Object", name := "<init>", desc := "()V" } : Jvm.MethodName) ∈ gT := gin gin_1 (i := 232) rfl rfl
theorem q1_233 : Jvm.Cond.fieldLink "HypergraphDualizer$EdgeText" (15 : Nat) "HypergraphDualizer$EdgeText" "length" "I" ∈ gT := gin gin_1 (i := 233) rfl rfl
theorem q1_234 : Jvm.Cond.fieldLink "HypergraphDualizer" (225 : Nat) "HypergraphDualizer$EdgeText" "length" "I" ∈ gT := gin gin_1 (i := 234) rfl rfl
theorem q1_235 : Jvm.Cond.fieldLink "HypergraphDualizer$EdgeText" (9 : Nat) "HypergraphDualizer$EdgeText" "characters" "[C" ∈ gT := gin gin_1 (i := 235) rfl rfl
theorem q1_236 : Jvm.Cond.fieldLink "HypergraphDualizer$EdgeText" (19 : Nat) "HypergraphDualizer$EdgeText" "at" "I" ∈ gT := gin gin_1 (i := 236) rfl rfl
theorem q1_237 : Jvm.Cond.fieldLink "HypergraphDualizer$EdgeText" (22 : Nat) "HypergraphDualizer$EdgeText" "fault" "I" ∈ gT := gin gin_1 (i := 237) rfl rfl
theorem q1_238 : Jvm.Cond.lays "HypergraphDualizer$EdgeText" "HypergraphDualizer$EdgeText" "length" "I" ∈ gT := gin gin_1 (i := 238) rfl rfl
theorem q2_0 : Jvm.Cond.laysFinal "HypergraphDualizer$EdgeText" "HypergraphDualizer$EdgeText" "characters" "[C" ∈ gT := gin gin_2 (i := 0) rfl rfl
theorem q2_2 : Jvm.Cond.lays "HypergraphDualizer$EdgeText" "HypergraphDualizer$EdgeText" "at" "I" ∈ gT := gin gin_2 (i := 2) rfl rfl
theorem q2_4 : Jvm.Cond.lays "HypergraphDualizer$EdgeText" "HypergraphDualizer$EdgeText" "fault" "I" ∈ gT := gin gin_2 (i := 4) rfl rfl
theorem q2_7 : Jvm.Cond.arrayClass Jvm.ClassFile.FieldType.char ∈ gT := gin gin_2 (i := 7) rfl rfl
theorem q2_8 : Jvm.Cond.fieldLink "HypergraphDualizer" (12 : Nat) "HypergraphDualizer" "graph" "LHypergraphDualizer$Hypergraph;" ∈ gT := gin gin_2 (i := 8) rfl rfl
theorem q2_9 : Jvm.Cond.fieldLink "HypergraphDualizer" (19 : Nat) "HypergraphDualizer" "weights" "LHypergraphDualizer$Weights;" ∈ gT := gin gin_2 (i := 9) rfl rfl
theorem q2_10 : Jvm.Cond.fieldLink "HypergraphDualizer" (31 : Nat) "HypergraphDualizer" "search" "LHypergraphDualizer$Search;" ∈ gT := gin gin_2 (i := 10) rfl rfl
theorem q2_11 : Jvm.Cond.fieldLink "HypergraphDualizer" (45 : Nat) "HypergraphDualizer" "hittingCounts" "LHypergraphDualizer$HittingCounts;" ∈ gT := gin gin_2 (i := 11) rfl rfl
theorem q2_12 : Jvm.Cond.fieldLink "HypergraphDualizer" (52 : Nat) "HypergraphDualizer" "diagram" "LHypergraphDualizer$Diagram;" ∈ gT := gin gin_2 (i := 12) rfl rfl
theorem q2_13 : Jvm.Cond.fieldLink "HypergraphDualizer" (59 : Nat) "HypergraphDualizer" "text" "LHypergraphDualizer$EdgeText;" ∈ gT := gin gin_2 (i := 13) rfl rfl
theorem q2_14 : Jvm.Cond.laysFinal "HypergraphDualizer" "HypergraphDualizer" "graph" "LHypergraphDualizer$Hypergraph;" ∈ gT := gin gin_2 (i := 14) rfl rfl
theorem q2_16 : Jvm.Cond.laysFinal "HypergraphDualizer" "HypergraphDualizer" "weights" "LHypergraphDualizer$Weights;" ∈ gT := gin gin_2 (i := 16) rfl rfl
theorem q2_18 : Jvm.Cond.laysFinal "HypergraphDualizer" "HypergraphDualizer" "search" "LHypergraphDualizer$Search;" ∈ gT := gin gin_2 (i := 18) rfl rfl
theorem q2_20 : Jvm.Cond.laysFinal "HypergraphDualizer" "HypergraphDualizer" "hittingCounts" "LHypergraphDualizer$HittingCounts;" ∈ gT := gin gin_2 (i := 20) rfl rfl
theorem q2_22 : Jvm.Cond.laysFinal "HypergraphDualizer" "HypergraphDualizer" "diagram" "LHypergraphDualizer$Diagram;" ∈ gT := gin gin_2 (i := 22) rfl rfl
theorem q2_24 : Jvm.Cond.laysFinal "HypergraphDualizer" "HypergraphDualizer" "text" "LHypergraphDualizer$EdgeText;" ∈ gT := gin gin_2 (i := 24) rfl rfl
theorem q2_27 : Jvm.Cond.methodLink "HypergraphDualizerLaw" (13 : Nat) ({ cls := "HypergraphDualizer", name := "reset", desc := "(I)I" } : Jvm.MethodName) ∈ gT := gin gin_2 (i := 27) rfl rfl
theorem q2_28 : Jvm.Cond.instanceMethod ({ cls := "HypergraphDualizer", name := "reset", desc := "(I)I" } : Jvm.MethodName) ∈ gT := gin gin_2 (i := 28) rfl rfl
theorem q2_29 : Jvm.Cond.selects "HypergraphDualizer" ({ cls := "HypergraphDualizer", name := "reset", desc := "(I)I" } : Jvm.MethodName) ({ cls := "HypergraphDualizer", name := "reset", desc := "(I)I" } : Jvm.MethodName) ∈ gT := gin gin_2 (i := 29) rfl rfl
theorem q2_30 : Jvm.Cond.code ({ cls := "HypergraphDualizer", name := "reset", desc := "(I)I" } : Jvm.MethodName) prog_1_method_2_code (3 : Nat) (Option.some Jvm.ClassFile.FieldType.int) ∈ gT := gin gin_2 (i := 30) rfl rfl
theorem q2_31 : Jvm.Cond.methodLink "HypergraphDualizer" (67 : Nat) ({ cls := "HypergraphDualizer$Hypergraph", name := "startAnew", desc := "(I)V" } : Jvm.MethodName) ∈ gT := gin gin_2 (i := 31) rfl rfl
theorem q2_32 : Jvm.Cond.instanceMethod ({ cls := "HypergraphDualizer$Hypergraph", name := "startAnew", desc := "(I)V" } : Jvm.MethodName) ∈ gT := gin gin_2 (i := 32) rfl rfl
theorem q2_33 : Jvm.Cond.selects "HypergraphDualizer$Hypergraph" ({ cls := "HypergraphDualizer$Hypergraph", name := "startAnew", desc := "(I)V" } : Jvm.MethodName) ({ cls := "HypergraphDualizer$Hypergraph", name := "startAnew", desc := "(I)V" } : Jvm.MethodName) ∈ gT := gin gin_2 (i := 33) rfl rfl
theorem q2_34 : Jvm.Cond.code ({ cls := "HypergraphDualizer$Hypergraph", name := "startAnew", desc := "(I)V" } : Jvm.MethodName) prog_7_method_2_code (2 : Nat) (Option.none : Option Jvm.ClassFile.FieldType) ∈ gT := gin gin_2 (i := 34) rfl rfl
theorem q2_35 : Jvm.Cond.methodLink "HypergraphDualizer$Hypergraph" (32 : Nat) ({ cls := "HypergraphDualizer$History", name := "forget", desc := "()V" } : Jvm.MethodName) ∈ gT := gin gin_2 (i := 35) rfl rfl
theorem q2_36 : Jvm.Cond.instanceMethod ({ cls := "HypergraphDualizer$History", name := "forget", desc := "()V" } : Jvm.MethodName) ∈ gT := gin gin_2 (i := 36) rfl rfl
theorem q2_37 : Jvm.Cond.selects "HypergraphDualizer$History" ({ cls := "HypergraphDualizer$History", name := "forget", desc := "()V" } : Jvm.MethodName) ({ cls := "HypergraphDualizer$History", name := "forget", desc := "()V" } : Jvm.MethodName) ∈ gT := gin gin_2 (i := 37) rfl rfl
theorem q2_38 : Jvm.Cond.code ({ cls := "HypergraphDualizer$History", name := "forget", desc := "()V" } : Jvm.MethodName) prog_5_method_2_code (1 : Nat) (Option.none : Option Jvm.ClassFile.FieldType) ∈ gT := gin gin_2 (i := 38) rfl rfl
theorem q2_39 : Jvm.Cond.methodLink "HypergraphDualizer$Hypergraph" (35 : Nat) ({ cls := "HypergraphDualizer$Hypergraph", name := "followChange", desc := "()V" } : Jvm.MethodName) ∈ gT := gin gin_2 (i := 39) rfl rfl
theorem q2_41 : Jvm.Cond.instanceMethod ({ cls := "HypergraphDualizer$Hypergraph", name := "followChange", desc := "()V" } : Jvm.MethodName) ∈ gT := gin gin_2 (i := 41) rfl rfl
theorem q2_42 : Jvm.Cond.code ({ cls := "HypergraphDualizer$Hypergraph", name := "followChange", desc := "()V" } : Jvm.MethodName) prog_7_method_16_code (4 : Nat) (Option.none : Option Jvm.ClassFile.FieldType) ∈ gT := gin gin_2 (i := 42) rfl rfl
theorem q2_44 : Jvm.Cond.static ({ cls := "HypergraphDualizer", name := "has", desc := "(II)Z" } : Jvm.MethodName) ∈ gT := gin gin_2 (i := 44) rfl rfl
theorem q2_45 : Jvm.Cond.code ({ cls := "HypergraphDualizer", name := "has", desc := "(II)Z" } : Jvm.MethodName) prog_1_method_42_code (2 : Nat) (Option.some Jvm.ClassFile.FieldType.boolean) ∈ gT := gin gin_2 (i := 45) rfl rfl
theorem q2_46 : Jvm.Cond.methodLink "HypergraphDualizerLaw" (18 : Nat) ({ cls := "HypergraphDualizer", name := "addEdge", desc := "(I)I" } : Jvm.MethodName) ∈ gT := gin gin_2 (i := 46) rfl rfl
theorem q2_47 : Jvm.Cond.instanceMethod ({ cls := "HypergraphDualizer", name := "addEdge", desc := "(I)I" } : Jvm.MethodName) ∈ gT := gin gin_2 (i := 47) rfl rfl
theorem q2_48 : Jvm.Cond.selects "HypergraphDualizer" ({ cls := "HypergraphDualizer", name := "addEdge", desc := "(I)I" } : Jvm.MethodName) ({ cls := "HypergraphDualizer", name := "addEdge", desc := "(I)I" } : Jvm.MethodName) ∈ gT := gin gin_2 (i := 48) rfl rfl
theorem q2_49 : Jvm.Cond.code ({ cls := "HypergraphDualizer", name := "addEdge", desc := "(I)I" } : Jvm.MethodName) prog_1_method_3_code (2 : Nat) (Option.some Jvm.ClassFile.FieldType.int) ∈ gT := gin gin_2 (i := 49) rfl rfl
theorem q2_50 : Jvm.Cond.methodLink "HypergraphDualizer" (70 : Nat) ({ cls := "HypergraphDualizer$Hypergraph", name := "isSet", desc := "(I)Z" } : Jvm.MethodName) ∈ gT := gin gin_2 (i := 50) rfl rfl
theorem q2_51 : Jvm.Cond.instanceMethod ({ cls := "HypergraphDualizer$Hypergraph", name := "isSet", desc := "(I)Z" } : Jvm.MethodName) ∈ gT := gin gin_2 (i := 51) rfl rfl
theorem q2_52 : Jvm.Cond.selects "HypergraphDualizer$Hypergraph" ({ cls := "HypergraphDualizer$Hypergraph", name := "isSet", desc := "(I)Z" } : Jvm.MethodName) ({ cls := "HypergraphDualizer$Hypergraph", name := "isSet", desc := "(I)Z" } : Jvm.MethodName) ∈ gT := gin gin_2 (i := 52) rfl rfl
theorem q2_53 : Jvm.Cond.code ({ cls := "HypergraphDualizer$Hypergraph", name := "isSet", desc := "(I)Z" } : Jvm.MethodName) prog_7_method_5_code (2 : Nat) (Option.some Jvm.ClassFile.FieldType.boolean) ∈ gT := gin gin_2 (i := 53) rfl rfl
theorem q2_54 : Jvm.Cond.methodLink "HypergraphDualizer" (74 : Nat) ({ cls := "HypergraphDualizer$Hypergraph", name := "contains", desc := "(I)Z" } : Jvm.MethodName) ∈ gT := gin gin_2 (i := 54) rfl rfl
theorem q2_55 : Jvm.Cond.instanceMethod ({ cls := "HypergraphDualizer$Hypergraph", name := "contains", desc := "(I)Z" } : Jvm.MethodName) ∈ gT := gin gin_2 (i := 55) rfl rfl
theorem q2_56 : Jvm.Cond.selects "HypergraphDualizer$Hypergraph" ({ cls := "HypergraphDualizer$Hypergraph", name := "contains", desc := "(I)Z" } : Jvm.MethodName) ({ cls := "HypergraphDualizer$Hypergraph", name := "contains", desc := "(I)Z" } : Jvm.MethodName) ∈ gT := gin gin_2 (i := 56) rfl rfl
theorem q2_57 : Jvm.Cond.code ({ cls := "HypergraphDualizer$Hypergraph", name := "contains", desc := "(I)Z" } : Jvm.MethodName) prog_7_method_8_code (3 : Nat) (Option.some Jvm.ClassFile.FieldType.boolean) ∈ gT := gin gin_2 (i := 57) rfl rfl
theorem q2_58 : Jvm.Cond.methodLink "HypergraphDualizer" (77 : Nat) ({ cls := "HypergraphDualizer$Hypergraph", name := "isFull", desc := "()Z" } : Jvm.MethodName) ∈ gT := gin gin_2 (i := 58) rfl rfl
theorem q2_59 : Jvm.Cond.instanceMethod ({ cls := "HypergraphDualizer$Hypergraph", name := "isFull", desc := "()Z" } : Jvm.MethodName) ∈ gT := gin gin_2 (i := 59) rfl rfl
theorem q2_60 : Jvm.Cond.selects "HypergraphDualizer$Hypergraph" ({ cls := "HypergraphDualizer$Hypergraph", name := "isFull", desc := "()Z" } : Jvm.MethodName) ({ cls := "HypergraphDualizer$Hypergraph", name := "isFull", desc := "()Z" } : Jvm.MethodName) ∈ gT := gin gin_2 (i := 60) rfl rfl
theorem q2_61 : Jvm.Cond.code ({ cls := "HypergraphDualizer$Hypergraph", name := "isFull", desc := "()Z" } : Jvm.MethodName) prog_7_method_6_code (1 : Nat) (Option.some Jvm.ClassFile.FieldType.boolean) ∈ gT := gin gin_2 (i := 61) rfl rfl
theorem q2_62 : Jvm.Cond.methodLink "HypergraphDualizer" (81 : Nat) ({ cls := "HypergraphDualizer$Hypergraph", name := "append", desc := "(I)V" } : Jvm.MethodName) ∈ gT := gin gin_2 (i := 62) rfl rfl
theorem q2_63 : Jvm.Cond.instanceMethod ({ cls := "HypergraphDualizer$Hypergraph", name := "append", desc := "(I)V" } : Jvm.MethodName) ∈ gT := gin gin_2 (i := 63) rfl rfl
theorem q2_64 : Jvm.Cond.selects "HypergraphDualizer$Hypergraph" ({ cls := "HypergraphDualizer$Hypergraph", name := "append", desc := "(I)V" } : Jvm.MethodName) ({ cls := "HypergraphDualizer$Hypergraph", name := "append", desc := "(I)V" } : Jvm.MethodName) ∈ gT := gin gin_2 (i := 64) rfl rfl
theorem q2_65 : Jvm.Cond.code ({ cls := "HypergraphDualizer$Hypergraph", name := "append", desc := "(I)V" } : Jvm.MethodName) prog_7_method_9_code (2 : Nat) (Option.none : Option Jvm.ClassFile.FieldType) ∈ gT := gin gin_2 (i := 65) rfl rfl
theorem q2_66 : Jvm.Cond.methodLink "HypergraphDualizer$Hypergraph" (38 : Nat) ({ cls := "HypergraphDualizer$Hypergraph", name := "isFull", desc := "()Z" } : Jvm.MethodName) ∈ gT := gin gin_2 (i := 66) rfl rfl
theorem q2_67 : Jvm.Cond.methodLink "HypergraphDualizer" (84 : Nat) ({ cls := "HypergraphDualizer$Hypergraph", name := "endEdit", desc := "()V" } : Jvm.MethodName) ∈ gT := gin gin_2 (i := 67) rfl rfl
theorem q2_68 : Jvm.Cond.instanceMethod ({ cls := "HypergraphDualizer$Hypergraph", name := "endEdit", desc := "()V" } : Jvm.MethodName) ∈ gT := gin gin_2 (i := 68) rfl rfl
theorem q2_69 : Jvm.Cond.selects "HypergraphDualizer$Hypergraph" ({ cls := "HypergraphDualizer$Hypergraph", name := "endEdit", desc := "()V" } : Jvm.MethodName) ({ cls := "HypergraphDualizer$Hypergraph", name := "endEdit", desc := "()V" } : Jvm.MethodName) ∈ gT := gin gin_2 (i := 69) rfl rfl
theorem q2_70 : Jvm.Cond.code ({ cls := "HypergraphDualizer$Hypergraph", name := "endEdit", desc := "()V" } : Jvm.MethodName) prog_7_method_12_code (1 : Nat) (Option.none : Option Jvm.ClassFile.FieldType) ∈ gT := gin gin_2 (i := 70) rfl rfl
theorem q2_71 : Jvm.Cond.methodLink "HypergraphDualizer$Hypergraph" (54 : Nat) ({ cls := "HypergraphDualizer$History", name := "add", desc := "([II)V" } : Jvm.MethodName) ∈ gT := gin gin_2 (i := 71) rfl rfl
theorem q2_72 : Jvm.Cond.instanceMethod ({ cls := "HypergraphDualizer$History", name := "add", desc := "([II)V" } : Jvm.MethodName) ∈ gT := gin gin_2 (i := 72) rfl rfl
theorem q2_73 : Jvm.Cond.selects "HypergraphDualizer$History" ({ cls := "HypergraphDualizer$History", name := "add", desc := "([II)V" } : Jvm.MethodName) ({ cls := "HypergraphDualizer$History", name := "add", desc := "([II)V" } : Jvm.MethodName) ∈ gT := gin gin_2 (i := 73) rfl rfl
theorem q2_74 : Jvm.Cond.code ({ cls := "HypergraphDualizer$History", name := "add", desc := "([II)V" } : Jvm.MethodName) prog_5_method_3_code (3 : Nat) (Option.none : Option Jvm.ClassFile.FieldType) ∈ gT := gin gin_2 (i := 74) rfl rfl
theorem q2_75 : Jvm.Cond.methodLink "HypergraphDualizer$History" (30 : Nat) ({ cls := "java/lang/System", name := "arraycopy", desc := "(Ljava/lang/Object;ILjava/lang/Object;II)V" } : Jvm.MethodName) ∈ gT := gin gin_2 (i := 75) rfl rfl
theorem q2_76 : Jvm.Cond.static ({ cls := "java/lang/System", name := "arraycopy", desc := "(Ljava/lang/Object;ILjava/lang/Object;II)V" } : Jvm.MethodName) ∈ gT := gin gin_2 (i := 76) rfl rfl
theorem q2_77 : Jvm.Cond.native ({ cls := "java/lang/System", name := "arraycopy", desc := "(Ljava/lang/Object;ILjava/lang/Object;II)V" } : Jvm.MethodName) ∈ gT := gin gin_2 (i := 77) rfl rfl
theorem q2_78 : Jvm.Cond.methodLink "HypergraphDualizer$History" (36 : Nat) ({ cls := "java/lang/Math", name := "min", desc := "(II)I" } : Jvm.MethodName) ∈ gT := gin gin_2 (i := 78) rfl rfl
theorem q2_79 : Jvm.Cond.static ({ cls := "java/lang/Math", name := "min", desc := "(II)I" } : Jvm.MethodName) ∈ gT := gin gin_2 (i := 79) rfl rfl
theorem q2_80 : Jvm.Cond.code ({ cls := "java/lang/Math", name := "min", desc := "(II)I" } : Jvm.MethodName) prog_13_method_69_code (2 : Nat) (Option.some Jvm.ClassFile.FieldType.int) ∈ gT := gin gin_2 (i := 80) rfl rfl
theorem q2_81 : Jvm.Cond.methodLink "HypergraphDualizerLaw" (22 : Nat) ({ cls := "HypergraphDualizer", name := "removeEdge", desc := "(I)I" } : Jvm.MethodName) ∈ gT := gin gin_2 (i := 81) rfl rfl
theorem q2_82 : Jvm.Cond.instanceMethod ({ cls := "HypergraphDualizer", name := "removeEdge", desc := "(I)I" } : Jvm.MethodName) ∈ gT := gin gin_2 (i := 82) rfl rfl
theorem q2_83 : Jvm.Cond.selects "HypergraphDualizer" ({ cls := "HypergraphDualizer", name := "removeEdge", desc := "(I)I" } : Jvm.MethodName) ({ cls := "HypergraphDualizer", name := "removeEdge", desc := "(I)I" } : Jvm.MethodName) ∈ gT := gin gin_2 (i := 83) rfl rfl
theorem q2_84 : Jvm.Cond.code ({ cls := "HypergraphDualizer", name := "removeEdge", desc := "(I)I" } : Jvm.MethodName) prog_1_method_4_code (3 : Nat) (Option.some Jvm.ClassFile.FieldType.int) ∈ gT := gin gin_2 (i := 84) rfl rfl
theorem q2_85 : Jvm.Cond.methodLink "HypergraphDualizer" (90 : Nat) ({ cls := "HypergraphDualizer$Hypergraph", name := "isEdge", desc := "(I)Z" } : Jvm.MethodName) ∈ gT := gin gin_2 (i := 85) rfl rfl
theorem q2_86 : Jvm.Cond.instanceMethod ({ cls := "HypergraphDualizer$Hypergraph", name := "isEdge", desc := "(I)Z" } : Jvm.MethodName) ∈ gT := gin gin_2 (i := 86) rfl rfl
theorem q2_87 : Jvm.Cond.selects "HypergraphDualizer$Hypergraph" ({ cls := "HypergraphDualizer$Hypergraph", name := "isEdge", desc := "(I)Z" } : Jvm.MethodName) ({ cls := "HypergraphDualizer$Hypergraph", name := "isEdge", desc := "(I)Z" } : Jvm.MethodName) ∈ gT := gin gin_2 (i := 87) rfl rfl
theorem q2_88 : Jvm.Cond.code ({ cls := "HypergraphDualizer$Hypergraph", name := "isEdge", desc := "(I)Z" } : Jvm.MethodName) prog_7_method_4_code (2 : Nat) (Option.some Jvm.ClassFile.FieldType.boolean) ∈ gT := gin gin_2 (i := 88) rfl rfl
theorem q2_89 : Jvm.Cond.methodLink "HypergraphDualizer" (97 : Nat) ({ cls := "HypergraphDualizer$Hypergraph", name := "allEdges", desc := "()I" } : Jvm.MethodName) ∈ gT := gin gin_2 (i := 89) rfl rfl
theorem q2_90 : Jvm.Cond.instanceMethod ({ cls := "HypergraphDualizer$Hypergraph", name := "allEdges", desc := "()I" } : Jvm.MethodName) ∈ gT := gin gin_2 (i := 90) rfl rfl
theorem q2_91 : Jvm.Cond.selects "HypergraphDualizer$Hypergraph" ({ cls := "HypergraphDualizer$Hypergraph", name := "allEdges", desc := "()I" } : Jvm.MethodName) ({ cls := "HypergraphDualizer$Hypergraph", name := "allEdges", desc := "()I" } : Jvm.MethodName) ∈ gT := gin gin_2 (i := 91) rfl rfl
theorem q2_92 : Jvm.Cond.code ({ cls := "HypergraphDualizer$Hypergraph", name := "allEdges", desc := "()I" } : Jvm.MethodName) prog_7_method_7_code (1 : Nat) (Option.some Jvm.ClassFile.FieldType.int) ∈ gT := gin gin_2 (i := 92) rfl rfl
theorem q2_93 : Jvm.Cond.methodLink "HypergraphDualizer" (101 : Nat) ({ cls := "HypergraphDualizer$Hypergraph", name := "keepOnly", desc := "(I)V" } : Jvm.MethodName) ∈ gT := gin gin_2 (i := 93) rfl rfl
theorem q2_94 : Jvm.Cond.instanceMethod ({ cls := "HypergraphDualizer$Hypergraph", name := "keepOnly", desc := "(I)V" } : Jvm.MethodName) ∈ gT := gin gin_2 (i := 94) rfl rfl
theorem q2_95 : Jvm.Cond.selects "HypergraphDualizer$Hypergraph" ({ cls := "HypergraphDualizer$Hypergraph", name := "keepOnly", desc := "(I)V" } : Jvm.MethodName) ({ cls := "HypergraphDualizer$Hypergraph", name := "keepOnly", desc := "(I)V" } : Jvm.MethodName) ∈ gT := gin gin_2 (i := 95) rfl rfl
theorem q2_96 : Jvm.Cond.code ({ cls := "HypergraphDualizer$Hypergraph", name := "keepOnly", desc := "(I)V" } : Jvm.MethodName) prog_7_method_10_code (4 : Nat) (Option.none : Option Jvm.ClassFile.FieldType) ∈ gT := gin gin_2 (i := 96) rfl rfl
theorem q2_97 : Jvm.Cond.methodLink "HypergraphDualizer$Hypergraph" (46 : Nat) ({ cls := "HypergraphDualizer$Hypergraph", name := "append", desc := "(I)V" } : Jvm.MethodName) ∈ gT := gin gin_2 (i := 97) rfl rfl
theorem q2_98 : Jvm.Cond.methodLink "HypergraphDualizerLaw" (26 : Nat) ({ cls := "HypergraphDualizer", name := "minimize", desc := "()I" } : Jvm.MethodName) ∈ gT := gin gin_2 (i := 98) rfl rfl
theorem q2_99 : Jvm.Cond.instanceMethod ({ cls := "HypergraphDualizer", name := "minimize", desc := "()I" } : Jvm.MethodName) ∈ gT := gin gin_2 (i := 99) rfl rfl
theorem q2_100 : Jvm.Cond.selects "HypergraphDualizer" ({ cls := "HypergraphDualizer", name := "minimize", desc := "()I" } : Jvm.MethodName) ({ cls := "HypergraphDualizer", name := "minimize", desc := "()I" } : Jvm.MethodName) ∈ gT := gin gin_2 (i := 100) rfl rfl
theorem q2_101 : Jvm.Cond.code ({ cls := "HypergraphDualizer", name := "minimize", desc := "()I" } : Jvm.MethodName) prog_1_method_5_code (2 : Nat) (Option.some Jvm.ClassFile.FieldType.int) ∈ gT := gin gin_2 (i := 101) rfl rfl
theorem q2_102 : Jvm.Cond.methodLink "HypergraphDualizer" (104 : Nat) ({ cls := "HypergraphDualizer$Hypergraph", name := "minimalEdges", desc := "()I" } : Jvm.MethodName) ∈ gT := gin gin_2 (i := 102) rfl rfl
theorem q2_103 : Jvm.Cond.instanceMethod ({ cls := "HypergraphDualizer$Hypergraph", name := "minimalEdges", desc := "()I" } : Jvm.MethodName) ∈ gT := gin gin_2 (i := 103) rfl rfl
theorem q2_104 : Jvm.Cond.selects "HypergraphDualizer$Hypergraph" ({ cls := "HypergraphDualizer$Hypergraph", name := "minimalEdges", desc := "()I" } : Jvm.MethodName) ({ cls := "HypergraphDualizer$Hypergraph", name := "minimalEdges", desc := "()I" } : Jvm.MethodName) ∈ gT := gin gin_2 (i := 104) rfl rfl
theorem q2_105 : Jvm.Cond.code ({ cls := "HypergraphDualizer$Hypergraph", name := "minimalEdges", desc := "()I" } : Jvm.MethodName) prog_7_method_17_code (3 : Nat) (Option.some Jvm.ClassFile.FieldType.int) ∈ gT := gin gin_2 (i := 105) rfl rfl
theorem q2_106 : Jvm.Cond.methodLink "HypergraphDualizer$Hypergraph" (74 : Nat) ({ cls := "HypergraphDualizer$Hypergraph", name := "isMinimal", desc := "(I)Z" } : Jvm.MethodName) ∈ gT := gin gin_2 (i := 106) rfl rfl
theorem q2_108 : Jvm.Cond.instanceMethod ({ cls := "HypergraphDualizer$Hypergraph", name := "isMinimal", desc := "(I)Z" } : Jvm.MethodName) ∈ gT := gin gin_2 (i := 108) rfl rfl
theorem q2_109 : Jvm.Cond.code ({ cls := "HypergraphDualizer$Hypergraph", name := "isMinimal", desc := "(I)Z" } : Jvm.MethodName) prog_7_method_18_code (3 : Nat) (Option.some Jvm.ClassFile.FieldType.boolean) ∈ gT := gin gin_2 (i := 109) rfl rfl
theorem q2_111 : Jvm.Cond.static ({ cls := "HypergraphDualizer", name := "isWithin", desc := "(II)Z" } : Jvm.MethodName) ∈ gT := gin gin_2 (i := 111) rfl rfl
theorem q2_112 : Jvm.Cond.code ({ cls := "HypergraphDualizer", name := "isWithin", desc := "(II)Z" } : Jvm.MethodName) prog_1_method_43_code (2 : Nat) (Option.some Jvm.ClassFile.FieldType.boolean) ∈ gT := gin gin_2 (i := 112) rfl rfl
theorem q2_113 : Jvm.Cond.methodLink "HypergraphDualizerLaw" (31 : Nat) ({ cls := "HypergraphDualizer", name := "contract", desc := "(I)I" } : Jvm.MethodName) ∈ gT := gin gin_2 (i := 113) rfl rfl
theorem q2_114 : Jvm.Cond.instanceMethod ({ cls := "HypergraphDualizer", name := "contract", desc := "(I)I" } : Jvm.MethodName) ∈ gT := gin gin_2 (i := 114) rfl rfl
theorem q2_115 : Jvm.Cond.selects "HypergraphDualizer" ({ cls := "HypergraphDualizer", name := "contract", desc := "(I)I" } : Jvm.MethodName) ({ cls := "HypergraphDualizer", name := "contract", desc := "(I)I" } : Jvm.MethodName) ∈ gT := gin gin_2 (i := 115) rfl rfl
theorem q2_116 : Jvm.Cond.code ({ cls := "HypergraphDualizer", name := "contract", desc := "(I)I" } : Jvm.MethodName) prog_1_method_6_code (3 : Nat) (Option.some Jvm.ClassFile.FieldType.int) ∈ gT := gin gin_2 (i := 116) rfl rfl
theorem q2_117 : Jvm.Cond.methodLink "HypergraphDualizer" (107 : Nat) ({ cls := "HypergraphDualizer$Hypergraph", name := "isVertex", desc := "(I)Z" } : Jvm.MethodName) ∈ gT := gin gin_2 (i := 117) rfl rfl
theorem q2_118 : Jvm.Cond.instanceMethod ({ cls := "HypergraphDualizer$Hypergraph", name := "isVertex", desc := "(I)Z" } : Jvm.MethodName) ∈ gT := gin gin_2 (i := 118) rfl rfl
theorem q2_119 : Jvm.Cond.selects "HypergraphDualizer$Hypergraph" ({ cls := "HypergraphDualizer$Hypergraph", name := "isVertex", desc := "(I)Z" } : Jvm.MethodName) ({ cls := "HypergraphDualizer$Hypergraph", name := "isVertex", desc := "(I)Z" } : Jvm.MethodName) ∈ gT := gin gin_2 (i := 119) rfl rfl
theorem q2_120 : Jvm.Cond.code ({ cls := "HypergraphDualizer$Hypergraph", name := "isVertex", desc := "(I)Z" } : Jvm.MethodName) prog_7_method_3_code (2 : Nat) (Option.some Jvm.ClassFile.FieldType.boolean) ∈ gT := gin gin_2 (i := 120) rfl rfl
theorem q2_121 : Jvm.Cond.methodLink "HypergraphDualizer" (113 : Nat) ({ cls := "java/lang/Integer", name := "bitCount", desc := "(I)I" } : Jvm.MethodName) ∈ gT := gin gin_2 (i := 121) rfl rfl
theorem q2_122 : Jvm.Cond.static ({ cls := "java/lang/Integer", name := "bitCount", desc := "(I)I" } : Jvm.MethodName) ∈ gT := gin gin_2 (i := 122) rfl rfl
theorem q2_123 : Jvm.Cond.code ({ cls := "java/lang/Integer", name := "bitCount", desc := "(I)I" } : Jvm.MethodName) prog_12_method_49_code (1 : Nat) (Option.some Jvm.ClassFile.FieldType.int) ∈ gT := gin gin_2 (i := 123) rfl rfl
theorem q2_124 : Jvm.Cond.constant "java/lang/Integer" (265 : Nat) (1431655765 : Int32) ∈ gT := gin gin_2 (i := 124) rfl rfl
theorem q2_125 : Jvm.Cond.constant "java/lang/Integer" (266 : Nat) (858993459 : Int32) ∈ gT := gin gin_2 (i := 125) rfl rfl
theorem q2_126 : Jvm.Cond.constant "java/lang/Integer" (267 : Nat) (252645135 : Int32) ∈ gT := gin gin_2 (i := 126) rfl rfl
theorem q2_127 : Jvm.Cond.methodLink "HypergraphDualizer" (119 : Nat) ({ cls := "HypergraphDualizer$Hypergraph", name := "takeOut", desc := "(I)V" } : Jvm.MethodName) ∈ gT := gin gin_2 (i := 127) rfl rfl
theorem q2_128 : Jvm.Cond.instanceMethod ({ cls := "HypergraphDualizer$Hypergraph", name := "takeOut", desc := "(I)V" } : Jvm.MethodName) ∈ gT := gin gin_2 (i := 128) rfl rfl
theorem q2_129 : Jvm.Cond.selects "HypergraphDualizer$Hypergraph" ({ cls := "HypergraphDualizer$Hypergraph", name := "takeOut", desc := "(I)V" } : Jvm.MethodName) ({ cls := "HypergraphDualizer$Hypergraph", name := "takeOut", desc := "(I)V" } : Jvm.MethodName) ∈ gT := gin gin_2 (i := 129) rfl rfl
theorem q2_130 : Jvm.Cond.code ({ cls := "HypergraphDualizer$Hypergraph", name := "takeOut", desc := "(I)V" } : Jvm.MethodName) prog_7_method_11_code (5 : Nat) (Option.none : Option Jvm.ClassFile.FieldType) ∈ gT := gin gin_2 (i := 130) rfl rfl
theorem q2_131 : Jvm.Cond.methodLink "HypergraphDualizer$Hypergraph" (50 : Nat) ({ cls := "HypergraphDualizer$Hypergraph", name := "contains", desc := "(I)Z" } : Jvm.MethodName) ∈ gT := gin gin_2 (i := 131) rfl rfl
theorem q2_132 : Jvm.Cond.methodLink "HypergraphDualizerLaw" (35 : Nat) ({ cls := "HypergraphDualizer", name := "delete", desc := "(I)I" } : Jvm.MethodName) ∈ gT := gin gin_2 (i := 132) rfl rfl
theorem q2_133 : Jvm.Cond.instanceMethod ({ cls := "HypergraphDualizer", name := "delete", desc := "(I)I" } : Jvm.MethodName) ∈ gT := gin gin_2 (i := 133) rfl rfl
theorem q2_134 : Jvm.Cond.selects "HypergraphDualizer" ({ cls := "HypergraphDualizer", name := "delete", desc := "(I)I" } : Jvm.MethodName) ({ cls := "HypergraphDualizer", name := "delete", desc := "(I)I" } : Jvm.MethodName) ∈ gT := gin gin_2 (i := 134) rfl rfl
theorem q2_135 : Jvm.Cond.code ({ cls := "HypergraphDualizer", name := "delete", desc := "(I)I" } : Jvm.MethodName) prog_1_method_7_code (3 : Nat) (Option.some Jvm.ClassFile.FieldType.int) ∈ gT := gin gin_2 (i := 135) rfl rfl
theorem q2_136 : Jvm.Cond.methodLink "HypergraphDualizerLaw" (39 : Nat) ({ cls := "HypergraphDualizer", name := "dualize", desc := "()I" } : Jvm.MethodName) ∈ gT := gin gin_2 (i := 136) rfl rfl
theorem q2_137 : Jvm.Cond.instanceMethod ({ cls := "HypergraphDualizer", name := "dualize", desc := "()I" } : Jvm.MethodName) ∈ gT := gin gin_2 (i := 137) rfl rfl
theorem q2_138 : Jvm.Cond.selects "HypergraphDualizer" ({ cls := "HypergraphDualizer", name := "dualize", desc := "()I" } : Jvm.MethodName) ({ cls := "HypergraphDualizer", name := "dualize", desc := "()I" } : Jvm.MethodName) ∈ gT := gin gin_2 (i := 138) rfl rfl
theorem q2_139 : Jvm.Cond.code ({ cls := "HypergraphDualizer", name := "dualize", desc := "()I" } : Jvm.MethodName) prog_1_method_8_code (3 : Nat) (Option.some Jvm.ClassFile.FieldType.int) ∈ gT := gin gin_2 (i := 139) rfl rfl
theorem q2_140 : Jvm.Cond.methodLink "HypergraphDualizer" (122 : Nat) ({ cls := "HypergraphDualizer$Search", name := "succeeds", desc := "()Z" } : Jvm.MethodName) ∈ gT := gin gin_2 (i := 140) rfl rfl
theorem q2_141 : Jvm.Cond.instanceMethod ({ cls := "HypergraphDualizer$Search", name := "succeeds", desc := "()Z" } : Jvm.MethodName) ∈ gT := gin gin_2 (i := 141) rfl rfl
theorem q2_142 : Jvm.Cond.selects "HypergraphDualizer$Search" ({ cls := "HypergraphDualizer$Search", name := "succeeds", desc := "()Z" } : Jvm.MethodName) ({ cls := "HypergraphDualizer$Search", name := "succeeds", desc := "()Z" } : Jvm.MethodName) ∈ gT := gin gin_2 (i := 142) rfl rfl
theorem q2_143 : Jvm.Cond.code ({ cls := "HypergraphDualizer$Search", name := "succeeds", desc := "()Z" } : Jvm.MethodName) prog_8_method_2_code (1 : Nat) (Option.some Jvm.ClassFile.FieldType.boolean) ∈ gT := gin gin_2 (i := 143) rfl rfl
theorem q2_144 : Jvm.Cond.methodLink "HypergraphDualizer$Search" (45 : Nat) ({ cls := "HypergraphDualizer$Search", name := "explore", desc := "(LHypergraphDualizer$Search;IIIII)V" } : Jvm.MethodName) ∈ gT := gin gin_2 (i := 144) rfl rfl
theorem q2_145 : Jvm.Cond.static ({ cls := "HypergraphDualizer$Search", name := "explore", desc := "(LHypergraphDualizer$Search;IIIII)V" } : Jvm.MethodName) ∈ gT := gin gin_2 (i := 145) rfl rfl
theorem q2_146 : Jvm.Cond.code ({ cls := "HypergraphDualizer$Search", name := "explore", desc := "(LHypergraphDualizer$Search;IIIII)V" } : Jvm.MethodName) prog_8_method_3_code (14 : Nat) (Option.none : Option Jvm.ClassFile.FieldType) ∈ gT := gin gin_2 (i := 146) rfl rfl
theorem q2_147 : Jvm.Cond.methodLink "HypergraphDualizer$Search" (49 : Nat) ({ cls := "HypergraphDualizer$Hypergraph", name := "allEdges", desc := "()I" } : Jvm.MethodName) ∈ gT := gin gin_2 (i := 147) rfl rfl
theorem q2_148 : Jvm.Cond.methodLink "HypergraphDualizer$Search" (53 : Nat) ({ cls := "HypergraphDualizer$Search", name := "keep", desc := "(I)V" } : Jvm.MethodName) ∈ gT := gin gin_2 (i := 148) rfl rfl
theorem q2_150 : Jvm.Cond.instanceMethod ({ cls := "HypergraphDualizer$Search", name := "keep", desc := "(I)V" } : Jvm.MethodName) ∈ gT := gin gin_2 (i := 150) rfl rfl
theorem q2_151 : Jvm.Cond.code ({ cls := "HypergraphDualizer$Search", name := "keep", desc := "(I)V" } : Jvm.MethodName) prog_8_method_4_code (2 : Nat) (Option.none : Option Jvm.ClassFile.FieldType) ∈ gT := gin gin_2 (i := 151) rfl rfl
theorem q2_152 : Jvm.Cond.methodLink "HypergraphDualizer$Search" (57 : Nat) ({ cls := "HypergraphDualizer$Hypergraph", name := "fewestCandidates", desc := "(II)I" } : Jvm.MethodName) ∈ gT := gin gin_2 (i := 152) rfl rfl
theorem q2_153 : Jvm.Cond.instanceMethod ({ cls := "HypergraphDualizer$Hypergraph", name := "fewestCandidates", desc := "(II)I" } : Jvm.MethodName) ∈ gT := gin gin_2 (i := 153) rfl rfl
theorem q2_154 : Jvm.Cond.selects "HypergraphDualizer$Hypergraph" ({ cls := "HypergraphDualizer$Hypergraph", name := "fewestCandidates", desc := "(II)I" } : Jvm.MethodName) ({ cls := "HypergraphDualizer$Hypergraph", name := "fewestCandidates", desc := "(II)I" } : Jvm.MethodName) ∈ gT := gin gin_2 (i := 154) rfl rfl
theorem q2_155 : Jvm.Cond.code ({ cls := "HypergraphDualizer$Hypergraph", name := "fewestCandidates", desc := "(II)I" } : Jvm.MethodName) prog_7_method_27_code (8 : Nat) (Option.some Jvm.ClassFile.FieldType.int) ∈ gT := gin gin_2 (i := 155) rfl rfl
theorem q2_156 : Jvm.Cond.methodLink "HypergraphDualizer$Hypergraph" (80 : Nat) ({ cls := "java/lang/Integer", name := "bitCount", desc := "(I)I" } : Jvm.MethodName) ∈ gT := gin gin_2 (i := 156) rfl rfl
theorem q2_158 : Jvm.Cond.methodLink "HypergraphDualizer$Search" (68 : Nat) ({ cls := "HypergraphDualizer$Hypergraph", name := "eachHasPrivate", desc := "(II)Z" } : Jvm.MethodName) ∈ gT := gin gin_2 (i := 158) rfl rfl
theorem q2_159 : Jvm.Cond.instanceMethod ({ cls := "HypergraphDualizer$Hypergraph", name := "eachHasPrivate", desc := "(II)Z" } : Jvm.MethodName) ∈ gT := gin gin_2 (i := 159) rfl rfl
theorem q2_160 : Jvm.Cond.selects "HypergraphDualizer$Hypergraph" ({ cls := "HypergraphDualizer$Hypergraph", name := "eachHasPrivate", desc := "(II)Z" } : Jvm.MethodName) ({ cls := "HypergraphDualizer$Hypergraph", name := "eachHasPrivate", desc := "(II)Z" } : Jvm.MethodName) ∈ gT := gin gin_2 (i := 160) rfl rfl
theorem q2_161 : Jvm.Cond.code ({ cls := "HypergraphDualizer$Hypergraph", name := "eachHasPrivate", desc := "(II)Z" } : Jvm.MethodName) prog_7_method_24_code (4 : Nat) (Option.some Jvm.ClassFile.FieldType.boolean) ∈ gT := gin gin_2 (i := 161) rfl rfl
theorem q2_162 : Jvm.Cond.methodLink "HypergraphDualizer" (128 : Nat) ({ cls := "HypergraphDualizer$Search", name := "leastAbove", desc := "(I)I" } : Jvm.MethodName) ∈ gT := gin gin_2 (i := 162) rfl rfl
theorem q2_163 : Jvm.Cond.instanceMethod ({ cls := "HypergraphDualizer$Search", name := "leastAbove", desc := "(I)I" } : Jvm.MethodName) ∈ gT := gin gin_2 (i := 163) rfl rfl
theorem q2_164 : Jvm.Cond.selects "HypergraphDualizer$Search" ({ cls := "HypergraphDualizer$Search", name := "leastAbove", desc := "(I)I" } : Jvm.MethodName) ({ cls := "HypergraphDualizer$Search", name := "leastAbove", desc := "(I)I" } : Jvm.MethodName) ∈ gT := gin gin_2 (i := 164) rfl rfl
theorem q2_165 : Jvm.Cond.code ({ cls := "HypergraphDualizer$Search", name := "leastAbove", desc := "(I)I" } : Jvm.MethodName) prog_8_method_5_code (4 : Nat) (Option.some Jvm.ClassFile.FieldType.int) ∈ gT := gin gin_2 (i := 165) rfl rfl
theorem q2_166 : Jvm.Cond.methodLink "HypergraphDualizerLaw" (43 : Nat) ({ cls := "HypergraphDualizer", name := "undo", desc := "()I" } : Jvm.MethodName) ∈ gT := gin gin_2 (i := 166) rfl rfl
theorem q2_167 : Jvm.Cond.instanceMethod ({ cls := "HypergraphDualizer", name := "undo", desc := "()I" } : Jvm.MethodName) ∈ gT := gin gin_2 (i := 167) rfl rfl
theorem q2_168 : Jvm.Cond.selects "HypergraphDualizer" ({ cls := "HypergraphDualizer", name := "undo", desc := "()I" } : Jvm.MethodName) ({ cls := "HypergraphDualizer", name := "undo", desc := "()I" } : Jvm.MethodName) ∈ gT := gin gin_2 (i := 168) rfl rfl
theorem q2_169 : Jvm.Cond.code ({ cls := "HypergraphDualizer", name := "undo", desc := "()I" } : Jvm.MethodName) prog_1_method_9_code (1 : Nat) (Option.some Jvm.ClassFile.FieldType.int) ∈ gT := gin gin_2 (i := 169) rfl rfl
theorem q2_170 : Jvm.Cond.methodLink "HypergraphDualizer" (131 : Nat) ({ cls := "HypergraphDualizer$Hypergraph", name := "stepBack", desc := "()Z" } : Jvm.MethodName) ∈ gT := gin gin_2 (i := 170) rfl rfl
theorem q2_171 : Jvm.Cond.instanceMethod ({ cls := "HypergraphDualizer$Hypergraph", name := "stepBack", desc := "()Z" } : Jvm.MethodName) ∈ gT := gin gin_2 (i := 171) rfl rfl
theorem q2_172 : Jvm.Cond.selects "HypergraphDualizer$Hypergraph" ({ cls := "HypergraphDualizer$Hypergraph", name := "stepBack", desc := "()Z" } : Jvm.MethodName) ({ cls := "HypergraphDualizer$Hypergraph", name := "stepBack", desc := "()Z" } : Jvm.MethodName) ∈ gT := gin gin_2 (i := 172) rfl rfl
theorem q2_173 : Jvm.Cond.code ({ cls := "HypergraphDualizer$Hypergraph", name := "stepBack", desc := "()Z" } : Jvm.MethodName) prog_7_method_13_code (1 : Nat) (Option.some Jvm.ClassFile.FieldType.boolean) ∈ gT := gin gin_2 (i := 173) rfl rfl
theorem q2_174 : Jvm.Cond.methodLink "HypergraphDualizer$Hypergraph" (58 : Nat) ({ cls := "HypergraphDualizer$History", name := "moveBack", desc := "()Z" } : Jvm.MethodName) ∈ gT := gin gin_2 (i := 174) rfl rfl
theorem q2_175 : Jvm.Cond.instanceMethod ({ cls := "HypergraphDualizer$History", name := "moveBack", desc := "()Z" } : Jvm.MethodName) ∈ gT := gin gin_2 (i := 175) rfl rfl
theorem q2_176 : Jvm.Cond.selects "HypergraphDualizer$History" ({ cls := "HypergraphDualizer$History", name := "moveBack", desc := "()Z" } : Jvm.MethodName) ({ cls := "HypergraphDualizer$History", name := "moveBack", desc := "()Z" } : Jvm.MethodName) ∈ gT := gin gin_2 (i := 176) rfl rfl
theorem q2_177 : Jvm.Cond.code ({ cls := "HypergraphDualizer$History", name := "moveBack", desc := "()Z" } : Jvm.MethodName) prog_5_method_4_code (1 : Nat) (Option.some Jvm.ClassFile.FieldType.boolean) ∈ gT := gin gin_2 (i := 177) rfl rfl
theorem q2_178 : Jvm.Cond.methodLink "HypergraphDualizer$Hypergraph" (61 : Nat) ({ cls := "HypergraphDualizer$Hypergraph", name := "takePast", desc := "()V" } : Jvm.MethodName) ∈ gT := gin gin_2 (i := 178) rfl rfl
theorem q2_180 : Jvm.Cond.instanceMethod ({ cls := "HypergraphDualizer$Hypergraph", name := "takePast", desc := "()V" } : Jvm.MethodName) ∈ gT := gin gin_2 (i := 180) rfl rfl
theorem q2_181 : Jvm.Cond.code ({ cls := "HypergraphDualizer$Hypergraph", name := "takePast", desc := "()V" } : Jvm.MethodName) prog_7_method_15_code (1 : Nat) (Option.none : Option Jvm.ClassFile.FieldType) ∈ gT := gin gin_2 (i := 181) rfl rfl
theorem q2_182 : Jvm.Cond.methodLink "HypergraphDualizer$Hypergraph" (67 : Nat) ({ cls := "HypergraphDualizer$History", name := "copyTo", desc := "([I)I" } : Jvm.MethodName) ∈ gT := gin gin_2 (i := 182) rfl rfl
theorem q2_183 : Jvm.Cond.instanceMethod ({ cls := "HypergraphDualizer$History", name := "copyTo", desc := "([I)I" } : Jvm.MethodName) ∈ gT := gin gin_2 (i := 183) rfl rfl
theorem q2_184 : Jvm.Cond.selects "HypergraphDualizer$History" ({ cls := "HypergraphDualizer$History", name := "copyTo", desc := "([I)I" } : Jvm.MethodName) ({ cls := "HypergraphDualizer$History", name := "copyTo", desc := "([I)I" } : Jvm.MethodName) ∈ gT := gin gin_2 (i := 184) rfl rfl
theorem q2_185 : Jvm.Cond.code ({ cls := "HypergraphDualizer$History", name := "copyTo", desc := "([I)I" } : Jvm.MethodName) prog_5_method_6_code (2 : Nat) (Option.some Jvm.ClassFile.FieldType.int) ∈ gT := gin gin_2 (i := 185) rfl rfl
theorem q2_186 : Jvm.Cond.methodLink "HypergraphDualizerLaw" (47 : Nat) ({ cls := "HypergraphDualizer", name := "redo", desc := "()I" } : Jvm.MethodName) ∈ gT := gin gin_2 (i := 186) rfl rfl
theorem q2_187 : Jvm.Cond.instanceMethod ({ cls := "HypergraphDualizer", name := "redo", desc := "()I" } : Jvm.MethodName) ∈ gT := gin gin_2 (i := 187) rfl rfl
theorem q2_188 : Jvm.Cond.selects "HypergraphDualizer" ({ cls := "HypergraphDualizer", name := "redo", desc := "()I" } : Jvm.MethodName) ({ cls := "HypergraphDualizer", name := "redo", desc := "()I" } : Jvm.MethodName) ∈ gT := gin gin_2 (i := 188) rfl rfl
theorem q2_189 : Jvm.Cond.code ({ cls := "HypergraphDualizer", name := "redo", desc := "()I" } : Jvm.MethodName) prog_1_method_10_code (1 : Nat) (Option.some Jvm.ClassFile.FieldType.int) ∈ gT := gin gin_2 (i := 189) rfl rfl
theorem q2_190 : Jvm.Cond.methodLink "HypergraphDualizer" (143 : Nat) ({ cls := "HypergraphDualizer$Hypergraph", name := "stepForward", desc := "()Z" } : Jvm.MethodName) ∈ gT := gin gin_2 (i := 190) rfl rfl
theorem q2_191 : Jvm.Cond.instanceMethod ({ cls := "HypergraphDualizer$Hypergraph", name := "stepForward", desc := "()Z" } : Jvm.MethodName) ∈ gT := gin gin_2 (i := 191) rfl rfl
theorem q2_192 : Jvm.Cond.selects "HypergraphDualizer$Hypergraph" ({ cls := "HypergraphDualizer$Hypergraph", name := "stepForward", desc := "()Z" } : Jvm.MethodName) ({ cls := "HypergraphDualizer$Hypergraph", name := "stepForward", desc := "()Z" } : Jvm.MethodName) ∈ gT := gin gin_2 (i := 192) rfl rfl
theorem q2_193 : Jvm.Cond.code ({ cls := "HypergraphDualizer$Hypergraph", name := "stepForward", desc := "()Z" } : Jvm.MethodName) prog_7_method_14_code (1 : Nat) (Option.some Jvm.ClassFile.FieldType.boolean) ∈ gT := gin gin_2 (i := 193) rfl rfl
theorem q2_194 : Jvm.Cond.methodLink "HypergraphDualizer$Hypergraph" (64 : Nat) ({ cls := "HypergraphDualizer$History", name := "moveForward", desc := "()Z" } : Jvm.MethodName) ∈ gT := gin gin_2 (i := 194) rfl rfl
theorem q2_195 : Jvm.Cond.instanceMethod ({ cls := "HypergraphDualizer$History", name := "moveForward", desc := "()Z" } : Jvm.MethodName) ∈ gT := gin gin_2 (i := 195) rfl rfl
theorem q2_196 : Jvm.Cond.selects "HypergraphDualizer$History" ({ cls := "HypergraphDualizer$History", name := "moveForward", desc := "()Z" } : Jvm.MethodName) ({ cls := "HypergraphDualizer$History", name := "moveForward", desc := "()Z" } : Jvm.MethodName) ∈ gT := gin gin_2 (i := 196) rfl rfl
theorem q2_197 : Jvm.Cond.code ({ cls := "HypergraphDualizer$History", name := "moveForward", desc := "()Z" } : Jvm.MethodName) prog_5_method_5_code (1 : Nat) (Option.some Jvm.ClassFile.FieldType.boolean) ∈ gT := gin gin_2 (i := 197) rfl rfl
theorem q2_198 : Jvm.Cond.methodLink "HypergraphDualizerLaw" (51 : Nat) ({ cls := "HypergraphDualizer", name := "edge", desc := "(I)I" } : Jvm.MethodName) ∈ gT := gin gin_2 (i := 198) rfl rfl
theorem q2_199 : Jvm.Cond.instanceMethod ({ cls := "HypergraphDualizer", name := "edge", desc := "(I)I" } : Jvm.MethodName) ∈ gT := gin gin_2 (i := 199) rfl rfl
theorem q2_200 : Jvm.Cond.selects "HypergraphDualizer" ({ cls := "HypergraphDualizer", name := "edge", desc := "(I)I" } : Jvm.MethodName) ({ cls := "HypergraphDualizer", name := "edge", desc := "(I)I" } : Jvm.MethodName) ∈ gT := gin gin_2 (i := 200) rfl rfl
theorem q2_201 : Jvm.Cond.code ({ cls := "HypergraphDualizer", name := "edge", desc := "(I)I" } : Jvm.MethodName) prog_1_method_11_code (2 : Nat) (Option.some Jvm.ClassFile.FieldType.int) ∈ gT := gin gin_2 (i := 201) rfl rfl
theorem q2_202 : Jvm.Cond.methodLink "HypergraphDualizerLaw" (55 : Nat) ({ cls := "HypergraphDualizer", name := "value", desc := "(I)I" } : Jvm.MethodName) ∈ gT := gin gin_2 (i := 202) rfl rfl
theorem q2_203 : Jvm.Cond.instanceMethod ({ cls := "HypergraphDualizer", name := "value", desc := "(I)I" } : Jvm.MethodName) ∈ gT := gin gin_2 (i := 203) rfl rfl
theorem q2_204 : Jvm.Cond.selects "HypergraphDualizer" ({ cls := "HypergraphDualizer", name := "value", desc := "(I)I" } : Jvm.MethodName) ({ cls := "HypergraphDualizer", name := "value", desc := "(I)I" } : Jvm.MethodName) ∈ gT := gin gin_2 (i := 204) rfl rfl
theorem q2_205 : Jvm.Cond.code ({ cls := "HypergraphDualizer", name := "value", desc := "(I)I" } : Jvm.MethodName) prog_1_method_12_code (2 : Nat) (Option.some Jvm.ClassFile.FieldType.int) ∈ gT := gin gin_2 (i := 205) rfl rfl
theorem q2_206 : Jvm.Cond.methodLink "HypergraphDualizer" (149 : Nat) ({ cls := "HypergraphDualizer$Hypergraph", name := "smallestSize", desc := "()I" } : Jvm.MethodName) ∈ gT := gin gin_2 (i := 206) rfl rfl
theorem q2_207 : Jvm.Cond.instanceMethod ({ cls := "HypergraphDualizer$Hypergraph", name := "smallestSize", desc := "()I" } : Jvm.MethodName) ∈ gT := gin gin_2 (i := 207) rfl rfl
theorem q2_208 : Jvm.Cond.selects "HypergraphDualizer$Hypergraph" ({ cls := "HypergraphDualizer$Hypergraph", name := "smallestSize", desc := "()I" } : Jvm.MethodName) ({ cls := "HypergraphDualizer$Hypergraph", name := "smallestSize", desc := "()I" } : Jvm.MethodName) ∈ gT := gin gin_2 (i := 208) rfl rfl
theorem q2_209 : Jvm.Cond.code ({ cls := "HypergraphDualizer$Hypergraph", name := "smallestSize", desc := "()I" } : Jvm.MethodName) prog_7_method_20_code (3 : Nat) (Option.some Jvm.ClassFile.FieldType.int) ∈ gT := gin gin_2 (i := 209) rfl rfl
theorem q2_210 : Jvm.Cond.methodLink "HypergraphDualizer$Hypergraph" (86 : Nat) ({ cls := "java/lang/Math", name := "min", desc := "(II)I" } : Jvm.MethodName) ∈ gT := gin gin_2 (i := 210) rfl rfl
theorem q2_211 : Jvm.Cond.methodLink "HypergraphDualizer" (152 : Nat) ({ cls := "HypergraphDualizer$Hypergraph", name := "unionOf", desc := "(I)I" } : Jvm.MethodName) ∈ gT := gin gin_2 (i := 211) rfl rfl
theorem q2_212 : Jvm.Cond.instanceMethod ({ cls := "HypergraphDualizer$Hypergraph", name := "unionOf", desc := "(I)I" } : Jvm.MethodName) ∈ gT := gin gin_2 (i := 212) rfl rfl
theorem q2_213 : Jvm.Cond.selects "HypergraphDualizer$Hypergraph" ({ cls := "HypergraphDualizer$Hypergraph", name := "unionOf", desc := "(I)I" } : Jvm.MethodName) ({ cls := "HypergraphDualizer$Hypergraph", name := "unionOf", desc := "(I)I" } : Jvm.MethodName) ∈ gT := gin gin_2 (i := 213) rfl rfl
theorem q2_214 : Jvm.Cond.code ({ cls := "HypergraphDualizer$Hypergraph", name := "unionOf", desc := "(I)I" } : Jvm.MethodName) prog_7_method_19_code (4 : Nat) (Option.some Jvm.ClassFile.FieldType.int) ∈ gT := gin gin_2 (i := 214) rfl rfl
theorem q2_215 : Jvm.Cond.methodLink "HypergraphDualizerLaw" (59 : Nat) ({ cls := "HypergraphDualizer", name := "edgesOf", desc := "(I)I" } : Jvm.MethodName) ∈ gT := gin gin_2 (i := 215) rfl rfl
theorem q2_216 : Jvm.Cond.instanceMethod ({ cls := "HypergraphDualizer", name := "edgesOf", desc := "(I)I" } : Jvm.MethodName) ∈ gT := gin gin_2 (i := 216) rfl rfl
theorem q2_217 : Jvm.Cond.selects "HypergraphDualizer" ({ cls := "HypergraphDualizer", name := "edgesOf", desc := "(I)I" } : Jvm.MethodName) ({ cls := "HypergraphDualizer", name := "edgesOf", desc := "(I)I" } : Jvm.MethodName) ∈ gT := gin gin_2 (i := 217) rfl rfl
theorem q2_218 : Jvm.Cond.code ({ cls := "HypergraphDualizer", name := "edgesOf", desc := "(I)I" } : Jvm.MethodName) prog_1_method_13_code (2 : Nat) (Option.some Jvm.ClassFile.FieldType.int) ∈ gT := gin gin_2 (i := 218) rfl rfl
theorem q2_219 : Jvm.Cond.methodLink "HypergraphDualizerLaw" (63 : Nat) ({ cls := "HypergraphDualizer", name := "setWeight", desc := "(II)I" } : Jvm.MethodName) ∈ gT := gin gin_2 (i := 219) rfl rfl
theorem q2_220 : Jvm.Cond.instanceMethod ({ cls := "HypergraphDualizer", name := "setWeight", desc := "(II)I" } : Jvm.MethodName) ∈ gT := gin gin_2 (i := 220) rfl rfl
theorem q2_221 : Jvm.Cond.selects "HypergraphDualizer" ({ cls := "HypergraphDualizer", name := "setWeight", desc := "(II)I" } : Jvm.MethodName) ({ cls := "HypergraphDualizer", name := "setWeight", desc := "(II)I" } : Jvm.MethodName) ∈ gT := gin gin_2 (i := 221) rfl rfl
theorem q2_222 : Jvm.Cond.code ({ cls := "HypergraphDualizer", name := "setWeight", desc := "(II)I" } : Jvm.MethodName) prog_1_method_14_code (4 : Nat) (Option.some Jvm.ClassFile.FieldType.int) ∈ gT := gin gin_2 (i := 222) rfl rfl
theorem q2_223 : Jvm.Cond.methodLink "HypergraphDualizerLaw" (68 : Nat) ({ cls := "HypergraphDualizer", name := "missed", desc := "(I)I" } : Jvm.MethodName) ∈ gT := gin gin_2 (i := 223) rfl rfl
theorem q2_224 : Jvm.Cond.instanceMethod ({ cls := "HypergraphDualizer", name := "missed", desc := "(I)I" } : Jvm.MethodName) ∈ gT := gin gin_2 (i := 224) rfl rfl
theorem q2_225 : Jvm.Cond.selects "HypergraphDualizer" ({ cls := "HypergraphDualizer", name := "missed", desc := "(I)I" } : Jvm.MethodName) ({ cls := "HypergraphDualizer", name := "missed", desc := "(I)I" } : Jvm.MethodName) ∈ gT := gin gin_2 (i := 225) rfl rfl
theorem q2_226 : Jvm.Cond.code ({ cls := "HypergraphDualizer", name := "missed", desc := "(I)I" } : Jvm.MethodName) prog_1_method_15_code (2 : Nat) (Option.some Jvm.ClassFile.FieldType.int) ∈ gT := gin gin_2 (i := 226) rfl rfl
theorem q2_227 : Jvm.Cond.methodLink "HypergraphDualizer" (158 : Nat) ({ cls := "HypergraphDualizer$Hypergraph", name := "missedBy", desc := "(I)I" } : Jvm.MethodName) ∈ gT := gin gin_2 (i := 227) rfl rfl
theorem q2_228 : Jvm.Cond.instanceMethod ({ cls := "HypergraphDualizer$Hypergraph", name := "missedBy", desc := "(I)I" } : Jvm.MethodName) ∈ gT := gin gin_2 (i := 228) rfl rfl
theorem q2_229 : Jvm.Cond.selects "HypergraphDualizer$Hypergraph" ({ cls := "HypergraphDualizer$Hypergraph", name := "missedBy", desc := "(I)I" } : Jvm.MethodName) ({ cls := "HypergraphDualizer$Hypergraph", name := "missedBy", desc := "(I)I" } : Jvm.MethodName) ∈ gT := gin gin_2 (i := 229) rfl rfl
theorem q2_230 : Jvm.Cond.code ({ cls := "HypergraphDualizer$Hypergraph", name := "missedBy", desc := "(I)I" } : Jvm.MethodName) prog_7_method_22_code (4 : Nat) (Option.some Jvm.ClassFile.FieldType.int) ∈ gT := gin gin_2 (i := 230) rfl rfl
theorem q2_231 : Jvm.Cond.methodLink "HypergraphDualizer$Hypergraph" (92 : Nat) ({ cls := "HypergraphDualizer$Hypergraph", name := "allEdges", desc := "()I" } : Jvm.MethodName) ∈ gT := gin gin_2 (i := 231) rfl rfl
theorem q2_232 : Jvm.Cond.methodLink "HypergraphDualizerLaw" (72 : Nat) ({ cls := "HypergraphDualizer", name := "privateEdges", desc := "(II)I" } : Jvm.MethodName) ∈ gT := gin gin_2 (i := 232) rfl rfl
theorem q2_233 : Jvm.Cond.instanceMethod ({ cls := "HypergraphDualizer", name := "privateEdges", desc := "(II)I" } : Jvm.MethodName) ∈ gT := gin gin_2 (i := 233) rfl rfl
theorem q2_234 : Jvm.Cond.selects "HypergraphDualizer" ({ cls := "HypergraphDualizer", name := "privateEdges", desc := "(II)I" } : Jvm.MethodName) ({ cls := "HypergraphDualizer", name := "privateEdges", desc := "(II)I" } : Jvm.MethodName) ∈ gT := gin gin_2 (i := 234) rfl rfl
theorem q2_235 : Jvm.Cond.code ({ cls := "HypergraphDualizer", name := "privateEdges", desc := "(II)I" } : Jvm.MethodName) prog_1_method_16_code (3 : Nat) (Option.some Jvm.ClassFile.FieldType.int) ∈ gT := gin gin_2 (i := 235) rfl rfl
theorem q2_236 : Jvm.Cond.methodLink "HypergraphDualizer" (161 : Nat) ({ cls := "HypergraphDualizer", name := "has", desc := "(II)Z" } : Jvm.MethodName) ∈ gT := gin gin_2 (i := 236) rfl rfl
theorem q2_237 : Jvm.Cond.methodLink "HypergraphDualizer" (165 : Nat) ({ cls := "HypergraphDualizer$Hypergraph", name := "hitOnceBy", desc := "(I)I" } : Jvm.MethodName) ∈ gT := gin gin_2 (i := 237) rfl rfl
theorem q2_238 : Jvm.Cond.instanceMethod ({ cls := "HypergraphDualizer$Hypergraph", name := "hitOnceBy", desc := "(I)I" } : Jvm.MethodName) ∈ gT := gin gin_2 (i := 238) rfl rfl
theorem q2_239 : Jvm.Cond.selects "HypergraphDualizer$Hypergraph" ({ cls := "HypergraphDualizer$Hypergraph", name := "hitOnceBy", desc := "(I)I" } : Jvm.MethodName) ({ cls := "HypergraphDualizer$Hypergraph", name := "hitOnceBy", desc := "(I)I" } : Jvm.MethodName) ∈ gT := gin gin_2 (i := 239) rfl rfl
theorem q3_0 : Jvm.Cond.code ({ cls := "HypergraphDualizer$Hypergraph", name := "hitOnceBy", desc := "(I)I" } : Jvm.MethodName) prog_7_method_23_code (5 : Nat) (Option.some Jvm.ClassFile.FieldType.int) ∈ gT := gin gin_3 (i := 0) rfl rfl
theorem q3_1 : Jvm.Cond.methodLink "HypergraphDualizerLaw" (76 : Nat) ({ cls := "HypergraphDualizer", name := "kindOf", desc := "(I)I" } : Jvm.MethodName) ∈ gT := gin gin_3 (i := 1) rfl rfl
theorem q3_2 : Jvm.Cond.instanceMethod ({ cls := "HypergraphDualizer", name := "kindOf", desc := "(I)I" } : Jvm.MethodName) ∈ gT := gin gin_3 (i := 2) rfl rfl
theorem q3_3 : Jvm.Cond.selects "HypergraphDualizer" ({ cls := "HypergraphDualizer", name := "kindOf", desc := "(I)I" } : Jvm.MethodName) ({ cls := "HypergraphDualizer", name := "kindOf", desc := "(I)I" } : Jvm.MethodName) ∈ gT := gin gin_3 (i := 3) rfl rfl
theorem q3_4 : Jvm.Cond.code ({ cls := "HypergraphDualizer", name := "kindOf", desc := "(I)I" } : Jvm.MethodName) prog_1_method_17_code (2 : Nat) (Option.some Jvm.ClassFile.FieldType.int) ∈ gT := gin gin_3 (i := 4) rfl rfl
theorem q3_5 : Jvm.Cond.methodLink "HypergraphDualizer" (168 : Nat) ({ cls := "HypergraphDualizer$Hypergraph", name := "isAnswer", desc := "(I)Z" } : Jvm.MethodName) ∈ gT := gin gin_3 (i := 5) rfl rfl
theorem q3_6 : Jvm.Cond.instanceMethod ({ cls := "HypergraphDualizer$Hypergraph", name := "isAnswer", desc := "(I)Z" } : Jvm.MethodName) ∈ gT := gin gin_3 (i := 6) rfl rfl
theorem q3_7 : Jvm.Cond.selects "HypergraphDualizer$Hypergraph" ({ cls := "HypergraphDualizer$Hypergraph", name := "isAnswer", desc := "(I)Z" } : Jvm.MethodName) ({ cls := "HypergraphDualizer$Hypergraph", name := "isAnswer", desc := "(I)Z" } : Jvm.MethodName) ∈ gT := gin gin_3 (i := 7) rfl rfl
theorem q3_8 : Jvm.Cond.code ({ cls := "HypergraphDualizer$Hypergraph", name := "isAnswer", desc := "(I)Z" } : Jvm.MethodName) prog_7_method_25_code (2 : Nat) (Option.some Jvm.ClassFile.FieldType.boolean) ∈ gT := gin gin_3 (i := 8) rfl rfl
theorem q3_9 : Jvm.Cond.methodLink "HypergraphDualizer$Hypergraph" (96 : Nat) ({ cls := "HypergraphDualizer$Hypergraph", name := "missedBy", desc := "(I)I" } : Jvm.MethodName) ∈ gT := gin gin_3 (i := 9) rfl rfl
theorem q3_10 : Jvm.Cond.methodLink "HypergraphDualizer$Hypergraph" (99 : Nat) ({ cls := "HypergraphDualizer$Hypergraph", name := "hitOnceBy", desc := "(I)I" } : Jvm.MethodName) ∈ gT := gin gin_3 (i := 10) rfl rfl
theorem q3_11 : Jvm.Cond.methodLink "HypergraphDualizer$Hypergraph" (102 : Nat) ({ cls := "HypergraphDualizer$Hypergraph", name := "eachHasPrivate", desc := "(II)Z" } : Jvm.MethodName) ∈ gT := gin gin_3 (i := 11) rfl rfl
theorem q3_12 : Jvm.Cond.methodLink "HypergraphDualizerLaw" (80 : Nat) ({ cls := "HypergraphDualizer", name := "shrink", desc := "(I)I" } : Jvm.MethodName) ∈ gT := gin gin_3 (i := 12) rfl rfl
theorem q3_13 : Jvm.Cond.instanceMethod ({ cls := "HypergraphDualizer", name := "shrink", desc := "(I)I" } : Jvm.MethodName) ∈ gT := gin gin_3 (i := 13) rfl rfl
theorem q3_14 : Jvm.Cond.selects "HypergraphDualizer" ({ cls := "HypergraphDualizer", name := "shrink", desc := "(I)I" } : Jvm.MethodName) ({ cls := "HypergraphDualizer", name := "shrink", desc := "(I)I" } : Jvm.MethodName) ∈ gT := gin gin_3 (i := 14) rfl rfl
theorem q3_15 : Jvm.Cond.code ({ cls := "HypergraphDualizer", name := "shrink", desc := "(I)I" } : Jvm.MethodName) prog_1_method_18_code (5 : Nat) (Option.some Jvm.ClassFile.FieldType.int) ∈ gT := gin gin_3 (i := 15) rfl rfl
theorem q3_16 : Jvm.Cond.methodLink "HypergraphDualizerLaw" (84 : Nat) ({ cls := "HypergraphDualizer", name := "grow", desc := "(I)I" } : Jvm.MethodName) ∈ gT := gin gin_3 (i := 16) rfl rfl
theorem q3_17 : Jvm.Cond.instanceMethod ({ cls := "HypergraphDualizer", name := "grow", desc := "(I)I" } : Jvm.MethodName) ∈ gT := gin gin_3 (i := 17) rfl rfl
theorem q3_18 : Jvm.Cond.selects "HypergraphDualizer" ({ cls := "HypergraphDualizer", name := "grow", desc := "(I)I" } : Jvm.MethodName) ({ cls := "HypergraphDualizer", name := "grow", desc := "(I)I" } : Jvm.MethodName) ∈ gT := gin gin_3 (i := 18) rfl rfl
theorem q3_19 : Jvm.Cond.code ({ cls := "HypergraphDualizer", name := "grow", desc := "(I)I" } : Jvm.MethodName) prog_1_method_19_code (5 : Nat) (Option.some Jvm.ClassFile.FieldType.int) ∈ gT := gin gin_3 (i := 19) rfl rfl
theorem q3_20 : Jvm.Cond.methodLink "HypergraphDualizer" (171 : Nat) ({ cls := "HypergraphDualizer$Hypergraph", name := "busiestVertex", desc := "(I)I" } : Jvm.MethodName) ∈ gT := gin gin_3 (i := 20) rfl rfl
theorem q3_21 : Jvm.Cond.instanceMethod ({ cls := "HypergraphDualizer$Hypergraph", name := "busiestVertex", desc := "(I)I" } : Jvm.MethodName) ∈ gT := gin gin_3 (i := 21) rfl rfl
theorem q3_22 : Jvm.Cond.selects "HypergraphDualizer$Hypergraph" ({ cls := "HypergraphDualizer$Hypergraph", name := "busiestVertex", desc := "(I)I" } : Jvm.MethodName) ({ cls := "HypergraphDualizer$Hypergraph", name := "busiestVertex", desc := "(I)I" } : Jvm.MethodName) ∈ gT := gin gin_3 (i := 22) rfl rfl
theorem q3_23 : Jvm.Cond.code ({ cls := "HypergraphDualizer$Hypergraph", name := "busiestVertex", desc := "(I)I" } : Jvm.MethodName) prog_7_method_26_code (6 : Nat) (Option.some Jvm.ClassFile.FieldType.int) ∈ gT := gin gin_3 (i := 23) rfl rfl
theorem q3_24 : Jvm.Cond.methodLink "HypergraphDualizerLaw" (88 : Nat) ({ cls := "HypergraphDualizer", name := "answerCount", desc := "()I" } : Jvm.MethodName) ∈ gT := gin gin_3 (i := 24) rfl rfl
theorem q3_25 : Jvm.Cond.instanceMethod ({ cls := "HypergraphDualizer", name := "answerCount", desc := "()I" } : Jvm.MethodName) ∈ gT := gin gin_3 (i := 25) rfl rfl
theorem q3_26 : Jvm.Cond.selects "HypergraphDualizer" ({ cls := "HypergraphDualizer", name := "answerCount", desc := "()I" } : Jvm.MethodName) ({ cls := "HypergraphDualizer", name := "answerCount", desc := "()I" } : Jvm.MethodName) ∈ gT := gin gin_3 (i := 26) rfl rfl
theorem q3_27 : Jvm.Cond.code ({ cls := "HypergraphDualizer", name := "answerCount", desc := "()I" } : Jvm.MethodName) prog_1_method_20_code (1 : Nat) (Option.some Jvm.ClassFile.FieldType.int) ∈ gT := gin gin_3 (i := 27) rfl rfl
theorem q3_28 : Jvm.Cond.methodLink "HypergraphDualizerLaw" (92 : Nat) ({ cls := "HypergraphDualizer", name := "answer", desc := "(I)I" } : Jvm.MethodName) ∈ gT := gin gin_3 (i := 28) rfl rfl
theorem q3_29 : Jvm.Cond.instanceMethod ({ cls := "HypergraphDualizer", name := "answer", desc := "(I)I" } : Jvm.MethodName) ∈ gT := gin gin_3 (i := 29) rfl rfl
theorem q3_30 : Jvm.Cond.selects "HypergraphDualizer" ({ cls := "HypergraphDualizer", name := "answer", desc := "(I)I" } : Jvm.MethodName) ({ cls := "HypergraphDualizer", name := "answer", desc := "(I)I" } : Jvm.MethodName) ∈ gT := gin gin_3 (i := 30) rfl rfl
theorem q3_31 : Jvm.Cond.code ({ cls := "HypergraphDualizer", name := "answer", desc := "(I)I" } : Jvm.MethodName) prog_1_method_21_code (3 : Nat) (Option.some Jvm.ClassFile.FieldType.int) ∈ gT := gin gin_3 (i := 31) rfl rfl
theorem q3_32 : Jvm.Cond.methodLink "HypergraphDualizer" (174 : Nat) ({ cls := "HypergraphDualizer", name := "problemWithPlace", desc := "(I)I" } : Jvm.MethodName) ∈ gT := gin gin_3 (i := 32) rfl rfl
theorem q3_34 : Jvm.Cond.instanceMethod ({ cls := "HypergraphDualizer", name := "problemWithPlace", desc := "(I)I" } : Jvm.MethodName) ∈ gT := gin gin_3 (i := 34) rfl rfl
theorem q3_35 : Jvm.Cond.code ({ cls := "HypergraphDualizer", name := "problemWithPlace", desc := "(I)I" } : Jvm.MethodName) prog_1_method_29_code (2 : Nat) (Option.some Jvm.ClassFile.FieldType.int) ∈ gT := gin gin_3 (i := 35) rfl rfl
theorem q3_36 : Jvm.Cond.methodLink "HypergraphDualizerLaw" (96 : Nat) ({ cls := "HypergraphDualizer", name := "delay", desc := "(I)I" } : Jvm.MethodName) ∈ gT := gin gin_3 (i := 36) rfl rfl
theorem q3_37 : Jvm.Cond.instanceMethod ({ cls := "HypergraphDualizer", name := "delay", desc := "(I)I" } : Jvm.MethodName) ∈ gT := gin gin_3 (i := 37) rfl rfl
theorem q3_38 : Jvm.Cond.selects "HypergraphDualizer" ({ cls := "HypergraphDualizer", name := "delay", desc := "(I)I" } : Jvm.MethodName) ({ cls := "HypergraphDualizer", name := "delay", desc := "(I)I" } : Jvm.MethodName) ∈ gT := gin gin_3 (i := 38) rfl rfl
theorem q3_39 : Jvm.Cond.code ({ cls := "HypergraphDualizer", name := "delay", desc := "(I)I" } : Jvm.MethodName) prog_1_method_22_code (3 : Nat) (Option.some Jvm.ClassFile.FieldType.int) ∈ gT := gin gin_3 (i := 39) rfl rfl
theorem q3_40 : Jvm.Cond.methodLink "HypergraphDualizerLaw" (100 : Nat) ({ cls := "HypergraphDualizer", name := "visits", desc := "()I" } : Jvm.MethodName) ∈ gT := gin gin_3 (i := 40) rfl rfl
theorem q3_41 : Jvm.Cond.instanceMethod ({ cls := "HypergraphDualizer", name := "visits", desc := "()I" } : Jvm.MethodName) ∈ gT := gin gin_3 (i := 41) rfl rfl
theorem q3_42 : Jvm.Cond.selects "HypergraphDualizer" ({ cls := "HypergraphDualizer", name := "visits", desc := "()I" } : Jvm.MethodName) ({ cls := "HypergraphDualizer", name := "visits", desc := "()I" } : Jvm.MethodName) ∈ gT := gin gin_3 (i := 42) rfl rfl
theorem q3_43 : Jvm.Cond.code ({ cls := "HypergraphDualizer", name := "visits", desc := "()I" } : Jvm.MethodName) prog_1_method_23_code (1 : Nat) (Option.some Jvm.ClassFile.FieldType.int) ∈ gT := gin gin_3 (i := 43) rfl rfl
theorem q3_44 : Jvm.Cond.methodLink "HypergraphDualizerLaw" (104 : Nat) ({ cls := "HypergraphDualizer", name := "next", desc := "(I)I" } : Jvm.MethodName) ∈ gT := gin gin_3 (i := 44) rfl rfl
theorem q3_45 : Jvm.Cond.instanceMethod ({ cls := "HypergraphDualizer", name := "next", desc := "(I)I" } : Jvm.MethodName) ∈ gT := gin gin_3 (i := 45) rfl rfl
theorem q3_46 : Jvm.Cond.selects "HypergraphDualizer" ({ cls := "HypergraphDualizer", name := "next", desc := "(I)I" } : Jvm.MethodName) ({ cls := "HypergraphDualizer", name := "next", desc := "(I)I" } : Jvm.MethodName) ∈ gT := gin gin_3 (i := 46) rfl rfl
theorem q3_47 : Jvm.Cond.code ({ cls := "HypergraphDualizer", name := "next", desc := "(I)I" } : Jvm.MethodName) prog_1_method_24_code (2 : Nat) (Option.some Jvm.ClassFile.FieldType.int) ∈ gT := gin gin_3 (i := 47) rfl rfl
theorem q3_48 : Jvm.Cond.methodLink "HypergraphDualizerLaw" (108 : Nat) ({ cls := "HypergraphDualizer", name := "answersOfSize", desc := "(I)I" } : Jvm.MethodName) ∈ gT := gin gin_3 (i := 48) rfl rfl
theorem q3_49 : Jvm.Cond.instanceMethod ({ cls := "HypergraphDualizer", name := "answersOfSize", desc := "(I)I" } : Jvm.MethodName) ∈ gT := gin gin_3 (i := 49) rfl rfl
theorem q3_50 : Jvm.Cond.selects "HypergraphDualizer" ({ cls := "HypergraphDualizer", name := "answersOfSize", desc := "(I)I" } : Jvm.MethodName) ({ cls := "HypergraphDualizer", name := "answersOfSize", desc := "(I)I" } : Jvm.MethodName) ∈ gT := gin gin_3 (i := 50) rfl rfl
theorem q3_51 : Jvm.Cond.code ({ cls := "HypergraphDualizer", name := "answersOfSize", desc := "(I)I" } : Jvm.MethodName) prog_1_method_25_code (2 : Nat) (Option.some Jvm.ClassFile.FieldType.int) ∈ gT := gin gin_3 (i := 51) rfl rfl
theorem q3_52 : Jvm.Cond.methodLink "HypergraphDualizer" (186 : Nat) ({ cls := "HypergraphDualizer$Search", name := "countOfSize", desc := "(I)I" } : Jvm.MethodName) ∈ gT := gin gin_3 (i := 52) rfl rfl
theorem q3_53 : Jvm.Cond.instanceMethod ({ cls := "HypergraphDualizer$Search", name := "countOfSize", desc := "(I)I" } : Jvm.MethodName) ∈ gT := gin gin_3 (i := 53) rfl rfl
theorem q3_54 : Jvm.Cond.selects "HypergraphDualizer$Search" ({ cls := "HypergraphDualizer$Search", name := "countOfSize", desc := "(I)I" } : Jvm.MethodName) ({ cls := "HypergraphDualizer$Search", name := "countOfSize", desc := "(I)I" } : Jvm.MethodName) ∈ gT := gin gin_3 (i := 54) rfl rfl
theorem q3_55 : Jvm.Cond.code ({ cls := "HypergraphDualizer$Search", name := "countOfSize", desc := "(I)I" } : Jvm.MethodName) prog_8_method_6_code (4 : Nat) (Option.some Jvm.ClassFile.FieldType.int) ∈ gT := gin gin_3 (i := 55) rfl rfl
theorem q3_56 : Jvm.Cond.methodLink "HypergraphDualizer$Search" (71 : Nat) ({ cls := "java/lang/Integer", name := "bitCount", desc := "(I)I" } : Jvm.MethodName) ∈ gT := gin gin_3 (i := 56) rfl rfl
theorem q3_57 : Jvm.Cond.methodLink "HypergraphDualizerLaw" (112 : Nat) ({ cls := "HypergraphDualizer", name := "answersWith", desc := "(I)I" } : Jvm.MethodName) ∈ gT := gin gin_3 (i := 57) rfl rfl
theorem q3_58 : Jvm.Cond.instanceMethod ({ cls := "HypergraphDualizer", name := "answersWith", desc := "(I)I" } : Jvm.MethodName) ∈ gT := gin gin_3 (i := 58) rfl rfl
theorem q3_59 : Jvm.Cond.selects "HypergraphDualizer" ({ cls := "HypergraphDualizer", name := "answersWith", desc := "(I)I" } : Jvm.MethodName) ({ cls := "HypergraphDualizer", name := "answersWith", desc := "(I)I" } : Jvm.MethodName) ∈ gT := gin gin_3 (i := 59) rfl rfl
theorem q3_60 : Jvm.Cond.code ({ cls := "HypergraphDualizer", name := "answersWith", desc := "(I)I" } : Jvm.MethodName) prog_1_method_26_code (2 : Nat) (Option.some Jvm.ClassFile.FieldType.int) ∈ gT := gin gin_3 (i := 60) rfl rfl
theorem q3_61 : Jvm.Cond.methodLink "HypergraphDualizer" (189 : Nat) ({ cls := "HypergraphDualizer$Search", name := "countWith", desc := "(I)I" } : Jvm.MethodName) ∈ gT := gin gin_3 (i := 61) rfl rfl
theorem q3_62 : Jvm.Cond.instanceMethod ({ cls := "HypergraphDualizer$Search", name := "countWith", desc := "(I)I" } : Jvm.MethodName) ∈ gT := gin gin_3 (i := 62) rfl rfl
theorem q3_63 : Jvm.Cond.selects "HypergraphDualizer$Search" ({ cls := "HypergraphDualizer$Search", name := "countWith", desc := "(I)I" } : Jvm.MethodName) ({ cls := "HypergraphDualizer$Search", name := "countWith", desc := "(I)I" } : Jvm.MethodName) ∈ gT := gin gin_3 (i := 63) rfl rfl
theorem q3_64 : Jvm.Cond.code ({ cls := "HypergraphDualizer$Search", name := "countWith", desc := "(I)I" } : Jvm.MethodName) prog_8_method_7_code (4 : Nat) (Option.some Jvm.ClassFile.FieldType.int) ∈ gT := gin gin_3 (i := 64) rfl rfl
theorem q3_65 : Jvm.Cond.methodLink "HypergraphDualizerLaw" (116 : Nat) ({ cls := "HypergraphDualizer", name := "lightest", desc := "(I)I" } : Jvm.MethodName) ∈ gT := gin gin_3 (i := 65) rfl rfl
theorem q3_66 : Jvm.Cond.instanceMethod ({ cls := "HypergraphDualizer", name := "lightest", desc := "(I)I" } : Jvm.MethodName) ∈ gT := gin gin_3 (i := 66) rfl rfl
theorem q3_67 : Jvm.Cond.selects "HypergraphDualizer" ({ cls := "HypergraphDualizer", name := "lightest", desc := "(I)I" } : Jvm.MethodName) ({ cls := "HypergraphDualizer", name := "lightest", desc := "(I)I" } : Jvm.MethodName) ∈ gT := gin gin_3 (i := 67) rfl rfl
theorem q3_68 : Jvm.Cond.code ({ cls := "HypergraphDualizer", name := "lightest", desc := "(I)I" } : Jvm.MethodName) prog_1_method_27_code (3 : Nat) (Option.some Jvm.ClassFile.FieldType.int) ∈ gT := gin gin_3 (i := 68) rfl rfl
theorem q3_69 : Jvm.Cond.methodLink "HypergraphDualizer" (192 : Nat) ({ cls := "HypergraphDualizer$Weights", name := "lightestOf", desc := "(LHypergraphDualizer$Search;I)I" } : Jvm.MethodName) ∈ gT := gin gin_3 (i := 69) rfl rfl
theorem q3_70 : Jvm.Cond.instanceMethod ({ cls := "HypergraphDualizer$Weights", name := "lightestOf", desc := "(LHypergraphDualizer$Search;I)I" } : Jvm.MethodName) ∈ gT := gin gin_3 (i := 70) rfl rfl
theorem q3_71 : Jvm.Cond.selects "HypergraphDualizer$Weights" ({ cls := "HypergraphDualizer$Weights", name := "lightestOf", desc := "(LHypergraphDualizer$Search;I)I" } : Jvm.MethodName) ({ cls := "HypergraphDualizer$Weights", name := "lightestOf", desc := "(LHypergraphDualizer$Search;I)I" } : Jvm.MethodName) ∈ gT := gin gin_3 (i := 71) rfl rfl
theorem q3_72 : Jvm.Cond.code ({ cls := "HypergraphDualizer$Weights", name := "lightestOf", desc := "(LHypergraphDualizer$Search;I)I" } : Jvm.MethodName) prog_9_method_4_code (7 : Nat) (Option.some Jvm.ClassFile.FieldType.int) ∈ gT := gin gin_3 (i := 72) rfl rfl
theorem q3_73 : Jvm.Cond.methodLink "HypergraphDualizer$Weights" (31 : Nat) ({ cls := "HypergraphDualizer$Weights", name := "sumOf", desc := "(I)I" } : Jvm.MethodName) ∈ gT := gin gin_3 (i := 73) rfl rfl
theorem q3_74 : Jvm.Cond.instanceMethod ({ cls := "HypergraphDualizer$Weights", name := "sumOf", desc := "(I)I" } : Jvm.MethodName) ∈ gT := gin gin_3 (i := 74) rfl rfl
theorem q3_75 : Jvm.Cond.selects "HypergraphDualizer$Weights" ({ cls := "HypergraphDualizer$Weights", name := "sumOf", desc := "(I)I" } : Jvm.MethodName) ({ cls := "HypergraphDualizer$Weights", name := "sumOf", desc := "(I)I" } : Jvm.MethodName) ∈ gT := gin gin_3 (i := 75) rfl rfl
theorem q3_76 : Jvm.Cond.code ({ cls := "HypergraphDualizer$Weights", name := "sumOf", desc := "(I)I" } : Jvm.MethodName) prog_9_method_3_code (4 : Nat) (Option.some Jvm.ClassFile.FieldType.int) ∈ gT := gin gin_3 (i := 76) rfl rfl
theorem q3_78 : Jvm.Cond.constant "HypergraphDualizer$Weights" (35 : Nat) (22724608 : Int32) ∈ gT := gin gin_3 (i := 78) rfl rfl
theorem q3_79 : Jvm.Cond.methodLink "HypergraphDualizer$Weights" (36 : Nat) ({ cls := "HypergraphDualizer$Weights", name := "keysUpTo", desc := "(II)I" } : Jvm.MethodName) ∈ gT := gin gin_3 (i := 79) rfl rfl
theorem q3_81 : Jvm.Cond.instanceMethod ({ cls := "HypergraphDualizer$Weights", name := "keysUpTo", desc := "(II)I" } : Jvm.MethodName) ∈ gT := gin gin_3 (i := 81) rfl rfl
theorem q3_82 : Jvm.Cond.code ({ cls := "HypergraphDualizer$Weights", name := "keysUpTo", desc := "(II)I" } : Jvm.MethodName) prog_9_method_5_code (5 : Nat) (Option.some Jvm.ClassFile.FieldType.int) ∈ gT := gin gin_3 (i := 82) rfl rfl
theorem q3_83 : Jvm.Cond.methodLink "HypergraphDualizerLaw" (120 : Nat) ({ cls := "HypergraphDualizer", name := "weightOf", desc := "(I)I" } : Jvm.MethodName) ∈ gT := gin gin_3 (i := 83) rfl rfl
theorem q3_84 : Jvm.Cond.instanceMethod ({ cls := "HypergraphDualizer", name := "weightOf", desc := "(I)I" } : Jvm.MethodName) ∈ gT := gin gin_3 (i := 84) rfl rfl
theorem q3_85 : Jvm.Cond.selects "HypergraphDualizer" ({ cls := "HypergraphDualizer", name := "weightOf", desc := "(I)I" } : Jvm.MethodName) ({ cls := "HypergraphDualizer", name := "weightOf", desc := "(I)I" } : Jvm.MethodName) ∈ gT := gin gin_3 (i := 85) rfl rfl
theorem q3_86 : Jvm.Cond.code ({ cls := "HypergraphDualizer", name := "weightOf", desc := "(I)I" } : Jvm.MethodName) prog_1_method_28_code (2 : Nat) (Option.some Jvm.ClassFile.FieldType.int) ∈ gT := gin gin_3 (i := 86) rfl rfl
theorem q3_87 : Jvm.Cond.methodLink "HypergraphDualizer" (196 : Nat) ({ cls := "HypergraphDualizer$Weights", name := "sumOf", desc := "(I)I" } : Jvm.MethodName) ∈ gT := gin gin_3 (i := 87) rfl rfl
theorem q3_88 : Jvm.Cond.methodLink "HypergraphDualizerLaw" (124 : Nat) ({ cls := "HypergraphDualizer", name := "hittingSets", desc := "(I)I" } : Jvm.MethodName) ∈ gT := gin gin_3 (i := 88) rfl rfl
theorem q3_89 : Jvm.Cond.instanceMethod ({ cls := "HypergraphDualizer", name := "hittingSets", desc := "(I)I" } : Jvm.MethodName) ∈ gT := gin gin_3 (i := 89) rfl rfl
theorem q3_90 : Jvm.Cond.selects "HypergraphDualizer" ({ cls := "HypergraphDualizer", name := "hittingSets", desc := "(I)I" } : Jvm.MethodName) ({ cls := "HypergraphDualizer", name := "hittingSets", desc := "(I)I" } : Jvm.MethodName) ∈ gT := gin gin_3 (i := 90) rfl rfl
theorem q3_91 : Jvm.Cond.code ({ cls := "HypergraphDualizer", name := "hittingSets", desc := "(I)I" } : Jvm.MethodName) prog_1_method_30_code (2 : Nat) (Option.some Jvm.ClassFile.FieldType.int) ∈ gT := gin gin_3 (i := 91) rfl rfl
theorem q3_92 : Jvm.Cond.methodLink "HypergraphDualizer" (199 : Nat) ({ cls := "HypergraphDualizer$HittingCounts", name := "countOfAll", desc := "()I" } : Jvm.MethodName) ∈ gT := gin gin_3 (i := 92) rfl rfl
theorem q3_93 : Jvm.Cond.instanceMethod ({ cls := "HypergraphDualizer$HittingCounts", name := "countOfAll", desc := "()I" } : Jvm.MethodName) ∈ gT := gin gin_3 (i := 93) rfl rfl
theorem q3_94 : Jvm.Cond.selects "HypergraphDualizer$HittingCounts" ({ cls := "HypergraphDualizer$HittingCounts", name := "countOfAll", desc := "()I" } : Jvm.MethodName) ({ cls := "HypergraphDualizer$HittingCounts", name := "countOfAll", desc := "()I" } : Jvm.MethodName) ∈ gT := gin gin_3 (i := 94) rfl rfl
theorem q3_95 : Jvm.Cond.code ({ cls := "HypergraphDualizer$HittingCounts", name := "countOfAll", desc := "()I" } : Jvm.MethodName) prog_6_method_2_code (1 : Nat) (Option.some Jvm.ClassFile.FieldType.int) ∈ gT := gin gin_3 (i := 95) rfl rfl
theorem q3_96 : Jvm.Cond.methodLink "HypergraphDualizer$HittingCounts" (27 : Nat) ({ cls := "HypergraphDualizer$HittingCounts", name := "bringUpToDate", desc := "()V" } : Jvm.MethodName) ∈ gT := gin gin_3 (i := 96) rfl rfl
theorem q3_98 : Jvm.Cond.instanceMethod ({ cls := "HypergraphDualizer$HittingCounts", name := "bringUpToDate", desc := "()V" } : Jvm.MethodName) ∈ gT := gin gin_3 (i := 98) rfl rfl
theorem q3_99 : Jvm.Cond.code ({ cls := "HypergraphDualizer$HittingCounts", name := "bringUpToDate", desc := "()V" } : Jvm.MethodName) prog_6_method_4_code (3 : Nat) (Option.none : Option Jvm.ClassFile.FieldType) ∈ gT := gin gin_3 (i := 99) rfl rfl
theorem q3_100 : Jvm.Cond.methodLink "HypergraphDualizer$HittingCounts" (36 : Nat) ({ cls := "HypergraphDualizer$Family", name := "fill", desc := "(I)V" } : Jvm.MethodName) ∈ gT := gin gin_3 (i := 100) rfl rfl
theorem q3_101 : Jvm.Cond.instanceMethod ({ cls := "HypergraphDualizer$Family", name := "fill", desc := "(I)V" } : Jvm.MethodName) ∈ gT := gin gin_3 (i := 101) rfl rfl
theorem q3_102 : Jvm.Cond.selects "HypergraphDualizer$Family" ({ cls := "HypergraphDualizer$Family", name := "fill", desc := "(I)V" } : Jvm.MethodName) ({ cls := "HypergraphDualizer$Family", name := "fill", desc := "(I)V" } : Jvm.MethodName) ∈ gT := gin gin_3 (i := 102) rfl rfl
theorem q3_103 : Jvm.Cond.code ({ cls := "HypergraphDualizer$Family", name := "fill", desc := "(I)V" } : Jvm.MethodName) prog_4_method_2_code (2 : Nat) (Option.none : Option Jvm.ClassFile.FieldType) ∈ gT := gin gin_3 (i := 103) rfl rfl
theorem q3_104 : Jvm.Cond.methodLink "HypergraphDualizer$Family" (32 : Nat) ({ cls := "HypergraphDualizer$Family", name := "mark", desc := "([II)V" } : Jvm.MethodName) ∈ gT := gin gin_3 (i := 104) rfl rfl
theorem q3_106 : Jvm.Cond.instanceMethod ({ cls := "HypergraphDualizer$Family", name := "mark", desc := "([II)V" } : Jvm.MethodName) ∈ gT := gin gin_3 (i := 106) rfl rfl
theorem q3_107 : Jvm.Cond.code ({ cls := "HypergraphDualizer$Family", name := "mark", desc := "([II)V" } : Jvm.MethodName) prog_4_method_3_code (5 : Nat) (Option.none : Option Jvm.ClassFile.FieldType) ∈ gT := gin gin_3 (i := 107) rfl rfl
theorem q3_108 : Jvm.Cond.methodLink "HypergraphDualizer$Family" (44 : Nat) ({ cls := "HypergraphDualizer$Family", name := "markHittingSets", desc := "()V" } : Jvm.MethodName) ∈ gT := gin gin_3 (i := 108) rfl rfl
theorem q3_110 : Jvm.Cond.instanceMethod ({ cls := "HypergraphDualizer$Family", name := "markHittingSets", desc := "()V" } : Jvm.MethodName) ∈ gT := gin gin_3 (i := 110) rfl rfl
theorem q3_111 : Jvm.Cond.code ({ cls := "HypergraphDualizer$Family", name := "markHittingSets", desc := "()V" } : Jvm.MethodName) prog_4_method_4_code (4 : Nat) (Option.none : Option Jvm.ClassFile.FieldType) ∈ gT := gin gin_3 (i := 111) rfl rfl
theorem q3_112 : Jvm.Cond.methodLink "HypergraphDualizer$Family" (53 : Nat) ({ cls := "HypergraphDualizer$Hypergraph", name := "allEdges", desc := "()I" } : Jvm.MethodName) ∈ gT := gin gin_3 (i := 112) rfl rfl
theorem q3_113 : Jvm.Cond.methodLink "HypergraphDualizer$HittingCounts" (48 : Nat) ({ cls := "java/lang/Integer", name := "bitCount", desc := "(I)I" } : Jvm.MethodName) ∈ gT := gin gin_3 (i := 113) rfl rfl
theorem q3_114 : Jvm.Cond.methodLink "HypergraphDualizer" (202 : Nat) ({ cls := "HypergraphDualizer$HittingCounts", name := "countOfSize", desc := "(I)I" } : Jvm.MethodName) ∈ gT := gin gin_3 (i := 114) rfl rfl
theorem q3_115 : Jvm.Cond.instanceMethod ({ cls := "HypergraphDualizer$HittingCounts", name := "countOfSize", desc := "(I)I" } : Jvm.MethodName) ∈ gT := gin gin_3 (i := 115) rfl rfl
theorem q3_116 : Jvm.Cond.selects "HypergraphDualizer$HittingCounts" ({ cls := "HypergraphDualizer$HittingCounts", name := "countOfSize", desc := "(I)I" } : Jvm.MethodName) ({ cls := "HypergraphDualizer$HittingCounts", name := "countOfSize", desc := "(I)I" } : Jvm.MethodName) ∈ gT := gin gin_3 (i := 116) rfl rfl
theorem q3_117 : Jvm.Cond.code ({ cls := "HypergraphDualizer$HittingCounts", name := "countOfSize", desc := "(I)I" } : Jvm.MethodName) prog_6_method_3_code (2 : Nat) (Option.some Jvm.ClassFile.FieldType.int) ∈ gT := gin gin_3 (i := 117) rfl rfl
theorem q3_118 : Jvm.Cond.methodLink "HypergraphDualizerLaw" (128 : Nat) ({ cls := "HypergraphDualizer", name := "chance", desc := "()F" } : Jvm.MethodName) ∈ gT := gin gin_3 (i := 118) rfl rfl
theorem q3_119 : Jvm.Cond.instanceMethod ({ cls := "HypergraphDualizer", name := "chance", desc := "()F" } : Jvm.MethodName) ∈ gT := gin gin_3 (i := 119) rfl rfl
theorem q3_120 : Jvm.Cond.selects "HypergraphDualizer" ({ cls := "HypergraphDualizer", name := "chance", desc := "()F" } : Jvm.MethodName) ({ cls := "HypergraphDualizer", name := "chance", desc := "()F" } : Jvm.MethodName) ∈ gT := gin gin_3 (i := 120) rfl rfl
theorem q3_121 : Jvm.Cond.code ({ cls := "HypergraphDualizer", name := "chance", desc := "()F" } : Jvm.MethodName) prog_1_method_31_code (1 : Nat) (Option.some Jvm.ClassFile.FieldType.float) ∈ gT := gin gin_3 (i := 121) rfl rfl
theorem q3_122 : Jvm.Cond.methodLink "HypergraphDualizerLaw" (133 : Nat) ({ cls := "HypergraphDualizer", name := "diagramSize", desc := "(I)I" } : Jvm.MethodName) ∈ gT := gin gin_3 (i := 122) rfl rfl
theorem q3_123 : Jvm.Cond.instanceMethod ({ cls := "HypergraphDualizer", name := "diagramSize", desc := "(I)I" } : Jvm.MethodName) ∈ gT := gin gin_3 (i := 123) rfl rfl
theorem q3_124 : Jvm.Cond.selects "HypergraphDualizer" ({ cls := "HypergraphDualizer", name := "diagramSize", desc := "(I)I" } : Jvm.MethodName) ({ cls := "HypergraphDualizer", name := "diagramSize", desc := "(I)I" } : Jvm.MethodName) ∈ gT := gin gin_3 (i := 124) rfl rfl
theorem q3_125 : Jvm.Cond.code ({ cls := "HypergraphDualizer", name := "diagramSize", desc := "(I)I" } : Jvm.MethodName) prog_1_method_32_code (2 : Nat) (Option.some Jvm.ClassFile.FieldType.int) ∈ gT := gin gin_3 (i := 125) rfl rfl
theorem q3_126 : Jvm.Cond.methodLink "HypergraphDualizer" (203 : Nat) ({ cls := "HypergraphDualizer", name := "isFamily", desc := "(I)Z" } : Jvm.MethodName) ∈ gT := gin gin_3 (i := 126) rfl rfl
theorem q3_127 : Jvm.Cond.static ({ cls := "HypergraphDualizer", name := "isFamily", desc := "(I)Z" } : Jvm.MethodName) ∈ gT := gin gin_3 (i := 127) rfl rfl
theorem q3_128 : Jvm.Cond.code ({ cls := "HypergraphDualizer", name := "isFamily", desc := "(I)Z" } : Jvm.MethodName) prog_1_method_34_code (1 : Nat) (Option.some Jvm.ClassFile.FieldType.boolean) ∈ gT := gin gin_3 (i := 128) rfl rfl
theorem q3_129 : Jvm.Cond.methodLink "HypergraphDualizer" (206 : Nat) ({ cls := "HypergraphDualizer", name := "canBeDrawn", desc := "(I)Z" } : Jvm.MethodName) ∈ gT := gin gin_3 (i := 129) rfl rfl
theorem q3_131 : Jvm.Cond.instanceMethod ({ cls := "HypergraphDualizer", name := "canBeDrawn", desc := "(I)Z" } : Jvm.MethodName) ∈ gT := gin gin_3 (i := 131) rfl rfl
theorem q3_132 : Jvm.Cond.code ({ cls := "HypergraphDualizer", name := "canBeDrawn", desc := "(I)Z" } : Jvm.MethodName) prog_1_method_35_code (2 : Nat) (Option.some Jvm.ClassFile.FieldType.boolean) ∈ gT := gin gin_3 (i := 132) rfl rfl
theorem q3_133 : Jvm.Cond.methodLink "HypergraphDualizer" (209 : Nat) ({ cls := "HypergraphDualizer$Diagram", name := "sizeOf", desc := "(I)I" } : Jvm.MethodName) ∈ gT := gin gin_3 (i := 133) rfl rfl
theorem q3_134 : Jvm.Cond.instanceMethod ({ cls := "HypergraphDualizer$Diagram", name := "sizeOf", desc := "(I)I" } : Jvm.MethodName) ∈ gT := gin gin_3 (i := 134) rfl rfl
theorem q3_135 : Jvm.Cond.selects "HypergraphDualizer$Diagram" ({ cls := "HypergraphDualizer$Diagram", name := "sizeOf", desc := "(I)I" } : Jvm.MethodName) ({ cls := "HypergraphDualizer$Diagram", name := "sizeOf", desc := "(I)I" } : Jvm.MethodName) ∈ gT := gin gin_3 (i := 135) rfl rfl
theorem q3_136 : Jvm.Cond.code ({ cls := "HypergraphDualizer$Diagram", name := "sizeOf", desc := "(I)I" } : Jvm.MethodName) prog_2_method_2_code (2 : Nat) (Option.some Jvm.ClassFile.FieldType.int) ∈ gT := gin gin_3 (i := 136) rfl rfl
theorem q3_137 : Jvm.Cond.methodLink "HypergraphDualizer$Diagram" (39 : Nat) ({ cls := "HypergraphDualizer$Diagram", name := "draw", desc := "(I)V" } : Jvm.MethodName) ∈ gT := gin gin_3 (i := 137) rfl rfl
theorem q3_139 : Jvm.Cond.instanceMethod ({ cls := "HypergraphDualizer$Diagram", name := "draw", desc := "(I)V" } : Jvm.MethodName) ∈ gT := gin gin_3 (i := 139) rfl rfl
theorem q3_140 : Jvm.Cond.code ({ cls := "HypergraphDualizer$Diagram", name := "draw", desc := "(I)V" } : Jvm.MethodName) prog_2_method_4_code (3 : Nat) (Option.none : Option Jvm.ClassFile.FieldType) ∈ gT := gin gin_3 (i := 140) rfl rfl
theorem q3_141 : Jvm.Cond.methodLink "HypergraphDualizer$Diagram" (52 : Nat) ({ cls := "HypergraphDualizer$Family", name := "fill", desc := "(I)V" } : Jvm.MethodName) ∈ gT := gin gin_3 (i := 141) rfl rfl
theorem q3_142 : Jvm.Cond.methodLink "HypergraphDualizer$Diagram" (60 : Nat) ({ cls := "HypergraphDualizer$Diagram", name := "drawNodesAt", desc := "(I)V" } : Jvm.MethodName) ∈ gT := gin gin_3 (i := 142) rfl rfl
theorem q3_144 : Jvm.Cond.instanceMethod ({ cls := "HypergraphDualizer$Diagram", name := "drawNodesAt", desc := "(I)V" } : Jvm.MethodName) ∈ gT := gin gin_3 (i := 144) rfl rfl
theorem q3_145 : Jvm.Cond.code ({ cls := "HypergraphDualizer$Diagram", name := "drawNodesAt", desc := "(I)V" } : Jvm.MethodName) prog_2_method_5_code (7 : Nat) (Option.none : Option Jvm.ClassFile.FieldType) ∈ gT := gin gin_3 (i := 145) rfl rfl
theorem q3_146 : Jvm.Cond.methodLink "HypergraphDualizer$Diagram" (66 : Nat) ({ cls := "HypergraphDualizer$Diagram", name := "nodeWith", desc := "(III)I" } : Jvm.MethodName) ∈ gT := gin gin_3 (i := 146) rfl rfl
theorem q3_148 : Jvm.Cond.instanceMethod ({ cls := "HypergraphDualizer$Diagram", name := "nodeWith", desc := "(III)I" } : Jvm.MethodName) ∈ gT := gin gin_3 (i := 148) rfl rfl
theorem q3_149 : Jvm.Cond.code ({ cls := "HypergraphDualizer$Diagram", name := "nodeWith", desc := "(III)I" } : Jvm.MethodName) prog_2_method_6_code (7 : Nat) (Option.some Jvm.ClassFile.FieldType.int) ∈ gT := gin gin_3 (i := 149) rfl rfl
theorem q3_150 : Jvm.Cond.methodLink "HypergraphDualizerLaw" (137 : Nat) ({ cls := "HypergraphDualizer", name := "nodesAt", desc := "(II)I" } : Jvm.MethodName) ∈ gT := gin gin_3 (i := 150) rfl rfl
theorem q3_151 : Jvm.Cond.instanceMethod ({ cls := "HypergraphDualizer", name := "nodesAt", desc := "(II)I" } : Jvm.MethodName) ∈ gT := gin gin_3 (i := 151) rfl rfl
theorem q3_152 : Jvm.Cond.selects "HypergraphDualizer" ({ cls := "HypergraphDualizer", name := "nodesAt", desc := "(II)I" } : Jvm.MethodName) ({ cls := "HypergraphDualizer", name := "nodesAt", desc := "(II)I" } : Jvm.MethodName) ∈ gT := gin gin_3 (i := 152) rfl rfl
theorem q3_153 : Jvm.Cond.code ({ cls := "HypergraphDualizer", name := "nodesAt", desc := "(II)I" } : Jvm.MethodName) prog_1_method_33_code (3 : Nat) (Option.some Jvm.ClassFile.FieldType.int) ∈ gT := gin gin_3 (i := 153) rfl rfl
theorem q3_154 : Jvm.Cond.methodLink "HypergraphDualizer" (212 : Nat) ({ cls := "HypergraphDualizer$Diagram", name := "countAt", desc := "(II)I" } : Jvm.MethodName) ∈ gT := gin gin_3 (i := 154) rfl rfl
theorem q3_155 : Jvm.Cond.instanceMethod ({ cls := "HypergraphDualizer$Diagram", name := "countAt", desc := "(II)I" } : Jvm.MethodName) ∈ gT := gin gin_3 (i := 155) rfl rfl
theorem q3_156 : Jvm.Cond.selects "HypergraphDualizer$Diagram" ({ cls := "HypergraphDualizer$Diagram", name := "countAt", desc := "(II)I" } : Jvm.MethodName) ({ cls := "HypergraphDualizer$Diagram", name := "countAt", desc := "(II)I" } : Jvm.MethodName) ∈ gT := gin gin_3 (i := 156) rfl rfl
theorem q3_157 : Jvm.Cond.code ({ cls := "HypergraphDualizer$Diagram", name := "countAt", desc := "(II)I" } : Jvm.MethodName) prog_2_method_3_code (3 : Nat) (Option.some Jvm.ClassFile.FieldType.int) ∈ gT := gin gin_3 (i := 157) rfl rfl
theorem q3_158 : Jvm.Cond.methodLink "HypergraphDualizerLaw" (141 : Nat) ({ cls := "HypergraphDualizer", name := "isSelfDual", desc := "()I" } : Jvm.MethodName) ∈ gT := gin gin_3 (i := 158) rfl rfl
theorem q3_159 : Jvm.Cond.instanceMethod ({ cls := "HypergraphDualizer", name := "isSelfDual", desc := "()I" } : Jvm.MethodName) ∈ gT := gin gin_3 (i := 159) rfl rfl
theorem q3_160 : Jvm.Cond.selects "HypergraphDualizer" ({ cls := "HypergraphDualizer", name := "isSelfDual", desc := "()I" } : Jvm.MethodName) ({ cls := "HypergraphDualizer", name := "isSelfDual", desc := "()I" } : Jvm.MethodName) ∈ gT := gin gin_3 (i := 160) rfl rfl
theorem q3_161 : Jvm.Cond.code ({ cls := "HypergraphDualizer", name := "isSelfDual", desc := "()I" } : Jvm.MethodName) prog_1_method_36_code (1 : Nat) (Option.some Jvm.ClassFile.FieldType.int) ∈ gT := gin gin_3 (i := 161) rfl rfl
theorem q3_162 : Jvm.Cond.methodLink "HypergraphDualizer" (216 : Nat) ({ cls := "HypergraphDualizer$Search", name := "leastDifference", desc := "()I" } : Jvm.MethodName) ∈ gT := gin gin_3 (i := 162) rfl rfl
theorem q3_163 : Jvm.Cond.instanceMethod ({ cls := "HypergraphDualizer$Search", name := "leastDifference", desc := "()I" } : Jvm.MethodName) ∈ gT := gin gin_3 (i := 163) rfl rfl
theorem q3_164 : Jvm.Cond.selects "HypergraphDualizer$Search" ({ cls := "HypergraphDualizer$Search", name := "leastDifference", desc := "()I" } : Jvm.MethodName) ({ cls := "HypergraphDualizer$Search", name := "leastDifference", desc := "()I" } : Jvm.MethodName) ∈ gT := gin gin_3 (i := 164) rfl rfl
theorem q3_165 : Jvm.Cond.code ({ cls := "HypergraphDualizer$Search", name := "leastDifference", desc := "()I" } : Jvm.MethodName) prog_8_method_8_code (5 : Nat) (Option.some Jvm.ClassFile.FieldType.int) ∈ gT := gin gin_3 (i := 165) rfl rfl
theorem q3_166 : Jvm.Cond.methodLink "HypergraphDualizer$Search" (77 : Nat) ({ cls := "HypergraphDualizer$Hypergraph", name := "minimalEdges", desc := "()I" } : Jvm.MethodName) ∈ gT := gin gin_3 (i := 166) rfl rfl
theorem q3_167 : Jvm.Cond.methodLink "HypergraphDualizer$Search" (86 : Nat) ({ cls := "HypergraphDualizer$Hypergraph", name := "isAnswer", desc := "(I)Z" } : Jvm.MethodName) ∈ gT := gin gin_3 (i := 167) rfl rfl
theorem q3_168 : Jvm.Cond.methodLink "HypergraphDualizer$Search" (90 : Nat) ({ cls := "HypergraphDualizer$Search", name := "isMinimalEdge", desc := "(II)Z" } : Jvm.MethodName) ∈ gT := gin gin_3 (i := 168) rfl rfl
theorem q3_170 : Jvm.Cond.instanceMethod ({ cls := "HypergraphDualizer$Search", name := "isMinimalEdge", desc := "(II)Z" } : Jvm.MethodName) ∈ gT := gin gin_3 (i := 170) rfl rfl
theorem q3_171 : Jvm.Cond.code ({ cls := "HypergraphDualizer$Search", name := "isMinimalEdge", desc := "(II)Z" } : Jvm.MethodName) prog_8_method_9_code (4 : Nat) (Option.some Jvm.ClassFile.FieldType.boolean) ∈ gT := gin gin_3 (i := 171) rfl rfl
theorem q3_172 : Jvm.Cond.methodLink "HypergraphDualizerLaw" (145 : Nat) ({ cls := "HypergraphDualizer", name := "difference", desc := "()I" } : Jvm.MethodName) ∈ gT := gin gin_3 (i := 172) rfl rfl
theorem q3_173 : Jvm.Cond.instanceMethod ({ cls := "HypergraphDualizer", name := "difference", desc := "()I" } : Jvm.MethodName) ∈ gT := gin gin_3 (i := 173) rfl rfl
theorem q3_174 : Jvm.Cond.selects "HypergraphDualizer" ({ cls := "HypergraphDualizer", name := "difference", desc := "()I" } : Jvm.MethodName) ({ cls := "HypergraphDualizer", name := "difference", desc := "()I" } : Jvm.MethodName) ∈ gT := gin gin_3 (i := 174) rfl rfl
theorem q3_175 : Jvm.Cond.code ({ cls := "HypergraphDualizer", name := "difference", desc := "()I" } : Jvm.MethodName) prog_1_method_37_code (1 : Nat) (Option.some Jvm.ClassFile.FieldType.int) ∈ gT := gin gin_3 (i := 175) rfl rfl
theorem q3_176 : Jvm.Cond.methodLink "HypergraphDualizerLaw" (149 : Nat) ({ cls := "HypergraphDualizer", name := "isIntersecting", desc := "()I" } : Jvm.MethodName) ∈ gT := gin gin_3 (i := 176) rfl rfl
theorem q3_177 : Jvm.Cond.instanceMethod ({ cls := "HypergraphDualizer", name := "isIntersecting", desc := "()I" } : Jvm.MethodName) ∈ gT := gin gin_3 (i := 177) rfl rfl
theorem q3_178 : Jvm.Cond.selects "HypergraphDualizer" ({ cls := "HypergraphDualizer", name := "isIntersecting", desc := "()I" } : Jvm.MethodName) ({ cls := "HypergraphDualizer", name := "isIntersecting", desc := "()I" } : Jvm.MethodName) ∈ gT := gin gin_3 (i := 178) rfl rfl
theorem q3_179 : Jvm.Cond.code ({ cls := "HypergraphDualizer", name := "isIntersecting", desc := "()I" } : Jvm.MethodName) prog_1_method_38_code (1 : Nat) (Option.some Jvm.ClassFile.FieldType.int) ∈ gT := gin gin_3 (i := 179) rfl rfl
theorem q3_180 : Jvm.Cond.methodLink "HypergraphDualizer" (219 : Nat) ({ cls := "HypergraphDualizer$Hypergraph", name := "eachTwoMeet", desc := "()Z" } : Jvm.MethodName) ∈ gT := gin gin_3 (i := 180) rfl rfl
theorem q3_181 : Jvm.Cond.instanceMethod ({ cls := "HypergraphDualizer$Hypergraph", name := "eachTwoMeet", desc := "()Z" } : Jvm.MethodName) ∈ gT := gin gin_3 (i := 181) rfl rfl
theorem q3_182 : Jvm.Cond.selects "HypergraphDualizer$Hypergraph" ({ cls := "HypergraphDualizer$Hypergraph", name := "eachTwoMeet", desc := "()Z" } : Jvm.MethodName) ({ cls := "HypergraphDualizer$Hypergraph", name := "eachTwoMeet", desc := "()Z" } : Jvm.MethodName) ∈ gT := gin gin_3 (i := 182) rfl rfl
theorem q3_183 : Jvm.Cond.code ({ cls := "HypergraphDualizer$Hypergraph", name := "eachTwoMeet", desc := "()Z" } : Jvm.MethodName) prog_7_method_21_code (3 : Nat) (Option.some Jvm.ClassFile.FieldType.boolean) ∈ gT := gin gin_3 (i := 183) rfl rfl
theorem q3_184 : Jvm.Cond.methodLink "HypergraphDualizerLaw" (153 : Nat) ({ cls := "HypergraphDualizer", name := "type", desc := "(C)I" } : Jvm.MethodName) ∈ gT := gin gin_3 (i := 184) rfl rfl
theorem q3_185 : Jvm.Cond.instanceMethod ({ cls := "HypergraphDualizer", name := "type", desc := "(C)I" } : Jvm.MethodName) ∈ gT := gin gin_3 (i := 185) rfl rfl
theorem q3_186 : Jvm.Cond.selects "HypergraphDualizer" ({ cls := "HypergraphDualizer", name := "type", desc := "(C)I" } : Jvm.MethodName) ({ cls := "HypergraphDualizer", name := "type", desc := "(C)I" } : Jvm.MethodName) ∈ gT := gin gin_3 (i := 186) rfl rfl
theorem q3_187 : Jvm.Cond.code ({ cls := "HypergraphDualizer", name := "type", desc := "(C)I" } : Jvm.MethodName) prog_1_method_39_code (2 : Nat) (Option.some Jvm.ClassFile.FieldType.int) ∈ gT := gin gin_3 (i := 187) rfl rfl
theorem q3_188 : Jvm.Cond.methodLink "HypergraphDualizer" (222 : Nat) ({ cls := "HypergraphDualizer$EdgeText", name := "append", desc := "(C)Z" } : Jvm.MethodName) ∈ gT := gin gin_3 (i := 188) rfl rfl
theorem q3_189 : Jvm.Cond.instanceMethod ({ cls := "HypergraphDualizer$EdgeText", name := "append", desc := "(C)Z" } : Jvm.MethodName) ∈ gT := gin gin_3 (i := 189) rfl rfl
theorem q3_190 : Jvm.Cond.selects "HypergraphDualizer$EdgeText" ({ cls := "HypergraphDualizer$EdgeText", name := "append", desc := "(C)Z" } : Jvm.MethodName) ({ cls := "HypergraphDualizer$EdgeText", name := "append", desc := "(C)Z" } : Jvm.MethodName) ∈ gT := gin gin_3 (i := 190) rfl rfl
theorem q3_191 : Jvm.Cond.code ({ cls := "HypergraphDualizer$EdgeText", name := "append", desc := "(C)Z" } : Jvm.MethodName) prog_3_method_2_code (2 : Nat) (Option.some Jvm.ClassFile.FieldType.boolean) ∈ gT := gin gin_3 (i := 191) rfl rfl
theorem q3_192 : Jvm.Cond.methodLink "HypergraphDualizerLaw" (158 : Nat) ({ cls := "HypergraphDualizer", name := "clearText", desc := "()I" } : Jvm.MethodName) ∈ gT := gin gin_3 (i := 192) rfl rfl
theorem q3_193 : Jvm.Cond.instanceMethod ({ cls := "HypergraphDualizer", name := "clearText", desc := "()I" } : Jvm.MethodName) ∈ gT := gin gin_3 (i := 193) rfl rfl
theorem q3_194 : Jvm.Cond.selects "HypergraphDualizer" ({ cls := "HypergraphDualizer", name := "clearText", desc := "()I" } : Jvm.MethodName) ({ cls := "HypergraphDualizer", name := "clearText", desc := "()I" } : Jvm.MethodName) ∈ gT := gin gin_3 (i := 194) rfl rfl
theorem q3_195 : Jvm.Cond.code ({ cls := "HypergraphDualizer", name := "clearText", desc := "()I" } : Jvm.MethodName) prog_1_method_40_code (2 : Nat) (Option.some Jvm.ClassFile.FieldType.int) ∈ gT := gin gin_3 (i := 195) rfl rfl
theorem q3_196 : Jvm.Cond.methodLink "HypergraphDualizerLaw" (162 : Nat) ({ cls := "HypergraphDualizer", name := "readEdges", desc := "()I" } : Jvm.MethodName) ∈ gT := gin gin_3 (i := 196) rfl rfl
theorem q3_197 : Jvm.Cond.instanceMethod ({ cls := "HypergraphDualizer", name := "readEdges", desc := "()I" } : Jvm.MethodName) ∈ gT := gin gin_3 (i := 197) rfl rfl
theorem q3_198 : Jvm.Cond.selects "HypergraphDualizer" ({ cls := "HypergraphDualizer", name := "readEdges", desc := "()I" } : Jvm.MethodName) ({ cls := "HypergraphDualizer", name := "readEdges", desc := "()I" } : Jvm.MethodName) ∈ gT := gin gin_3 (i := 198) rfl rfl
theorem q3_199 : Jvm.Cond.code ({ cls := "HypergraphDualizer", name := "readEdges", desc := "()I" } : Jvm.MethodName) prog_1_method_41_code (3 : Nat) (Option.some Jvm.ClassFile.FieldType.int) ∈ gT := gin gin_3 (i := 199) rfl rfl
theorem q3_200 : Jvm.Cond.methodLink "HypergraphDualizer" (228 : Nat) ({ cls := "HypergraphDualizer$EdgeText", name := "readInto", desc := "(LHypergraphDualizer$Hypergraph;)I" } : Jvm.MethodName) ∈ gT := gin gin_3 (i := 200) rfl rfl
theorem q3_201 : Jvm.Cond.instanceMethod ({ cls := "HypergraphDualizer$EdgeText", name := "readInto", desc := "(LHypergraphDualizer$Hypergraph;)I" } : Jvm.MethodName) ∈ gT := gin gin_3 (i := 201) rfl rfl
theorem q3_202 : Jvm.Cond.selects "HypergraphDualizer$EdgeText" ({ cls := "HypergraphDualizer$EdgeText", name := "readInto", desc := "(LHypergraphDualizer$Hypergraph;)I" } : Jvm.MethodName) ({ cls := "HypergraphDualizer$EdgeText", name := "readInto", desc := "(LHypergraphDualizer$Hypergraph;)I" } : Jvm.MethodName) ∈ gT := gin gin_3 (i := 202) rfl rfl
theorem q3_203 : Jvm.Cond.code ({ cls := "HypergraphDualizer$EdgeText", name := "readInto", desc := "(LHypergraphDualizer$Hypergraph;)I" } : Jvm.MethodName) prog_3_method_3_code (4 : Nat) (Option.some Jvm.ClassFile.FieldType.int) ∈ gT := gin gin_3 (i := 203) rfl rfl
theorem q3_204 : Jvm.Cond.methodLink "HypergraphDualizer$EdgeText" (25 : Nat) ({ cls := "HypergraphDualizer$EdgeText", name := "readEdge", desc := "(LHypergraphDualizer$Hypergraph;)V" } : Jvm.MethodName) ∈ gT := gin gin_3 (i := 204) rfl rfl
theorem q3_206 : Jvm.Cond.instanceMethod ({ cls := "HypergraphDualizer$EdgeText", name := "readEdge", desc := "(LHypergraphDualizer$Hypergraph;)V" } : Jvm.MethodName) ∈ gT := gin gin_3 (i := 206) rfl rfl
theorem q3_207 : Jvm.Cond.code ({ cls := "HypergraphDualizer$EdgeText", name := "readEdge", desc := "(LHypergraphDualizer$Hypergraph;)V" } : Jvm.MethodName) prog_3_method_4_code (6 : Nat) (Option.none : Option Jvm.ClassFile.FieldType) ∈ gT := gin gin_3 (i := 207) rfl rfl
theorem q3_208 : Jvm.Cond.methodLink "HypergraphDualizer$EdgeText" (33 : Nat) ({ cls := "HypergraphDualizer$Hypergraph", name := "isFull", desc := "()Z" } : Jvm.MethodName) ∈ gT := gin gin_3 (i := 208) rfl rfl
theorem q3_209 : Jvm.Cond.methodLink "HypergraphDualizer$EdgeText" (42 : Nat) ({ cls := "HypergraphDualizer$EdgeText", name := "readVertex", desc := "(II)I" } : Jvm.MethodName) ∈ gT := gin gin_3 (i := 209) rfl rfl
theorem q3_211 : Jvm.Cond.instanceMethod ({ cls := "HypergraphDualizer$EdgeText", name := "readVertex", desc := "(II)I" } : Jvm.MethodName) ∈ gT := gin gin_3 (i := 211) rfl rfl
theorem q3_212 : Jvm.Cond.code ({ cls := "HypergraphDualizer$EdgeText", name := "readVertex", desc := "(II)I" } : Jvm.MethodName) prog_3_method_5_code (6 : Nat) (Option.some Jvm.ClassFile.FieldType.int) ∈ gT := gin gin_3 (i := 212) rfl rfl
theorem q3_213 : Jvm.Cond.methodLink "HypergraphDualizer$EdgeText" (54 : Nat) ({ cls := "HypergraphDualizer$EdgeText", name := "digit", desc := "()I" } : Jvm.MethodName) ∈ gT := gin gin_3 (i := 213) rfl rfl
theorem q3_215 : Jvm.Cond.instanceMethod ({ cls := "HypergraphDualizer$EdgeText", name := "digit", desc := "()I" } : Jvm.MethodName) ∈ gT := gin gin_3 (i := 215) rfl rfl
theorem q3_216 : Jvm.Cond.code ({ cls := "HypergraphDualizer$EdgeText", name := "digit", desc := "()I" } : Jvm.MethodName) prog_3_method_6_code (1 : Nat) (Option.some Jvm.ClassFile.FieldType.int) ∈ gT := gin gin_3 (i := 216) rfl rfl
theorem q3_218 : Jvm.Cond.methodLink "HypergraphDualizer$EdgeText" (29 : Nat) ({ cls := "HypergraphDualizer$EdgeText", name := "skips", desc := "(C)Z" } : Jvm.MethodName) ∈ gT := gin gin_3 (i := 218) rfl rfl
theorem q3_220 : Jvm.Cond.instanceMethod ({ cls := "HypergraphDualizer$EdgeText", name := "skips", desc := "(C)Z" } : Jvm.MethodName) ∈ gT := gin gin_3 (i := 220) rfl rfl
theorem q3_221 : Jvm.Cond.code ({ cls := "HypergraphDualizer$EdgeText", name := "skips", desc := "(C)Z" } : Jvm.MethodName) prog_3_method_7_code (2 : Nat) (Option.some Jvm.ClassFile.FieldType.boolean) ∈ gT := gin gin_3 (i := 221) rfl rfl
theorem q3_222 : Jvm.Cond.methodLink "HypergraphDualizer$EdgeText" (46 : Nat) ({ cls := "HypergraphDualizer$Hypergraph", name := "contains", desc := "(I)Z" } : Jvm.MethodName) ∈ gT := gin gin_3 (i := 222) rfl rfl
theorem q3_223 : Jvm.Cond.methodLink "HypergraphDualizer$EdgeText" (50 : Nat) ({ cls := "HypergraphDualizer$Hypergraph", name := "append", desc := "(I)V" } : Jvm.MethodName) ∈ gT := gin gin_3 (i := 223) rfl rfl
theorem q3_224 : Jvm.Cond.classLink "HypergraphDualizerLaw" (10 : Nat) "HypergraphDualizerModel" ∈ gT := gin gin_3 (i := 224) rfl rfl
theorem q3_225 : Jvm.Cond.instantiable "HypergraphDualizerModel" (28 : Nat) ∈ gT := gin gin_3 (i := 225) rfl rfl
theorem q3_226 : Jvm.Cond.methodLink "HypergraphDualizerLaw" (12 : Nat) ({ cls := "HypergraphDualizerModel", name := "<init>", desc := "()V" } : Jvm.MethodName) ∈ gT := gin gin_3 (i := 226) rfl rfl
theorem q3_227 : Jvm.Cond.instanceMethod ({ cls := "HypergraphDualizerModel", name := "<init>", desc := "()V" } : Jvm.MethodName) ∈ gT := gin gin_3 (i := 227) rfl rfl
theorem q3_228 : Jvm.Cond.code ({ cls := "HypergraphDualizerModel", name := "<init>", desc := "()V" } : Jvm.MethodName) prog_11_method_1_code (1 : Nat) (Option.none : Option Jvm.ClassFile.FieldType) ∈ gT := gin gin_3 (i := 228) rfl rfl
theorem q3_229 : Jvm.Cond.methodLink "HypergraphDualizerModel" (1 : Nat) ({ cls := "java/lang/Object", name := "<init>", desc := "()V" } : Jvm.MethodName) ∈ gT := gin gin_3 (i := 229) rfl rfl
theorem q3_230 : Jvm.Cond.methodLink "HypergraphDualizerModel" (63 : Nat) ({ cls := "HypergraphDualizerModel", name := "restWeights", desc := "()V" } : Jvm.MethodName) ∈ gT := gin gin_3 (i := 230) rfl rfl
theorem q3_232 : Jvm.Cond.instanceMethod ({ cls := "HypergraphDualizerModel", name := "restWeights", desc := "()V" } : Jvm.MethodName) ∈ gT := gin gin_3 (i := 232) rfl rfl
theorem q3_233 : Jvm.Cond.code ({ cls := "HypergraphDualizerModel", name := "restWeights", desc := "()V" } : Jvm.MethodName) prog_11_method_4_code (2 : Nat) (Option.none : Option Jvm.ClassFile.FieldType) ∈ gT := gin gin_3 (i := 233) rfl rfl
theorem q3_234 : Jvm.Cond.fieldLink "HypergraphDualizerModel" (59 : Nat) "HypergraphDualizerModel" "vertices" "I" ∈ gT := gin gin_3 (i := 234) rfl rfl
theorem q3_235 : Jvm.Cond.fieldLink "HypergraphDualizerModel" (7 : Nat) "HypergraphDualizerModel" "now" "[I" ∈ gT := gin gin_3 (i := 235) rfl rfl
theorem q3_236 : Jvm.Cond.fieldLink "HypergraphDualizerModel" (13 : Nat) "HypergraphDualizerModel" "weight" "[I" ∈ gT := gin gin_3 (i := 236) rfl rfl
theorem q3_237 : Jvm.Cond.fieldLink "HypergraphDualizerModel" (16 : Nat) "HypergraphDualizerModel" "undone" "[I" ∈ gT := gin gin_3 (i := 237) rfl rfl
theorem q3_238 : Jvm.Cond.fieldLink "HypergraphDualizerModel" (19 : Nat) "HypergraphDualizerModel" "redone" "[I" ∈ gT := gin gin_3 (i := 238) rfl rfl
theorem q3_239 : Jvm.Cond.fieldLink "HypergraphDualizerModel" (74 : Nat) "HypergraphDualizerModel" "undoMany" "I" ∈ gT := gin gin_3 (i := 239) rfl rfl
theorem q4_0 : Jvm.Cond.fieldLink "HypergraphDualizerModel" (77 : Nat) "HypergraphDualizerModel" "redoMany" "I" ∈ gT := gin gin_4 (i := 0) rfl rfl
theorem q4_1 : Jvm.Cond.fieldLink "HypergraphDualizerModel" (135 : Nat) "HypergraphDualizerModel" "answers" "I" ∈ gT := gin gin_4 (i := 1) rfl rfl
theorem q4_2 : Jvm.Cond.fieldLink "HypergraphDualizerModel" (132 : Nat) "HypergraphDualizerModel" "visited" "I" ∈ gT := gin gin_4 (i := 2) rfl rfl
theorem q4_3 : Jvm.Cond.fieldLink "HypergraphDualizerModel" (144 : Nat) "HypergraphDualizerModel" "isGivenUp" "Z" ∈ gT := gin gin_4 (i := 3) rfl rfl
theorem q4_4 : Jvm.Cond.fieldLink "HypergraphDualizerModel" (22 : Nat) "HypergraphDualizerModel" "answerOf" "[I" ∈ gT := gin gin_4 (i := 4) rfl rfl
theorem q4_5 : Jvm.Cond.fieldLink "HypergraphDualizerModel" (25 : Nat) "HypergraphDualizerModel" "delayOf" "[I" ∈ gT := gin gin_4 (i := 5) rfl rfl
theorem q4_6 : Jvm.Cond.fieldLink "HypergraphDualizerModel" (28 : Nat) "HypergraphDualizerModel" "setAt" "[I" ∈ gT := gin gin_4 (i := 6) rfl rfl
theorem q4_7 : Jvm.Cond.fieldLink "HypergraphDualizerModel" (31 : Nat) "HypergraphDualizerModel" "candidatesAt" "[I" ∈ gT := gin gin_4 (i := 7) rfl rfl
theorem q4_8 : Jvm.Cond.fieldLink "HypergraphDualizerModel" (34 : Nat) "HypergraphDualizerModel" "leftAt" "[I" ∈ gT := gin gin_4 (i := 8) rfl rfl
theorem q4_9 : Jvm.Cond.fieldLink "HypergraphDualizerModel" (37 : Nat) "HypergraphDualizerModel" "triedAt" "[I" ∈ gT := gin gin_4 (i := 9) rfl rfl
theorem q4_10 : Jvm.Cond.fieldLink "HypergraphDualizerModel" (138 : Nat) "HypergraphDualizerModel" "lastVisit" "I" ∈ gT := gin gin_4 (i := 10) rfl rfl
theorem q4_11 : Jvm.Cond.fieldLink "HypergraphDualizerModel" (40 : Nat) "HypergraphDualizerModel" "table" "[I" ∈ gT := gin gin_4 (i := 11) rfl rfl
theorem q4_12 : Jvm.Cond.fieldLink "HypergraphDualizerModel" (166 : Nat) "HypergraphDualizerModel" "nodes" "I" ∈ gT := gin gin_4 (i := 12) rfl rfl
theorem q4_13 : Jvm.Cond.fieldLink "HypergraphDualizerModel" (43 : Nat) "HypergraphDualizerModel" "lowOf" "[I" ∈ gT := gin gin_4 (i := 13) rfl rfl
theorem q4_14 : Jvm.Cond.fieldLink "HypergraphDualizerModel" (46 : Nat) "HypergraphDualizerModel" "highOf" "[I" ∈ gT := gin gin_4 (i := 14) rfl rfl
theorem q4_15 : Jvm.Cond.fieldLink "HypergraphDualizerModel" (49 : Nat) "HypergraphDualizerModel" "nodesOf" "[I" ∈ gT := gin gin_4 (i := 15) rfl rfl
theorem q4_16 : Jvm.Cond.fieldLink "HypergraphDualizerModel" (191 : Nat) "HypergraphDualizerModel" "typed" "I" ∈ gT := gin gin_4 (i := 16) rfl rfl
theorem q4_17 : Jvm.Cond.fieldLink "HypergraphDualizerModel" (52 : Nat) "HypergraphDualizerModel" "text" "[C" ∈ gT := gin gin_4 (i := 17) rfl rfl
theorem q4_18 : Jvm.Cond.fieldLink "HypergraphDualizerModel" (194 : Nat) "HypergraphDualizerModel" "place" "I" ∈ gT := gin gin_4 (i := 18) rfl rfl
theorem q4_19 : Jvm.Cond.fieldLink "HypergraphDualizerModel" (200 : Nat) "HypergraphDualizerModel" "fault" "I" ∈ gT := gin gin_4 (i := 19) rfl rfl
theorem q4_20 : Jvm.Cond.fieldLink "HypergraphDualizerModel" (203 : Nat) "HypergraphDualizerModel" "readMany" "I" ∈ gT := gin gin_4 (i := 20) rfl rfl
theorem q4_21 : Jvm.Cond.fieldLink "HypergraphDualizerModel" (56 : Nat) "HypergraphDualizerModel" "read" "[I" ∈ gT := gin gin_4 (i := 21) rfl rfl
theorem q4_22 : Jvm.Cond.lays "HypergraphDualizerModel" "HypergraphDualizerModel" "vertices" "I" ∈ gT := gin gin_4 (i := 22) rfl rfl
theorem q4_24 : Jvm.Cond.laysFinal "HypergraphDualizerModel" "HypergraphDualizerModel" "now" "[I" ∈ gT := gin gin_4 (i := 24) rfl rfl
theorem q4_26 : Jvm.Cond.laysFinal "HypergraphDualizerModel" "HypergraphDualizerModel" "weight" "[I" ∈ gT := gin gin_4 (i := 26) rfl rfl
theorem q4_28 : Jvm.Cond.laysFinal "HypergraphDualizerModel" "HypergraphDualizerModel" "undone" "[I" ∈ gT := gin gin_4 (i := 28) rfl rfl
theorem q4_30 : Jvm.Cond.laysFinal "HypergraphDualizerModel" "HypergraphDualizerModel" "redone" "[I" ∈ gT := gin gin_4 (i := 30) rfl rfl
theorem q4_32 : Jvm.Cond.lays "HypergraphDualizerModel" "HypergraphDualizerModel" "undoMany" "I" ∈ gT := gin gin_4 (i := 32) rfl rfl
theorem q4_34 : Jvm.Cond.lays "HypergraphDualizerModel" "HypergraphDualizerModel" "redoMany" "I" ∈ gT := gin gin_4 (i := 34) rfl rfl
theorem q4_36 : Jvm.Cond.lays "HypergraphDualizerModel" "HypergraphDualizerModel" "answers" "I" ∈ gT := gin gin_4 (i := 36) rfl rfl
theorem q4_38 : Jvm.Cond.lays "HypergraphDualizerModel" "HypergraphDualizerModel" "visited" "I" ∈ gT := gin gin_4 (i := 38) rfl rfl
theorem q4_40 : Jvm.Cond.lays "HypergraphDualizerModel" "HypergraphDualizerModel" "isGivenUp" "Z" ∈ gT := gin gin_4 (i := 40) rfl rfl
theorem q4_42 : Jvm.Cond.laysFinal "HypergraphDualizerModel" "HypergraphDualizerModel" "answerOf" "[I" ∈ gT := gin gin_4 (i := 42) rfl rfl
theorem q4_44 : Jvm.Cond.laysFinal "HypergraphDualizerModel" "HypergraphDualizerModel" "delayOf" "[I" ∈ gT := gin gin_4 (i := 44) rfl rfl
theorem q4_46 : Jvm.Cond.laysFinal "HypergraphDualizerModel" "HypergraphDualizerModel" "setAt" "[I" ∈ gT := gin gin_4 (i := 46) rfl rfl
theorem q4_48 : Jvm.Cond.laysFinal "HypergraphDualizerModel" "HypergraphDualizerModel" "candidatesAt" "[I" ∈ gT := gin gin_4 (i := 48) rfl rfl
theorem q4_50 : Jvm.Cond.laysFinal "HypergraphDualizerModel" "HypergraphDualizerModel" "leftAt" "[I" ∈ gT := gin gin_4 (i := 50) rfl rfl
theorem q4_52 : Jvm.Cond.laysFinal "HypergraphDualizerModel" "HypergraphDualizerModel" "triedAt" "[I" ∈ gT := gin gin_4 (i := 52) rfl rfl
theorem q4_54 : Jvm.Cond.lays "HypergraphDualizerModel" "HypergraphDualizerModel" "lastVisit" "I" ∈ gT := gin gin_4 (i := 54) rfl rfl
theorem q4_56 : Jvm.Cond.laysFinal "HypergraphDualizerModel" "HypergraphDualizerModel" "table" "[I" ∈ gT := gin gin_4 (i := 56) rfl rfl
theorem q4_58 : Jvm.Cond.lays "HypergraphDualizerModel" "HypergraphDualizerModel" "nodes" "I" ∈ gT := gin gin_4 (i := 58) rfl rfl
theorem q4_60 : Jvm.Cond.laysFinal "HypergraphDualizerModel" "HypergraphDualizerModel" "lowOf" "[I" ∈ gT := gin gin_4 (i := 60) rfl rfl
theorem q4_62 : Jvm.Cond.laysFinal "HypergraphDualizerModel" "HypergraphDualizerModel" "highOf" "[I" ∈ gT := gin gin_4 (i := 62) rfl rfl
theorem q4_64 : Jvm.Cond.laysFinal "HypergraphDualizerModel" "HypergraphDualizerModel" "nodesOf" "[I" ∈ gT := gin gin_4 (i := 64) rfl rfl
theorem q4_66 : Jvm.Cond.lays "HypergraphDualizerModel" "HypergraphDualizerModel" "typed" "I" ∈ gT := gin gin_4 (i := 66) rfl rfl
theorem q4_68 : Jvm.Cond.laysFinal "HypergraphDualizerModel" "HypergraphDualizerModel" "text" "[C" ∈ gT := gin gin_4 (i := 68) rfl rfl
theorem q4_70 : Jvm.Cond.lays "HypergraphDualizerModel" "HypergraphDualizerModel" "place" "I" ∈ gT := gin gin_4 (i := 70) rfl rfl
theorem q4_72 : Jvm.Cond.lays "HypergraphDualizerModel" "HypergraphDualizerModel" "fault" "I" ∈ gT := gin gin_4 (i := 72) rfl rfl
theorem q4_74 : Jvm.Cond.lays "HypergraphDualizerModel" "HypergraphDualizerModel" "readMany" "I" ∈ gT := gin gin_4 (i := 74) rfl rfl
theorem q4_76 : Jvm.Cond.laysFinal "HypergraphDualizerModel" "HypergraphDualizerModel" "read" "[I" ∈ gT := gin gin_4 (i := 76) rfl rfl
theorem q4_79 : Jvm.Cond.methodLink "HypergraphDualizerLaw" (17 : Nat) ({ cls := "HypergraphDualizerModel", name := "reset", desc := "(I)I" } : Jvm.MethodName) ∈ gT := gin gin_4 (i := 79) rfl rfl
theorem q4_80 : Jvm.Cond.instanceMethod ({ cls := "HypergraphDualizerModel", name := "reset", desc := "(I)I" } : Jvm.MethodName) ∈ gT := gin gin_4 (i := 80) rfl rfl
theorem q4_81 : Jvm.Cond.selects "HypergraphDualizerModel" ({ cls := "HypergraphDualizerModel", name := "reset", desc := "(I)I" } : Jvm.MethodName) ({ cls := "HypergraphDualizerModel", name := "reset", desc := "(I)I" } : Jvm.MethodName) ∈ gT := gin gin_4 (i := 81) rfl rfl
theorem q4_82 : Jvm.Cond.code ({ cls := "HypergraphDualizerModel", name := "reset", desc := "(I)I" } : Jvm.MethodName) prog_11_method_9_code (3 : Nat) (Option.some Jvm.ClassFile.FieldType.int) ∈ gT := gin gin_4 (i := 82) rfl rfl
theorem q4_83 : Jvm.Cond.methodLink "HypergraphDualizerModel" (66 : Nat) ({ cls := "HypergraphDualizerModel", name := "in", desc := "(III)Z" } : Jvm.MethodName) ∈ gT := gin gin_4 (i := 83) rfl rfl
theorem q4_84 : Jvm.Cond.static ({ cls := "HypergraphDualizerModel", name := "in", desc := "(III)Z" } : Jvm.MethodName) ∈ gT := gin gin_4 (i := 84) rfl rfl
theorem q4_85 : Jvm.Cond.code ({ cls := "HypergraphDualizerModel", name := "in", desc := "(III)Z" } : Jvm.MethodName) prog_11_method_2_code (3 : Nat) (Option.some Jvm.ClassFile.FieldType.boolean) ∈ gT := gin gin_4 (i := 85) rfl rfl
theorem q4_86 : Jvm.Cond.methodLink "HypergraphDualizerLaw" (46 : Nat) ({ cls := "HypergraphDualizerModel", name := "undo", desc := "()I" } : Jvm.MethodName) ∈ gT := gin gin_4 (i := 86) rfl rfl
theorem q4_87 : Jvm.Cond.instanceMethod ({ cls := "HypergraphDualizerModel", name := "undo", desc := "()I" } : Jvm.MethodName) ∈ gT := gin gin_4 (i := 87) rfl rfl
theorem q4_88 : Jvm.Cond.selects "HypergraphDualizerModel" ({ cls := "HypergraphDualizerModel", name := "undo", desc := "()I" } : Jvm.MethodName) ({ cls := "HypergraphDualizerModel", name := "undo", desc := "()I" } : Jvm.MethodName) ∈ gT := gin gin_4 (i := 88) rfl rfl
theorem q4_89 : Jvm.Cond.code ({ cls := "HypergraphDualizerModel", name := "undo", desc := "()I" } : Jvm.MethodName) prog_11_method_11_code (2 : Nat) (Option.some Jvm.ClassFile.FieldType.int) ∈ gT := gin gin_4 (i := 89) rfl rfl
theorem q4_90 : Jvm.Cond.methodLink "HypergraphDualizerLaw" (50 : Nat) ({ cls := "HypergraphDualizerModel", name := "redo", desc := "()I" } : Jvm.MethodName) ∈ gT := gin gin_4 (i := 90) rfl rfl
theorem q4_91 : Jvm.Cond.instanceMethod ({ cls := "HypergraphDualizerModel", name := "redo", desc := "()I" } : Jvm.MethodName) ∈ gT := gin gin_4 (i := 91) rfl rfl
theorem q4_92 : Jvm.Cond.selects "HypergraphDualizerModel" ({ cls := "HypergraphDualizerModel", name := "redo", desc := "()I" } : Jvm.MethodName) ({ cls := "HypergraphDualizerModel", name := "redo", desc := "()I" } : Jvm.MethodName) ∈ gT := gin gin_4 (i := 92) rfl rfl
theorem q4_93 : Jvm.Cond.code ({ cls := "HypergraphDualizerModel", name := "redo", desc := "()I" } : Jvm.MethodName) prog_11_method_12_code (2 : Nat) (Option.some Jvm.ClassFile.FieldType.int) ∈ gT := gin gin_4 (i := 93) rfl rfl
theorem q4_94 : Jvm.Cond.methodLink "HypergraphDualizerLaw" (21 : Nat) ({ cls := "HypergraphDualizerModel", name := "addEdge", desc := "(I)I" } : Jvm.MethodName) ∈ gT := gin gin_4 (i := 94) rfl rfl
theorem q4_95 : Jvm.Cond.instanceMethod ({ cls := "HypergraphDualizerModel", name := "addEdge", desc := "(I)I" } : Jvm.MethodName) ∈ gT := gin gin_4 (i := 95) rfl rfl
theorem q4_96 : Jvm.Cond.selects "HypergraphDualizerModel" ({ cls := "HypergraphDualizerModel", name := "addEdge", desc := "(I)I" } : Jvm.MethodName) ({ cls := "HypergraphDualizerModel", name := "addEdge", desc := "(I)I" } : Jvm.MethodName) ∈ gT := gin gin_4 (i := 96) rfl rfl
theorem q4_97 : Jvm.Cond.code ({ cls := "HypergraphDualizerModel", name := "addEdge", desc := "(I)I" } : Jvm.MethodName) prog_11_method_16_code (2 : Nat) (Option.some Jvm.ClassFile.FieldType.int) ∈ gT := gin gin_4 (i := 97) rfl rfl
theorem q4_98 : Jvm.Cond.methodLink "HypergraphDualizerModel" (83 : Nat) ({ cls := "HypergraphDualizerModel", name := "noSet", desc := "(I)Z" } : Jvm.MethodName) ∈ gT := gin gin_4 (i := 98) rfl rfl
theorem q4_100 : Jvm.Cond.instanceMethod ({ cls := "HypergraphDualizerModel", name := "noSet", desc := "(I)Z" } : Jvm.MethodName) ∈ gT := gin gin_4 (i := 100) rfl rfl
theorem q4_101 : Jvm.Cond.code ({ cls := "HypergraphDualizerModel", name := "noSet", desc := "(I)Z" } : Jvm.MethodName) prog_11_method_8_code (2 : Nat) (Option.some Jvm.ClassFile.FieldType.boolean) ∈ gT := gin gin_4 (i := 101) rfl rfl
theorem q4_102 : Jvm.Cond.methodLink "HypergraphDualizerModel" (70 : Nat) ({ cls := "HypergraphDualizerModel", name := "whole", desc := "()I" } : Jvm.MethodName) ∈ gT := gin gin_4 (i := 102) rfl rfl
theorem q4_104 : Jvm.Cond.instanceMethod ({ cls := "HypergraphDualizerModel", name := "whole", desc := "()I" } : Jvm.MethodName) ∈ gT := gin gin_4 (i := 104) rfl rfl
theorem q4_105 : Jvm.Cond.code ({ cls := "HypergraphDualizerModel", name := "whole", desc := "()I" } : Jvm.MethodName) prog_11_method_6_code (1 : Nat) (Option.some Jvm.ClassFile.FieldType.int) ∈ gT := gin gin_4 (i := 105) rfl rfl
theorem q4_106 : Jvm.Cond.methodLink "HypergraphDualizerModel" (87 : Nat) ({ cls := "HypergraphDualizerModel", name := "placeOf", desc := "(I)I" } : Jvm.MethodName) ∈ gT := gin gin_4 (i := 106) rfl rfl
theorem q4_108 : Jvm.Cond.instanceMethod ({ cls := "HypergraphDualizerModel", name := "placeOf", desc := "(I)I" } : Jvm.MethodName) ∈ gT := gin gin_4 (i := 108) rfl rfl
theorem q4_109 : Jvm.Cond.code ({ cls := "HypergraphDualizerModel", name := "placeOf", desc := "(I)I" } : Jvm.MethodName) prog_11_method_13_code (3 : Nat) (Option.some Jvm.ClassFile.FieldType.int) ∈ gT := gin gin_4 (i := 109) rfl rfl
theorem q4_110 : Jvm.Cond.methodLink "HypergraphDualizerModel" (80 : Nat) ({ cls := "HypergraphDualizerModel", name := "many", desc := "()I" } : Jvm.MethodName) ∈ gT := gin gin_4 (i := 110) rfl rfl
theorem q4_112 : Jvm.Cond.instanceMethod ({ cls := "HypergraphDualizerModel", name := "many", desc := "()I" } : Jvm.MethodName) ∈ gT := gin gin_4 (i := 112) rfl rfl
theorem q4_113 : Jvm.Cond.code ({ cls := "HypergraphDualizerModel", name := "many", desc := "()I" } : Jvm.MethodName) prog_11_method_5_code (1 : Nat) (Option.some Jvm.ClassFile.FieldType.int) ∈ gT := gin gin_4 (i := 113) rfl rfl
theorem q4_114 : Jvm.Cond.methodLink "HypergraphDualizerModel" (91 : Nat) ({ cls := "HypergraphDualizerModel", name := "keep", desc := "()V" } : Jvm.MethodName) ∈ gT := gin gin_4 (i := 114) rfl rfl
theorem q4_116 : Jvm.Cond.instanceMethod ({ cls := "HypergraphDualizerModel", name := "keep", desc := "()V" } : Jvm.MethodName) ∈ gT := gin gin_4 (i := 116) rfl rfl
theorem q4_117 : Jvm.Cond.code ({ cls := "HypergraphDualizerModel", name := "keep", desc := "()V" } : Jvm.MethodName) prog_11_method_10_code (2 : Nat) (Option.none : Option Jvm.ClassFile.FieldType) ∈ gT := gin gin_4 (i := 117) rfl rfl
theorem q4_118 : Jvm.Cond.methodLink "HypergraphDualizerModel" (94 : Nat) ({ cls := "HypergraphDualizerModel", name := "append", desc := "(I)V" } : Jvm.MethodName) ∈ gT := gin gin_4 (i := 118) rfl rfl
theorem q4_120 : Jvm.Cond.instanceMethod ({ cls := "HypergraphDualizerModel", name := "append", desc := "(I)V" } : Jvm.MethodName) ∈ gT := gin gin_4 (i := 120) rfl rfl
theorem q4_121 : Jvm.Cond.code ({ cls := "HypergraphDualizerModel", name := "append", desc := "(I)V" } : Jvm.MethodName) prog_11_method_14_code (2 : Nat) (Option.none : Option Jvm.ClassFile.FieldType) ∈ gT := gin gin_4 (i := 121) rfl rfl
theorem q4_122 : Jvm.Cond.methodLink "HypergraphDualizerLaw" (25 : Nat) ({ cls := "HypergraphDualizerModel", name := "removeEdge", desc := "(I)I" } : Jvm.MethodName) ∈ gT := gin gin_4 (i := 122) rfl rfl
theorem q4_123 : Jvm.Cond.instanceMethod ({ cls := "HypergraphDualizerModel", name := "removeEdge", desc := "(I)I" } : Jvm.MethodName) ∈ gT := gin gin_4 (i := 123) rfl rfl
theorem q4_124 : Jvm.Cond.selects "HypergraphDualizerModel" ({ cls := "HypergraphDualizerModel", name := "removeEdge", desc := "(I)I" } : Jvm.MethodName) ({ cls := "HypergraphDualizerModel", name := "removeEdge", desc := "(I)I" } : Jvm.MethodName) ∈ gT := gin gin_4 (i := 124) rfl rfl
theorem q4_125 : Jvm.Cond.code ({ cls := "HypergraphDualizerModel", name := "removeEdge", desc := "(I)I" } : Jvm.MethodName) prog_11_method_18_code (3 : Nat) (Option.some Jvm.ClassFile.FieldType.int) ∈ gT := gin gin_4 (i := 125) rfl rfl
theorem q4_126 : Jvm.Cond.methodLink "HypergraphDualizerModel" (98 : Nat) ({ cls := "HypergraphDualizerModel", name := "noEdge", desc := "(I)Z" } : Jvm.MethodName) ∈ gT := gin gin_4 (i := 126) rfl rfl
theorem q4_128 : Jvm.Cond.instanceMethod ({ cls := "HypergraphDualizerModel", name := "noEdge", desc := "(I)Z" } : Jvm.MethodName) ∈ gT := gin gin_4 (i := 128) rfl rfl
theorem q4_129 : Jvm.Cond.code ({ cls := "HypergraphDualizerModel", name := "noEdge", desc := "(I)Z" } : Jvm.MethodName) prog_11_method_17_code (2 : Nat) (Option.some Jvm.ClassFile.FieldType.boolean) ∈ gT := gin gin_4 (i := 129) rfl rfl
theorem q4_130 : Jvm.Cond.methodLink "HypergraphDualizerModel" (101 : Nat) ({ cls := "HypergraphDualizerModel", name := "drop", desc := "(I)V" } : Jvm.MethodName) ∈ gT := gin gin_4 (i := 130) rfl rfl
theorem q4_132 : Jvm.Cond.instanceMethod ({ cls := "HypergraphDualizerModel", name := "drop", desc := "(I)V" } : Jvm.MethodName) ∈ gT := gin gin_4 (i := 132) rfl rfl
theorem q4_133 : Jvm.Cond.code ({ cls := "HypergraphDualizerModel", name := "drop", desc := "(I)V" } : Jvm.MethodName) prog_11_method_15_code (3 : Nat) (Option.none : Option Jvm.ClassFile.FieldType) ∈ gT := gin gin_4 (i := 133) rfl rfl
theorem q4_134 : Jvm.Cond.methodLink "HypergraphDualizerLaw" (30 : Nat) ({ cls := "HypergraphDualizerModel", name := "minimize", desc := "()I" } : Jvm.MethodName) ∈ gT := gin gin_4 (i := 134) rfl rfl
theorem q4_135 : Jvm.Cond.instanceMethod ({ cls := "HypergraphDualizerModel", name := "minimize", desc := "()I" } : Jvm.MethodName) ∈ gT := gin gin_4 (i := 135) rfl rfl
theorem q4_136 : Jvm.Cond.selects "HypergraphDualizerModel" ({ cls := "HypergraphDualizerModel", name := "minimize", desc := "()I" } : Jvm.MethodName) ({ cls := "HypergraphDualizerModel", name := "minimize", desc := "()I" } : Jvm.MethodName) ∈ gT := gin gin_4 (i := 136) rfl rfl
theorem q4_137 : Jvm.Cond.code ({ cls := "HypergraphDualizerModel", name := "minimize", desc := "()I" } : Jvm.MethodName) prog_11_method_22_code (1 : Nat) (Option.some Jvm.ClassFile.FieldType.int) ∈ gT := gin gin_4 (i := 137) rfl rfl
theorem q4_138 : Jvm.Cond.methodLink "HypergraphDualizerModel" (107 : Nat) ({ cls := "HypergraphDualizerModel", name := "minimalEdges", desc := "()I" } : Jvm.MethodName) ∈ gT := gin gin_4 (i := 138) rfl rfl
theorem q4_140 : Jvm.Cond.instanceMethod ({ cls := "HypergraphDualizerModel", name := "minimalEdges", desc := "()I" } : Jvm.MethodName) ∈ gT := gin gin_4 (i := 140) rfl rfl
theorem q4_141 : Jvm.Cond.code ({ cls := "HypergraphDualizerModel", name := "minimalEdges", desc := "()I" } : Jvm.MethodName) prog_11_method_20_code (3 : Nat) (Option.some Jvm.ClassFile.FieldType.int) ∈ gT := gin gin_4 (i := 141) rfl rfl
theorem q4_142 : Jvm.Cond.methodLink "HypergraphDualizerModel" (104 : Nat) ({ cls := "HypergraphDualizerModel", name := "isMinimalEdge", desc := "(I)Z" } : Jvm.MethodName) ∈ gT := gin gin_4 (i := 142) rfl rfl
theorem q4_144 : Jvm.Cond.instanceMethod ({ cls := "HypergraphDualizerModel", name := "isMinimalEdge", desc := "(I)Z" } : Jvm.MethodName) ∈ gT := gin gin_4 (i := 144) rfl rfl
theorem q4_145 : Jvm.Cond.code ({ cls := "HypergraphDualizerModel", name := "isMinimalEdge", desc := "(I)Z" } : Jvm.MethodName) prog_11_method_19_code (4 : Nat) (Option.some Jvm.ClassFile.FieldType.boolean) ∈ gT := gin gin_4 (i := 145) rfl rfl
theorem q4_146 : Jvm.Cond.methodLink "HypergraphDualizerModel" (110 : Nat) ({ cls := "HypergraphDualizerModel", name := "keepOnly", desc := "(I)I" } : Jvm.MethodName) ∈ gT := gin gin_4 (i := 146) rfl rfl
theorem q4_148 : Jvm.Cond.instanceMethod ({ cls := "HypergraphDualizerModel", name := "keepOnly", desc := "(I)I" } : Jvm.MethodName) ∈ gT := gin gin_4 (i := 148) rfl rfl
theorem q4_149 : Jvm.Cond.code ({ cls := "HypergraphDualizerModel", name := "keepOnly", desc := "(I)I" } : Jvm.MethodName) prog_11_method_21_code (4 : Nat) (Option.some Jvm.ClassFile.FieldType.int) ∈ gT := gin gin_4 (i := 149) rfl rfl
theorem q4_150 : Jvm.Cond.methodLink "HypergraphDualizerLaw" (34 : Nat) ({ cls := "HypergraphDualizerModel", name := "contract", desc := "(I)I" } : Jvm.MethodName) ∈ gT := gin gin_4 (i := 150) rfl rfl
theorem q4_151 : Jvm.Cond.instanceMethod ({ cls := "HypergraphDualizerModel", name := "contract", desc := "(I)I" } : Jvm.MethodName) ∈ gT := gin gin_4 (i := 151) rfl rfl
theorem q4_152 : Jvm.Cond.selects "HypergraphDualizerModel" ({ cls := "HypergraphDualizerModel", name := "contract", desc := "(I)I" } : Jvm.MethodName) ({ cls := "HypergraphDualizerModel", name := "contract", desc := "(I)I" } : Jvm.MethodName) ∈ gT := gin gin_4 (i := 152) rfl rfl
theorem q4_153 : Jvm.Cond.code ({ cls := "HypergraphDualizerModel", name := "contract", desc := "(I)I" } : Jvm.MethodName) prog_11_method_24_code (5 : Nat) (Option.some Jvm.ClassFile.FieldType.int) ∈ gT := gin gin_4 (i := 153) rfl rfl
theorem q4_154 : Jvm.Cond.methodLink "HypergraphDualizerModel" (113 : Nat) ({ cls := "HypergraphDualizerModel", name := "noVertex", desc := "(I)Z" } : Jvm.MethodName) ∈ gT := gin gin_4 (i := 154) rfl rfl
theorem q4_156 : Jvm.Cond.instanceMethod ({ cls := "HypergraphDualizerModel", name := "noVertex", desc := "(I)Z" } : Jvm.MethodName) ∈ gT := gin gin_4 (i := 156) rfl rfl
theorem q4_157 : Jvm.Cond.code ({ cls := "HypergraphDualizerModel", name := "noVertex", desc := "(I)Z" } : Jvm.MethodName) prog_11_method_7_code (2 : Nat) (Option.some Jvm.ClassFile.FieldType.boolean) ∈ gT := gin gin_4 (i := 157) rfl rfl
theorem q4_158 : Jvm.Cond.methodLink "HypergraphDualizerModel" (116 : Nat) ({ cls := "HypergraphDualizerModel", name := "edgesWith", desc := "(I)I" } : Jvm.MethodName) ∈ gT := gin gin_4 (i := 158) rfl rfl
theorem q4_160 : Jvm.Cond.instanceMethod ({ cls := "HypergraphDualizerModel", name := "edgesWith", desc := "(I)I" } : Jvm.MethodName) ∈ gT := gin gin_4 (i := 160) rfl rfl
theorem q4_161 : Jvm.Cond.code ({ cls := "HypergraphDualizerModel", name := "edgesWith", desc := "(I)I" } : Jvm.MethodName) prog_11_method_23_code (4 : Nat) (Option.some Jvm.ClassFile.FieldType.int) ∈ gT := gin gin_4 (i := 161) rfl rfl
theorem q4_162 : Jvm.Cond.methodLink "HypergraphDualizerModel" (119 : Nat) ({ cls := "HypergraphDualizerModel", name := "bits", desc := "(I)I" } : Jvm.MethodName) ∈ gT := gin gin_4 (i := 162) rfl rfl
theorem q4_163 : Jvm.Cond.static ({ cls := "HypergraphDualizerModel", name := "bits", desc := "(I)I" } : Jvm.MethodName) ∈ gT := gin gin_4 (i := 163) rfl rfl
theorem q4_164 : Jvm.Cond.code ({ cls := "HypergraphDualizerModel", name := "bits", desc := "(I)I" } : Jvm.MethodName) prog_11_method_3_code (3 : Nat) (Option.some Jvm.ClassFile.FieldType.int) ∈ gT := gin gin_4 (i := 164) rfl rfl
theorem q4_165 : Jvm.Cond.methodLink "HypergraphDualizerLaw" (38 : Nat) ({ cls := "HypergraphDualizerModel", name := "delete", desc := "(I)I" } : Jvm.MethodName) ∈ gT := gin gin_4 (i := 165) rfl rfl
theorem q4_166 : Jvm.Cond.instanceMethod ({ cls := "HypergraphDualizerModel", name := "delete", desc := "(I)I" } : Jvm.MethodName) ∈ gT := gin gin_4 (i := 166) rfl rfl
theorem q4_167 : Jvm.Cond.selects "HypergraphDualizerModel" ({ cls := "HypergraphDualizerModel", name := "delete", desc := "(I)I" } : Jvm.MethodName) ({ cls := "HypergraphDualizerModel", name := "delete", desc := "(I)I" } : Jvm.MethodName) ∈ gT := gin gin_4 (i := 167) rfl rfl
theorem q4_168 : Jvm.Cond.code ({ cls := "HypergraphDualizerModel", name := "delete", desc := "(I)I" } : Jvm.MethodName) prog_11_method_25_code (3 : Nat) (Option.some Jvm.ClassFile.FieldType.int) ∈ gT := gin gin_4 (i := 168) rfl rfl
theorem q4_169 : Jvm.Cond.methodLink "HypergraphDualizerLaw" (54 : Nat) ({ cls := "HypergraphDualizerModel", name := "edge", desc := "(I)I" } : Jvm.MethodName) ∈ gT := gin gin_4 (i := 169) rfl rfl
theorem q4_170 : Jvm.Cond.instanceMethod ({ cls := "HypergraphDualizerModel", name := "edge", desc := "(I)I" } : Jvm.MethodName) ∈ gT := gin gin_4 (i := 170) rfl rfl
theorem q4_171 : Jvm.Cond.selects "HypergraphDualizerModel" ({ cls := "HypergraphDualizerModel", name := "edge", desc := "(I)I" } : Jvm.MethodName) ({ cls := "HypergraphDualizerModel", name := "edge", desc := "(I)I" } : Jvm.MethodName) ∈ gT := gin gin_4 (i := 171) rfl rfl
theorem q4_172 : Jvm.Cond.code ({ cls := "HypergraphDualizerModel", name := "edge", desc := "(I)I" } : Jvm.MethodName) prog_11_method_26_code (2 : Nat) (Option.some Jvm.ClassFile.FieldType.int) ∈ gT := gin gin_4 (i := 172) rfl rfl
theorem q4_173 : Jvm.Cond.methodLink "HypergraphDualizerLaw" (58 : Nat) ({ cls := "HypergraphDualizerModel", name := "value", desc := "(I)I" } : Jvm.MethodName) ∈ gT := gin gin_4 (i := 173) rfl rfl
theorem q4_174 : Jvm.Cond.instanceMethod ({ cls := "HypergraphDualizerModel", name := "value", desc := "(I)I" } : Jvm.MethodName) ∈ gT := gin gin_4 (i := 174) rfl rfl
theorem q4_175 : Jvm.Cond.selects "HypergraphDualizerModel" ({ cls := "HypergraphDualizerModel", name := "value", desc := "(I)I" } : Jvm.MethodName) ({ cls := "HypergraphDualizerModel", name := "value", desc := "(I)I" } : Jvm.MethodName) ∈ gT := gin gin_4 (i := 175) rfl rfl
theorem q4_176 : Jvm.Cond.code ({ cls := "HypergraphDualizerModel", name := "value", desc := "(I)I" } : Jvm.MethodName) prog_11_method_27_code (6 : Nat) (Option.some Jvm.ClassFile.FieldType.int) ∈ gT := gin gin_4 (i := 176) rfl rfl
theorem q4_177 : Jvm.Cond.methodLink "HypergraphDualizerLaw" (62 : Nat) ({ cls := "HypergraphDualizerModel", name := "edgesOf", desc := "(I)I" } : Jvm.MethodName) ∈ gT := gin gin_4 (i := 177) rfl rfl
theorem q4_178 : Jvm.Cond.instanceMethod ({ cls := "HypergraphDualizerModel", name := "edgesOf", desc := "(I)I" } : Jvm.MethodName) ∈ gT := gin gin_4 (i := 178) rfl rfl
theorem q4_179 : Jvm.Cond.selects "HypergraphDualizerModel" ({ cls := "HypergraphDualizerModel", name := "edgesOf", desc := "(I)I" } : Jvm.MethodName) ({ cls := "HypergraphDualizerModel", name := "edgesOf", desc := "(I)I" } : Jvm.MethodName) ∈ gT := gin gin_4 (i := 179) rfl rfl
theorem q4_180 : Jvm.Cond.code ({ cls := "HypergraphDualizerModel", name := "edgesOf", desc := "(I)I" } : Jvm.MethodName) prog_11_method_28_code (2 : Nat) (Option.some Jvm.ClassFile.FieldType.int) ∈ gT := gin gin_4 (i := 180) rfl rfl
theorem q4_181 : Jvm.Cond.methodLink "HypergraphDualizerLaw" (67 : Nat) ({ cls := "HypergraphDualizerModel", name := "setWeight", desc := "(II)I" } : Jvm.MethodName) ∈ gT := gin gin_4 (i := 181) rfl rfl
theorem q4_182 : Jvm.Cond.instanceMethod ({ cls := "HypergraphDualizerModel", name := "setWeight", desc := "(II)I" } : Jvm.MethodName) ∈ gT := gin gin_4 (i := 182) rfl rfl
theorem q4_183 : Jvm.Cond.selects "HypergraphDualizerModel" ({ cls := "HypergraphDualizerModel", name := "setWeight", desc := "(II)I" } : Jvm.MethodName) ({ cls := "HypergraphDualizerModel", name := "setWeight", desc := "(II)I" } : Jvm.MethodName) ∈ gT := gin gin_4 (i := 183) rfl rfl
theorem q4_184 : Jvm.Cond.code ({ cls := "HypergraphDualizerModel", name := "setWeight", desc := "(II)I" } : Jvm.MethodName) prog_11_method_29_code (4 : Nat) (Option.some Jvm.ClassFile.FieldType.int) ∈ gT := gin gin_4 (i := 184) rfl rfl
theorem q4_185 : Jvm.Cond.methodLink "HypergraphDualizerLaw" (71 : Nat) ({ cls := "HypergraphDualizerModel", name := "missed", desc := "(I)I" } : Jvm.MethodName) ∈ gT := gin gin_4 (i := 185) rfl rfl
theorem q4_186 : Jvm.Cond.instanceMethod ({ cls := "HypergraphDualizerModel", name := "missed", desc := "(I)I" } : Jvm.MethodName) ∈ gT := gin gin_4 (i := 186) rfl rfl
theorem q4_187 : Jvm.Cond.selects "HypergraphDualizerModel" ({ cls := "HypergraphDualizerModel", name := "missed", desc := "(I)I" } : Jvm.MethodName) ({ cls := "HypergraphDualizerModel", name := "missed", desc := "(I)I" } : Jvm.MethodName) ∈ gT := gin gin_4 (i := 187) rfl rfl
theorem q4_188 : Jvm.Cond.code ({ cls := "HypergraphDualizerModel", name := "missed", desc := "(I)I" } : Jvm.MethodName) prog_11_method_33_code (2 : Nat) (Option.some Jvm.ClassFile.FieldType.int) ∈ gT := gin gin_4 (i := 188) rfl rfl
theorem q4_189 : Jvm.Cond.methodLink "HypergraphDualizerModel" (126 : Nat) ({ cls := "HypergraphDualizerModel", name := "missedBy", desc := "(I)I" } : Jvm.MethodName) ∈ gT := gin gin_4 (i := 189) rfl rfl
theorem q4_191 : Jvm.Cond.instanceMethod ({ cls := "HypergraphDualizerModel", name := "missedBy", desc := "(I)I" } : Jvm.MethodName) ∈ gT := gin gin_4 (i := 191) rfl rfl
theorem q4_192 : Jvm.Cond.code ({ cls := "HypergraphDualizerModel", name := "missedBy", desc := "(I)I" } : Jvm.MethodName) prog_11_method_30_code (4 : Nat) (Option.some Jvm.ClassFile.FieldType.int) ∈ gT := gin gin_4 (i := 192) rfl rfl
theorem q4_193 : Jvm.Cond.methodLink "HypergraphDualizerLaw" (75 : Nat) ({ cls := "HypergraphDualizerModel", name := "privateEdges", desc := "(II)I" } : Jvm.MethodName) ∈ gT := gin gin_4 (i := 193) rfl rfl
theorem q4_194 : Jvm.Cond.instanceMethod ({ cls := "HypergraphDualizerModel", name := "privateEdges", desc := "(II)I" } : Jvm.MethodName) ∈ gT := gin gin_4 (i := 194) rfl rfl
theorem q4_195 : Jvm.Cond.selects "HypergraphDualizerModel" ({ cls := "HypergraphDualizerModel", name := "privateEdges", desc := "(II)I" } : Jvm.MethodName) ({ cls := "HypergraphDualizerModel", name := "privateEdges", desc := "(II)I" } : Jvm.MethodName) ∈ gT := gin gin_4 (i := 195) rfl rfl
theorem q4_196 : Jvm.Cond.code ({ cls := "HypergraphDualizerModel", name := "privateEdges", desc := "(II)I" } : Jvm.MethodName) prog_11_method_34_code (3 : Nat) (Option.some Jvm.ClassFile.FieldType.int) ∈ gT := gin gin_4 (i := 196) rfl rfl
theorem q4_197 : Jvm.Cond.methodLink "HypergraphDualizerModel" (122 : Nat) ({ cls := "HypergraphDualizerModel", name := "privateTo", desc := "(II)I" } : Jvm.MethodName) ∈ gT := gin gin_4 (i := 197) rfl rfl
theorem q4_199 : Jvm.Cond.instanceMethod ({ cls := "HypergraphDualizerModel", name := "privateTo", desc := "(II)I" } : Jvm.MethodName) ∈ gT := gin gin_4 (i := 199) rfl rfl
theorem q4_200 : Jvm.Cond.code ({ cls := "HypergraphDualizerModel", name := "privateTo", desc := "(II)I" } : Jvm.MethodName) prog_11_method_31_code (5 : Nat) (Option.some Jvm.ClassFile.FieldType.int) ∈ gT := gin gin_4 (i := 200) rfl rfl
theorem q4_201 : Jvm.Cond.methodLink "HypergraphDualizerLaw" (79 : Nat) ({ cls := "HypergraphDualizerModel", name := "kindOf", desc := "(I)I" } : Jvm.MethodName) ∈ gT := gin gin_4 (i := 201) rfl rfl
theorem q4_202 : Jvm.Cond.instanceMethod ({ cls := "HypergraphDualizerModel", name := "kindOf", desc := "(I)I" } : Jvm.MethodName) ∈ gT := gin gin_4 (i := 202) rfl rfl
theorem q4_203 : Jvm.Cond.selects "HypergraphDualizerModel" ({ cls := "HypergraphDualizerModel", name := "kindOf", desc := "(I)I" } : Jvm.MethodName) ({ cls := "HypergraphDualizerModel", name := "kindOf", desc := "(I)I" } : Jvm.MethodName) ∈ gT := gin gin_4 (i := 203) rfl rfl
theorem q4_204 : Jvm.Cond.code ({ cls := "HypergraphDualizerModel", name := "kindOf", desc := "(I)I" } : Jvm.MethodName) prog_11_method_35_code (2 : Nat) (Option.some Jvm.ClassFile.FieldType.int) ∈ gT := gin gin_4 (i := 204) rfl rfl
theorem q4_205 : Jvm.Cond.methodLink "HypergraphDualizerModel" (129 : Nat) ({ cls := "HypergraphDualizerModel", name := "haveAllPrivate", desc := "(I)Z" } : Jvm.MethodName) ∈ gT := gin gin_4 (i := 205) rfl rfl
theorem q4_207 : Jvm.Cond.instanceMethod ({ cls := "HypergraphDualizerModel", name := "haveAllPrivate", desc := "(I)Z" } : Jvm.MethodName) ∈ gT := gin gin_4 (i := 207) rfl rfl
theorem q4_208 : Jvm.Cond.code ({ cls := "HypergraphDualizerModel", name := "haveAllPrivate", desc := "(I)Z" } : Jvm.MethodName) prog_11_method_32_code (4 : Nat) (Option.some Jvm.ClassFile.FieldType.boolean) ∈ gT := gin gin_4 (i := 208) rfl rfl
theorem q4_209 : Jvm.Cond.methodLink "HypergraphDualizerLaw" (83 : Nat) ({ cls := "HypergraphDualizerModel", name := "shrink", desc := "(I)I" } : Jvm.MethodName) ∈ gT := gin gin_4 (i := 209) rfl rfl
theorem q4_210 : Jvm.Cond.instanceMethod ({ cls := "HypergraphDualizerModel", name := "shrink", desc := "(I)I" } : Jvm.MethodName) ∈ gT := gin gin_4 (i := 210) rfl rfl
theorem q4_211 : Jvm.Cond.selects "HypergraphDualizerModel" ({ cls := "HypergraphDualizerModel", name := "shrink", desc := "(I)I" } : Jvm.MethodName) ({ cls := "HypergraphDualizerModel", name := "shrink", desc := "(I)I" } : Jvm.MethodName) ∈ gT := gin gin_4 (i := 211) rfl rfl
theorem q4_212 : Jvm.Cond.code ({ cls := "HypergraphDualizerModel", name := "shrink", desc := "(I)I" } : Jvm.MethodName) prog_11_method_36_code (4 : Nat) (Option.some Jvm.ClassFile.FieldType.int) ∈ gT := gin gin_4 (i := 212) rfl rfl
theorem q4_213 : Jvm.Cond.methodLink "HypergraphDualizerLaw" (87 : Nat) ({ cls := "HypergraphDualizerModel", name := "grow", desc := "(I)I" } : Jvm.MethodName) ∈ gT := gin gin_4 (i := 213) rfl rfl
theorem q4_214 : Jvm.Cond.instanceMethod ({ cls := "HypergraphDualizerModel", name := "grow", desc := "(I)I" } : Jvm.MethodName) ∈ gT := gin gin_4 (i := 214) rfl rfl
theorem q4_215 : Jvm.Cond.selects "HypergraphDualizerModel" ({ cls := "HypergraphDualizerModel", name := "grow", desc := "(I)I" } : Jvm.MethodName) ({ cls := "HypergraphDualizerModel", name := "grow", desc := "(I)I" } : Jvm.MethodName) ∈ gT := gin gin_4 (i := 215) rfl rfl
theorem q4_216 : Jvm.Cond.code ({ cls := "HypergraphDualizerModel", name := "grow", desc := "(I)I" } : Jvm.MethodName) prog_11_method_37_code (6 : Nat) (Option.some Jvm.ClassFile.FieldType.int) ∈ gT := gin gin_4 (i := 216) rfl rfl
theorem q4_217 : Jvm.Cond.methodLink "HypergraphDualizerLaw" (42 : Nat) ({ cls := "HypergraphDualizerModel", name := "dualize", desc := "()I" } : Jvm.MethodName) ∈ gT := gin gin_4 (i := 217) rfl rfl
theorem q4_218 : Jvm.Cond.instanceMethod ({ cls := "HypergraphDualizerModel", name := "dualize", desc := "()I" } : Jvm.MethodName) ∈ gT := gin gin_4 (i := 218) rfl rfl
theorem q4_219 : Jvm.Cond.selects "HypergraphDualizerModel" ({ cls := "HypergraphDualizerModel", name := "dualize", desc := "()I" } : Jvm.MethodName) ({ cls := "HypergraphDualizerModel", name := "dualize", desc := "()I" } : Jvm.MethodName) ∈ gT := gin gin_4 (i := 219) rfl rfl
theorem q4_220 : Jvm.Cond.code ({ cls := "HypergraphDualizerModel", name := "dualize", desc := "()I" } : Jvm.MethodName) prog_11_method_43_code (2 : Nat) (Option.some Jvm.ClassFile.FieldType.int) ∈ gT := gin gin_4 (i := 220) rfl rfl
theorem q4_221 : Jvm.Cond.methodLink "HypergraphDualizerModel" (154 : Nat) ({ cls := "HypergraphDualizerModel", name := "search", desc := "()V" } : Jvm.MethodName) ∈ gT := gin gin_4 (i := 221) rfl rfl
theorem q4_223 : Jvm.Cond.instanceMethod ({ cls := "HypergraphDualizerModel", name := "search", desc := "()V" } : Jvm.MethodName) ∈ gT := gin gin_4 (i := 223) rfl rfl
theorem q4_224 : Jvm.Cond.code ({ cls := "HypergraphDualizerModel", name := "search", desc := "()V" } : Jvm.MethodName) prog_11_method_41_code (2 : Nat) (Option.none : Option Jvm.ClassFile.FieldType) ∈ gT := gin gin_4 (i := 224) rfl rfl
theorem q4_225 : Jvm.Cond.methodLink "HypergraphDualizerModel" (148 : Nat) ({ cls := "HypergraphDualizerModel", name := "visit", desc := "(I)Z" } : Jvm.MethodName) ∈ gT := gin gin_4 (i := 225) rfl rfl
theorem q4_227 : Jvm.Cond.instanceMethod ({ cls := "HypergraphDualizerModel", name := "visit", desc := "(I)Z" } : Jvm.MethodName) ∈ gT := gin gin_4 (i := 227) rfl rfl
theorem q4_228 : Jvm.Cond.code ({ cls := "HypergraphDualizerModel", name := "visit", desc := "(I)Z" } : Jvm.MethodName) prog_11_method_39_code (4 : Nat) (Option.some Jvm.ClassFile.FieldType.boolean) ∈ gT := gin gin_4 (i := 228) rfl rfl
theorem q4_229 : Jvm.Cond.methodLink "HypergraphDualizerModel" (141 : Nat) ({ cls := "HypergraphDualizerModel", name := "toTry", desc := "(II)I" } : Jvm.MethodName) ∈ gT := gin gin_4 (i := 229) rfl rfl
theorem q4_231 : Jvm.Cond.instanceMethod ({ cls := "HypergraphDualizerModel", name := "toTry", desc := "(II)I" } : Jvm.MethodName) ∈ gT := gin gin_4 (i := 231) rfl rfl
theorem q4_232 : Jvm.Cond.code ({ cls := "HypergraphDualizerModel", name := "toTry", desc := "(II)I" } : Jvm.MethodName) prog_11_method_38_code (6 : Nat) (Option.some Jvm.ClassFile.FieldType.int) ∈ gT := gin gin_4 (i := 232) rfl rfl
theorem q4_233 : Jvm.Cond.methodLink "HypergraphDualizerModel" (151 : Nat) ({ cls := "HypergraphDualizerModel", name := "lowest", desc := "(I)I" } : Jvm.MethodName) ∈ gT := gin gin_4 (i := 233) rfl rfl
theorem q4_234 : Jvm.Cond.static ({ cls := "HypergraphDualizerModel", name := "lowest", desc := "(I)I" } : Jvm.MethodName) ∈ gT := gin gin_4 (i := 234) rfl rfl
theorem q4_235 : Jvm.Cond.code ({ cls := "HypergraphDualizerModel", name := "lowest", desc := "(I)I" } : Jvm.MethodName) prog_11_method_40_code (1 : Nat) (Option.some Jvm.ClassFile.FieldType.int) ∈ gT := gin gin_4 (i := 235) rfl rfl
theorem q4_236 : Jvm.Cond.methodLink "HypergraphDualizerModel" (157 : Nat) ({ cls := "HypergraphDualizerModel", name := "sortAnswers", desc := "()V" } : Jvm.MethodName) ∈ gT := gin gin_4 (i := 236) rfl rfl
theorem q4_238 : Jvm.Cond.instanceMethod ({ cls := "HypergraphDualizerModel", name := "sortAnswers", desc := "()V" } : Jvm.MethodName) ∈ gT := gin gin_4 (i := 238) rfl rfl
theorem q4_239 : Jvm.Cond.code ({ cls := "HypergraphDualizerModel", name := "sortAnswers", desc := "()V" } : Jvm.MethodName) prog_11_method_42_code (4 : Nat) (Option.none : Option Jvm.ClassFile.FieldType) ∈ gT := gin gin_4 (i := 239) rfl rfl
theorem q5_0 : Jvm.Cond.methodLink "HypergraphDualizerLaw" (91 : Nat) ({ cls := "HypergraphDualizerModel", name := "answerCount", desc := "()I" } : Jvm.MethodName) ∈ gT := gin gin_5 (i := 0) rfl rfl
theorem q5_1 : Jvm.Cond.instanceMethod ({ cls := "HypergraphDualizerModel", name := "answerCount", desc := "()I" } : Jvm.MethodName) ∈ gT := gin gin_5 (i := 1) rfl rfl
theorem q5_2 : Jvm.Cond.selects "HypergraphDualizerModel" ({ cls := "HypergraphDualizerModel", name := "answerCount", desc := "()I" } : Jvm.MethodName) ({ cls := "HypergraphDualizerModel", name := "answerCount", desc := "()I" } : Jvm.MethodName) ∈ gT := gin gin_5 (i := 2) rfl rfl
theorem q5_3 : Jvm.Cond.code ({ cls := "HypergraphDualizerModel", name := "answerCount", desc := "()I" } : Jvm.MethodName) prog_11_method_44_code (1 : Nat) (Option.some Jvm.ClassFile.FieldType.int) ∈ gT := gin gin_5 (i := 3) rfl rfl
theorem q5_4 : Jvm.Cond.methodLink "HypergraphDualizerLaw" (95 : Nat) ({ cls := "HypergraphDualizerModel", name := "answer", desc := "(I)I" } : Jvm.MethodName) ∈ gT := gin gin_5 (i := 4) rfl rfl
theorem q5_5 : Jvm.Cond.instanceMethod ({ cls := "HypergraphDualizerModel", name := "answer", desc := "(I)I" } : Jvm.MethodName) ∈ gT := gin gin_5 (i := 5) rfl rfl
theorem q5_6 : Jvm.Cond.selects "HypergraphDualizerModel" ({ cls := "HypergraphDualizerModel", name := "answer", desc := "(I)I" } : Jvm.MethodName) ({ cls := "HypergraphDualizerModel", name := "answer", desc := "(I)I" } : Jvm.MethodName) ∈ gT := gin gin_5 (i := 6) rfl rfl
theorem q5_7 : Jvm.Cond.code ({ cls := "HypergraphDualizerModel", name := "answer", desc := "(I)I" } : Jvm.MethodName) prog_11_method_45_code (2 : Nat) (Option.some Jvm.ClassFile.FieldType.int) ∈ gT := gin gin_5 (i := 7) rfl rfl
theorem q5_8 : Jvm.Cond.methodLink "HypergraphDualizerLaw" (99 : Nat) ({ cls := "HypergraphDualizerModel", name := "delay", desc := "(I)I" } : Jvm.MethodName) ∈ gT := gin gin_5 (i := 8) rfl rfl
theorem q5_9 : Jvm.Cond.instanceMethod ({ cls := "HypergraphDualizerModel", name := "delay", desc := "(I)I" } : Jvm.MethodName) ∈ gT := gin gin_5 (i := 9) rfl rfl
theorem q5_10 : Jvm.Cond.selects "HypergraphDualizerModel" ({ cls := "HypergraphDualizerModel", name := "delay", desc := "(I)I" } : Jvm.MethodName) ({ cls := "HypergraphDualizerModel", name := "delay", desc := "(I)I" } : Jvm.MethodName) ∈ gT := gin gin_5 (i := 10) rfl rfl
theorem q5_11 : Jvm.Cond.code ({ cls := "HypergraphDualizerModel", name := "delay", desc := "(I)I" } : Jvm.MethodName) prog_11_method_46_code (2 : Nat) (Option.some Jvm.ClassFile.FieldType.int) ∈ gT := gin gin_5 (i := 11) rfl rfl
theorem q5_12 : Jvm.Cond.methodLink "HypergraphDualizerLaw" (103 : Nat) ({ cls := "HypergraphDualizerModel", name := "visits", desc := "()I" } : Jvm.MethodName) ∈ gT := gin gin_5 (i := 12) rfl rfl
theorem q5_13 : Jvm.Cond.instanceMethod ({ cls := "HypergraphDualizerModel", name := "visits", desc := "()I" } : Jvm.MethodName) ∈ gT := gin gin_5 (i := 13) rfl rfl
theorem q5_14 : Jvm.Cond.selects "HypergraphDualizerModel" ({ cls := "HypergraphDualizerModel", name := "visits", desc := "()I" } : Jvm.MethodName) ({ cls := "HypergraphDualizerModel", name := "visits", desc := "()I" } : Jvm.MethodName) ∈ gT := gin gin_5 (i := 14) rfl rfl
theorem q5_15 : Jvm.Cond.code ({ cls := "HypergraphDualizerModel", name := "visits", desc := "()I" } : Jvm.MethodName) prog_11_method_47_code (1 : Nat) (Option.some Jvm.ClassFile.FieldType.int) ∈ gT := gin gin_5 (i := 15) rfl rfl
theorem q5_16 : Jvm.Cond.methodLink "HypergraphDualizerLaw" (107 : Nat) ({ cls := "HypergraphDualizerModel", name := "next", desc := "(I)I" } : Jvm.MethodName) ∈ gT := gin gin_5 (i := 16) rfl rfl
theorem q5_17 : Jvm.Cond.instanceMethod ({ cls := "HypergraphDualizerModel", name := "next", desc := "(I)I" } : Jvm.MethodName) ∈ gT := gin gin_5 (i := 17) rfl rfl
theorem q5_18 : Jvm.Cond.selects "HypergraphDualizerModel" ({ cls := "HypergraphDualizerModel", name := "next", desc := "(I)I" } : Jvm.MethodName) ({ cls := "HypergraphDualizerModel", name := "next", desc := "(I)I" } : Jvm.MethodName) ∈ gT := gin gin_5 (i := 18) rfl rfl
theorem q5_19 : Jvm.Cond.code ({ cls := "HypergraphDualizerModel", name := "next", desc := "(I)I" } : Jvm.MethodName) prog_11_method_48_code (4 : Nat) (Option.some Jvm.ClassFile.FieldType.int) ∈ gT := gin gin_5 (i := 19) rfl rfl
theorem q5_20 : Jvm.Cond.methodLink "HypergraphDualizerLaw" (111 : Nat) ({ cls := "HypergraphDualizerModel", name := "answersOfSize", desc := "(I)I" } : Jvm.MethodName) ∈ gT := gin gin_5 (i := 20) rfl rfl
theorem q5_21 : Jvm.Cond.instanceMethod ({ cls := "HypergraphDualizerModel", name := "answersOfSize", desc := "(I)I" } : Jvm.MethodName) ∈ gT := gin gin_5 (i := 21) rfl rfl
theorem q5_22 : Jvm.Cond.selects "HypergraphDualizerModel" ({ cls := "HypergraphDualizerModel", name := "answersOfSize", desc := "(I)I" } : Jvm.MethodName) ({ cls := "HypergraphDualizerModel", name := "answersOfSize", desc := "(I)I" } : Jvm.MethodName) ∈ gT := gin gin_5 (i := 22) rfl rfl
theorem q5_23 : Jvm.Cond.code ({ cls := "HypergraphDualizerModel", name := "answersOfSize", desc := "(I)I" } : Jvm.MethodName) prog_11_method_49_code (4 : Nat) (Option.some Jvm.ClassFile.FieldType.int) ∈ gT := gin gin_5 (i := 23) rfl rfl
theorem q5_24 : Jvm.Cond.methodLink "HypergraphDualizerLaw" (115 : Nat) ({ cls := "HypergraphDualizerModel", name := "answersWith", desc := "(I)I" } : Jvm.MethodName) ∈ gT := gin gin_5 (i := 24) rfl rfl
theorem q5_25 : Jvm.Cond.instanceMethod ({ cls := "HypergraphDualizerModel", name := "answersWith", desc := "(I)I" } : Jvm.MethodName) ∈ gT := gin gin_5 (i := 25) rfl rfl
theorem q5_26 : Jvm.Cond.selects "HypergraphDualizerModel" ({ cls := "HypergraphDualizerModel", name := "answersWith", desc := "(I)I" } : Jvm.MethodName) ({ cls := "HypergraphDualizerModel", name := "answersWith", desc := "(I)I" } : Jvm.MethodName) ∈ gT := gin gin_5 (i := 26) rfl rfl
theorem q5_27 : Jvm.Cond.code ({ cls := "HypergraphDualizerModel", name := "answersWith", desc := "(I)I" } : Jvm.MethodName) prog_11_method_50_code (4 : Nat) (Option.some Jvm.ClassFile.FieldType.int) ∈ gT := gin gin_5 (i := 27) rfl rfl
theorem q5_28 : Jvm.Cond.methodLink "HypergraphDualizerLaw" (119 : Nat) ({ cls := "HypergraphDualizerModel", name := "lightest", desc := "(I)I" } : Jvm.MethodName) ∈ gT := gin gin_5 (i := 28) rfl rfl
theorem q5_29 : Jvm.Cond.instanceMethod ({ cls := "HypergraphDualizerModel", name := "lightest", desc := "(I)I" } : Jvm.MethodName) ∈ gT := gin gin_5 (i := 29) rfl rfl
theorem q5_30 : Jvm.Cond.selects "HypergraphDualizerModel" ({ cls := "HypergraphDualizerModel", name := "lightest", desc := "(I)I" } : Jvm.MethodName) ({ cls := "HypergraphDualizerModel", name := "lightest", desc := "(I)I" } : Jvm.MethodName) ∈ gT := gin gin_5 (i := 30) rfl rfl
theorem q5_31 : Jvm.Cond.code ({ cls := "HypergraphDualizerModel", name := "lightest", desc := "(I)I" } : Jvm.MethodName) prog_11_method_52_code (7 : Nat) (Option.some Jvm.ClassFile.FieldType.int) ∈ gT := gin gin_5 (i := 31) rfl rfl
theorem q5_32 : Jvm.Cond.methodLink "HypergraphDualizerModel" (160 : Nat) ({ cls := "HypergraphDualizerModel", name := "weighs", desc := "(I)I" } : Jvm.MethodName) ∈ gT := gin gin_5 (i := 32) rfl rfl
theorem q5_34 : Jvm.Cond.instanceMethod ({ cls := "HypergraphDualizerModel", name := "weighs", desc := "(I)I" } : Jvm.MethodName) ∈ gT := gin gin_5 (i := 34) rfl rfl
theorem q5_35 : Jvm.Cond.code ({ cls := "HypergraphDualizerModel", name := "weighs", desc := "(I)I" } : Jvm.MethodName) prog_11_method_51_code (4 : Nat) (Option.some Jvm.ClassFile.FieldType.int) ∈ gT := gin gin_5 (i := 35) rfl rfl
theorem q5_36 : Jvm.Cond.methodLink "HypergraphDualizerLaw" (123 : Nat) ({ cls := "HypergraphDualizerModel", name := "weightOf", desc := "(I)I" } : Jvm.MethodName) ∈ gT := gin gin_5 (i := 36) rfl rfl
theorem q5_37 : Jvm.Cond.instanceMethod ({ cls := "HypergraphDualizerModel", name := "weightOf", desc := "(I)I" } : Jvm.MethodName) ∈ gT := gin gin_5 (i := 37) rfl rfl
theorem q5_38 : Jvm.Cond.selects "HypergraphDualizerModel" ({ cls := "HypergraphDualizerModel", name := "weightOf", desc := "(I)I" } : Jvm.MethodName) ({ cls := "HypergraphDualizerModel", name := "weightOf", desc := "(I)I" } : Jvm.MethodName) ∈ gT := gin gin_5 (i := 38) rfl rfl
theorem q5_39 : Jvm.Cond.code ({ cls := "HypergraphDualizerModel", name := "weightOf", desc := "(I)I" } : Jvm.MethodName) prog_11_method_53_code (2 : Nat) (Option.some Jvm.ClassFile.FieldType.int) ∈ gT := gin gin_5 (i := 39) rfl rfl
theorem q5_40 : Jvm.Cond.methodLink "HypergraphDualizerLaw" (127 : Nat) ({ cls := "HypergraphDualizerModel", name := "hittingSets", desc := "(I)I" } : Jvm.MethodName) ∈ gT := gin gin_5 (i := 40) rfl rfl
theorem q5_41 : Jvm.Cond.instanceMethod ({ cls := "HypergraphDualizerModel", name := "hittingSets", desc := "(I)I" } : Jvm.MethodName) ∈ gT := gin gin_5 (i := 41) rfl rfl
theorem q5_42 : Jvm.Cond.selects "HypergraphDualizerModel" ({ cls := "HypergraphDualizerModel", name := "hittingSets", desc := "(I)I" } : Jvm.MethodName) ({ cls := "HypergraphDualizerModel", name := "hittingSets", desc := "(I)I" } : Jvm.MethodName) ∈ gT := gin gin_5 (i := 42) rfl rfl
theorem q5_43 : Jvm.Cond.code ({ cls := "HypergraphDualizerModel", name := "hittingSets", desc := "(I)I" } : Jvm.MethodName) prog_11_method_55_code (2 : Nat) (Option.some Jvm.ClassFile.FieldType.int) ∈ gT := gin gin_5 (i := 43) rfl rfl
theorem q5_44 : Jvm.Cond.methodLink "HypergraphDualizerModel" (163 : Nat) ({ cls := "HypergraphDualizerModel", name := "hitting", desc := "(I)I" } : Jvm.MethodName) ∈ gT := gin gin_5 (i := 44) rfl rfl
theorem q5_46 : Jvm.Cond.instanceMethod ({ cls := "HypergraphDualizerModel", name := "hitting", desc := "(I)I" } : Jvm.MethodName) ∈ gT := gin gin_5 (i := 46) rfl rfl
theorem q5_47 : Jvm.Cond.code ({ cls := "HypergraphDualizerModel", name := "hitting", desc := "(I)I" } : Jvm.MethodName) prog_11_method_54_code (4 : Nat) (Option.some Jvm.ClassFile.FieldType.int) ∈ gT := gin gin_5 (i := 47) rfl rfl
theorem q5_48 : Jvm.Cond.methodLink "HypergraphDualizerLaw" (132 : Nat) ({ cls := "HypergraphDualizerModel", name := "chance", desc := "()F" } : Jvm.MethodName) ∈ gT := gin gin_5 (i := 48) rfl rfl
theorem q5_49 : Jvm.Cond.instanceMethod ({ cls := "HypergraphDualizerModel", name := "chance", desc := "()F" } : Jvm.MethodName) ∈ gT := gin gin_5 (i := 49) rfl rfl
theorem q5_50 : Jvm.Cond.selects "HypergraphDualizerModel" ({ cls := "HypergraphDualizerModel", name := "chance", desc := "()F" } : Jvm.MethodName) ({ cls := "HypergraphDualizerModel", name := "chance", desc := "()F" } : Jvm.MethodName) ∈ gT := gin gin_5 (i := 50) rfl rfl
theorem q5_51 : Jvm.Cond.code ({ cls := "HypergraphDualizerModel", name := "chance", desc := "()F" } : Jvm.MethodName) prog_11_method_56_code (1 : Nat) (Option.some Jvm.ClassFile.FieldType.float) ∈ gT := gin gin_5 (i := 51) rfl rfl
theorem q5_52 : Jvm.Cond.methodLink "HypergraphDualizerLaw" (136 : Nat) ({ cls := "HypergraphDualizerModel", name := "diagramSize", desc := "(I)I" } : Jvm.MethodName) ∈ gT := gin gin_5 (i := 52) rfl rfl
theorem q5_53 : Jvm.Cond.instanceMethod ({ cls := "HypergraphDualizerModel", name := "diagramSize", desc := "(I)I" } : Jvm.MethodName) ∈ gT := gin gin_5 (i := 53) rfl rfl
theorem q5_54 : Jvm.Cond.selects "HypergraphDualizerModel" ({ cls := "HypergraphDualizerModel", name := "diagramSize", desc := "(I)I" } : Jvm.MethodName) ({ cls := "HypergraphDualizerModel", name := "diagramSize", desc := "(I)I" } : Jvm.MethodName) ∈ gT := gin gin_5 (i := 54) rfl rfl
theorem q5_55 : Jvm.Cond.code ({ cls := "HypergraphDualizerModel", name := "diagramSize", desc := "(I)I" } : Jvm.MethodName) prog_11_method_61_code (3 : Nat) (Option.some Jvm.ClassFile.FieldType.int) ∈ gT := gin gin_5 (i := 55) rfl rfl
theorem q5_56 : Jvm.Cond.methodLink "HypergraphDualizerModel" (179 : Nat) ({ cls := "HypergraphDualizerModel", name := "diagramBarred", desc := "(I)I" } : Jvm.MethodName) ∈ gT := gin gin_5 (i := 56) rfl rfl
theorem q5_58 : Jvm.Cond.instanceMethod ({ cls := "HypergraphDualizerModel", name := "diagramBarred", desc := "(I)I" } : Jvm.MethodName) ∈ gT := gin gin_5 (i := 58) rfl rfl
theorem q5_59 : Jvm.Cond.code ({ cls := "HypergraphDualizerModel", name := "diagramBarred", desc := "(I)I" } : Jvm.MethodName) prog_11_method_60_code (2 : Nat) (Option.some Jvm.ClassFile.FieldType.int) ∈ gT := gin gin_5 (i := 59) rfl rfl
theorem q5_60 : Jvm.Cond.methodLink "HypergraphDualizerModel" (176 : Nat) ({ cls := "HypergraphDualizerModel", name := "layDiagram", desc := "(I)V" } : Jvm.MethodName) ∈ gT := gin gin_5 (i := 60) rfl rfl
theorem q5_62 : Jvm.Cond.instanceMethod ({ cls := "HypergraphDualizerModel", name := "layDiagram", desc := "(I)V" } : Jvm.MethodName) ∈ gT := gin gin_5 (i := 62) rfl rfl
theorem q5_63 : Jvm.Cond.code ({ cls := "HypergraphDualizerModel", name := "layDiagram", desc := "(I)V" } : Jvm.MethodName) prog_11_method_59_code (6 : Nat) (Option.none : Option Jvm.ClassFile.FieldType) ∈ gT := gin gin_5 (i := 63) rfl rfl
theorem q5_64 : Jvm.Cond.methodLink "HypergraphDualizerModel" (169 : Nat) ({ cls := "HypergraphDualizerModel", name := "layFamily", desc := "(I)V" } : Jvm.MethodName) ∈ gT := gin gin_5 (i := 64) rfl rfl
theorem q5_66 : Jvm.Cond.instanceMethod ({ cls := "HypergraphDualizerModel", name := "layFamily", desc := "(I)V" } : Jvm.MethodName) ∈ gT := gin gin_5 (i := 66) rfl rfl
theorem q5_67 : Jvm.Cond.code ({ cls := "HypergraphDualizerModel", name := "layFamily", desc := "(I)V" } : Jvm.MethodName) prog_11_method_57_code (3 : Nat) (Option.none : Option Jvm.ClassFile.FieldType) ∈ gT := gin gin_5 (i := 67) rfl rfl
theorem q5_68 : Jvm.Cond.methodLink "HypergraphDualizerModel" (172 : Nat) ({ cls := "HypergraphDualizerModel", name := "nodeFor", desc := "(III)I" } : Jvm.MethodName) ∈ gT := gin gin_5 (i := 68) rfl rfl
theorem q5_70 : Jvm.Cond.instanceMethod ({ cls := "HypergraphDualizerModel", name := "nodeFor", desc := "(III)I" } : Jvm.MethodName) ∈ gT := gin gin_5 (i := 70) rfl rfl
theorem q5_71 : Jvm.Cond.code ({ cls := "HypergraphDualizerModel", name := "nodeFor", desc := "(III)I" } : Jvm.MethodName) prog_11_method_58_code (5 : Nat) (Option.some Jvm.ClassFile.FieldType.int) ∈ gT := gin gin_5 (i := 71) rfl rfl
theorem q5_72 : Jvm.Cond.methodLink "HypergraphDualizerLaw" (140 : Nat) ({ cls := "HypergraphDualizerModel", name := "nodesAt", desc := "(II)I" } : Jvm.MethodName) ∈ gT := gin gin_5 (i := 72) rfl rfl
theorem q5_73 : Jvm.Cond.instanceMethod ({ cls := "HypergraphDualizerModel", name := "nodesAt", desc := "(II)I" } : Jvm.MethodName) ∈ gT := gin gin_5 (i := 73) rfl rfl
theorem q5_74 : Jvm.Cond.selects "HypergraphDualizerModel" ({ cls := "HypergraphDualizerModel", name := "nodesAt", desc := "(II)I" } : Jvm.MethodName) ({ cls := "HypergraphDualizerModel", name := "nodesAt", desc := "(II)I" } : Jvm.MethodName) ∈ gT := gin gin_5 (i := 74) rfl rfl
theorem q5_75 : Jvm.Cond.code ({ cls := "HypergraphDualizerModel", name := "nodesAt", desc := "(II)I" } : Jvm.MethodName) prog_11_method_62_code (4 : Nat) (Option.some Jvm.ClassFile.FieldType.int) ∈ gT := gin gin_5 (i := 75) rfl rfl
theorem q5_76 : Jvm.Cond.methodLink "HypergraphDualizerLaw" (148 : Nat) ({ cls := "HypergraphDualizerModel", name := "difference", desc := "()I" } : Jvm.MethodName) ∈ gT := gin gin_5 (i := 76) rfl rfl
theorem q5_77 : Jvm.Cond.instanceMethod ({ cls := "HypergraphDualizerModel", name := "difference", desc := "()I" } : Jvm.MethodName) ∈ gT := gin gin_5 (i := 77) rfl rfl
theorem q5_78 : Jvm.Cond.selects "HypergraphDualizerModel" ({ cls := "HypergraphDualizerModel", name := "difference", desc := "()I" } : Jvm.MethodName) ({ cls := "HypergraphDualizerModel", name := "difference", desc := "()I" } : Jvm.MethodName) ∈ gT := gin gin_5 (i := 78) rfl rfl
theorem q5_79 : Jvm.Cond.code ({ cls := "HypergraphDualizerModel", name := "difference", desc := "()I" } : Jvm.MethodName) prog_11_method_65_code (2 : Nat) (Option.some Jvm.ClassFile.FieldType.int) ∈ gT := gin gin_5 (i := 79) rfl rfl
theorem q5_80 : Jvm.Cond.methodLink "HypergraphDualizerModel" (182 : Nat) ({ cls := "HypergraphDualizerModel", name := "isMinimal", desc := "(I)Z" } : Jvm.MethodName) ∈ gT := gin gin_5 (i := 80) rfl rfl
theorem q5_82 : Jvm.Cond.instanceMethod ({ cls := "HypergraphDualizerModel", name := "isMinimal", desc := "(I)Z" } : Jvm.MethodName) ∈ gT := gin gin_5 (i := 82) rfl rfl
theorem q5_83 : Jvm.Cond.code ({ cls := "HypergraphDualizerModel", name := "isMinimal", desc := "(I)Z" } : Jvm.MethodName) prog_11_method_64_code (3 : Nat) (Option.some Jvm.ClassFile.FieldType.boolean) ∈ gT := gin gin_5 (i := 83) rfl rfl
theorem q5_84 : Jvm.Cond.methodLink "HypergraphDualizerModel" (185 : Nat) ({ cls := "HypergraphDualizerModel", name := "isAnswer", desc := "(I)Z" } : Jvm.MethodName) ∈ gT := gin gin_5 (i := 84) rfl rfl
theorem q5_86 : Jvm.Cond.instanceMethod ({ cls := "HypergraphDualizerModel", name := "isAnswer", desc := "(I)Z" } : Jvm.MethodName) ∈ gT := gin gin_5 (i := 86) rfl rfl
theorem q5_87 : Jvm.Cond.code ({ cls := "HypergraphDualizerModel", name := "isAnswer", desc := "(I)Z" } : Jvm.MethodName) prog_11_method_63_code (2 : Nat) (Option.some Jvm.ClassFile.FieldType.boolean) ∈ gT := gin gin_5 (i := 87) rfl rfl
theorem q5_88 : Jvm.Cond.methodLink "HypergraphDualizerLaw" (144 : Nat) ({ cls := "HypergraphDualizerModel", name := "isSelfDual", desc := "()I" } : Jvm.MethodName) ∈ gT := gin gin_5 (i := 88) rfl rfl
theorem q5_89 : Jvm.Cond.instanceMethod ({ cls := "HypergraphDualizerModel", name := "isSelfDual", desc := "()I" } : Jvm.MethodName) ∈ gT := gin gin_5 (i := 89) rfl rfl
theorem q5_90 : Jvm.Cond.selects "HypergraphDualizerModel" ({ cls := "HypergraphDualizerModel", name := "isSelfDual", desc := "()I" } : Jvm.MethodName) ({ cls := "HypergraphDualizerModel", name := "isSelfDual", desc := "()I" } : Jvm.MethodName) ∈ gT := gin gin_5 (i := 90) rfl rfl
theorem q5_91 : Jvm.Cond.code ({ cls := "HypergraphDualizerModel", name := "isSelfDual", desc := "()I" } : Jvm.MethodName) prog_11_method_66_code (2 : Nat) (Option.some Jvm.ClassFile.FieldType.int) ∈ gT := gin gin_5 (i := 91) rfl rfl
theorem q5_92 : Jvm.Cond.methodLink "HypergraphDualizerModel" (188 : Nat) ({ cls := "HypergraphDualizerModel", name := "difference", desc := "()I" } : Jvm.MethodName) ∈ gT := gin gin_5 (i := 92) rfl rfl
theorem q5_93 : Jvm.Cond.methodLink "HypergraphDualizerLaw" (152 : Nat) ({ cls := "HypergraphDualizerModel", name := "isIntersecting", desc := "()I" } : Jvm.MethodName) ∈ gT := gin gin_5 (i := 93) rfl rfl
theorem q5_94 : Jvm.Cond.instanceMethod ({ cls := "HypergraphDualizerModel", name := "isIntersecting", desc := "()I" } : Jvm.MethodName) ∈ gT := gin gin_5 (i := 94) rfl rfl
theorem q5_95 : Jvm.Cond.selects "HypergraphDualizerModel" ({ cls := "HypergraphDualizerModel", name := "isIntersecting", desc := "()I" } : Jvm.MethodName) ({ cls := "HypergraphDualizerModel", name := "isIntersecting", desc := "()I" } : Jvm.MethodName) ∈ gT := gin gin_5 (i := 95) rfl rfl
theorem q5_96 : Jvm.Cond.code ({ cls := "HypergraphDualizerModel", name := "isIntersecting", desc := "()I" } : Jvm.MethodName) prog_11_method_67_code (3 : Nat) (Option.some Jvm.ClassFile.FieldType.int) ∈ gT := gin gin_5 (i := 96) rfl rfl
theorem q5_97 : Jvm.Cond.methodLink "HypergraphDualizerLaw" (157 : Nat) ({ cls := "HypergraphDualizerModel", name := "type", desc := "(C)I" } : Jvm.MethodName) ∈ gT := gin gin_5 (i := 97) rfl rfl
theorem q5_98 : Jvm.Cond.instanceMethod ({ cls := "HypergraphDualizerModel", name := "type", desc := "(C)I" } : Jvm.MethodName) ∈ gT := gin gin_5 (i := 98) rfl rfl
theorem q5_99 : Jvm.Cond.selects "HypergraphDualizerModel" ({ cls := "HypergraphDualizerModel", name := "type", desc := "(C)I" } : Jvm.MethodName) ({ cls := "HypergraphDualizerModel", name := "type", desc := "(C)I" } : Jvm.MethodName) ∈ gT := gin gin_5 (i := 99) rfl rfl
theorem q5_100 : Jvm.Cond.code ({ cls := "HypergraphDualizerModel", name := "type", desc := "(C)I" } : Jvm.MethodName) prog_11_method_68_code (2 : Nat) (Option.some Jvm.ClassFile.FieldType.int) ∈ gT := gin gin_5 (i := 100) rfl rfl
theorem q5_101 : Jvm.Cond.methodLink "HypergraphDualizerLaw" (161 : Nat) ({ cls := "HypergraphDualizerModel", name := "clearText", desc := "()I" } : Jvm.MethodName) ∈ gT := gin gin_5 (i := 101) rfl rfl
theorem q5_102 : Jvm.Cond.instanceMethod ({ cls := "HypergraphDualizerModel", name := "clearText", desc := "()I" } : Jvm.MethodName) ∈ gT := gin gin_5 (i := 102) rfl rfl
theorem q5_103 : Jvm.Cond.selects "HypergraphDualizerModel" ({ cls := "HypergraphDualizerModel", name := "clearText", desc := "()I" } : Jvm.MethodName) ({ cls := "HypergraphDualizerModel", name := "clearText", desc := "()I" } : Jvm.MethodName) ∈ gT := gin gin_5 (i := 103) rfl rfl
theorem q5_104 : Jvm.Cond.code ({ cls := "HypergraphDualizerModel", name := "clearText", desc := "()I" } : Jvm.MethodName) prog_11_method_69_code (2 : Nat) (Option.some Jvm.ClassFile.FieldType.int) ∈ gT := gin gin_5 (i := 104) rfl rfl
theorem q5_105 : Jvm.Cond.methodLink "HypergraphDualizerLaw" (165 : Nat) ({ cls := "HypergraphDualizerModel", name := "readEdges", desc := "()I" } : Jvm.MethodName) ∈ gT := gin gin_5 (i := 105) rfl rfl
theorem q5_106 : Jvm.Cond.instanceMethod ({ cls := "HypergraphDualizerModel", name := "readEdges", desc := "()I" } : Jvm.MethodName) ∈ gT := gin gin_5 (i := 106) rfl rfl
theorem q5_107 : Jvm.Cond.selects "HypergraphDualizerModel" ({ cls := "HypergraphDualizerModel", name := "readEdges", desc := "()I" } : Jvm.MethodName) ({ cls := "HypergraphDualizerModel", name := "readEdges", desc := "()I" } : Jvm.MethodName) ∈ gT := gin gin_5 (i := 107) rfl rfl
theorem q5_108 : Jvm.Cond.code ({ cls := "HypergraphDualizerModel", name := "readEdges", desc := "()I" } : Jvm.MethodName) prog_11_method_75_code (2 : Nat) (Option.some Jvm.ClassFile.FieldType.int) ∈ gT := gin gin_5 (i := 108) rfl rfl
theorem q5_109 : Jvm.Cond.methodLink "HypergraphDualizerModel" (216 : Nat) ({ cls := "HypergraphDualizerModel", name := "readEdge", desc := "()V" } : Jvm.MethodName) ∈ gT := gin gin_5 (i := 109) rfl rfl
theorem q5_111 : Jvm.Cond.instanceMethod ({ cls := "HypergraphDualizerModel", name := "readEdge", desc := "()V" } : Jvm.MethodName) ∈ gT := gin gin_5 (i := 111) rfl rfl
theorem q5_112 : Jvm.Cond.code ({ cls := "HypergraphDualizerModel", name := "readEdge", desc := "()V" } : Jvm.MethodName) prog_11_method_74_code (2 : Nat) (Option.none : Option Jvm.ClassFile.FieldType) ∈ gT := gin gin_5 (i := 112) rfl rfl
theorem q5_113 : Jvm.Cond.methodLink "HypergraphDualizerModel" (206 : Nat) ({ cls := "HypergraphDualizerModel", name := "readVertex", desc := "(I)I" } : Jvm.MethodName) ∈ gT := gin gin_5 (i := 113) rfl rfl
theorem q5_115 : Jvm.Cond.instanceMethod ({ cls := "HypergraphDualizerModel", name := "readVertex", desc := "(I)I" } : Jvm.MethodName) ∈ gT := gin gin_5 (i := 115) rfl rfl
theorem q5_116 : Jvm.Cond.code ({ cls := "HypergraphDualizerModel", name := "readVertex", desc := "(I)I" } : Jvm.MethodName) prog_11_method_72_code (6 : Nat) (Option.some Jvm.ClassFile.FieldType.int) ∈ gT := gin gin_5 (i := 116) rfl rfl
theorem q5_117 : Jvm.Cond.methodLink "HypergraphDualizerModel" (197 : Nat) ({ cls := "HypergraphDualizerModel", name := "digitAt", desc := "(I)I" } : Jvm.MethodName) ∈ gT := gin gin_5 (i := 117) rfl rfl
theorem q5_119 : Jvm.Cond.instanceMethod ({ cls := "HypergraphDualizerModel", name := "digitAt", desc := "(I)I" } : Jvm.MethodName) ∈ gT := gin gin_5 (i := 119) rfl rfl
theorem q5_120 : Jvm.Cond.code ({ cls := "HypergraphDualizerModel", name := "digitAt", desc := "(I)I" } : Jvm.MethodName) prog_11_method_70_code (2 : Nat) (Option.some Jvm.ClassFile.FieldType.int) ∈ gT := gin gin_5 (i := 120) rfl rfl
theorem q5_121 : Jvm.Cond.methodLink "HypergraphDualizerModel" (209 : Nat) ({ cls := "HypergraphDualizerModel", name := "isAt", desc := "(C)Z" } : Jvm.MethodName) ∈ gT := gin gin_5 (i := 121) rfl rfl
theorem q5_123 : Jvm.Cond.instanceMethod ({ cls := "HypergraphDualizerModel", name := "isAt", desc := "(C)Z" } : Jvm.MethodName) ∈ gT := gin gin_5 (i := 123) rfl rfl
theorem q5_124 : Jvm.Cond.code ({ cls := "HypergraphDualizerModel", name := "isAt", desc := "(C)Z" } : Jvm.MethodName) prog_11_method_71_code (2 : Nat) (Option.some Jvm.ClassFile.FieldType.boolean) ∈ gT := gin gin_5 (i := 124) rfl rfl
theorem q5_125 : Jvm.Cond.methodLink "HypergraphDualizerModel" (213 : Nat) ({ cls := "HypergraphDualizerModel", name := "isOld", desc := "(I)Z" } : Jvm.MethodName) ∈ gT := gin gin_5 (i := 125) rfl rfl
theorem q5_127 : Jvm.Cond.instanceMethod ({ cls := "HypergraphDualizerModel", name := "isOld", desc := "(I)Z" } : Jvm.MethodName) ∈ gT := gin gin_5 (i := 127) rfl rfl
theorem q5_128 : Jvm.Cond.code ({ cls := "HypergraphDualizerModel", name := "isOld", desc := "(I)Z" } : Jvm.MethodName) prog_11_method_73_code (4 : Nat) (Option.some Jvm.ClassFile.FieldType.boolean) ∈ gT := gin gin_5 (i := 128) rfl rfl
theorem qs_0 : Cond.selects "HypergraphDualizer$Hypergraph" ⟨"HypergraphDualizer$Hypergraph", "followChange", "()V"⟩ ⟨"HypergraphDualizer$Hypergraph", "followChange", "()V"⟩ ∈ gT := gin gin_0 (i := 0) rfl rfl
theorem qs_1 : Cond.selects "HypergraphDualizer$Hypergraph" ⟨"HypergraphDualizer$Hypergraph", "isMinimal", "(I)Z"⟩ ⟨"HypergraphDualizer$Hypergraph", "isMinimal", "(I)Z"⟩ ∈ gT := gin gin_0 (i := 1) rfl rfl
theorem qs_2 : Cond.selects "HypergraphDualizer$Search" ⟨"HypergraphDualizer$Search", "keep", "(I)V"⟩ ⟨"HypergraphDualizer$Search", "keep", "(I)V"⟩ ∈ gT := gin gin_0 (i := 2) rfl rfl
theorem qs_3 : Cond.selects "HypergraphDualizer$Hypergraph" ⟨"HypergraphDualizer$Hypergraph", "takePast", "()V"⟩ ⟨"HypergraphDualizer$Hypergraph", "takePast", "()V"⟩ ∈ gT := gin gin_0 (i := 3) rfl rfl
theorem qs_4 : Cond.selects "HypergraphDualizer" ⟨"HypergraphDualizer", "problemWithPlace", "(I)I"⟩ ⟨"HypergraphDualizer", "problemWithPlace", "(I)I"⟩ ∈ gT := gin gin_0 (i := 4) rfl rfl
theorem qs_5 : Cond.selects "HypergraphDualizer$Weights" ⟨"HypergraphDualizer$Weights", "keysUpTo", "(II)I"⟩ ⟨"HypergraphDualizer$Weights", "keysUpTo", "(II)I"⟩ ∈ gT := gin gin_0 (i := 5) rfl rfl
theorem qs_6 : Cond.selects "HypergraphDualizer$HittingCounts" ⟨"HypergraphDualizer$HittingCounts", "bringUpToDate", "()V"⟩ ⟨"HypergraphDualizer$HittingCounts", "bringUpToDate", "()V"⟩ ∈ gT := gin gin_0 (i := 6) rfl rfl
theorem qs_7 : Cond.selects "HypergraphDualizer$Family" ⟨"HypergraphDualizer$Family", "mark", "([II)V"⟩ ⟨"HypergraphDualizer$Family", "mark", "([II)V"⟩ ∈ gT := gin gin_0 (i := 7) rfl rfl
theorem qs_8 : Cond.selects "HypergraphDualizer$Family" ⟨"HypergraphDualizer$Family", "markHittingSets", "()V"⟩ ⟨"HypergraphDualizer$Family", "markHittingSets", "()V"⟩ ∈ gT := gin gin_0 (i := 8) rfl rfl
theorem qs_9 : Cond.selects "HypergraphDualizer" ⟨"HypergraphDualizer", "canBeDrawn", "(I)Z"⟩ ⟨"HypergraphDualizer", "canBeDrawn", "(I)Z"⟩ ∈ gT := gin gin_0 (i := 9) rfl rfl
theorem qs_10 : Cond.selects "HypergraphDualizer$Diagram" ⟨"HypergraphDualizer$Diagram", "draw", "(I)V"⟩ ⟨"HypergraphDualizer$Diagram", "draw", "(I)V"⟩ ∈ gT := gin gin_0 (i := 10) rfl rfl
theorem qs_11 : Cond.selects "HypergraphDualizer$Diagram" ⟨"HypergraphDualizer$Diagram", "drawNodesAt", "(I)V"⟩ ⟨"HypergraphDualizer$Diagram", "drawNodesAt", "(I)V"⟩ ∈ gT := gin gin_0 (i := 11) rfl rfl
theorem qs_12 : Cond.selects "HypergraphDualizer$Diagram" ⟨"HypergraphDualizer$Diagram", "nodeWith", "(III)I"⟩ ⟨"HypergraphDualizer$Diagram", "nodeWith", "(III)I"⟩ ∈ gT := gin gin_0 (i := 12) rfl rfl
theorem qs_13 : Cond.selects "HypergraphDualizer$Search" ⟨"HypergraphDualizer$Search", "isMinimalEdge", "(II)Z"⟩ ⟨"HypergraphDualizer$Search", "isMinimalEdge", "(II)Z"⟩ ∈ gT := gin gin_0 (i := 13) rfl rfl
theorem qs_14 : Cond.selects "HypergraphDualizer$EdgeText" ⟨"HypergraphDualizer$EdgeText", "readEdge", "(LHypergraphDualizer$Hypergraph;)V"⟩ ⟨"HypergraphDualizer$EdgeText", "readEdge", "(LHypergraphDualizer$Hypergraph;)V"⟩ ∈ gT := gin gin_0 (i := 14) rfl rfl
theorem qs_15 : Cond.selects "HypergraphDualizer$EdgeText" ⟨"HypergraphDualizer$EdgeText", "readVertex", "(II)I"⟩ ⟨"HypergraphDualizer$EdgeText", "readVertex", "(II)I"⟩ ∈ gT := gin gin_0 (i := 15) rfl rfl
theorem qs_16 : Cond.selects "HypergraphDualizer$EdgeText" ⟨"HypergraphDualizer$EdgeText", "digit", "()I"⟩ ⟨"HypergraphDualizer$EdgeText", "digit", "()I"⟩ ∈ gT := gin gin_0 (i := 16) rfl rfl
theorem qs_17 : Cond.selects "HypergraphDualizer$EdgeText" ⟨"HypergraphDualizer$EdgeText", "skips", "(C)Z"⟩ ⟨"HypergraphDualizer$EdgeText", "skips", "(C)Z"⟩ ∈ gT := gin gin_0 (i := 17) rfl rfl
theorem qs_18 : Cond.selects "HypergraphDualizerModel" ⟨"HypergraphDualizerModel", "restWeights", "()V"⟩ ⟨"HypergraphDualizerModel", "restWeights", "()V"⟩ ∈ gT := gin gin_0 (i := 18) rfl rfl
theorem qs_19 : Cond.selects "HypergraphDualizerModel" ⟨"HypergraphDualizerModel", "noSet", "(I)Z"⟩ ⟨"HypergraphDualizerModel", "noSet", "(I)Z"⟩ ∈ gT := gin gin_0 (i := 19) rfl rfl
theorem qs_20 : Cond.selects "HypergraphDualizerModel" ⟨"HypergraphDualizerModel", "whole", "()I"⟩ ⟨"HypergraphDualizerModel", "whole", "()I"⟩ ∈ gT := gin gin_0 (i := 20) rfl rfl
theorem qs_21 : Cond.selects "HypergraphDualizerModel" ⟨"HypergraphDualizerModel", "placeOf", "(I)I"⟩ ⟨"HypergraphDualizerModel", "placeOf", "(I)I"⟩ ∈ gT := gin gin_0 (i := 21) rfl rfl
theorem qs_22 : Cond.selects "HypergraphDualizerModel" ⟨"HypergraphDualizerModel", "many", "()I"⟩ ⟨"HypergraphDualizerModel", "many", "()I"⟩ ∈ gT := gin gin_0 (i := 22) rfl rfl
theorem qs_23 : Cond.selects "HypergraphDualizerModel" ⟨"HypergraphDualizerModel", "keep", "()V"⟩ ⟨"HypergraphDualizerModel", "keep", "()V"⟩ ∈ gT := gin gin_0 (i := 23) rfl rfl
theorem qs_24 : Cond.selects "HypergraphDualizerModel" ⟨"HypergraphDualizerModel", "append", "(I)V"⟩ ⟨"HypergraphDualizerModel", "append", "(I)V"⟩ ∈ gT := gin gin_0 (i := 24) rfl rfl
theorem qs_25 : Cond.selects "HypergraphDualizerModel" ⟨"HypergraphDualizerModel", "noEdge", "(I)Z"⟩ ⟨"HypergraphDualizerModel", "noEdge", "(I)Z"⟩ ∈ gT := gin gin_0 (i := 25) rfl rfl
theorem qs_26 : Cond.selects "HypergraphDualizerModel" ⟨"HypergraphDualizerModel", "drop", "(I)V"⟩ ⟨"HypergraphDualizerModel", "drop", "(I)V"⟩ ∈ gT := gin gin_0 (i := 26) rfl rfl
theorem qs_27 : Cond.selects "HypergraphDualizerModel" ⟨"HypergraphDualizerModel", "minimalEdges", "()I"⟩ ⟨"HypergraphDualizerModel", "minimalEdges", "()I"⟩ ∈ gT := gin gin_0 (i := 27) rfl rfl
theorem qs_28 : Cond.selects "HypergraphDualizerModel" ⟨"HypergraphDualizerModel", "isMinimalEdge", "(I)Z"⟩ ⟨"HypergraphDualizerModel", "isMinimalEdge", "(I)Z"⟩ ∈ gT := gin gin_0 (i := 28) rfl rfl
theorem qs_29 : Cond.selects "HypergraphDualizerModel" ⟨"HypergraphDualizerModel", "keepOnly", "(I)I"⟩ ⟨"HypergraphDualizerModel", "keepOnly", "(I)I"⟩ ∈ gT := gin gin_0 (i := 29) rfl rfl
theorem qs_30 : Cond.selects "HypergraphDualizerModel" ⟨"HypergraphDualizerModel", "noVertex", "(I)Z"⟩ ⟨"HypergraphDualizerModel", "noVertex", "(I)Z"⟩ ∈ gT := gin gin_0 (i := 30) rfl rfl
theorem qs_31 : Cond.selects "HypergraphDualizerModel" ⟨"HypergraphDualizerModel", "edgesWith", "(I)I"⟩ ⟨"HypergraphDualizerModel", "edgesWith", "(I)I"⟩ ∈ gT := gin gin_0 (i := 31) rfl rfl
theorem qs_32 : Cond.selects "HypergraphDualizerModel" ⟨"HypergraphDualizerModel", "missedBy", "(I)I"⟩ ⟨"HypergraphDualizerModel", "missedBy", "(I)I"⟩ ∈ gT := gin gin_0 (i := 32) rfl rfl
theorem qs_33 : Cond.selects "HypergraphDualizerModel" ⟨"HypergraphDualizerModel", "privateTo", "(II)I"⟩ ⟨"HypergraphDualizerModel", "privateTo", "(II)I"⟩ ∈ gT := gin gin_0 (i := 33) rfl rfl
theorem qs_34 : Cond.selects "HypergraphDualizerModel" ⟨"HypergraphDualizerModel", "haveAllPrivate", "(I)Z"⟩ ⟨"HypergraphDualizerModel", "haveAllPrivate", "(I)Z"⟩ ∈ gT := gin gin_0 (i := 34) rfl rfl
theorem qs_35 : Cond.selects "HypergraphDualizerModel" ⟨"HypergraphDualizerModel", "search", "()V"⟩ ⟨"HypergraphDualizerModel", "search", "()V"⟩ ∈ gT := gin gin_0 (i := 35) rfl rfl
theorem qs_36 : Cond.selects "HypergraphDualizerModel" ⟨"HypergraphDualizerModel", "visit", "(I)Z"⟩ ⟨"HypergraphDualizerModel", "visit", "(I)Z"⟩ ∈ gT := gin gin_0 (i := 36) rfl rfl
theorem qs_37 : Cond.selects "HypergraphDualizerModel" ⟨"HypergraphDualizerModel", "toTry", "(II)I"⟩ ⟨"HypergraphDualizerModel", "toTry", "(II)I"⟩ ∈ gT := gin gin_0 (i := 37) rfl rfl
theorem qs_38 : Cond.selects "HypergraphDualizerModel" ⟨"HypergraphDualizerModel", "sortAnswers", "()V"⟩ ⟨"HypergraphDualizerModel", "sortAnswers", "()V"⟩ ∈ gT := gin gin_0 (i := 38) rfl rfl
theorem qs_39 : Cond.selects "HypergraphDualizerModel" ⟨"HypergraphDualizerModel", "weighs", "(I)I"⟩ ⟨"HypergraphDualizerModel", "weighs", "(I)I"⟩ ∈ gT := gin gin_0 (i := 39) rfl rfl
theorem qs_40 : Cond.selects "HypergraphDualizerModel" ⟨"HypergraphDualizerModel", "hitting", "(I)I"⟩ ⟨"HypergraphDualizerModel", "hitting", "(I)I"⟩ ∈ gT := gin gin_0 (i := 40) rfl rfl
theorem qs_41 : Cond.selects "HypergraphDualizerModel" ⟨"HypergraphDualizerModel", "diagramBarred", "(I)I"⟩ ⟨"HypergraphDualizerModel", "diagramBarred", "(I)I"⟩ ∈ gT := gin gin_0 (i := 41) rfl rfl
theorem qs_42 : Cond.selects "HypergraphDualizerModel" ⟨"HypergraphDualizerModel", "layDiagram", "(I)V"⟩ ⟨"HypergraphDualizerModel", "layDiagram", "(I)V"⟩ ∈ gT := gin gin_0 (i := 42) rfl rfl
theorem qs_43 : Cond.selects "HypergraphDualizerModel" ⟨"HypergraphDualizerModel", "layFamily", "(I)V"⟩ ⟨"HypergraphDualizerModel", "layFamily", "(I)V"⟩ ∈ gT := gin gin_0 (i := 43) rfl rfl
theorem qs_44 : Cond.selects "HypergraphDualizerModel" ⟨"HypergraphDualizerModel", "nodeFor", "(III)I"⟩ ⟨"HypergraphDualizerModel", "nodeFor", "(III)I"⟩ ∈ gT := gin gin_0 (i := 44) rfl rfl
theorem qs_45 : Cond.selects "HypergraphDualizerModel" ⟨"HypergraphDualizerModel", "isMinimal", "(I)Z"⟩ ⟨"HypergraphDualizerModel", "isMinimal", "(I)Z"⟩ ∈ gT := gin gin_0 (i := 45) rfl rfl
theorem qs_46 : Cond.selects "HypergraphDualizerModel" ⟨"HypergraphDualizerModel", "isAnswer", "(I)Z"⟩ ⟨"HypergraphDualizerModel", "isAnswer", "(I)Z"⟩ ∈ gT := gin gin_0 (i := 46) rfl rfl
theorem qs_47 : Cond.selects "HypergraphDualizerModel" ⟨"HypergraphDualizerModel", "readEdge", "()V"⟩ ⟨"HypergraphDualizerModel", "readEdge", "()V"⟩ ∈ gT := gin gin_0 (i := 47) rfl rfl
theorem qs_48 : Cond.selects "HypergraphDualizerModel" ⟨"HypergraphDualizerModel", "readVertex", "(I)I"⟩ ⟨"HypergraphDualizerModel", "readVertex", "(I)I"⟩ ∈ gT := gin gin_0 (i := 48) rfl rfl
theorem qs_49 : Cond.selects "HypergraphDualizerModel" ⟨"HypergraphDualizerModel", "digitAt", "(I)I"⟩ ⟨"HypergraphDualizerModel", "digitAt", "(I)I"⟩ ∈ gT := gin gin_0 (i := 49) rfl rfl
theorem qs_50 : Cond.selects "HypergraphDualizerModel" ⟨"HypergraphDualizerModel", "isAt", "(C)Z"⟩ ⟨"HypergraphDualizerModel", "isAt", "(C)Z"⟩ ∈ gT := gin gin_0 (i := 50) rfl rfl
theorem qs_51 : Cond.selects "HypergraphDualizerModel" ⟨"HypergraphDualizerModel", "isOld", "(I)Z"⟩ ⟨"HypergraphDualizerModel", "isOld", "(I)Z"⟩ ∈ gT := gin gin_0 (i := 51) rfl rfl
