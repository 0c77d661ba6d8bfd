-- ===== PART A: goes FIRST, ahead of the names: the tables' words, and 'selects' of the private methods out of them =====
/-- a private method of a class that the tables say can be made, by its rows of tables_1 -/
def lw_okq (q : MethodName × Nat) : Prop := (q.1.cls ≠ "java/lang/invoke/MethodHandle" ∧ q.1.cls ≠ "java/lang/invoke/VarHandle") ∧ Cond.instantiable q.1.cls q.2 ∈ tables_1 ∧ Cond.privateMethod q.1 ∈ tables_1 ∧ Cond.instanceMethod q.1 ∈ tables_1
theorem lw_p0 : lw_okq (⟨"HypergraphDualizer$Hypergraph", "followChange", "()V"⟩, 6) := ⟨⟨by decide +kernel, by decide +kernel⟩, List.mem_of_getElem? (i := 23) (by decide +kernel), List.mem_of_getElem? (i := 280) (by decide +kernel), List.mem_of_getElem? (i := 281) (by decide +kernel)⟩
theorem lw_p1 : lw_okq (⟨"HypergraphDualizer$Hypergraph", "isMinimal", "(I)Z"⟩, 6) := ⟨⟨by decide +kernel, by decide +kernel⟩, List.mem_of_getElem? (i := 23) (by decide +kernel), List.mem_of_getElem? (i := 347) (by decide +kernel), List.mem_of_getElem? (i := 348) (by decide +kernel)⟩
theorem lw_p2 : lw_okq (⟨"HypergraphDualizer$Search", "keep", "(I)V"⟩, 8) := ⟨⟨by decide +kernel, by decide +kernel⟩, List.mem_of_getElem? (i := 112) (by decide +kernel), List.mem_of_getElem? (i := 389) (by decide +kernel), List.mem_of_getElem? (i := 390) (by decide +kernel)⟩
theorem lw_p3 : lw_okq (⟨"HypergraphDualizer$Hypergraph", "takePast", "()V"⟩, 6) := ⟨⟨by decide +kernel, by decide +kernel⟩, List.mem_of_getElem? (i := 23) (by decide +kernel), List.mem_of_getElem? (i := 419) (by decide +kernel), List.mem_of_getElem? (i := 420) (by decide +kernel)⟩
theorem lw_p4 : lw_okq (⟨"HypergraphDualizer", "problemWithPlace", "(I)I"⟩, 6) := ⟨⟨by decide +kernel, by decide +kernel⟩, List.mem_of_getElem? (i := 15) (by decide +kernel), List.mem_of_getElem? (i := 513) (by decide +kernel), List.mem_of_getElem? (i := 514) (by decide +kernel)⟩
theorem lw_p5 : lw_okq (⟨"HypergraphDualizer$Weights", "keysUpTo", "(II)I"⟩, 2) := ⟨⟨by decide +kernel, by decide +kernel⟩, List.mem_of_getElem? (i := 94) (by decide +kernel), List.mem_of_getElem? (i := 560) (by decide +kernel), List.mem_of_getElem? (i := 561) (by decide +kernel)⟩
theorem lw_p6 : lw_okq (⟨"HypergraphDualizer$HittingCounts", "bringUpToDate", "()V"⟩, 5) := ⟨⟨by decide +kernel, by decide +kernel⟩, List.mem_of_getElem? (i := 169) (by decide +kernel), List.mem_of_getElem? (i := 577) (by decide +kernel), List.mem_of_getElem? (i := 578) (by decide +kernel)⟩
theorem lw_p7 : lw_okq (⟨"HypergraphDualizer$Family", "mark", "([II)V"⟩, 3) := ⟨⟨by decide +kernel, by decide +kernel⟩, List.mem_of_getElem? (i := 151) (by decide +kernel), List.mem_of_getElem? (i := 585) (by decide +kernel), List.mem_of_getElem? (i := 586) (by decide +kernel)⟩
theorem lw_p8 : lw_okq (⟨"HypergraphDualizer$Family", "markHittingSets", "()V"⟩, 3) := ⟨⟨by decide +kernel, by decide +kernel⟩, List.mem_of_getElem? (i := 151) (by decide +kernel), List.mem_of_getElem? (i := 589) (by decide +kernel), List.mem_of_getElem? (i := 590) (by decide +kernel)⟩
theorem lw_p9 : lw_okq (⟨"HypergraphDualizer", "canBeDrawn", "(I)Z"⟩, 6) := ⟨⟨by decide +kernel, by decide +kernel⟩, List.mem_of_getElem? (i := 15) (by decide +kernel), List.mem_of_getElem? (i := 610) (by decide +kernel), List.mem_of_getElem? (i := 611) (by decide +kernel)⟩
theorem lw_p10 : lw_okq (⟨"HypergraphDualizer$Diagram", "draw", "(I)V"⟩, 10) := ⟨⟨by decide +kernel, by decide +kernel⟩, List.mem_of_getElem? (i := 191) (by decide +kernel), List.mem_of_getElem? (i := 618) (by decide +kernel), List.mem_of_getElem? (i := 619) (by decide +kernel)⟩
theorem lw_p11 : lw_okq (⟨"HypergraphDualizer$Diagram", "drawNodesAt", "(I)V"⟩, 10) := ⟨⟨by decide +kernel, by decide +kernel⟩, List.mem_of_getElem? (i := 191) (by decide +kernel), List.mem_of_getElem? (i := 623) (by decide +kernel), List.mem_of_getElem? (i := 624) (by decide +kernel)⟩
theorem lw_p12 : lw_okq (⟨"HypergraphDualizer$Diagram", "nodeWith", "(III)I"⟩, 10) := ⟨⟨by decide +kernel, by decide +kernel⟩, List.mem_of_getElem? (i := 191) (by decide +kernel), List.mem_of_getElem? (i := 627) (by decide +kernel), List.mem_of_getElem? (i := 628) (by decide +kernel)⟩
theorem lw_p13 : lw_okq (⟨"HypergraphDualizer$Search", "isMinimalEdge", "(II)Z"⟩, 8) := ⟨⟨by decide +kernel, by decide +kernel⟩, List.mem_of_getElem? (i := 112) (by decide +kernel), List.mem_of_getElem? (i := 649) (by decide +kernel), List.mem_of_getElem? (i := 650) (by decide +kernel)⟩
theorem lw_p14 : lw_okq (⟨"HypergraphDualizer$EdgeText", "readEdge", "(LHypergraphDualizer$Hypergraph;)V"⟩, 4) := ⟨⟨by decide +kernel, by decide +kernel⟩, List.mem_of_getElem? (i := 228) (by decide +kernel), List.mem_of_getElem? (i := 685) (by decide +kernel), List.mem_of_getElem? (i := 686) (by decide +kernel)⟩
theorem lw_p15 : lw_okq (⟨"HypergraphDualizer$EdgeText", "readVertex", "(II)I"⟩, 4) := ⟨⟨by decide +kernel, by decide +kernel⟩, List.mem_of_getElem? (i := 228) (by decide +kernel), List.mem_of_getElem? (i := 690) (by decide +kernel), List.mem_of_getElem? (i := 691) (by decide +kernel)⟩
def lw_privs_1 : List (MethodName × Nat) := [(⟨"HypergraphDualizer$Hypergraph", "followChange", "()V"⟩, 6), (⟨"HypergraphDualizer$Hypergraph", "isMinimal", "(I)Z"⟩, 6), (⟨"HypergraphDualizer$Search", "keep", "(I)V"⟩, 8), (⟨"HypergraphDualizer$Hypergraph", "takePast", "()V"⟩, 6), (⟨"HypergraphDualizer", "problemWithPlace", "(I)I"⟩, 6), (⟨"HypergraphDualizer$Weights", "keysUpTo", "(II)I"⟩, 2), (⟨"HypergraphDualizer$HittingCounts", "bringUpToDate", "()V"⟩, 5), (⟨"HypergraphDualizer$Family", "mark", "([II)V"⟩, 3), (⟨"HypergraphDualizer$Family", "markHittingSets", "()V"⟩, 3), (⟨"HypergraphDualizer", "canBeDrawn", "(I)Z"⟩, 6), (⟨"HypergraphDualizer$Diagram", "draw", "(I)V"⟩, 10), (⟨"HypergraphDualizer$Diagram", "drawNodesAt", "(I)V"⟩, 10), (⟨"HypergraphDualizer$Diagram", "nodeWith", "(III)I"⟩, 10), (⟨"HypergraphDualizer$Search", "isMinimalEdge", "(II)Z"⟩, 8), (⟨"HypergraphDualizer$EdgeText", "readEdge", "(LHypergraphDualizer$Hypergraph;)V"⟩, 4), (⟨"HypergraphDualizer$EdgeText", "readVertex", "(II)I"⟩, 4)]
theorem lw_r1 : ∀ q ∈ lw_privs_1, lw_okq q := List.forall_mem_cons.mpr ⟨lw_p0, List.forall_mem_cons.mpr ⟨lw_p1, List.forall_mem_cons.mpr ⟨lw_p2, List.forall_mem_cons.mpr ⟨lw_p3, List.forall_mem_cons.mpr ⟨lw_p4, List.forall_mem_cons.mpr ⟨lw_p5, List.forall_mem_cons.mpr ⟨lw_p6, List.forall_mem_cons.mpr ⟨lw_p7, List.forall_mem_cons.mpr ⟨lw_p8, List.forall_mem_cons.mpr ⟨lw_p9, List.forall_mem_cons.mpr ⟨lw_p10, List.forall_mem_cons.mpr ⟨lw_p11, List.forall_mem_cons.mpr ⟨lw_p12, List.forall_mem_cons.mpr ⟨lw_p13, List.forall_mem_cons.mpr ⟨lw_p14, List.forall_mem_cons.mpr ⟨lw_p15, fun _ h => absurd h List.not_mem_nil⟩⟩⟩⟩⟩⟩⟩⟩⟩⟩⟩⟩⟩⟩⟩⟩
theorem lw_p16 : lw_okq (⟨"HypergraphDualizer$EdgeText", "digit", "()I"⟩, 4) := ⟨⟨by decide +kernel, by decide +kernel⟩, List.mem_of_getElem? (i := 228) (by decide +kernel), List.mem_of_getElem? (i := 694) (by decide +kernel), List.mem_of_getElem? (i := 695) (by decide +kernel)⟩
theorem lw_p17 : lw_okq (⟨"HypergraphDualizer$EdgeText", "skips", "(C)Z"⟩, 4) := ⟨⟨by decide +kernel, by decide +kernel⟩, List.mem_of_getElem? (i := 228) (by decide +kernel), List.mem_of_getElem? (i := 699) (by decide +kernel), List.mem_of_getElem? (i := 700) (by decide +kernel)⟩
theorem lw_p18 : lw_okq (⟨"HypergraphDualizerModel", "restWeights", "()V"⟩, 28) := ⟨⟨by decide +kernel, by decide +kernel⟩, List.mem_of_getElem? (i := 705) (by decide +kernel), List.mem_of_getElem? (i := 711) (by decide +kernel), List.mem_of_getElem? (i := 712) (by decide +kernel)⟩
theorem lw_p19 : lw_okq (⟨"HypergraphDualizerModel", "noSet", "(I)Z"⟩, 28) := ⟨⟨by decide +kernel, by decide +kernel⟩, List.mem_of_getElem? (i := 705) (by decide +kernel), List.mem_of_getElem? (i := 819) (by decide +kernel), List.mem_of_getElem? (i := 820) (by decide +kernel)⟩
theorem lw_p20 : lw_okq (⟨"HypergraphDualizerModel", "whole", "()I"⟩, 28) := ⟨⟨by decide +kernel, by decide +kernel⟩, List.mem_of_getElem? (i := 705) (by decide +kernel), List.mem_of_getElem? (i := 823) (by decide +kernel), List.mem_of_getElem? (i := 824) (by decide +kernel)⟩
theorem lw_p21 : lw_okq (⟨"HypergraphDualizerModel", "placeOf", "(I)I"⟩, 28) := ⟨⟨by decide +kernel, by decide +kernel⟩, List.mem_of_getElem? (i := 705) (by decide +kernel), List.mem_of_getElem? (i := 827) (by decide +kernel), List.mem_of_getElem? (i := 828) (by decide +kernel)⟩
theorem lw_p22 : lw_okq (⟨"HypergraphDualizerModel", "many", "()I"⟩, 28) := ⟨⟨by decide +kernel, by decide +kernel⟩, List.mem_of_getElem? (i := 705) (by decide +kernel), List.mem_of_getElem? (i := 831) (by decide +kernel), List.mem_of_getElem? (i := 832) (by decide +kernel)⟩
theorem lw_p23 : lw_okq (⟨"HypergraphDualizerModel", "keep", "()V"⟩, 28) := ⟨⟨by decide +kernel, by decide +kernel⟩, List.mem_of_getElem? (i := 705) (by decide +kernel), List.mem_of_getElem? (i := 835) (by decide +kernel), List.mem_of_getElem? (i := 836) (by decide +kernel)⟩
theorem lw_p24 : lw_okq (⟨"HypergraphDualizerModel", "append", "(I)V"⟩, 28) := ⟨⟨by decide +kernel, by decide +kernel⟩, List.mem_of_getElem? (i := 705) (by decide +kernel), List.mem_of_getElem? (i := 839) (by decide +kernel), List.mem_of_getElem? (i := 840) (by decide +kernel)⟩
theorem lw_p25 : lw_okq (⟨"HypergraphDualizerModel", "noEdge", "(I)Z"⟩, 28) := ⟨⟨by decide +kernel, by decide +kernel⟩, List.mem_of_getElem? (i := 705) (by decide +kernel), List.mem_of_getElem? (i := 847) (by decide +kernel), List.mem_of_getElem? (i := 848) (by decide +kernel)⟩
theorem lw_p26 : lw_okq (⟨"HypergraphDualizerModel", "drop", "(I)V"⟩, 28) := ⟨⟨by decide +kernel, by decide +kernel⟩, List.mem_of_getElem? (i := 705) (by decide +kernel), List.mem_of_getElem? (i := 851) (by decide +kernel), List.mem_of_getElem? (i := 852) (by decide +kernel)⟩
theorem lw_p27 : lw_okq (⟨"HypergraphDualizerModel", "minimalEdges", "()I"⟩, 28) := ⟨⟨by decide +kernel, by decide +kernel⟩, List.mem_of_getElem? (i := 705) (by decide +kernel), List.mem_of_getElem? (i := 859) (by decide +kernel), List.mem_of_getElem? (i := 860) (by decide +kernel)⟩
theorem lw_p28 : lw_okq (⟨"HypergraphDualizerModel", "isMinimalEdge", "(I)Z"⟩, 28) := ⟨⟨by decide +kernel, by decide +kernel⟩, List.mem_of_getElem? (i := 705) (by decide +kernel), List.mem_of_getElem? (i := 863) (by decide +kernel), List.mem_of_getElem? (i := 864) (by decide +kernel)⟩
theorem lw_p29 : lw_okq (⟨"HypergraphDualizerModel", "keepOnly", "(I)I"⟩, 28) := ⟨⟨by decide +kernel, by decide +kernel⟩, List.mem_of_getElem? (i := 705) (by decide +kernel), List.mem_of_getElem? (i := 867) (by decide +kernel), List.mem_of_getElem? (i := 868) (by decide +kernel)⟩
theorem lw_p30 : lw_okq (⟨"HypergraphDualizerModel", "noVertex", "(I)Z"⟩, 28) := ⟨⟨by decide +kernel, by decide +kernel⟩, List.mem_of_getElem? (i := 705) (by decide +kernel), List.mem_of_getElem? (i := 875) (by decide +kernel), List.mem_of_getElem? (i := 876) (by decide +kernel)⟩
theorem lw_p31 : lw_okq (⟨"HypergraphDualizerModel", "edgesWith", "(I)I"⟩, 28) := ⟨⟨by decide +kernel, by decide +kernel⟩, List.mem_of_getElem? (i := 705) (by decide +kernel), List.mem_of_getElem? (i := 879) (by decide +kernel), List.mem_of_getElem? (i := 880) (by decide +kernel)⟩
def lw_privs_2 : List (MethodName × Nat) := [(⟨"HypergraphDualizer$EdgeText", "digit", "()I"⟩, 4), (⟨"HypergraphDualizer$EdgeText", "skips", "(C)Z"⟩, 4), (⟨"HypergraphDualizerModel", "restWeights", "()V"⟩, 28), (⟨"HypergraphDualizerModel", "noSet", "(I)Z"⟩, 28), (⟨"HypergraphDualizerModel", "whole", "()I"⟩, 28), (⟨"HypergraphDualizerModel", "placeOf", "(I)I"⟩, 28), (⟨"HypergraphDualizerModel", "many", "()I"⟩, 28), (⟨"HypergraphDualizerModel", "keep", "()V"⟩, 28), (⟨"HypergraphDualizerModel", "append", "(I)V"⟩, 28), (⟨"HypergraphDualizerModel", "noEdge", "(I)Z"⟩, 28), (⟨"HypergraphDualizerModel", "drop", "(I)V"⟩, 28), (⟨"HypergraphDualizerModel", "minimalEdges", "()I"⟩, 28), (⟨"HypergraphDualizerModel", "isMinimalEdge", "(I)Z"⟩, 28), (⟨"HypergraphDualizerModel", "keepOnly", "(I)I"⟩, 28), (⟨"HypergraphDualizerModel", "noVertex", "(I)Z"⟩, 28), (⟨"HypergraphDualizerModel", "edgesWith", "(I)I"⟩, 28)]
theorem lw_r2 : ∀ q ∈ lw_privs_2, lw_okq q := List.forall_mem_cons.mpr ⟨lw_p16, List.forall_mem_cons.mpr ⟨lw_p17, List.forall_mem_cons.mpr ⟨lw_p18, List.forall_mem_cons.mpr ⟨lw_p19, List.forall_mem_cons.mpr ⟨lw_p20, List.forall_mem_cons.mpr ⟨lw_p21, List.forall_mem_cons.mpr ⟨lw_p22, List.forall_mem_cons.mpr ⟨lw_p23, List.forall_mem_cons.mpr ⟨lw_p24, List.forall_mem_cons.mpr ⟨lw_p25, List.forall_mem_cons.mpr ⟨lw_p26, List.forall_mem_cons.mpr ⟨lw_p27, List.forall_mem_cons.mpr ⟨lw_p28, List.forall_mem_cons.mpr ⟨lw_p29, List.forall_mem_cons.mpr ⟨lw_p30, List.forall_mem_cons.mpr ⟨lw_p31, fun _ h => absurd h List.not_mem_nil⟩⟩⟩⟩⟩⟩⟩⟩⟩⟩⟩⟩⟩⟩⟩⟩
theorem lw_p32 : lw_okq (⟨"HypergraphDualizerModel", "missedBy", "(I)I"⟩, 28) := ⟨⟨by decide +kernel, by decide +kernel⟩, List.mem_of_getElem? (i := 705) (by decide +kernel), List.mem_of_getElem? (i := 910) (by decide +kernel), List.mem_of_getElem? (i := 911) (by decide +kernel)⟩
theorem lw_p33 : lw_okq (⟨"HypergraphDualizerModel", "privateTo", "(II)I"⟩, 28) := ⟨⟨by decide +kernel, by decide +kernel⟩, List.mem_of_getElem? (i := 705) (by decide +kernel), List.mem_of_getElem? (i := 918) (by decide +kernel), List.mem_of_getElem? (i := 919) (by decide +kernel)⟩
theorem lw_p34 : lw_okq (⟨"HypergraphDualizerModel", "haveAllPrivate", "(I)Z"⟩, 28) := ⟨⟨by decide +kernel, by decide +kernel⟩, List.mem_of_getElem? (i := 705) (by decide +kernel), List.mem_of_getElem? (i := 926) (by decide +kernel), List.mem_of_getElem? (i := 927) (by decide +kernel)⟩
theorem lw_p35 : lw_okq (⟨"HypergraphDualizerModel", "search", "()V"⟩, 28) := ⟨⟨by decide +kernel, by decide +kernel⟩, List.mem_of_getElem? (i := 705) (by decide +kernel), List.mem_of_getElem? (i := 942) (by decide +kernel), List.mem_of_getElem? (i := 943) (by decide +kernel)⟩
theorem lw_p36 : lw_okq (⟨"HypergraphDualizerModel", "visit", "(I)Z"⟩, 28) := ⟨⟨by decide +kernel, by decide +kernel⟩, List.mem_of_getElem? (i := 705) (by decide +kernel), List.mem_of_getElem? (i := 946) (by decide +kernel), List.mem_of_getElem? (i := 947) (by decide +kernel)⟩
theorem lw_p37 : lw_okq (⟨"HypergraphDualizerModel", "toTry", "(II)I"⟩, 28) := ⟨⟨by decide +kernel, by decide +kernel⟩, List.mem_of_getElem? (i := 705) (by decide +kernel), List.mem_of_getElem? (i := 950) (by decide +kernel), List.mem_of_getElem? (i := 951) (by decide +kernel)⟩
theorem lw_p38 : lw_okq (⟨"HypergraphDualizerModel", "sortAnswers", "()V"⟩, 28) := ⟨⟨by decide +kernel, by decide +kernel⟩, List.mem_of_getElem? (i := 705) (by decide +kernel), List.mem_of_getElem? (i := 957) (by decide +kernel), List.mem_of_getElem? (i := 958) (by decide +kernel)⟩
theorem lw_p39 : lw_okq (⟨"HypergraphDualizerModel", "weighs", "(I)I"⟩, 28) := ⟨⟨by decide +kernel, by decide +kernel⟩, List.mem_of_getElem? (i := 705) (by decide +kernel), List.mem_of_getElem? (i := 993) (by decide +kernel), List.mem_of_getElem? (i := 994) (by decide +kernel)⟩
theorem lw_p40 : lw_okq (⟨"HypergraphDualizerModel", "hitting", "(I)I"⟩, 28) := ⟨⟨by decide +kernel, by decide +kernel⟩, List.mem_of_getElem? (i := 705) (by decide +kernel), List.mem_of_getElem? (i := 1005) (by decide +kernel), List.mem_of_getElem? (i := 1006) (by decide +kernel)⟩
theorem lw_p41 : lw_okq (⟨"HypergraphDualizerModel", "diagramBarred", "(I)I"⟩, 28) := ⟨⟨by decide +kernel, by decide +kernel⟩, List.mem_of_getElem? (i := 705) (by decide +kernel), List.mem_of_getElem? (i := 1017) (by decide +kernel), List.mem_of_getElem? (i := 1018) (by decide +kernel)⟩
theorem lw_p42 : lw_okq (⟨"HypergraphDualizerModel", "layDiagram", "(I)V"⟩, 28) := ⟨⟨by decide +kernel, by decide +kernel⟩, List.mem_of_getElem? (i := 705) (by decide +kernel), List.mem_of_getElem? (i := 1021) (by decide +kernel), List.mem_of_getElem? (i := 1022) (by decide +kernel)⟩
theorem lw_p43 : lw_okq (⟨"HypergraphDualizerModel", "layFamily", "(I)V"⟩, 28) := ⟨⟨by decide +kernel, by decide +kernel⟩, List.mem_of_getElem? (i := 705) (by decide +kernel), List.mem_of_getElem? (i := 1025) (by decide +kernel), List.mem_of_getElem? (i := 1026) (by decide +kernel)⟩
theorem lw_p44 : lw_okq (⟨"HypergraphDualizerModel", "nodeFor", "(III)I"⟩, 28) := ⟨⟨by decide +kernel, by decide +kernel⟩, List.mem_of_getElem? (i := 705) (by decide +kernel), List.mem_of_getElem? (i := 1029) (by decide +kernel), List.mem_of_getElem? (i := 1030) (by decide +kernel)⟩
theorem lw_p45 : lw_okq (⟨"HypergraphDualizerModel", "isMinimal", "(I)Z"⟩, 28) := ⟨⟨by decide +kernel, by decide +kernel⟩, List.mem_of_getElem? (i := 705) (by decide +kernel), List.mem_of_getElem? (i := 1041) (by decide +kernel), List.mem_of_getElem? (i := 1042) (by decide +kernel)⟩
theorem lw_p46 : lw_okq (⟨"HypergraphDualizerModel", "isAnswer", "(I)Z"⟩, 28) := ⟨⟨by decide +kernel, by decide +kernel⟩, List.mem_of_getElem? (i := 705) (by decide +kernel), List.mem_of_getElem? (i := 1045) (by decide +kernel), List.mem_of_getElem? (i := 1046) (by decide +kernel)⟩
theorem lw_p47 : lw_okq (⟨"HypergraphDualizerModel", "readEdge", "()V"⟩, 28) := ⟨⟨by decide +kernel, by decide +kernel⟩, List.mem_of_getElem? (i := 705) (by decide +kernel), List.mem_of_getElem? (i := 1070) (by decide +kernel), List.mem_of_getElem? (i := 1071) (by decide +kernel)⟩
def lw_privs_3 : List (MethodName × Nat) := [(⟨"HypergraphDualizerModel", "missedBy", "(I)I"⟩, 28), (⟨"HypergraphDualizerModel", "privateTo", "(II)I"⟩, 28), (⟨"HypergraphDualizerModel", "haveAllPrivate", "(I)Z"⟩, 28), (⟨"HypergraphDualizerModel", "search", "()V"⟩, 28), (⟨"HypergraphDualizerModel", "visit", "(I)Z"⟩, 28), (⟨"HypergraphDualizerModel", "toTry", "(II)I"⟩, 28), (⟨"HypergraphDualizerModel", "sortAnswers", "()V"⟩, 28), (⟨"HypergraphDualizerModel", "weighs", "(I)I"⟩, 28), (⟨"HypergraphDualizerModel", "hitting", "(I)I"⟩, 28), (⟨"HypergraphDualizerModel", "diagramBarred", "(I)I"⟩, 28), (⟨"HypergraphDualizerModel", "layDiagram", "(I)V"⟩, 28), (⟨"HypergraphDualizerModel", "layFamily", "(I)V"⟩, 28), (⟨"HypergraphDualizerModel", "nodeFor", "(III)I"⟩, 28), (⟨"HypergraphDualizerModel", "isMinimal", "(I)Z"⟩, 28), (⟨"HypergraphDualizerModel", "isAnswer", "(I)Z"⟩, 28), (⟨"HypergraphDualizerModel", "readEdge", "()V"⟩, 28)]
theorem lw_r3 : ∀ q ∈ lw_privs_3, lw_okq q := List.forall_mem_cons.mpr ⟨lw_p32, List.forall_mem_cons.mpr ⟨lw_p33, List.forall_mem_cons.mpr ⟨lw_p34, List.forall_mem_cons.mpr ⟨lw_p35, List.forall_mem_cons.mpr ⟨lw_p36, List.forall_mem_cons.mpr ⟨lw_p37, List.forall_mem_cons.mpr ⟨lw_p38, List.forall_mem_cons.mpr ⟨lw_p39, List.forall_mem_cons.mpr ⟨lw_p40, List.forall_mem_cons.mpr ⟨lw_p41, List.forall_mem_cons.mpr ⟨lw_p42, List.forall_mem_cons.mpr ⟨lw_p43, List.forall_mem_cons.mpr ⟨lw_p44, List.forall_mem_cons.mpr ⟨lw_p45, List.forall_mem_cons.mpr ⟨lw_p46, List.forall_mem_cons.mpr ⟨lw_p47, fun _ h => absurd h List.not_mem_nil⟩⟩⟩⟩⟩⟩⟩⟩⟩⟩⟩⟩⟩⟩⟩⟩
theorem lw_p48 : lw_okq (⟨"HypergraphDualizerModel", "readVertex", "(I)I"⟩, 28) := ⟨⟨by decide +kernel, by decide +kernel⟩, List.mem_of_getElem? (i := 705) (by decide +kernel), List.mem_of_getElem? (i := 1074) (by decide +kernel), List.mem_of_getElem? (i := 1075) (by decide +kernel)⟩
theorem lw_p49 : lw_okq (⟨"HypergraphDualizerModel", "digitAt", "(I)I"⟩, 28) := ⟨⟨by decide +kernel, by decide +kernel⟩, List.mem_of_getElem? (i := 705) (by decide +kernel), List.mem_of_getElem? (i := 1078) (by decide +kernel), List.mem_of_getElem? (i := 1079) (by decide +kernel)⟩
theorem lw_p50 : lw_okq (⟨"HypergraphDualizerModel", "isAt", "(C)Z"⟩, 28) := ⟨⟨by decide +kernel, by decide +kernel⟩, List.mem_of_getElem? (i := 705) (by decide +kernel), List.mem_of_getElem? (i := 1082) (by decide +kernel), List.mem_of_getElem? (i := 1083) (by decide +kernel)⟩
theorem lw_p51 : lw_okq (⟨"HypergraphDualizerModel", "isOld", "(I)Z"⟩, 28) := ⟨⟨by decide +kernel, by decide +kernel⟩, List.mem_of_getElem? (i := 705) (by decide +kernel), List.mem_of_getElem? (i := 1086) (by decide +kernel), List.mem_of_getElem? (i := 1087) (by decide +kernel)⟩
def lw_privs_4 : List (MethodName × Nat) := [(⟨"HypergraphDualizerModel", "readVertex", "(I)I"⟩, 28), (⟨"HypergraphDualizerModel", "digitAt", "(I)I"⟩, 28), (⟨"HypergraphDualizerModel", "isAt", "(C)Z"⟩, 28), (⟨"HypergraphDualizerModel", "isOld", "(I)Z"⟩, 28)]
theorem lw_r4 : ∀ q ∈ lw_privs_4, lw_okq q := List.forall_mem_cons.mpr ⟨lw_p48, List.forall_mem_cons.mpr ⟨lw_p49, List.forall_mem_cons.mpr ⟨lw_p50, List.forall_mem_cons.mpr ⟨lw_p51, fun _ h => absurd h List.not_mem_nil⟩⟩⟩⟩
def lw_privs : List (MethodName × Nat) := lw_privs_1 ++ (lw_privs_2 ++ (lw_privs_3 ++ (lw_privs_4)))
def lw_tbl : List Cond := k2_sels lw_privs ++ tables_1
theorem lw_privs_ok : ∀ q ∈ lw_privs, lw_okq q := by
  show ∀ q ∈ lw_privs_1 ++ (lw_privs_2 ++ (lw_privs_3 ++ (lw_privs_4))), lw_okq q
  exact List.forall_mem_append.mpr ⟨lw_r1, List.forall_mem_append.mpr ⟨lw_r2, List.forall_mem_append.mpr ⟨lw_r3, lw_r4⟩⟩⟩
/-- the streams that the claim lets the run draw from -/
abbrev lw_cs : List Choice := [Jvm.Choice.named "NaN.bits"]
theorem lw_bits : nanBits ∈ lw_cs := by first | decide | exact List.mem_cons_self | simp [lw_cs, nanBits]
def RX0 : String := "HypergraphDualizer$Diagram"
def TX0 : u_T := fun k => match k with
  | 0 => ("HypergraphDualizer$Diagram", "graph", "LHypergraphDualizer$Hypergraph;", true)
  | 1 => ("HypergraphDualizer$Diagram", "family", "LHypergraphDualizer$Family;", true)
  | 2 => ("HypergraphDualizer$Diagram", "counts", "[I", true)
  | 3 => ("HypergraphDualizer$Diagram", "lows", "[I", true)
  | 4 => ("HypergraphDualizer$Diagram", "highs", "[I", true)
  | 5 => ("HypergraphDualizer$Diagram", "olders", "[I", true)
  | 6 => ("HypergraphDualizer$Diagram", "newest", "[I", true)
  | 7 => ("HypergraphDualizer$Diagram", "nodes", "I", false)
  | 8 => ("HypergraphDualizer$Diagram", "drawn", "I", false)
  | _ => ("HypergraphDualizer$Diagram", "version", "I", false)
def tyX0 : Nat → FieldType := fun k => match k with
  | 0 => .object "HypergraphDualizer$Hypergraph"
  | 1 => .object "HypergraphDualizer$Family"
  | 2 => .array .int
  | 3 => .array .int
  | 4 => .array .int
  | 5 => .array .int
  | 6 => .array .int
  | 7 => .int
  | 8 => .int
  | _ => .int
abbrev wsX00 : List Cond := u_ws RX0 TX0 10
theorem nmX0 : ∀ a, a < 10 → ∀ b, b < 10 → a ≠ b → (TX0 a).2.1 ≠ (TX0 b).2.1 := by decide +kernel
theorem tyX0_ok : ∀ k, k < 10 → parseFieldDescriptor (TX0 k).2.2.1 = some (tyX0 k) := by decide +kernel
abbrev cX0_init : ByteArray := prog_2_method_1_code
def yX0_init : MethodName := ⟨RX0, "<init>", "(LHypergraphDualizer$Hypergraph;LHypergraphDualizer$Family;)V"⟩
abbrev cX0_sizeOf : ByteArray := prog_2_method_2_code
def yX0_sizeOf : MethodName := ⟨RX0, "sizeOf", "(I)I"⟩
abbrev cX0_countAt : ByteArray := prog_2_method_3_code
def yX0_countAt : MethodName := ⟨RX0, "countAt", "(II)I"⟩
abbrev cX0_draw : ByteArray := prog_2_method_4_code
def yX0_draw : MethodName := ⟨RX0, "draw", "(I)V"⟩
abbrev cX0_drawNodesAt : ByteArray := prog_2_method_5_code
def yX0_drawNodesAt : MethodName := ⟨RX0, "drawNodesAt", "(I)V"⟩
abbrev cX0_nodeWith : ByteArray := prog_2_method_6_code
def yX0_nodeWith : MethodName := ⟨RX0, "nodeWith", "(III)I"⟩
def RX1 : String := "HypergraphDualizer$EdgeText"
def TX1 : u_T := fun k => match k with
  | 0 => ("HypergraphDualizer$EdgeText", "length", "I", false)
  | 1 => ("HypergraphDualizer$EdgeText", "characters", "[C", true)
  | 2 => ("HypergraphDualizer$EdgeText", "at", "I", false)
  | _ => ("HypergraphDualizer$EdgeText", "fault", "I", false)
def tyX1 : Nat → FieldType := fun k => match k with
  | 0 => .int
  | 1 => .array .char
  | 2 => .int
  | _ => .int
abbrev wsX10 : List Cond := u_ws RX1 TX1 4
theorem nmX1 : ∀ a, a < 4 → ∀ b, b < 4 → a ≠ b → (TX1 a).2.1 ≠ (TX1 b).2.1 := by decide +kernel
theorem tyX1_ok : ∀ k, k < 4 → parseFieldDescriptor (TX1 k).2.2.1 = some (tyX1 k) := by decide +kernel
abbrev cX1_init : ByteArray := prog_3_method_1_code
def yX1_init : MethodName := ⟨RX1, "<init>", "()V"⟩
abbrev cX1_append : ByteArray := prog_3_method_2_code
def yX1_append : MethodName := ⟨RX1, "append", "(C)Z"⟩
abbrev cX1_readInto : ByteArray := prog_3_method_3_code
def yX1_readInto : MethodName := ⟨RX1, "readInto", "(LHypergraphDualizer$Hypergraph;)I"⟩
abbrev cX1_readEdge : ByteArray := prog_3_method_4_code
def yX1_readEdge : MethodName := ⟨RX1, "readEdge", "(LHypergraphDualizer$Hypergraph;)V"⟩
abbrev cX1_readVertex : ByteArray := prog_3_method_5_code
def yX1_readVertex : MethodName := ⟨RX1, "readVertex", "(II)I"⟩
abbrev cX1_digit : ByteArray := prog_3_method_6_code
def yX1_digit : MethodName := ⟨RX1, "digit", "()I"⟩
abbrev cX1_skips : ByteArray := prog_3_method_7_code
def yX1_skips : MethodName := ⟨RX1, "skips", "(C)Z"⟩
def RX2 : String := "HypergraphDualizer$Family"
def TX2 : u_T := fun k => match k with
  | 0 => ("HypergraphDualizer$Family", "cells", "[I", true)
  | 1 => ("HypergraphDualizer$Family", "graph", "LHypergraphDualizer$Hypergraph;", true)
  | _ => ("HypergraphDualizer$Family", "search", "LHypergraphDualizer$Search;", true)
def tyX2 : Nat → FieldType := fun k => match k with
  | 0 => .array .int
  | 1 => .object "HypergraphDualizer$Hypergraph"
  | _ => .object "HypergraphDualizer$Search"
abbrev wsX20 : List Cond := u_ws RX2 TX2 3
theorem nmX2 : ∀ a, a < 3 → ∀ b, b < 3 → a ≠ b → (TX2 a).2.1 ≠ (TX2 b).2.1 := by decide +kernel
theorem tyX2_ok : ∀ k, k < 3 → parseFieldDescriptor (TX2 k).2.2.1 = some (tyX2 k) := by decide +kernel
abbrev cX2_init : ByteArray := prog_4_method_1_code
def yX2_init : MethodName := ⟨RX2, "<init>", "(LHypergraphDualizer$Hypergraph;LHypergraphDualizer$Search;)V"⟩
abbrev cX2_fill : ByteArray := prog_4_method_2_code
def yX2_fill : MethodName := ⟨RX2, "fill", "(I)V"⟩
abbrev cX2_mark : ByteArray := prog_4_method_3_code
def yX2_mark : MethodName := ⟨RX2, "mark", "([II)V"⟩
abbrev cX2_markHittingSets : ByteArray := prog_4_method_4_code
def yX2_markHittingSets : MethodName := ⟨RX2, "markHittingSets", "()V"⟩
def RX3 : String := "HypergraphDualizer$History"
def TX3 : u_T := fun k => match k with
  | 0 => ("HypergraphDualizer$History", "undoable", "I", false)
  | 1 => ("HypergraphDualizer$History", "redoable", "I", false)
  | 2 => ("HypergraphDualizer$History", "rows", "[[I", true)
  | 3 => ("HypergraphDualizer$History", "counts", "[I", true)
  | _ => ("HypergraphDualizer$History", "now", "I", false)
def tyX3 : Nat → FieldType := fun k => match k with
  | 0 => .int
  | 1 => .int
  | 2 => .array (.array .int)
  | 3 => .array .int
  | _ => .int
abbrev wsX30 : List Cond := u_ws RX3 TX3 5
theorem nmX3 : ∀ a, a < 5 → ∀ b, b < 5 → a ≠ b → (TX3 a).2.1 ≠ (TX3 b).2.1 := by decide +kernel
theorem tyX3_ok : ∀ k, k < 5 → parseFieldDescriptor (TX3 k).2.2.1 = some (tyX3 k) := by decide +kernel
abbrev cX3_init : ByteArray := prog_5_method_1_code
def yX3_init : MethodName := ⟨RX3, "<init>", "()V"⟩
abbrev cX3_forget : ByteArray := prog_5_method_2_code
def yX3_forget : MethodName := ⟨RX3, "forget", "()V"⟩
abbrev cX3_add : ByteArray := prog_5_method_3_code
def yX3_add : MethodName := ⟨RX3, "add", "([II)V"⟩
abbrev cX3_moveBack : ByteArray := prog_5_method_4_code
def yX3_moveBack : MethodName := ⟨RX3, "moveBack", "()Z"⟩
abbrev cX3_moveForward : ByteArray := prog_5_method_5_code
def yX3_moveForward : MethodName := ⟨RX3, "moveForward", "()Z"⟩
abbrev cX3_copyTo : ByteArray := prog_5_method_6_code
def yX3_copyTo : MethodName := ⟨RX3, "copyTo", "([I)I"⟩
def RX4 : String := "HypergraphDualizer$HittingCounts"
def TX4 : u_T := fun k => match k with
  | 0 => ("HypergraphDualizer$HittingCounts", "graph", "LHypergraphDualizer$Hypergraph;", true)
  | 1 => ("HypergraphDualizer$HittingCounts", "family", "LHypergraphDualizer$Family;", true)
  | 2 => ("HypergraphDualizer$HittingCounts", "counts", "[I", true)
  | 3 => ("HypergraphDualizer$HittingCounts", "total", "I", false)
  | _ => ("HypergraphDualizer$HittingCounts", "version", "I", false)
def tyX4 : Nat → FieldType := fun k => match k with
  | 0 => .object "HypergraphDualizer$Hypergraph"
  | 1 => .object "HypergraphDualizer$Family"
  | 2 => .array .int
  | 3 => .int
  | _ => .int
abbrev wsX40 : List Cond := u_ws RX4 TX4 5
theorem nmX4 : ∀ a, a < 5 → ∀ b, b < 5 → a ≠ b → (TX4 a).2.1 ≠ (TX4 b).2.1 := by decide +kernel
theorem tyX4_ok : ∀ k, k < 5 → parseFieldDescriptor (TX4 k).2.2.1 = some (tyX4 k) := by decide +kernel
abbrev cX4_init : ByteArray := prog_6_method_1_code
def yX4_init : MethodName := ⟨RX4, "<init>", "(LHypergraphDualizer$Hypergraph;LHypergraphDualizer$Family;)V"⟩
abbrev cX4_countOfAll : ByteArray := prog_6_method_2_code
def yX4_countOfAll : MethodName := ⟨RX4, "countOfAll", "()I"⟩
abbrev cX4_countOfSize : ByteArray := prog_6_method_3_code
def yX4_countOfSize : MethodName := ⟨RX4, "countOfSize", "(I)I"⟩
abbrev cX4_bringUpToDate : ByteArray := prog_6_method_4_code
def yX4_bringUpToDate : MethodName := ⟨RX4, "bringUpToDate", "()V"⟩
def RX5 : String := "HypergraphDualizer$Hypergraph"
def TX5 : u_T := fun k => match k with
  | 0 => ("HypergraphDualizer$Hypergraph", "vertices", "I", false)
  | 1 => ("HypergraphDualizer$Hypergraph", "count", "I", false)
  | 2 => ("HypergraphDualizer$Hypergraph", "edges", "[I", true)
  | 3 => ("HypergraphDualizer$Hypergraph", "edgesAt", "[I", true)
  | 4 => ("HypergraphDualizer$Hypergraph", "history", "LHypergraphDualizer$History;", true)
  | _ => ("HypergraphDualizer$Hypergraph", "version", "I", false)
def tyX5 : Nat → FieldType := fun k => match k with
  | 0 => .int
  | 1 => .int
  | 2 => .array .int
  | 3 => .array .int
  | 4 => .object "HypergraphDualizer$History"
  | _ => .int
abbrev wsX50 : List Cond := u_ws RX5 TX5 6
theorem nmX5 : ∀ a, a < 6 → ∀ b, b < 6 → a ≠ b → (TX5 a).2.1 ≠ (TX5 b).2.1 := by decide +kernel
theorem tyX5_ok : ∀ k, k < 6 → parseFieldDescriptor (TX5 k).2.2.1 = some (tyX5 k) := by decide +kernel
abbrev cX5_init : ByteArray := prog_7_method_1_code
def yX5_init : MethodName := ⟨RX5, "<init>", "()V"⟩
abbrev cX5_startAnew : ByteArray := prog_7_method_2_code
def yX5_startAnew : MethodName := ⟨RX5, "startAnew", "(I)V"⟩
abbrev cX5_isVertex : ByteArray := prog_7_method_3_code
def yX5_isVertex : MethodName := ⟨RX5, "isVertex", "(I)Z"⟩
abbrev cX5_isEdge : ByteArray := prog_7_method_4_code
def yX5_isEdge : MethodName := ⟨RX5, "isEdge", "(I)Z"⟩
abbrev cX5_isSet : ByteArray := prog_7_method_5_code
def yX5_isSet : MethodName := ⟨RX5, "isSet", "(I)Z"⟩
abbrev cX5_isFull : ByteArray := prog_7_method_6_code
def yX5_isFull : MethodName := ⟨RX5, "isFull", "()Z"⟩
abbrev cX5_allEdges : ByteArray := prog_7_method_7_code
def yX5_allEdges : MethodName := ⟨RX5, "allEdges", "()I"⟩
abbrev cX5_contains : ByteArray := prog_7_method_8_code
def yX5_contains : MethodName := ⟨RX5, "contains", "(I)Z"⟩
abbrev cX5_append : ByteArray := prog_7_method_9_code
def yX5_append : MethodName := ⟨RX5, "append", "(I)V"⟩
abbrev cX5_keepOnly : ByteArray := prog_7_method_10_code
def yX5_keepOnly : MethodName := ⟨RX5, "keepOnly", "(I)V"⟩
abbrev cX5_takeOut : ByteArray := prog_7_method_11_code
def yX5_takeOut : MethodName := ⟨RX5, "takeOut", "(I)V"⟩
abbrev cX5_endEdit : ByteArray := prog_7_method_12_code
def yX5_endEdit : MethodName := ⟨RX5, "endEdit", "()V"⟩
abbrev cX5_stepBack : ByteArray := prog_7_method_13_code
def yX5_stepBack : MethodName := ⟨RX5, "stepBack", "()Z"⟩
abbrev cX5_stepForward : ByteArray := prog_7_method_14_code
def yX5_stepForward : MethodName := ⟨RX5, "stepForward", "()Z"⟩
abbrev cX5_takePast : ByteArray := prog_7_method_15_code
def yX5_takePast : MethodName := ⟨RX5, "takePast", "()V"⟩
abbrev cX5_followChange : ByteArray := prog_7_method_16_code
def yX5_followChange : MethodName := ⟨RX5, "followChange", "()V"⟩
abbrev cX5_minimalEdges : ByteArray := prog_7_method_17_code
def yX5_minimalEdges : MethodName := ⟨RX5, "minimalEdges", "()I"⟩
abbrev cX5_isMinimal : ByteArray := prog_7_method_18_code
def yX5_isMinimal : MethodName := ⟨RX5, "isMinimal", "(I)Z"⟩
abbrev cX5_unionOf : ByteArray := prog_7_method_19_code
def yX5_unionOf : MethodName := ⟨RX5, "unionOf", "(I)I"⟩
abbrev cX5_smallestSize : ByteArray := prog_7_method_20_code
def yX5_smallestSize : MethodName := ⟨RX5, "smallestSize", "()I"⟩
abbrev cX5_eachTwoMeet : ByteArray := prog_7_method_21_code
def yX5_eachTwoMeet : MethodName := ⟨RX5, "eachTwoMeet", "()Z"⟩
abbrev cX5_missedBy : ByteArray := prog_7_method_22_code
def yX5_missedBy : MethodName := ⟨RX5, "missedBy", "(I)I"⟩
abbrev cX5_hitOnceBy : ByteArray := prog_7_method_23_code
def yX5_hitOnceBy : MethodName := ⟨RX5, "hitOnceBy", "(I)I"⟩
abbrev cX5_eachHasPrivate : ByteArray := prog_7_method_24_code
def yX5_eachHasPrivate : MethodName := ⟨RX5, "eachHasPrivate", "(II)Z"⟩
abbrev cX5_isAnswer : ByteArray := prog_7_method_25_code
def yX5_isAnswer : MethodName := ⟨RX5, "isAnswer", "(I)Z"⟩
abbrev cX5_busiestVertex : ByteArray := prog_7_method_26_code
def yX5_busiestVertex : MethodName := ⟨RX5, "busiestVertex", "(I)I"⟩
abbrev cX5_fewestCandidates : ByteArray := prog_7_method_27_code
def yX5_fewestCandidates : MethodName := ⟨RX5, "fewestCandidates", "(II)I"⟩
def RX6 : String := "HypergraphDualizer$Search"
def TX6 : u_T := fun k => match k with
  | 0 => ("HypergraphDualizer$Search", "answers", "[I", true)
  | 1 => ("HypergraphDualizer$Search", "delays", "[I", true)
  | 2 => ("HypergraphDualizer$Search", "found", "I", false)
  | 3 => ("HypergraphDualizer$Search", "visited", "I", false)
  | 4 => ("HypergraphDualizer$Search", "graph", "LHypergraphDualizer$Hypergraph;", true)
  | 5 => ("HypergraphDualizer$Search", "visitedBefore", "I", false)
  | 6 => ("HypergraphDualizer$Search", "givenUp", "Z", false)
  | _ => ("HypergraphDualizer$Search", "version", "I", false)
def tyX6 : Nat → FieldType := fun k => match k with
  | 0 => .array .int
  | 1 => .array .int
  | 2 => .int
  | 3 => .int
  | 4 => .object "HypergraphDualizer$Hypergraph"
  | 5 => .int
  | 6 => .boolean
  | _ => .int
abbrev wsX60 : List Cond := u_ws RX6 TX6 8
theorem nmX6 : ∀ a, a < 8 → ∀ b, b < 8 → a ≠ b → (TX6 a).2.1 ≠ (TX6 b).2.1 := by decide +kernel
theorem tyX6_ok : ∀ k, k < 8 → parseFieldDescriptor (TX6 k).2.2.1 = some (tyX6 k) := by decide +kernel
abbrev cX6_init : ByteArray := prog_8_method_1_code
def yX6_init : MethodName := ⟨RX6, "<init>", "(LHypergraphDualizer$Hypergraph;)V"⟩
abbrev cX6_succeeds : ByteArray := prog_8_method_2_code
def yX6_succeeds : MethodName := ⟨RX6, "succeeds", "()Z"⟩
abbrev cX6_explore : ByteArray := prog_8_method_3_code
def yX6_explore : MethodName := ⟨RX6, "explore", "(LHypergraphDualizer$Search;IIIII)V"⟩
abbrev cX6_keep : ByteArray := prog_8_method_4_code
def yX6_keep : MethodName := ⟨RX6, "keep", "(I)V"⟩
abbrev cX6_leastAbove : ByteArray := prog_8_method_5_code
def yX6_leastAbove : MethodName := ⟨RX6, "leastAbove", "(I)I"⟩
abbrev cX6_countOfSize : ByteArray := prog_8_method_6_code
def yX6_countOfSize : MethodName := ⟨RX6, "countOfSize", "(I)I"⟩
abbrev cX6_countWith : ByteArray := prog_8_method_7_code
def yX6_countWith : MethodName := ⟨RX6, "countWith", "(I)I"⟩
abbrev cX6_leastDifference : ByteArray := prog_8_method_8_code
def yX6_leastDifference : MethodName := ⟨RX6, "leastDifference", "()I"⟩
abbrev cX6_isMinimalEdge : ByteArray := prog_8_method_9_code
def yX6_isMinimalEdge : MethodName := ⟨RX6, "isMinimalEdge", "(II)Z"⟩
def RX7 : String := "HypergraphDualizer$Weights"
def TX7 : u_T := fun k => match k with
  | 0 => ("HypergraphDualizer$Weights", "ofVertex", "[I", true)
  | _ => ("HypergraphDualizer$Weights", "keys", "[I", true)
def tyX7 : Nat → FieldType := fun k => match k with
  | 0 => .array .int
  | _ => .array .int
abbrev wsX70 : List Cond := u_ws RX7 TX7 2
theorem nmX7 : ∀ a, a < 2 → ∀ b, b < 2 → a ≠ b → (TX7 a).2.1 ≠ (TX7 b).2.1 := by decide +kernel
theorem tyX7_ok : ∀ k, k < 2 → parseFieldDescriptor (TX7 k).2.2.1 = some (tyX7 k) := by decide +kernel
abbrev cX7_init : ByteArray := prog_9_method_1_code
def yX7_init : MethodName := ⟨RX7, "<init>", "()V"⟩
abbrev cX7_startAnew : ByteArray := prog_9_method_2_code
def yX7_startAnew : MethodName := ⟨RX7, "startAnew", "()V"⟩
abbrev cX7_sumOf : ByteArray := prog_9_method_3_code
def yX7_sumOf : MethodName := ⟨RX7, "sumOf", "(I)I"⟩
abbrev cX7_lightestOf : ByteArray := prog_9_method_4_code
def yX7_lightestOf : MethodName := ⟨RX7, "lightestOf", "(LHypergraphDualizer$Search;I)I"⟩
abbrev cX7_keysUpTo : ByteArray := prog_9_method_5_code
def yX7_keysUpTo : MethodName := ⟨RX7, "keysUpTo", "(II)I"⟩
def RX8 : String := "HypergraphDualizer"
def TX8 : u_T := fun k => match k with
  | 0 => ("HypergraphDualizer", "graph", "LHypergraphDualizer$Hypergraph;", true)
  | 1 => ("HypergraphDualizer", "weights", "LHypergraphDualizer$Weights;", true)
  | 2 => ("HypergraphDualizer", "search", "LHypergraphDualizer$Search;", true)
  | 3 => ("HypergraphDualizer", "hittingCounts", "LHypergraphDualizer$HittingCounts;", true)
  | 4 => ("HypergraphDualizer", "diagram", "LHypergraphDualizer$Diagram;", true)
  | _ => ("HypergraphDualizer", "text", "LHypergraphDualizer$EdgeText;", true)
def tyX8 : Nat → FieldType := fun k => match k with
  | 0 => .object "HypergraphDualizer$Hypergraph"
  | 1 => .object "HypergraphDualizer$Weights"
  | 2 => .object "HypergraphDualizer$Search"
  | 3 => .object "HypergraphDualizer$HittingCounts"
  | 4 => .object "HypergraphDualizer$Diagram"
  | _ => .object "HypergraphDualizer$EdgeText"
abbrev wsX80 : List Cond := u_ws RX8 TX8 6
theorem nmX8 : ∀ a, a < 6 → ∀ b, b < 6 → a ≠ b → (TX8 a).2.1 ≠ (TX8 b).2.1 := by decide +kernel
theorem tyX8_ok : ∀ k, k < 6 → parseFieldDescriptor (TX8 k).2.2.1 = some (tyX8 k) := by decide +kernel
abbrev cX8_init : ByteArray := prog_1_method_1_code
def yX8_init : MethodName := ⟨RX8, "<init>", "()V"⟩
abbrev cX8_reset : ByteArray := prog_1_method_2_code
def yX8_reset : MethodName := ⟨RX8, "reset", "(I)I"⟩
abbrev cX8_addEdge : ByteArray := prog_1_method_3_code
def yX8_addEdge : MethodName := ⟨RX8, "addEdge", "(I)I"⟩
abbrev cX8_removeEdge : ByteArray := prog_1_method_4_code
def yX8_removeEdge : MethodName := ⟨RX8, "removeEdge", "(I)I"⟩
abbrev cX8_minimize : ByteArray := prog_1_method_5_code
def yX8_minimize : MethodName := ⟨RX8, "minimize", "()I"⟩
abbrev cX8_contract : ByteArray := prog_1_method_6_code
def yX8_contract : MethodName := ⟨RX8, "contract", "(I)I"⟩
abbrev cX8_delete : ByteArray := prog_1_method_7_code
def yX8_delete : MethodName := ⟨RX8, "delete", "(I)I"⟩
abbrev cX8_dualize : ByteArray := prog_1_method_8_code
def yX8_dualize : MethodName := ⟨RX8, "dualize", "()I"⟩
abbrev cX8_undo : ByteArray := prog_1_method_9_code
def yX8_undo : MethodName := ⟨RX8, "undo", "()I"⟩
abbrev cX8_redo : ByteArray := prog_1_method_10_code
def yX8_redo : MethodName := ⟨RX8, "redo", "()I"⟩
abbrev cX8_edge : ByteArray := prog_1_method_11_code
def yX8_edge : MethodName := ⟨RX8, "edge", "(I)I"⟩
abbrev cX8_value : ByteArray := prog_1_method_12_code
def yX8_value : MethodName := ⟨RX8, "value", "(I)I"⟩
abbrev cX8_edgesOf : ByteArray := prog_1_method_13_code
def yX8_edgesOf : MethodName := ⟨RX8, "edgesOf", "(I)I"⟩
abbrev cX8_setWeight : ByteArray := prog_1_method_14_code
def yX8_setWeight : MethodName := ⟨RX8, "setWeight", "(II)I"⟩
abbrev cX8_missed : ByteArray := prog_1_method_15_code
def yX8_missed : MethodName := ⟨RX8, "missed", "(I)I"⟩
abbrev cX8_privateEdges : ByteArray := prog_1_method_16_code
def yX8_privateEdges : MethodName := ⟨RX8, "privateEdges", "(II)I"⟩
abbrev cX8_kindOf : ByteArray := prog_1_method_17_code
def yX8_kindOf : MethodName := ⟨RX8, "kindOf", "(I)I"⟩
abbrev cX8_shrink : ByteArray := prog_1_method_18_code
def yX8_shrink : MethodName := ⟨RX8, "shrink", "(I)I"⟩
abbrev cX8_grow : ByteArray := prog_1_method_19_code
def yX8_grow : MethodName := ⟨RX8, "grow", "(I)I"⟩
abbrev cX8_answerCount : ByteArray := prog_1_method_20_code
def yX8_answerCount : MethodName := ⟨RX8, "answerCount", "()I"⟩
abbrev cX8_answer : ByteArray := prog_1_method_21_code
def yX8_answer : MethodName := ⟨RX8, "answer", "(I)I"⟩
abbrev cX8_delay : ByteArray := prog_1_method_22_code
def yX8_delay : MethodName := ⟨RX8, "delay", "(I)I"⟩
abbrev cX8_visits : ByteArray := prog_1_method_23_code
def yX8_visits : MethodName := ⟨RX8, "visits", "()I"⟩
abbrev cX8_next : ByteArray := prog_1_method_24_code
def yX8_next : MethodName := ⟨RX8, "next", "(I)I"⟩
abbrev cX8_answersOfSize : ByteArray := prog_1_method_25_code
def yX8_answersOfSize : MethodName := ⟨RX8, "answersOfSize", "(I)I"⟩
abbrev cX8_answersWith : ByteArray := prog_1_method_26_code
def yX8_answersWith : MethodName := ⟨RX8, "answersWith", "(I)I"⟩
abbrev cX8_lightest : ByteArray := prog_1_method_27_code
def yX8_lightest : MethodName := ⟨RX8, "lightest", "(I)I"⟩
abbrev cX8_weightOf : ByteArray := prog_1_method_28_code
def yX8_weightOf : MethodName := ⟨RX8, "weightOf", "(I)I"⟩
abbrev cX8_problemWithPlace : ByteArray := prog_1_method_29_code
def yX8_problemWithPlace : MethodName := ⟨RX8, "problemWithPlace", "(I)I"⟩
abbrev cX8_hittingSets : ByteArray := prog_1_method_30_code
def yX8_hittingSets : MethodName := ⟨RX8, "hittingSets", "(I)I"⟩
abbrev cX8_chance : ByteArray := prog_1_method_31_code
def yX8_chance : MethodName := ⟨RX8, "chance", "()F"⟩
abbrev cX8_diagramSize : ByteArray := prog_1_method_32_code
def yX8_diagramSize : MethodName := ⟨RX8, "diagramSize", "(I)I"⟩
abbrev cX8_nodesAt : ByteArray := prog_1_method_33_code
def yX8_nodesAt : MethodName := ⟨RX8, "nodesAt", "(II)I"⟩
abbrev cX8_isFamily : ByteArray := prog_1_method_34_code
def yX8_isFamily : MethodName := ⟨RX8, "isFamily", "(I)Z"⟩
abbrev cX8_canBeDrawn : ByteArray := prog_1_method_35_code
def yX8_canBeDrawn : MethodName := ⟨RX8, "canBeDrawn", "(I)Z"⟩
abbrev cX8_isSelfDual : ByteArray := prog_1_method_36_code
def yX8_isSelfDual : MethodName := ⟨RX8, "isSelfDual", "()I"⟩
abbrev cX8_difference : ByteArray := prog_1_method_37_code
def yX8_difference : MethodName := ⟨RX8, "difference", "()I"⟩
abbrev cX8_isIntersecting : ByteArray := prog_1_method_38_code
def yX8_isIntersecting : MethodName := ⟨RX8, "isIntersecting", "()I"⟩
abbrev cX8_type : ByteArray := prog_1_method_39_code
def yX8_type : MethodName := ⟨RX8, "type", "(C)I"⟩
abbrev cX8_clearText : ByteArray := prog_1_method_40_code
def yX8_clearText : MethodName := ⟨RX8, "clearText", "()I"⟩
abbrev cX8_readEdges : ByteArray := prog_1_method_41_code
def yX8_readEdges : MethodName := ⟨RX8, "readEdges", "()I"⟩
abbrev cX8_has : ByteArray := prog_1_method_42_code
def yX8_has : MethodName := ⟨RX8, "has", "(II)Z"⟩
abbrev cX8_isWithin : ByteArray := prog_1_method_43_code
def yX8_isWithin : MethodName := ⟨RX8, "isWithin", "(II)Z"⟩
def RX9 : String := "HypergraphDualizerModel"
def TX9 : u_T := fun k => match k with
  | 0 => ("HypergraphDualizerModel", "vertices", "I", false)
  | 1 => ("HypergraphDualizerModel", "now", "[I", true)
  | 2 => ("HypergraphDualizerModel", "weight", "[I", true)
  | 3 => ("HypergraphDualizerModel", "undone", "[I", true)
  | 4 => ("HypergraphDualizerModel", "redone", "[I", true)
  | 5 => ("HypergraphDualizerModel", "undoMany", "I", false)
  | 6 => ("HypergraphDualizerModel", "redoMany", "I", false)
  | 7 => ("HypergraphDualizerModel", "answers", "I", false)
  | 8 => ("HypergraphDualizerModel", "visited", "I", false)
  | 9 => ("HypergraphDualizerModel", "isGivenUp", "Z", false)
  | 10 => ("HypergraphDualizerModel", "answerOf", "[I", true)
  | 11 => ("HypergraphDualizerModel", "delayOf", "[I", true)
  | 12 => ("HypergraphDualizerModel", "setAt", "[I", true)
  | 13 => ("HypergraphDualizerModel", "candidatesAt", "[I", true)
  | 14 => ("HypergraphDualizerModel", "leftAt", "[I", true)
  | 15 => ("HypergraphDualizerModel", "triedAt", "[I", true)
  | 16 => ("HypergraphDualizerModel", "lastVisit", "I", false)
  | 17 => ("HypergraphDualizerModel", "table", "[I", true)
  | 18 => ("HypergraphDualizerModel", "nodes", "I", false)
  | 19 => ("HypergraphDualizerModel", "lowOf", "[I", true)
  | 20 => ("HypergraphDualizerModel", "highOf", "[I", true)
  | 21 => ("HypergraphDualizerModel", "nodesOf", "[I", true)
  | 22 => ("HypergraphDualizerModel", "typed", "I", false)
  | 23 => ("HypergraphDualizerModel", "text", "[C", true)
  | 24 => ("HypergraphDualizerModel", "place", "I", false)
  | 25 => ("HypergraphDualizerModel", "fault", "I", false)
  | 26 => ("HypergraphDualizerModel", "readMany", "I", false)
  | _ => ("HypergraphDualizerModel", "read", "[I", true)
def tyX9 : Nat → FieldType := fun k => match k with
  | 0 => .int
  | 1 => .array .int
  | 2 => .array .int
  | 3 => .array .int
  | 4 => .array .int
  | 5 => .int
  | 6 => .int
  | 7 => .int
  | 8 => .int
  | 9 => .boolean
  | 10 => .array .int
  | 11 => .array .int
  | 12 => .array .int
  | 13 => .array .int
  | 14 => .array .int
  | 15 => .array .int
  | 16 => .int
  | 17 => .array .int
  | 18 => .int
  | 19 => .array .int
  | 20 => .array .int
  | 21 => .array .int
  | 22 => .int
  | 23 => .array .char
  | 24 => .int
  | 25 => .int
  | 26 => .int
  | _ => .array .int
abbrev wsX90 : List Cond := u_ws RX9 TX9 28
theorem nmX9 : ∀ a, a < 28 → ∀ b, b < 28 → a ≠ b → (TX9 a).2.1 ≠ (TX9 b).2.1 := by decide +kernel
theorem tyX9_ok : ∀ k, k < 28 → parseFieldDescriptor (TX9 k).2.2.1 = some (tyX9 k) := by decide +kernel
abbrev cX9_init : ByteArray := prog_11_method_1_code
def yX9_init : MethodName := ⟨RX9, "<init>", "()V"⟩
abbrev cX9_in : ByteArray := prog_11_method_2_code
def yX9_in : MethodName := ⟨RX9, "in", "(III)Z"⟩
abbrev cX9_bits : ByteArray := prog_11_method_3_code
def yX9_bits : MethodName := ⟨RX9, "bits", "(I)I"⟩
abbrev cX9_restWeights : ByteArray := prog_11_method_4_code
def yX9_restWeights : MethodName := ⟨RX9, "restWeights", "()V"⟩
abbrev cX9_many : ByteArray := prog_11_method_5_code
def yX9_many : MethodName := ⟨RX9, "many", "()I"⟩
abbrev cX9_whole : ByteArray := prog_11_method_6_code
def yX9_whole : MethodName := ⟨RX9, "whole", "()I"⟩
abbrev cX9_noVertex : ByteArray := prog_11_method_7_code
def yX9_noVertex : MethodName := ⟨RX9, "noVertex", "(I)Z"⟩
abbrev cX9_noSet : ByteArray := prog_11_method_8_code
def yX9_noSet : MethodName := ⟨RX9, "noSet", "(I)Z"⟩
abbrev cX9_reset : ByteArray := prog_11_method_9_code
def yX9_reset : MethodName := ⟨RX9, "reset", "(I)I"⟩
abbrev cX9_keep : ByteArray := prog_11_method_10_code
def yX9_keep : MethodName := ⟨RX9, "keep", "()V"⟩
abbrev cX9_undo : ByteArray := prog_11_method_11_code
def yX9_undo : MethodName := ⟨RX9, "undo", "()I"⟩
abbrev cX9_redo : ByteArray := prog_11_method_12_code
def yX9_redo : MethodName := ⟨RX9, "redo", "()I"⟩
abbrev cX9_placeOf : ByteArray := prog_11_method_13_code
def yX9_placeOf : MethodName := ⟨RX9, "placeOf", "(I)I"⟩
abbrev cX9_append : ByteArray := prog_11_method_14_code
def yX9_append : MethodName := ⟨RX9, "append", "(I)V"⟩
abbrev cX9_drop : ByteArray := prog_11_method_15_code
def yX9_drop : MethodName := ⟨RX9, "drop", "(I)V"⟩
abbrev cX9_addEdge : ByteArray := prog_11_method_16_code
def yX9_addEdge : MethodName := ⟨RX9, "addEdge", "(I)I"⟩
abbrev cX9_noEdge : ByteArray := prog_11_method_17_code
def yX9_noEdge : MethodName := ⟨RX9, "noEdge", "(I)Z"⟩
abbrev cX9_removeEdge : ByteArray := prog_11_method_18_code
def yX9_removeEdge : MethodName := ⟨RX9, "removeEdge", "(I)I"⟩
abbrev cX9_isMinimalEdge : ByteArray := prog_11_method_19_code
def yX9_isMinimalEdge : MethodName := ⟨RX9, "isMinimalEdge", "(I)Z"⟩
abbrev cX9_minimalEdges : ByteArray := prog_11_method_20_code
def yX9_minimalEdges : MethodName := ⟨RX9, "minimalEdges", "()I"⟩
abbrev cX9_keepOnly : ByteArray := prog_11_method_21_code
def yX9_keepOnly : MethodName := ⟨RX9, "keepOnly", "(I)I"⟩
abbrev cX9_minimize : ByteArray := prog_11_method_22_code
def yX9_minimize : MethodName := ⟨RX9, "minimize", "()I"⟩
abbrev cX9_edgesWith : ByteArray := prog_11_method_23_code
def yX9_edgesWith : MethodName := ⟨RX9, "edgesWith", "(I)I"⟩
abbrev cX9_contract : ByteArray := prog_11_method_24_code
def yX9_contract : MethodName := ⟨RX9, "contract", "(I)I"⟩
abbrev cX9_delete : ByteArray := prog_11_method_25_code
def yX9_delete : MethodName := ⟨RX9, "delete", "(I)I"⟩
abbrev cX9_edge : ByteArray := prog_11_method_26_code
def yX9_edge : MethodName := ⟨RX9, "edge", "(I)I"⟩
abbrev cX9_value : ByteArray := prog_11_method_27_code
def yX9_value : MethodName := ⟨RX9, "value", "(I)I"⟩
abbrev cX9_edgesOf : ByteArray := prog_11_method_28_code
def yX9_edgesOf : MethodName := ⟨RX9, "edgesOf", "(I)I"⟩
abbrev cX9_setWeight : ByteArray := prog_11_method_29_code
def yX9_setWeight : MethodName := ⟨RX9, "setWeight", "(II)I"⟩
abbrev cX9_missedBy : ByteArray := prog_11_method_30_code
def yX9_missedBy : MethodName := ⟨RX9, "missedBy", "(I)I"⟩
abbrev cX9_privateTo : ByteArray := prog_11_method_31_code
def yX9_privateTo : MethodName := ⟨RX9, "privateTo", "(II)I"⟩
abbrev cX9_haveAllPrivate : ByteArray := prog_11_method_32_code
def yX9_haveAllPrivate : MethodName := ⟨RX9, "haveAllPrivate", "(I)Z"⟩
abbrev cX9_missed : ByteArray := prog_11_method_33_code
def yX9_missed : MethodName := ⟨RX9, "missed", "(I)I"⟩
abbrev cX9_privateEdges : ByteArray := prog_11_method_34_code
def yX9_privateEdges : MethodName := ⟨RX9, "privateEdges", "(II)I"⟩
abbrev cX9_kindOf : ByteArray := prog_11_method_35_code
def yX9_kindOf : MethodName := ⟨RX9, "kindOf", "(I)I"⟩
abbrev cX9_shrink : ByteArray := prog_11_method_36_code
def yX9_shrink : MethodName := ⟨RX9, "shrink", "(I)I"⟩
abbrev cX9_grow : ByteArray := prog_11_method_37_code
def yX9_grow : MethodName := ⟨RX9, "grow", "(I)I"⟩
abbrev cX9_toTry : ByteArray := prog_11_method_38_code
def yX9_toTry : MethodName := ⟨RX9, "toTry", "(II)I"⟩
abbrev cX9_visit : ByteArray := prog_11_method_39_code
def yX9_visit : MethodName := ⟨RX9, "visit", "(I)Z"⟩
abbrev cX9_lowest : ByteArray := prog_11_method_40_code
def yX9_lowest : MethodName := ⟨RX9, "lowest", "(I)I"⟩
abbrev cX9_search : ByteArray := prog_11_method_41_code
def yX9_search : MethodName := ⟨RX9, "search", "()V"⟩
abbrev cX9_sortAnswers : ByteArray := prog_11_method_42_code
def yX9_sortAnswers : MethodName := ⟨RX9, "sortAnswers", "()V"⟩
abbrev cX9_dualize : ByteArray := prog_11_method_43_code
def yX9_dualize : MethodName := ⟨RX9, "dualize", "()I"⟩
abbrev cX9_answerCount : ByteArray := prog_11_method_44_code
def yX9_answerCount : MethodName := ⟨RX9, "answerCount", "()I"⟩
abbrev cX9_answer : ByteArray := prog_11_method_45_code
def yX9_answer : MethodName := ⟨RX9, "answer", "(I)I"⟩
abbrev cX9_delay : ByteArray := prog_11_method_46_code
def yX9_delay : MethodName := ⟨RX9, "delay", "(I)I"⟩
abbrev cX9_visits : ByteArray := prog_11_method_47_code
def yX9_visits : MethodName := ⟨RX9, "visits", "()I"⟩
abbrev cX9_next : ByteArray := prog_11_method_48_code
def yX9_next : MethodName := ⟨RX9, "next", "(I)I"⟩
abbrev cX9_answersOfSize : ByteArray := prog_11_method_49_code
def yX9_answersOfSize : MethodName := ⟨RX9, "answersOfSize", "(I)I"⟩
abbrev cX9_answersWith : ByteArray := prog_11_method_50_code
def yX9_answersWith : MethodName := ⟨RX9, "answersWith", "(I)I"⟩
abbrev cX9_weighs : ByteArray := prog_11_method_51_code
def yX9_weighs : MethodName := ⟨RX9, "weighs", "(I)I"⟩
abbrev cX9_lightest : ByteArray := prog_11_method_52_code
def yX9_lightest : MethodName := ⟨RX9, "lightest", "(I)I"⟩
abbrev cX9_weightOf : ByteArray := prog_11_method_53_code
def yX9_weightOf : MethodName := ⟨RX9, "weightOf", "(I)I"⟩
abbrev cX9_hitting : ByteArray := prog_11_method_54_code
def yX9_hitting : MethodName := ⟨RX9, "hitting", "(I)I"⟩
abbrev cX9_hittingSets : ByteArray := prog_11_method_55_code
def yX9_hittingSets : MethodName := ⟨RX9, "hittingSets", "(I)I"⟩
abbrev cX9_chance : ByteArray := prog_11_method_56_code
def yX9_chance : MethodName := ⟨RX9, "chance", "()F"⟩
abbrev cX9_layFamily : ByteArray := prog_11_method_57_code
def yX9_layFamily : MethodName := ⟨RX9, "layFamily", "(I)V"⟩
abbrev cX9_nodeFor : ByteArray := prog_11_method_58_code
def yX9_nodeFor : MethodName := ⟨RX9, "nodeFor", "(III)I"⟩
abbrev cX9_layDiagram : ByteArray := prog_11_method_59_code
def yX9_layDiagram : MethodName := ⟨RX9, "layDiagram", "(I)V"⟩
abbrev cX9_diagramBarred : ByteArray := prog_11_method_60_code
def yX9_diagramBarred : MethodName := ⟨RX9, "diagramBarred", "(I)I"⟩
abbrev cX9_diagramSize : ByteArray := prog_11_method_61_code
def yX9_diagramSize : MethodName := ⟨RX9, "diagramSize", "(I)I"⟩
abbrev cX9_nodesAt : ByteArray := prog_11_method_62_code
def yX9_nodesAt : MethodName := ⟨RX9, "nodesAt", "(II)I"⟩
abbrev cX9_isAnswer : ByteArray := prog_11_method_63_code
def yX9_isAnswer : MethodName := ⟨RX9, "isAnswer", "(I)Z"⟩
abbrev cX9_isMinimal : ByteArray := prog_11_method_64_code
def yX9_isMinimal : MethodName := ⟨RX9, "isMinimal", "(I)Z"⟩
abbrev cX9_difference : ByteArray := prog_11_method_65_code
def yX9_difference : MethodName := ⟨RX9, "difference", "()I"⟩
abbrev cX9_isSelfDual : ByteArray := prog_11_method_66_code
def yX9_isSelfDual : MethodName := ⟨RX9, "isSelfDual", "()I"⟩
abbrev cX9_isIntersecting : ByteArray := prog_11_method_67_code
def yX9_isIntersecting : MethodName := ⟨RX9, "isIntersecting", "()I"⟩
abbrev cX9_type : ByteArray := prog_11_method_68_code
def yX9_type : MethodName := ⟨RX9, "type", "(C)I"⟩
abbrev cX9_clearText : ByteArray := prog_11_method_69_code
def yX9_clearText : MethodName := ⟨RX9, "clearText", "()I"⟩
abbrev cX9_digitAt : ByteArray := prog_11_method_70_code
def yX9_digitAt : MethodName := ⟨RX9, "digitAt", "(I)I"⟩
abbrev cX9_isAt : ByteArray := prog_11_method_71_code
def yX9_isAt : MethodName := ⟨RX9, "isAt", "(C)Z"⟩
abbrev cX9_readVertex : ByteArray := prog_11_method_72_code
def yX9_readVertex : MethodName := ⟨RX9, "readVertex", "(I)I"⟩
abbrev cX9_isOld : ByteArray := prog_11_method_73_code
def yX9_isOld : MethodName := ⟨RX9, "isOld", "(I)Z"⟩
abbrev cX9_readEdge : ByteArray := prog_11_method_74_code
def yX9_readEdge : MethodName := ⟨RX9, "readEdge", "()V"⟩
abbrev cX9_readEdges : ByteArray := prog_11_method_75_code
def yX9_readEdges : MethodName := ⟨RX9, "readEdges", "()I"⟩
def RJ6 : String := "java/lang/Integer"
def TJ6 : u_T := fun k => match k with
  | _ => ("", "", "", false)
def tyJ6 : Nat → FieldType := fun k => match k with
  | _ => .int
abbrev cJ6_bitCount_0f7a4 : ByteArray := prog_12_method_49_code
def yJ6_bitCount_0f7a4 : MethodName := ⟨RJ6, "bitCount", "(I)I"⟩
def RJ9 : String := "java/lang/Math"
def TJ9 : u_T := fun k => match k with
  | _ => ("", "", "", false)
def tyJ9 : Nat → FieldType := fun k => match k with
  | _ => .int
abbrev cJ9_min_7cf53 : ByteArray := prog_13_method_69_code
def yJ9_min_7cf53 : MethodName := ⟨RJ9, "min", "(II)I"⟩
def RJ10 : String := "java/lang/System"
def TJ10 : u_T := fun k => match k with
  | _ => ("", "", "", false)
def tyJ10 : Nat → FieldType := fun k => match k with
  | _ => .int
def RL : String := "HypergraphDualizerLaw"
abbrev cL_law : ByteArray := code
def yL_law : MethodName := ⟨RL, "law", "([I)Z"⟩
abbrev vwCl : List vw_C := [(RX0, TX0, 10), (RX1, TX1, 4), (RX2, TX2, 3), (RX3, TX3, 5), (RX4, TX4, 5), (RX5, TX5, 6), (RX6, TX6, 8), (RX7, TX7, 2), (RX8, TX8, 6), (RX9, TX9, 28)]
