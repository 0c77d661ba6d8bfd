section
-- ===== PART A: goes FIRST, ahead of the names: the tables' words, and 'selects' of the private methods out of them =====
/-- a private method of a class that the tables say can be made, by its rows of tables_1 -/
def lw_okq (q : MethodName × Nat) : Prop := (q.1.cls ≠ "java/lang/invoke/MethodHandle" ∧ q.1.cls ≠ "java/lang/invoke/VarHandle") ∧ Cond.instantiable q.1.cls q.2 ∈ tables_1 ∧ Cond.privateMethod q.1 ∈ tables_1 ∧ Cond.instanceMethod q.1 ∈ tables_1
theorem lw_p0 : lw_okq (⟨"HypergraphDualizer$Hypergraph", "followChange", "()V"⟩, 6) := ⟨⟨by decide +kernel, by decide +kernel⟩, List.mem_of_getElem? (i := 23) (by decide +kernel), List.mem_of_getElem? (i := 280) (by decide +kernel), List.mem_of_getElem? (i := 281) (by decide +kernel)⟩
theorem lw_p1 : lw_okq (⟨"HypergraphDualizer$Hypergraph", "isMinimal", "(I)Z"⟩, 6) := ⟨⟨by decide +kernel, by decide +kernel⟩, List.mem_of_getElem? (i := 23) (by decide +kernel), List.mem_of_getElem? (i := 347) (by decide +kernel), List.mem_of_getElem? (i := 348) (by decide +kernel)⟩
theorem lw_p2 : lw_okq (⟨"HypergraphDualizer$Search", "keep", "(I)V"⟩, 8) := ⟨⟨by decide +kernel, by decide +kernel⟩, List.mem_of_getElem? (i := 112) (by decide +kernel), List.mem_of_getElem? (i := 389) (by decide +kernel), List.mem_of_getElem? (i := 390) (by decide +kernel)⟩
theorem lw_p3 : lw_okq (⟨"HypergraphDualizer$Hypergraph", "takePast", "()V"⟩, 6) := ⟨⟨by decide +kernel, by decide +kernel⟩, List.mem_of_getElem? (i := 23) (by decide +kernel), List.mem_of_getElem? (i := 419) (by decide +kernel), List.mem_of_getElem? (i := 420) (by decide +kernel)⟩
theorem lw_p4 : lw_okq (⟨"HypergraphDualizer", "problemWithPlace", "(I)I"⟩, 6) := ⟨⟨by decide +kernel, by decide +kernel⟩, List.mem_of_getElem? (i := 15) (by decide +kernel), List.mem_of_getElem? (i := 513) (by decide +kernel), List.mem_of_getElem? (i := 514) (by decide +kernel)⟩
theorem lw_p5 : lw_okq (⟨"HypergraphDualizer$Weights", "keysUpTo", "(II)I"⟩, 2) := ⟨⟨by decide +kernel, by decide +kernel⟩, List.mem_of_getElem? (i := 94) (by decide +kernel), List.mem_of_getElem? (i := 560) (by decide +kernel), List.mem_of_getElem? (i := 561) (by decide +kernel)⟩
theorem lw_p6 : lw_okq (⟨"HypergraphDualizer$HittingCounts", "bringUpToDate", "()V"⟩, 5) := ⟨⟨by decide +kernel, by decide +kernel⟩, List.mem_of_getElem? (i := 169) (by decide +kernel), List.mem_of_getElem? (i := 577) (by decide +kernel), List.mem_of_getElem? (i := 578) (by decide +kernel)⟩
theorem lw_p7 : lw_okq (⟨"HypergraphDualizer$Family", "mark", "([II)V"⟩, 3) := ⟨⟨by decide +kernel, by decide +kernel⟩, List.mem_of_getElem? (i := 151) (by decide +kernel), List.mem_of_getElem? (i := 585) (by decide +kernel), List.mem_of_getElem? (i := 586) (by decide +kernel)⟩
theorem lw_p8 : lw_okq (⟨"HypergraphDualizer$Family", "markHittingSets", "()V"⟩, 3) := ⟨⟨by decide +kernel, by decide +kernel⟩, List.mem_of_getElem? (i := 151) (by decide +kernel), List.mem_of_getElem? (i := 589) (by decide +kernel), List.mem_of_getElem? (i := 590) (by decide +kernel)⟩
theorem lw_p9 : lw_okq (⟨"HypergraphDualizer", "canBeDrawn", "(I)Z"⟩, 6) := ⟨⟨by decide +kernel, by decide +kernel⟩, List.mem_of_getElem? (i := 15) (by decide +kernel), List.mem_of_getElem? (i := 610) (by decide +kernel), List.mem_of_getElem? (i := 611) (by decide +kernel)⟩
theorem lw_p10 : lw_okq (⟨"HypergraphDualizer$Diagram", "draw", "(I)V"⟩, 10) := ⟨⟨by decide +kernel, by decide +kernel⟩, List.mem_of_getElem? (i := 191) (by decide +kernel), List.mem_of_getElem? (i := 618) (by decide +kernel), List.mem_of_getElem? (i := 619) (by decide +kernel)⟩
theorem lw_p11 : lw_okq (⟨"HypergraphDualizer$Diagram", "drawNodesAt", "(I)V"⟩, 10) := ⟨⟨by decide +kernel, by decide +kernel⟩, List.mem_of_getElem? (i := 191) (by decide +kernel), List.mem_of_getElem? (i := 623) (by decide +kernel), List.mem_of_getElem? (i := 624) (by decide +kernel)⟩
theorem lw_p12 : lw_okq (⟨"HypergraphDualizer$Diagram", "nodeWith", "(III)I"⟩, 10) := ⟨⟨by decide +kernel, by decide +kernel⟩, List.mem_of_getElem? (i := 191) (by decide +kernel), List.mem_of_getElem? (i := 627) (by decide +kernel), List.mem_of_getElem? (i := 628) (by decide +kernel)⟩
theorem lw_p13 : lw_okq (⟨"HypergraphDualizer$Search", "isMinimalEdge", "(II)Z"⟩, 8) := ⟨⟨by decide +kernel, by decide +kernel⟩, List.mem_of_getElem? (i := 112) (by decide +kernel), List.mem_of_getElem? (i := 649) (by decide +kernel), List.mem_of_getElem? (i := 650) (by decide +kernel)⟩
theorem lw_p14 : lw_okq (⟨"HypergraphDualizer$EdgeText", "readEdge", "(LHypergraphDualizer$Hypergraph;)V"⟩, 4) := ⟨⟨by decide +kernel, by decide +kernel⟩, List.mem_of_getElem? (i := 228) (by decide +kernel), List.mem_of_getElem? (i := 685) (by decide +kernel), List.mem_of_getElem? (i := 686) (by decide +kernel)⟩
theorem lw_p15 : lw_okq (⟨"HypergraphDualizer$EdgeText", "readVertex", "(II)I"⟩, 4) := ⟨⟨by decide +kernel, by decide +kernel⟩, List.mem_of_getElem? (i := 228) (by decide +kernel), List.mem_of_getElem? (i := 690) (by decide +kernel), List.mem_of_getElem? (i := 691) (by decide +kernel)⟩
def lw_privs_1 : List (MethodName × Nat) := [(⟨"HypergraphDualizer$Hypergraph", "followChange", "()V"⟩, 6), (⟨"HypergraphDualizer$Hypergraph", "isMinimal", "(I)Z"⟩, 6), (⟨"HypergraphDualizer$Search", "keep", "(I)V"⟩, 8), (⟨"HypergraphDualizer$Hypergraph", "takePast", "()V"⟩, 6), (⟨"HypergraphDualizer", "problemWithPlace", "(I)I"⟩, 6), (⟨"HypergraphDualizer$Weights", "keysUpTo", "(II)I"⟩, 2), (⟨"HypergraphDualizer$HittingCounts", "bringUpToDate", "()V"⟩, 5), (⟨"HypergraphDualizer$Family", "mark", "([II)V"⟩, 3), (⟨"HypergraphDualizer$Family", "markHittingSets", "()V"⟩, 3), (⟨"HypergraphDualizer", "canBeDrawn", "(I)Z"⟩, 6), (⟨"HypergraphDualizer$Diagram", "draw", "(I)V"⟩, 10), (⟨"HypergraphDualizer$Diagram", "drawNodesAt", "(I)V"⟩, 10), (⟨"HypergraphDualizer$Diagram", "nodeWith", "(III)I"⟩, 10), (⟨"HypergraphDualizer$Search", "isMinimalEdge", "(II)Z"⟩, 8), (⟨"HypergraphDualizer$EdgeText", "readEdge", "(LHypergraphDualizer$Hypergraph;)V"⟩, 4), (⟨"HypergraphDualizer$EdgeText", "readVertex", "(II)I"⟩, 4)]
theorem lw_r1 : ∀ q ∈ lw_privs_1, lw_okq q := List.forall_mem_cons.mpr ⟨lw_p0, List.forall_mem_cons.mpr ⟨lw_p1, List.forall_mem_cons.mpr ⟨lw_p2, List.forall_mem_cons.mpr ⟨lw_p3, List.forall_mem_cons.mpr ⟨lw_p4, List.forall_mem_cons.mpr ⟨lw_p5, List.forall_mem_cons.mpr ⟨lw_p6, List.forall_mem_cons.mpr ⟨lw_p7, List.forall_mem_cons.mpr ⟨lw_p8, List.forall_mem_cons.mpr ⟨lw_p9, List.forall_mem_cons.mpr ⟨lw_p10, List.forall_mem_cons.mpr ⟨lw_p11, List.forall_mem_cons.mpr ⟨lw_p12, List.forall_mem_cons.mpr ⟨lw_p13, List.forall_mem_cons.mpr ⟨lw_p14, List.forall_mem_cons.mpr ⟨lw_p15, fun _ h => absurd h List.not_mem_nil⟩⟩⟩⟩⟩⟩⟩⟩⟩⟩⟩⟩⟩⟩⟩⟩
theorem lw_p16 : lw_okq (⟨"HypergraphDualizer$EdgeText", "digit", "()I"⟩, 4) := ⟨⟨by decide +kernel, by decide +kernel⟩, List.mem_of_getElem? (i := 228) (by decide +kernel), List.mem_of_getElem? (i := 694) (by decide +kernel), List.mem_of_getElem? (i := 695) (by decide +kernel)⟩
theorem lw_p17 : lw_okq (⟨"HypergraphDualizer$EdgeText", "skips", "(C)Z"⟩, 4) := ⟨⟨by decide +kernel, by decide +kernel⟩, List.mem_of_getElem? (i := 228) (by decide +kernel), List.mem_of_getElem? (i := 699) (by decide +kernel), List.mem_of_getElem? (i := 700) (by decide +kernel)⟩
theorem lw_p18 : lw_okq (⟨"HypergraphDualizerModel", "restWeights", "()V"⟩, 28) := ⟨⟨by decide +kernel, by decide +kernel⟩, List.mem_of_getElem? (i := 705) (by decide +kernel), List.mem_of_getElem? (i := 711) (by decide +kernel), List.mem_of_getElem? (i := 712) (by decide +kernel)⟩
theorem lw_p19 : lw_okq (⟨"HypergraphDualizerModel", "noSet", "(I)Z"⟩, 28) := ⟨⟨by decide +kernel, by decide +kernel⟩, List.mem_of_getElem? (i := 705) (by decide +kernel), List.mem_of_getElem? (i := 819) (by decide +kernel), List.mem_of_getElem? (i := 820) (by decide +kernel)⟩
theorem lw_p20 : lw_okq (⟨"HypergraphDualizerModel", "whole", "()I"⟩, 28) := ⟨⟨by decide +kernel, by decide +kernel⟩, List.mem_of_getElem? (i := 705) (by decide +kernel), List.mem_of_getElem? (i := 823) (by decide +kernel), List.mem_of_getElem? (i := 824) (by decide +kernel)⟩
theorem lw_p21 : lw_okq (⟨"HypergraphDualizerModel", "placeOf", "(I)I"⟩, 28) := ⟨⟨by decide +kernel, by decide +kernel⟩, List.mem_of_getElem? (i := 705) (by decide +kernel), List.mem_of_getElem? (i := 827) (by decide +kernel), List.mem_of_getElem? (i := 828) (by decide +kernel)⟩
theorem lw_p22 : lw_okq (⟨"HypergraphDualizerModel", "many", "()I"⟩, 28) := ⟨⟨by decide +kernel, by decide +kernel⟩, List.mem_of_getElem? (i := 705) (by decide +kernel), List.mem_of_getElem? (i := 831) (by decide +kernel), List.mem_of_getElem? (i := 832) (by decide +kernel)⟩
theorem lw_p23 : lw_okq (⟨"HypergraphDualizerModel", "keep", "()V"⟩, 28) := ⟨⟨by decide +kernel, by decide +kernel⟩, List.mem_of_getElem? (i := 705) (by decide +kernel), List.mem_of_getElem? (i := 835) (by decide +kernel), List.mem_of_getElem? (i := 836) (by decide +kernel)⟩
theorem lw_p24 : lw_okq (⟨"HypergraphDualizerModel", "append", "(I)V"⟩, 28) := ⟨⟨by decide +kernel, by decide +kernel⟩, List.mem_of_getElem? (i := 705) (by decide +kernel), List.mem_of_getElem? (i := 839) (by decide +kernel), List.mem_of_getElem? (i := 840) (by decide +kernel)⟩
theorem lw_p25 : lw_okq (⟨"HypergraphDualizerModel", "noEdge", "(I)Z"⟩, 28) := ⟨⟨by decide +kernel, by decide +kernel⟩, List.mem_of_getElem? (i := 705) (by decide +kernel), List.mem_of_getElem? (i := 847) (by decide +kernel), List.mem_of_getElem? (i := 848) (by decide +kernel)⟩
theorem lw_p26 : lw_okq (⟨"HypergraphDualizerModel", "drop", "(I)V"⟩, 28) := ⟨⟨by decide +kernel, by decide +kernel⟩, List.mem_of_getElem? (i := 705) (by decide +kernel), List.mem_of_getElem? (i := 851) (by decide +kernel), List.mem_of_getElem? (i := 852) (by decide +kernel)⟩
theorem lw_p27 : lw_okq (⟨"HypergraphDualizerModel", "minimalEdges", "()I"⟩, 28) := ⟨⟨by decide +kernel, by decide +kernel⟩, List.mem_of_getElem? (i := 705) (by decide +kernel), List.mem_of_getElem? (i := 859) (by decide +kernel), List.mem_of_getElem? (i := 860) (by decide +kernel)⟩
theorem lw_p28 : lw_okq (⟨"HypergraphDualizerModel", "isMinimalEdge", "(I)Z"⟩, 28) := ⟨⟨by decide +kernel, by decide +kernel⟩, List.mem_of_getElem? (i := 705) (by decide +kernel), List.mem_of_getElem? (i := 863) (by decide +kernel), List.mem_of_getElem? (i := 864) (by decide +kernel)⟩
theorem lw_p29 : lw_okq (⟨"HypergraphDualizerModel", "keepOnly", "(I)I"⟩, 28) := ⟨⟨by decide +kernel, by decide +kernel⟩, List.mem_of_getElem? (i := 705) (by decide +kernel), List.mem_of_getElem? (i := 867) (by decide +kernel), List.mem_of_getElem? (i := 868) (by decide +kernel)⟩
theorem lw_p30 : lw_okq (⟨"HypergraphDualizerModel", "noVertex", "(I)Z"⟩, 28) := ⟨⟨by decide +kernel, by decide +kernel⟩, List.mem_of_getElem? (i := 705) (by decide +kernel), List.mem_of_getElem? (i := 875) (by decide +kernel), List.mem_of_getElem? (i := 876) (by decide +kernel)⟩
theorem lw_p31 : lw_okq (⟨"HypergraphDualizerModel", "edgesWith", "(I)I"⟩, 28) := ⟨⟨by decide +kernel, by decide +kernel⟩, List.mem_of_getElem? (i := 705) (by decide +kernel), List.mem_of_getElem? (i := 879) (by decide +kernel), List.mem_of_getElem? (i := 880) (by decide +kernel)⟩
def lw_privs_2 : List (MethodName × Nat) := [(⟨"HypergraphDualizer$EdgeText", "digit", "()I"⟩, 4), (⟨"HypergraphDualizer$EdgeText", "skips", "(C)Z"⟩, 4), (⟨"HypergraphDualizerModel", "restWeights", "()V"⟩, 28), (⟨"HypergraphDualizerModel", "noSet", "(I)Z"⟩, 28), (⟨"HypergraphDualizerModel", "whole", "()I"⟩, 28), (⟨"HypergraphDualizerModel", "placeOf", "(I)I"⟩, 28), (⟨"HypergraphDualizerModel", "many", "()I"⟩, 28), (⟨"HypergraphDualizerModel", "keep", "()V"⟩, 28), (⟨"HypergraphDualizerModel", "append", "(I)V"⟩, 28), (⟨"HypergraphDualizerModel", "noEdge", "(I)Z"⟩, 28), (⟨"HypergraphDualizerModel", "drop", "(I)V"⟩, 28), (⟨"HypergraphDualizerModel", "minimalEdges", "()I"⟩, 28), (⟨"HypergraphDualizerModel", "isMinimalEdge", "(I)Z"⟩, 28), (⟨"HypergraphDualizerModel", "keepOnly", "(I)I"⟩, 28), (⟨"HypergraphDualizerModel", "noVertex", "(I)Z"⟩, 28), (⟨"HypergraphDualizerModel", "edgesWith", "(I)I"⟩, 28)]
theorem lw_r2 : ∀ q ∈ lw_privs_2, lw_okq q := List.forall_mem_cons.mpr ⟨lw_p16, List.forall_mem_cons.mpr ⟨lw_p17, List.forall_mem_cons.mpr ⟨lw_p18, List.forall_mem_cons.mpr ⟨lw_p19, List.forall_mem_cons.mpr ⟨lw_p20, List.forall_mem_cons.mpr ⟨lw_p21, List.forall_mem_cons.mpr ⟨lw_p22, List.forall_mem_cons.mpr ⟨lw_p23, List.forall_mem_cons.mpr ⟨lw_p24, List.forall_mem_cons.mpr ⟨lw_p25, List.forall_mem_cons.mpr ⟨lw_p26, List.forall_mem_cons.mpr ⟨lw_p27, List.forall_mem_cons.mpr ⟨lw_p28, List.forall_mem_cons.mpr ⟨lw_p29, List.forall_mem_cons.mpr ⟨lw_p30, List.forall_mem_cons.mpr ⟨lw_p31, fun _ h => absurd h List.not_mem_nil⟩⟩⟩⟩⟩⟩⟩⟩⟩⟩⟩⟩⟩⟩⟩⟩
theorem lw_p32 : lw_okq (⟨"HypergraphDualizerModel", "missedBy", "(I)I"⟩, 28) := ⟨⟨by decide +kernel, by decide +kernel⟩, List.mem_of_getElem? (i := 705) (by decide +kernel), List.mem_of_getElem? (i := 910) (by decide +kernel), List.mem_of_getElem? (i := 911) (by decide +kernel)⟩
theorem lw_p33 : lw_okq (⟨"HypergraphDualizerModel", "privateTo", "(II)I"⟩, 28) := ⟨⟨by decide +kernel, by decide +kernel⟩, List.mem_of_getElem? (i := 705) (by decide +kernel), List.mem_of_getElem? (i := 918) (by decide +kernel), List.mem_of_getElem? (i := 919) (by decide +kernel)⟩
theorem lw_p34 : lw_okq (⟨"HypergraphDualizerModel", "haveAllPrivate", "(I)Z"⟩, 28) := ⟨⟨by decide +kernel, by decide +kernel⟩, List.mem_of_getElem? (i := 705) (by decide +kernel), List.mem_of_getElem? (i := 926) (by decide +kernel), List.mem_of_getElem? (i := 927) (by decide +kernel)⟩
theorem lw_p35 : lw_okq (⟨"HypergraphDualizerModel", "search", "()V"⟩, 28) := ⟨⟨by decide +kernel, by decide +kernel⟩, List.mem_of_getElem? (i := 705) (by decide +kernel), List.mem_of_getElem? (i := 942) (by decide +kernel), List.mem_of_getElem? (i := 943) (by decide +kernel)⟩
theorem lw_p36 : lw_okq (⟨"HypergraphDualizerModel", "visit", "(I)Z"⟩, 28) := ⟨⟨by decide +kernel, by decide +kernel⟩, List.mem_of_getElem? (i := 705) (by decide +kernel), List.mem_of_getElem? (i := 946) (by decide +kernel), List.mem_of_getElem? (i := 947) (by decide +kernel)⟩
theorem lw_p37 : lw_okq (⟨"HypergraphDualizerModel", "toTry", "(II)I"⟩, 28) := ⟨⟨by decide +kernel, by decide +kernel⟩, List.mem_of_getElem? (i := 705) (by decide +kernel), List.mem_of_getElem? (i := 950) (by decide +kernel), List.mem_of_getElem? (i := 951) (by decide +kernel)⟩
theorem lw_p38 : lw_okq (⟨"HypergraphDualizerModel", "sortAnswers", "()V"⟩, 28) := ⟨⟨by decide +kernel, by decide +kernel⟩, List.mem_of_getElem? (i := 705) (by decide +kernel), List.mem_of_getElem? (i := 957) (by decide +kernel), List.mem_of_getElem? (i := 958) (by decide +kernel)⟩
theorem lw_p39 : lw_okq (⟨"HypergraphDualizerModel", "weighs", "(I)I"⟩, 28) := ⟨⟨by decide +kernel, by decide +kernel⟩, List.mem_of_getElem? (i := 705) (by decide +kernel), List.mem_of_getElem? (i := 993) (by decide +kernel), List.mem_of_getElem? (i := 994) (by decide +kernel)⟩
theorem lw_p40 : lw_okq (⟨"HypergraphDualizerModel", "hitting", "(I)I"⟩, 28) := ⟨⟨by decide +kernel, by decide +kernel⟩, List.mem_of_getElem? (i := 705) (by decide +kernel), List.mem_of_getElem? (i := 1005) (by decide +kernel), List.mem_of_getElem? (i := 1006) (by decide +kernel)⟩
theorem lw_p41 : lw_okq (⟨"HypergraphDualizerModel", "diagramBarred", "(I)I"⟩, 28) := ⟨⟨by decide +kernel, by decide +kernel⟩, List.mem_of_getElem? (i := 705) (by decide +kernel), List.mem_of_getElem? (i := 1017) (by decide +kernel), List.mem_of_getElem? (i := 1018) (by decide +kernel)⟩
theorem lw_p42 : lw_okq (⟨"HypergraphDualizerModel", "layDiagram", "(I)V"⟩, 28) := ⟨⟨by decide +kernel, by decide +kernel⟩, List.mem_of_getElem? (i := 705) (by decide +kernel), List.mem_of_getElem? (i := 1021) (by decide +kernel), List.mem_of_getElem? (i := 1022) (by decide +kernel)⟩
theorem lw_p43 : lw_okq (⟨"HypergraphDualizerModel", "layFamily", "(I)V"⟩, 28) := ⟨⟨by decide +kernel, by decide +kernel⟩, List.mem_of_getElem? (i := 705) (by decide +kernel), List.mem_of_getElem? (i := 1025) (by decide +kernel), List.mem_of_getElem? (i := 1026) (by decide +kernel)⟩
theorem lw_p44 : lw_okq (⟨"HypergraphDualizerModel", "nodeFor", "(III)I"⟩, 28) := ⟨⟨by decide +kernel, by decide +kernel⟩, List.mem_of_getElem? (i := 705) (by decide +kernel), List.mem_of_getElem? (i := 1029) (by decide +kernel), List.mem_of_getElem? (i := 1030) (by decide +kernel)⟩
theorem lw_p45 : lw_okq (⟨"HypergraphDualizerModel", "isMinimal", "(I)Z"⟩, 28) := ⟨⟨by decide +kernel, by decide +kernel⟩, List.mem_of_getElem? (i := 705) (by decide +kernel), List.mem_of_getElem? (i := 1041) (by decide +kernel), List.mem_of_getElem? (i := 1042) (by decide +kernel)⟩
theorem lw_p46 : lw_okq (⟨"HypergraphDualizerModel", "isAnswer", "(I)Z"⟩, 28) := ⟨⟨by decide +kernel, by decide +kernel⟩, List.mem_of_getElem? (i := 705) (by decide +kernel), List.mem_of_getElem? (i := 1045) (by decide +kernel), List.mem_of_getElem? (i := 1046) (by decide +kernel)⟩
theorem lw_p47 : lw_okq (⟨"HypergraphDualizerModel", "readEdge", "()V"⟩, 28) := ⟨⟨by decide +kernel, by decide +kernel⟩, List.mem_of_getElem? (i := 705) (by decide +kernel), List.mem_of_getElem? (i := 1070) (by decide +kernel), List.mem_of_getElem? (i := 1071) (by decide +kernel)⟩
def lw_privs_3 : List (MethodName × Nat) := [(⟨"HypergraphDualizerModel", "missedBy", "(I)I"⟩, 28), (⟨"HypergraphDualizerModel", "privateTo", "(II)I"⟩, 28), (⟨"HypergraphDualizerModel", "haveAllPrivate", "(I)Z"⟩, 28), (⟨"HypergraphDualizerModel", "search", "()V"⟩, 28), (⟨"HypergraphDualizerModel", "visit", "(I)Z"⟩, 28), (⟨"HypergraphDualizerModel", "toTry", "(II)I"⟩, 28), (⟨"HypergraphDualizerModel", "sortAnswers", "()V"⟩, 28), (⟨"HypergraphDualizerModel", "weighs", "(I)I"⟩, 28), (⟨"HypergraphDualizerModel", "hitting", "(I)I"⟩, 28), (⟨"HypergraphDualizerModel", "diagramBarred", "(I)I"⟩, 28), (⟨"HypergraphDualizerModel", "layDiagram", "(I)V"⟩, 28), (⟨"HypergraphDualizerModel", "layFamily", "(I)V"⟩, 28), (⟨"HypergraphDualizerModel", "nodeFor", "(III)I"⟩, 28), (⟨"HypergraphDualizerModel", "isMinimal", "(I)Z"⟩, 28), (⟨"HypergraphDualizerModel", "isAnswer", "(I)Z"⟩, 28), (⟨"HypergraphDualizerModel", "readEdge", "()V"⟩, 28)]
theorem lw_r3 : ∀ q ∈ lw_privs_3, lw_okq q := List.forall_mem_cons.mpr ⟨lw_p32, List.forall_mem_cons.mpr ⟨lw_p33, List.forall_mem_cons.mpr ⟨lw_p34, List.forall_mem_cons.mpr ⟨lw_p35, List.forall_mem_cons.mpr ⟨lw_p36, List.forall_mem_cons.mpr ⟨lw_p37, List.forall_mem_cons.mpr ⟨lw_p38, List.forall_mem_cons.mpr ⟨lw_p39, List.forall_mem_cons.mpr ⟨lw_p40, List.forall_mem_cons.mpr ⟨lw_p41, List.forall_mem_cons.mpr ⟨lw_p42, List.forall_mem_cons.mpr ⟨lw_p43, List.forall_mem_cons.mpr ⟨lw_p44, List.forall_mem_cons.mpr ⟨lw_p45, List.forall_mem_cons.mpr ⟨lw_p46, List.forall_mem_cons.mpr ⟨lw_p47, fun _ h => absurd h List.not_mem_nil⟩⟩⟩⟩⟩⟩⟩⟩⟩⟩⟩⟩⟩⟩⟩⟩
theorem lw_p48 : lw_okq (⟨"HypergraphDualizerModel", "readVertex", "(I)I"⟩, 28) := ⟨⟨by decide +kernel, by decide +kernel⟩, List.mem_of_getElem? (i := 705) (by decide +kernel), List.mem_of_getElem? (i := 1074) (by decide +kernel), List.mem_of_getElem? (i := 1075) (by decide +kernel)⟩
theorem lw_p49 : lw_okq (⟨"HypergraphDualizerModel", "digitAt", "(I)I"⟩, 28) := ⟨⟨by decide +kernel, by decide +kernel⟩, List.mem_of_getElem? (i := 705) (by decide +kernel), List.mem_of_getElem? (i := 1078) (by decide +kernel), List.mem_of_getElem? (i := 1079) (by decide +kernel)⟩
theorem lw_p50 : lw_okq (⟨"HypergraphDualizerModel", "isAt", "(C)Z"⟩, 28) := ⟨⟨by decide +kernel, by decide +kernel⟩, List.mem_of_getElem? (i := 705) (by decide +kernel), List.mem_of_getElem? (i := 1082) (by decide +kernel), List.mem_of_getElem? (i := 1083) (by decide +kernel)⟩
theorem lw_p51 : lw_okq (⟨"HypergraphDualizerModel", "isOld", "(I)Z"⟩, 28) := ⟨⟨by decide +kernel, by decide +kernel⟩, List.mem_of_getElem? (i := 705) (by decide +kernel), List.mem_of_getElem? (i := 1086) (by decide +kernel), List.mem_of_getElem? (i := 1087) (by decide +kernel)⟩
def lw_privs_4 : List (MethodName × Nat) := [(⟨"HypergraphDualizerModel", "readVertex", "(I)I"⟩, 28), (⟨"HypergraphDualizerModel", "digitAt", "(I)I"⟩, 28), (⟨"HypergraphDualizerModel", "isAt", "(C)Z"⟩, 28), (⟨"HypergraphDualizerModel", "isOld", "(I)Z"⟩, 28)]
theorem lw_r4 : ∀ q ∈ lw_privs_4, lw_okq q := List.forall_mem_cons.mpr ⟨lw_p48, List.forall_mem_cons.mpr ⟨lw_p49, List.forall_mem_cons.mpr ⟨lw_p50, List.forall_mem_cons.mpr ⟨lw_p51, fun _ h => absurd h List.not_mem_nil⟩⟩⟩⟩
def lw_privs : List (MethodName × Nat) := lw_privs_1 ++ (lw_privs_2 ++ (lw_privs_3 ++ (lw_privs_4)))
def lw_tbl : List Cond := k2_sels lw_privs ++ tables_1
theorem lw_privs_ok : ∀ q ∈ lw_privs, lw_okq q := by
  show ∀ q ∈ lw_privs_1 ++ (lw_privs_2 ++ (lw_privs_3 ++ (lw_privs_4))), lw_okq q
  exact List.forall_mem_append.mpr ⟨lw_r1, List.forall_mem_append.mpr ⟨lw_r2, List.forall_mem_append.mpr ⟨lw_r3, lw_r4⟩⟩⟩
/-- the streams that the claim lets the run draw from -/
abbrev lw_cs : List Choice := [Jvm.Choice.named "NaN.bits"]
theorem lw_bits : nanBits ∈ lw_cs := by first | decide | exact List.mem_cons_self | simp [lw_cs, nanBits]
def RX0 : String := "HypergraphDualizer$Diagram"
def TX0 : u_T := fun k => match k with
  | 0 => ("HypergraphDualizer$Diagram", "graph", "LHypergraphDualizer$Hypergraph;", true)
  | 1 => ("HypergraphDualizer$Diagram", "family", "LHypergraphDualizer$Family;", true)
  | 2 => ("HypergraphDualizer$Diagram", "counts", "[I", true)
  | 3 => ("HypergraphDualizer$Diagram", "lows", "[I", true)
  | 4 => ("HypergraphDualizer$Diagram", "highs", "[I", true)
  | 5 => ("HypergraphDualizer$Diagram", "olders", "[I", true)
  | 6 => ("HypergraphDualizer$Diagram", "newest", "[I", true)
  | 7 => ("HypergraphDualizer$Diagram", "nodes", "I", false)
  | 8 => ("HypergraphDualizer$Diagram", "drawn", "I", false)
  | _ => ("HypergraphDualizer$Diagram", "version", "I", false)
def tyX0 : Nat → FieldType := fun k => match k with
  | 0 => .object "HypergraphDualizer$Hypergraph"
  | 1 => .object "HypergraphDualizer$Family"
  | 2 => .array .int
  | 3 => .array .int
  | 4 => .array .int
  | 5 => .array .int
  | 6 => .array .int
  | 7 => .int
  | 8 => .int
  | _ => .int
abbrev wsX00 : List Cond := u_ws RX0 TX0 10
theorem nmX0 : ∀ a, a < 10 → ∀ b, b < 10 → a ≠ b → (TX0 a).2.1 ≠ (TX0 b).2.1 := by decide +kernel
theorem tyX0_ok : ∀ k, k < 10 → parseFieldDescriptor (TX0 k).2.2.1 = some (tyX0 k) := by decide +kernel
abbrev cX0_init : ByteArray := prog_2_method_1_code
def yX0_init : MethodName := ⟨RX0, "<init>", "(LHypergraphDualizer$Hypergraph;LHypergraphDualizer$Family;)V"⟩
abbrev cX0_sizeOf : ByteArray := prog_2_method_2_code
def yX0_sizeOf : MethodName := ⟨RX0, "sizeOf", "(I)I"⟩
abbrev cX0_countAt : ByteArray := prog_2_method_3_code
def yX0_countAt : MethodName := ⟨RX0, "countAt", "(II)I"⟩
abbrev cX0_draw : ByteArray := prog_2_method_4_code
def yX0_draw : MethodName := ⟨RX0, "draw", "(I)V"⟩
abbrev cX0_drawNodesAt : ByteArray := prog_2_method_5_code
def yX0_drawNodesAt : MethodName := ⟨RX0, "drawNodesAt", "(I)V"⟩
abbrev cX0_nodeWith : ByteArray := prog_2_method_6_code
def yX0_nodeWith : MethodName := ⟨RX0, "nodeWith", "(III)I"⟩
def RX1 : String := "HypergraphDualizer$EdgeText"
def TX1 : u_T := fun k => match k with
  | 0 => ("HypergraphDualizer$EdgeText", "length", "I", false)
  | 1 => ("HypergraphDualizer$EdgeText", "characters", "[C", true)
  | 2 => ("HypergraphDualizer$EdgeText", "at", "I", false)
  | _ => ("HypergraphDualizer$EdgeText", "fault", "I", false)
def tyX1 : Nat → FieldType := fun k => match k with
  | 0 => .int
  | 1 => .array .char
  | 2 => .int
  | _ => .int
abbrev wsX10 : List Cond := u_ws RX1 TX1 4
theorem nmX1 : ∀ a, a < 4 → ∀ b, b < 4 → a ≠ b → (TX1 a).2.1 ≠ (TX1 b).2.1 := by decide +kernel
theorem tyX1_ok : ∀ k, k < 4 → parseFieldDescriptor (TX1 k).2.2.1 = some (tyX1 k) := by decide +kernel
abbrev cX1_init : ByteArray := prog_3_method_1_code
def yX1_init : MethodName := ⟨RX1, "<init>", "()V"⟩
abbrev cX1_append : ByteArray := prog_3_method_2_code
def yX1_append : MethodName := ⟨RX1, "append", "(C)Z"⟩
abbrev cX1_readInto : ByteArray := prog_3_method_3_code
def yX1_readInto : MethodName := ⟨RX1, "readInto", "(LHypergraphDualizer$Hypergraph;)I"⟩
abbrev cX1_readEdge : ByteArray := prog_3_method_4_code
def yX1_readEdge : MethodName := ⟨RX1, "readEdge", "(LHypergraphDualizer$Hypergraph;)V"⟩
abbrev cX1_readVertex : ByteArray := prog_3_method_5_code
def yX1_readVertex : MethodName := ⟨RX1, "readVertex", "(II)I"⟩
abbrev cX1_digit : ByteArray := prog_3_method_6_code
def yX1_digit : MethodName := ⟨RX1, "digit", "()I"⟩
abbrev cX1_skips : ByteArray := prog_3_method_7_code
def yX1_skips : MethodName := ⟨RX1, "skips", "(C)Z"⟩
def RX2 : String := "HypergraphDualizer$Family"
def TX2 : u_T := fun k => match k with
  | 0 => ("HypergraphDualizer$Family", "cells", "[I", true)
  | 1 => ("HypergraphDualizer$Family", "graph", "LHypergraphDualizer$Hypergraph;", true)
  | _ => ("HypergraphDualizer$Family", "search", "LHypergraphDualizer$Search;", true)
def tyX2 : Nat → FieldType := fun k => match k with
  | 0 => .array .int
  | 1 => .object "HypergraphDualizer$Hypergraph"
  | _ => .object "HypergraphDualizer$Search"
abbrev wsX20 : List Cond := u_ws RX2 TX2 3
theorem nmX2 : ∀ a, a < 3 → ∀ b, b < 3 → a ≠ b → (TX2 a).2.1 ≠ (TX2 b).2.1 := by decide +kernel
theorem tyX2_ok : ∀ k, k < 3 → parseFieldDescriptor (TX2 k).2.2.1 = some (tyX2 k) := by decide +kernel
abbrev cX2_init : ByteArray := prog_4_method_1_code
def yX2_init : MethodName := ⟨RX2, "<init>", "(LHypergraphDualizer$Hypergraph;LHypergraphDualizer$Search;)V"⟩
abbrev cX2_fill : ByteArray := prog_4_method_2_code
def yX2_fill : MethodName := ⟨RX2, "fill", "(I)V"⟩
abbrev cX2_mark : ByteArray := prog_4_method_3_code
def yX2_mark : MethodName := ⟨RX2, "mark", "([II)V"⟩
abbrev cX2_markHittingSets : ByteArray := prog_4_method_4_code
def yX2_markHittingSets : MethodName := ⟨RX2, "markHittingSets", "()V"⟩
def RX3 : String := "HypergraphDualizer$History"
def TX3 : u_T := fun k => match k with
  | 0 => ("HypergraphDualizer$History", "undoable", "I", false)
  | 1 => ("HypergraphDualizer$History", "redoable", "I", false)
  | 2 => ("HypergraphDualizer$History", "rows", "[[I", true)
  | 3 => ("HypergraphDualizer$History", "counts", "[I", true)
  | _ => ("HypergraphDualizer$History", "now", "I", false)
def tyX3 : Nat → FieldType := fun k => match k with
  | 0 => .int
  | 1 => .int
  | 2 => .array (.array .int)
  | 3 => .array .int
  | _ => .int
abbrev wsX30 : List Cond := u_ws RX3 TX3 5
theorem nmX3 : ∀ a, a < 5 → ∀ b, b < 5 → a ≠ b → (TX3 a).2.1 ≠ (TX3 b).2.1 := by decide +kernel
theorem tyX3_ok : ∀ k, k < 5 → parseFieldDescriptor (TX3 k).2.2.1 = some (tyX3 k) := by decide +kernel
abbrev cX3_init : ByteArray := prog_5_method_1_code
def yX3_init : MethodName := ⟨RX3, "<init>", "()V"⟩
abbrev cX3_forget : ByteArray := prog_5_method_2_code
def yX3_forget : MethodName := ⟨RX3, "forget", "()V"⟩
abbrev cX3_add : ByteArray := prog_5_method_3_code
def yX3_add : MethodName := ⟨RX3, "add", "([II)V"⟩
abbrev cX3_moveBack : ByteArray := prog_5_method_4_code
def yX3_moveBack : MethodName := ⟨RX3, "moveBack", "()Z"⟩
abbrev cX3_moveForward : ByteArray := prog_5_method_5_code
def yX3_moveForward : MethodName := ⟨RX3, "moveForward", "()Z"⟩
abbrev cX3_copyTo : ByteArray := prog_5_method_6_code
def yX3_copyTo : MethodName := ⟨RX3, "copyTo", "([I)I"⟩
def RX4 : String := "HypergraphDualizer$HittingCounts"
def TX4 : u_T := fun k => match k with
  | 0 => ("HypergraphDualizer$HittingCounts", "graph", "LHypergraphDualizer$Hypergraph;", true)
  | 1 => ("HypergraphDualizer$HittingCounts", "family", "LHypergraphDualizer$Family;", true)
  | 2 => ("HypergraphDualizer$HittingCounts", "counts", "[I", true)
  | 3 => ("HypergraphDualizer$HittingCounts", "total", "I", false)
  | _ => ("HypergraphDualizer$HittingCounts", "version", "I", false)
def tyX4 : Nat → FieldType := fun k => match k with
  | 0 => .object "HypergraphDualizer$Hypergraph"
  | 1 => .object "HypergraphDualizer$Family"
  | 2 => .array .int
  | 3 => .int
  | _ => .int
abbrev wsX40 : List Cond := u_ws RX4 TX4 5
theorem nmX4 : ∀ a, a < 5 → ∀ b, b < 5 → a ≠ b → (TX4 a).2.1 ≠ (TX4 b).2.1 := by decide +kernel
theorem tyX4_ok : ∀ k, k < 5 → parseFieldDescriptor (TX4 k).2.2.1 = some (tyX4 k) := by decide +kernel
abbrev cX4_init : ByteArray := prog_6_method_1_code
def yX4_init : MethodName := ⟨RX4, "<init>", "(LHypergraphDualizer$Hypergraph;LHypergraphDualizer$Family;)V"⟩
abbrev cX4_countOfAll : ByteArray := prog_6_method_2_code
def yX4_countOfAll : MethodName := ⟨RX4, "countOfAll", "()I"⟩
abbrev cX4_countOfSize : ByteArray := prog_6_method_3_code
def yX4_countOfSize : MethodName := ⟨RX4, "countOfSize", "(I)I"⟩
abbrev cX4_bringUpToDate : ByteArray := prog_6_method_4_code
def yX4_bringUpToDate : MethodName := ⟨RX4, "bringUpToDate", "()V"⟩
def RX5 : String := "HypergraphDualizer$Hypergraph"
def TX5 : u_T := fun k => match k with
  | 0 => ("HypergraphDualizer$Hypergraph", "vertices", "I", false)
  | 1 => ("HypergraphDualizer$Hypergraph", "count", "I", false)
  | 2 => ("HypergraphDualizer$Hypergraph", "edges", "[I", true)
  | 3 => ("HypergraphDualizer$Hypergraph", "edgesAt", "[I", true)
  | 4 => ("HypergraphDualizer$Hypergraph", "history", "LHypergraphDualizer$History;", true)
  | _ => ("HypergraphDualizer$Hypergraph", "version", "I", false)
def tyX5 : Nat → FieldType := fun k => match k with
  | 0 => .int
  | 1 => .int
  | 2 => .array .int
  | 3 => .array .int
  | 4 => .object "HypergraphDualizer$History"
  | _ => .int
abbrev wsX50 : List Cond := u_ws RX5 TX5 6
theorem nmX5 : ∀ a, a < 6 → ∀ b, b < 6 → a ≠ b → (TX5 a).2.1 ≠ (TX5 b).2.1 := by decide +kernel
theorem tyX5_ok : ∀ k, k < 6 → parseFieldDescriptor (TX5 k).2.2.1 = some (tyX5 k) := by decide +kernel
abbrev cX5_init : ByteArray := prog_7_method_1_code
def yX5_init : MethodName := ⟨RX5, "<init>", "()V"⟩
abbrev cX5_startAnew : ByteArray := prog_7_method_2_code
def yX5_startAnew : MethodName := ⟨RX5, "startAnew", "(I)V"⟩
abbrev cX5_isVertex : ByteArray := prog_7_method_3_code
def yX5_isVertex : MethodName := ⟨RX5, "isVertex", "(I)Z"⟩
abbrev cX5_isEdge : ByteArray := prog_7_method_4_code
def yX5_isEdge : MethodName := ⟨RX5, "isEdge", "(I)Z"⟩
abbrev cX5_isSet : ByteArray := prog_7_method_5_code
def yX5_isSet : MethodName := ⟨RX5, "isSet", "(I)Z"⟩
abbrev cX5_isFull : ByteArray := prog_7_method_6_code
def yX5_isFull : MethodName := ⟨RX5, "isFull", "()Z"⟩
abbrev cX5_allEdges : ByteArray := prog_7_method_7_code
def yX5_allEdges : MethodName := ⟨RX5, "allEdges", "()I"⟩
abbrev cX5_contains : ByteArray := prog_7_method_8_code
def yX5_contains : MethodName := ⟨RX5, "contains", "(I)Z"⟩
abbrev cX5_append : ByteArray := prog_7_method_9_code
def yX5_append : MethodName := ⟨RX5, "append", "(I)V"⟩
abbrev cX5_keepOnly : ByteArray := prog_7_method_10_code
def yX5_keepOnly : MethodName := ⟨RX5, "keepOnly", "(I)V"⟩
abbrev cX5_takeOut : ByteArray := prog_7_method_11_code
def yX5_takeOut : MethodName := ⟨RX5, "takeOut", "(I)V"⟩
abbrev cX5_endEdit : ByteArray := prog_7_method_12_code
def yX5_endEdit : MethodName := ⟨RX5, "endEdit", "()V"⟩
abbrev cX5_stepBack : ByteArray := prog_7_method_13_code
def yX5_stepBack : MethodName := ⟨RX5, "stepBack", "()Z"⟩
abbrev cX5_stepForward : ByteArray := prog_7_method_14_code
def yX5_stepForward : MethodName := ⟨RX5, "stepForward", "()Z"⟩
abbrev cX5_takePast : ByteArray := prog_7_method_15_code
def yX5_takePast : MethodName := ⟨RX5, "takePast", "()V"⟩
abbrev cX5_followChange : ByteArray := prog_7_method_16_code
def yX5_followChange : MethodName := ⟨RX5, "followChange", "()V"⟩
abbrev cX5_minimalEdges : ByteArray := prog_7_method_17_code
def yX5_minimalEdges : MethodName := ⟨RX5, "minimalEdges", "()I"⟩
abbrev cX5_isMinimal : ByteArray := prog_7_method_18_code
def yX5_isMinimal : MethodName := ⟨RX5, "isMinimal", "(I)Z"⟩
abbrev cX5_unionOf : ByteArray := prog_7_method_19_code
def yX5_unionOf : MethodName := ⟨RX5, "unionOf", "(I)I"⟩
abbrev cX5_smallestSize : ByteArray := prog_7_method_20_code
def yX5_smallestSize : MethodName := ⟨RX5, "smallestSize", "()I"⟩
abbrev cX5_eachTwoMeet : ByteArray := prog_7_method_21_code
def yX5_eachTwoMeet : MethodName := ⟨RX5, "eachTwoMeet", "()Z"⟩
abbrev cX5_missedBy : ByteArray := prog_7_method_22_code
def yX5_missedBy : MethodName := ⟨RX5, "missedBy", "(I)I"⟩
abbrev cX5_hitOnceBy : ByteArray := prog_7_method_23_code
def yX5_hitOnceBy : MethodName := ⟨RX5, "hitOnceBy", "(I)I"⟩
abbrev cX5_eachHasPrivate : ByteArray := prog_7_method_24_code
def yX5_eachHasPrivate : MethodName := ⟨RX5, "eachHasPrivate", "(II)Z"⟩
abbrev cX5_isAnswer : ByteArray := prog_7_method_25_code
def yX5_isAnswer : MethodName := ⟨RX5, "isAnswer", "(I)Z"⟩
abbrev cX5_busiestVertex : ByteArray := prog_7_method_26_code
def yX5_busiestVertex : MethodName := ⟨RX5, "busiestVertex", "(I)I"⟩
abbrev cX5_fewestCandidates : ByteArray := prog_7_method_27_code
def yX5_fewestCandidates : MethodName := ⟨RX5, "fewestCandidates", "(II)I"⟩
def RX6 : String := "HypergraphDualizer$Search"
def TX6 : u_T := fun k => match k with
  | 0 => ("HypergraphDualizer$Search", "answers", "[I", true)
  | 1 => ("HypergraphDualizer$Search", "delays", "[I", true)
  | 2 => ("HypergraphDualizer$Search", "found", "I", false)
  | 3 => ("HypergraphDualizer$Search", "visited", "I", false)
  | 4 => ("HypergraphDualizer$Search", "graph", "LHypergraphDualizer$Hypergraph;", true)
  | 5 => ("HypergraphDualizer$Search", "visitedBefore", "I", false)
  | 6 => ("HypergraphDualizer$Search", "givenUp", "Z", false)
  | _ => ("HypergraphDualizer$Search", "version", "I", false)
def tyX6 : Nat → FieldType := fun k => match k with
  | 0 => .array .int
  | 1 => .array .int
  | 2 => .int
  | 3 => .int
  | 4 => .object "HypergraphDualizer$Hypergraph"
  | 5 => .int
  | 6 => .boolean
  | _ => .int
abbrev wsX60 : List Cond := u_ws RX6 TX6 8
theorem nmX6 : ∀ a, a < 8 → ∀ b, b < 8 → a ≠ b → (TX6 a).2.1 ≠ (TX6 b).2.1 := by decide +kernel
theorem tyX6_ok : ∀ k, k < 8 → parseFieldDescriptor (TX6 k).2.2.1 = some (tyX6 k) := by decide +kernel
abbrev cX6_init : ByteArray := prog_8_method_1_code
def yX6_init : MethodName := ⟨RX6, "<init>", "(LHypergraphDualizer$Hypergraph;)V"⟩
abbrev cX6_succeeds : ByteArray := prog_8_method_2_code
def yX6_succeeds : MethodName := ⟨RX6, "succeeds", "()Z"⟩
abbrev cX6_explore : ByteArray := prog_8_method_3_code
def yX6_explore : MethodName := ⟨RX6, "explore", "(LHypergraphDualizer$Search;IIIII)V"⟩
abbrev cX6_keep : ByteArray := prog_8_method_4_code
def yX6_keep : MethodName := ⟨RX6, "keep", "(I)V"⟩
abbrev cX6_leastAbove : ByteArray := prog_8_method_5_code
def yX6_leastAbove : MethodName := ⟨RX6, "leastAbove", "(I)I"⟩
abbrev cX6_countOfSize : ByteArray := prog_8_method_6_code
def yX6_countOfSize : MethodName := ⟨RX6, "countOfSize", "(I)I"⟩
abbrev cX6_countWith : ByteArray := prog_8_method_7_code
def yX6_countWith : MethodName := ⟨RX6, "countWith", "(I)I"⟩
abbrev cX6_leastDifference : ByteArray := prog_8_method_8_code
def yX6_leastDifference : MethodName := ⟨RX6, "leastDifference", "()I"⟩
abbrev cX6_isMinimalEdge : ByteArray := prog_8_method_9_code
def yX6_isMinimalEdge : MethodName := ⟨RX6, "isMinimalEdge", "(II)Z"⟩
def RX7 : String := "HypergraphDualizer$Weights"
def TX7 : u_T := fun k => match k with
  | 0 => ("HypergraphDualizer$Weights", "ofVertex", "[I", true)
  | _ => ("HypergraphDualizer$Weights", "keys", "[I", true)
def tyX7 : Nat → FieldType := fun k => match k with
  | 0 => .array .int
  | _ => .array .int
abbrev wsX70 : List Cond := u_ws RX7 TX7 2
theorem nmX7 : ∀ a, a < 2 → ∀ b, b < 2 → a ≠ b → (TX7 a).2.1 ≠ (TX7 b).2.1 := by decide +kernel
theorem tyX7_ok : ∀ k, k < 2 → parseFieldDescriptor (TX7 k).2.2.1 = some (tyX7 k) := by decide +kernel
abbrev cX7_init : ByteArray := prog_9_method_1_code
def yX7_init : MethodName := ⟨RX7, "<init>", "()V"⟩
abbrev cX7_startAnew : ByteArray := prog_9_method_2_code
def yX7_startAnew : MethodName := ⟨RX7, "startAnew", "()V"⟩
abbrev cX7_sumOf : ByteArray := prog_9_method_3_code
def yX7_sumOf : MethodName := ⟨RX7, "sumOf", "(I)I"⟩
abbrev cX7_lightestOf : ByteArray := prog_9_method_4_code
def yX7_lightestOf : MethodName := ⟨RX7, "lightestOf", "(LHypergraphDualizer$Search;I)I"⟩
abbrev cX7_keysUpTo : ByteArray := prog_9_method_5_code
def yX7_keysUpTo : MethodName := ⟨RX7, "keysUpTo", "(II)I"⟩
def RX8 : String := "HypergraphDualizer"
def TX8 : u_T := fun k => match k with
  | 0 => ("HypergraphDualizer", "graph", "LHypergraphDualizer$Hypergraph;", true)
  | 1 => ("HypergraphDualizer", "weights", "LHypergraphDualizer$Weights;", true)
  | 2 => ("HypergraphDualizer", "search", "LHypergraphDualizer$Search;", true)
  | 3 => ("HypergraphDualizer", "hittingCounts", "LHypergraphDualizer$HittingCounts;", true)
  | 4 => ("HypergraphDualizer", "diagram", "LHypergraphDualizer$Diagram;", true)
  | _ => ("HypergraphDualizer", "text", "LHypergraphDualizer$EdgeText;", true)
def tyX8 : Nat → FieldType := fun k => match k with
  | 0 => .object "HypergraphDualizer$Hypergraph"
  | 1 => .object "HypergraphDualizer$Weights"
  | 2 => .object "HypergraphDualizer$Search"
  | 3 => .object "HypergraphDualizer$HittingCounts"
  | 4 => .object "HypergraphDualizer$Diagram"
  | _ => .object "HypergraphDualizer$EdgeText"
abbrev wsX80 : List Cond := u_ws RX8 TX8 6
theorem nmX8 : ∀ a, a < 6 → ∀ b, b < 6 → a ≠ b → (TX8 a).2.1 ≠ (TX8 b).2.1 := by decide +kernel
theorem tyX8_ok : ∀ k, k < 6 → parseFieldDescriptor (TX8 k).2.2.1 = some (tyX8 k) := by decide +kernel
abbrev cX8_init : ByteArray := prog_1_method_1_code
def yX8_init : MethodName := ⟨RX8, "<init>", "()V"⟩
abbrev cX8_reset : ByteArray := prog_1_method_2_code
def yX8_reset : MethodName := ⟨RX8, "reset", "(I)I"⟩
abbrev cX8_addEdge : ByteArray := prog_1_method_3_code
def yX8_addEdge : MethodName := ⟨RX8, "addEdge", "(I)I"⟩
abbrev cX8_removeEdge : ByteArray := prog_1_method_4_code
def yX8_removeEdge : MethodName := ⟨RX8, "removeEdge", "(I)I"⟩
abbrev cX8_minimize : ByteArray := prog_1_method_5_code
def yX8_minimize : MethodName := ⟨RX8, "minimize", "()I"⟩
abbrev cX8_contract : ByteArray := prog_1_method_6_code
def yX8_contract : MethodName := ⟨RX8, "contract", "(I)I"⟩
abbrev cX8_delete : ByteArray := prog_1_method_7_code
def yX8_delete : MethodName := ⟨RX8, "delete", "(I)I"⟩
abbrev cX8_dualize : ByteArray := prog_1_method_8_code
def yX8_dualize : MethodName := ⟨RX8, "dualize", "()I"⟩
abbrev cX8_undo : ByteArray := prog_1_method_9_code
def yX8_undo : MethodName := ⟨RX8, "undo", "()I"⟩
abbrev cX8_redo : ByteArray := prog_1_method_10_code
def yX8_redo : MethodName := ⟨RX8, "redo", "()I"⟩
abbrev cX8_edge : ByteArray := prog_1_method_11_code
def yX8_edge : MethodName := ⟨RX8, "edge", "(I)I"⟩
abbrev cX8_value : ByteArray := prog_1_method_12_code
def yX8_value : MethodName := ⟨RX8, "value", "(I)I"⟩
abbrev cX8_edgesOf : ByteArray := prog_1_method_13_code
def yX8_edgesOf : MethodName := ⟨RX8, "edgesOf", "(I)I"⟩
abbrev cX8_setWeight : ByteArray := prog_1_method_14_code
def yX8_setWeight : MethodName := ⟨RX8, "setWeight", "(II)I"⟩
abbrev cX8_missed : ByteArray := prog_1_method_15_code
def yX8_missed : MethodName := ⟨RX8, "missed", "(I)I"⟩
abbrev cX8_privateEdges : ByteArray := prog_1_method_16_code
def yX8_privateEdges : MethodName := ⟨RX8, "privateEdges", "(II)I"⟩
abbrev cX8_kindOf : ByteArray := prog_1_method_17_code
def yX8_kindOf : MethodName := ⟨RX8, "kindOf", "(I)I"⟩
abbrev cX8_shrink : ByteArray := prog_1_method_18_code
def yX8_shrink : MethodName := ⟨RX8, "shrink", "(I)I"⟩
abbrev cX8_grow : ByteArray := prog_1_method_19_code
def yX8_grow : MethodName := ⟨RX8, "grow", "(I)I"⟩
abbrev cX8_answerCount : ByteArray := prog_1_method_20_code
def yX8_answerCount : MethodName := ⟨RX8, "answerCount", "()I"⟩
abbrev cX8_answer : ByteArray := prog_1_method_21_code
def yX8_answer : MethodName := ⟨RX8, "answer", "(I)I"⟩
abbrev cX8_delay : ByteArray := prog_1_method_22_code
def yX8_delay : MethodName := ⟨RX8, "delay", "(I)I"⟩
abbrev cX8_visits : ByteArray := prog_1_method_23_code
def yX8_visits : MethodName := ⟨RX8, "visits", "()I"⟩
abbrev cX8_next : ByteArray := prog_1_method_24_code
def yX8_next : MethodName := ⟨RX8, "next", "(I)I"⟩
abbrev cX8_answersOfSize : ByteArray := prog_1_method_25_code
def yX8_answersOfSize : MethodName := ⟨RX8, "answersOfSize", "(I)I"⟩
abbrev cX8_answersWith : ByteArray := prog_1_method_26_code
def yX8_answersWith : MethodName := ⟨RX8, "answersWith", "(I)I"⟩
abbrev cX8_lightest : ByteArray := prog_1_method_27_code
def yX8_lightest : MethodName := ⟨RX8, "lightest", "(I)I"⟩
abbrev cX8_weightOf : ByteArray := prog_1_method_28_code
def yX8_weightOf : MethodName := ⟨RX8, "weightOf", "(I)I"⟩
abbrev cX8_problemWithPlace : ByteArray := prog_1_method_29_code
def yX8_problemWithPlace : MethodName := ⟨RX8, "problemWithPlace", "(I)I"⟩
abbrev cX8_hittingSets : ByteArray := prog_1_method_30_code
def yX8_hittingSets : MethodName := ⟨RX8, "hittingSets", "(I)I"⟩
abbrev cX8_chance : ByteArray := prog_1_method_31_code
def yX8_chance : MethodName := ⟨RX8, "chance", "()F"⟩
abbrev cX8_diagramSize : ByteArray := prog_1_method_32_code
def yX8_diagramSize : MethodName := ⟨RX8, "diagramSize", "(I)I"⟩
abbrev cX8_nodesAt : ByteArray := prog_1_method_33_code
def yX8_nodesAt : MethodName := ⟨RX8, "nodesAt", "(II)I"⟩
abbrev cX8_isFamily : ByteArray := prog_1_method_34_code
def yX8_isFamily : MethodName := ⟨RX8, "isFamily", "(I)Z"⟩
abbrev cX8_canBeDrawn : ByteArray := prog_1_method_35_code
def yX8_canBeDrawn : MethodName := ⟨RX8, "canBeDrawn", "(I)Z"⟩
abbrev cX8_isSelfDual : ByteArray := prog_1_method_36_code
def yX8_isSelfDual : MethodName := ⟨RX8, "isSelfDual", "()I"⟩
abbrev cX8_difference : ByteArray := prog_1_method_37_code
def yX8_difference : MethodName := ⟨RX8, "difference", "()I"⟩
abbrev cX8_isIntersecting : ByteArray := prog_1_method_38_code
def yX8_isIntersecting : MethodName := ⟨RX8, "isIntersecting", "()I"⟩
abbrev cX8_type : ByteArray := prog_1_method_39_code
def yX8_type : MethodName := ⟨RX8, "type", "(C)I"⟩
abbrev cX8_clearText : ByteArray := prog_1_method_40_code
def yX8_clearText : MethodName := ⟨RX8, "clearText", "()I"⟩
abbrev cX8_readEdges : ByteArray := prog_1_method_41_code
def yX8_readEdges : MethodName := ⟨RX8, "readEdges", "()I"⟩
abbrev cX8_has : ByteArray := prog_1_method_42_code
def yX8_has : MethodName := ⟨RX8, "has", "(II)Z"⟩
abbrev cX8_isWithin : ByteArray := prog_1_method_43_code
def yX8_isWithin : MethodName := ⟨RX8, "isWithin", "(II)Z"⟩
def RX9 : String := "HypergraphDualizerModel"
def TX9 : u_T := fun k => match k with
  | 0 => ("HypergraphDualizerModel", "vertices", "I", false)
  | 1 => ("HypergraphDualizerModel", "now", "[I", true)
  | 2 => ("HypergraphDualizerModel", "weight", "[I", true)
  | 3 => ("HypergraphDualizerModel", "undone", "[I", true)
  | 4 => ("HypergraphDualizerModel", "redone", "[I", true)
  | 5 => ("HypergraphDualizerModel", "undoMany", "I", false)
  | 6 => ("HypergraphDualizerModel", "redoMany", "I", false)
  | 7 => ("HypergraphDualizerModel", "answers", "I", false)
  | 8 => ("HypergraphDualizerModel", "visited", "I", false)
  | 9 => ("HypergraphDualizerModel", "isGivenUp", "Z", false)
  | 10 => ("HypergraphDualizerModel", "answerOf", "[I", true)
  | 11 => ("HypergraphDualizerModel", "delayOf", "[I", true)
  | 12 => ("HypergraphDualizerModel", "setAt", "[I", true)
  | 13 => ("HypergraphDualizerModel", "candidatesAt", "[I", true)
  | 14 => ("HypergraphDualizerModel", "leftAt", "[I", true)
  | 15 => ("HypergraphDualizerModel", "triedAt", "[I", true)
  | 16 => ("HypergraphDualizerModel", "lastVisit", "I", false)
  | 17 => ("HypergraphDualizerModel", "table", "[I", true)
  | 18 => ("HypergraphDualizerModel", "nodes", "I", false)
  | 19 => ("HypergraphDualizerModel", "lowOf", "[I", true)
  | 20 => ("HypergraphDualizerModel", "highOf", "[I", true)
  | 21 => ("HypergraphDualizerModel", "nodesOf", "[I", true)
  | 22 => ("HypergraphDualizerModel", "typed", "I", false)
  | 23 => ("HypergraphDualizerModel", "text", "[C", true)
  | 24 => ("HypergraphDualizerModel", "place", "I", false)
  | 25 => ("HypergraphDualizerModel", "fault", "I", false)
  | 26 => ("HypergraphDualizerModel", "readMany", "I", false)
  | _ => ("HypergraphDualizerModel", "read", "[I", true)
def tyX9 : Nat → FieldType := fun k => match k with
  | 0 => .int
  | 1 => .array .int
  | 2 => .array .int
  | 3 => .array .int
  | 4 => .array .int
  | 5 => .int
  | 6 => .int
  | 7 => .int
  | 8 => .int
  | 9 => .boolean
  | 10 => .array .int
  | 11 => .array .int
  | 12 => .array .int
  | 13 => .array .int
  | 14 => .array .int
  | 15 => .array .int
  | 16 => .int
  | 17 => .array .int
  | 18 => .int
  | 19 => .array .int
  | 20 => .array .int
  | 21 => .array .int
  | 22 => .int
  | 23 => .array .char
  | 24 => .int
  | 25 => .int
  | 26 => .int
  | _ => .array .int
abbrev wsX90 : List Cond := u_ws RX9 TX9 28
theorem nmX9 : ∀ a, a < 28 → ∀ b, b < 28 → a ≠ b → (TX9 a).2.1 ≠ (TX9 b).2.1 := by decide +kernel
theorem tyX9_ok : ∀ k, k < 28 → parseFieldDescriptor (TX9 k).2.2.1 = some (tyX9 k) := by decide +kernel
abbrev cX9_init : ByteArray := prog_11_method_1_code
def yX9_init : MethodName := ⟨RX9, "<init>", "()V"⟩
abbrev cX9_in : ByteArray := prog_11_method_2_code
def yX9_in : MethodName := ⟨RX9, "in", "(III)Z"⟩
abbrev cX9_bits : ByteArray := prog_11_method_3_code
def yX9_bits : MethodName := ⟨RX9, "bits", "(I)I"⟩
abbrev cX9_restWeights : ByteArray := prog_11_method_4_code
def yX9_restWeights : MethodName := ⟨RX9, "restWeights", "()V"⟩
abbrev cX9_many : ByteArray := prog_11_method_5_code
def yX9_many : MethodName := ⟨RX9, "many", "()I"⟩
abbrev cX9_whole : ByteArray := prog_11_method_6_code
def yX9_whole : MethodName := ⟨RX9, "whole", "()I"⟩
abbrev cX9_noVertex : ByteArray := prog_11_method_7_code
def yX9_noVertex : MethodName := ⟨RX9, "noVertex", "(I)Z"⟩
abbrev cX9_noSet : ByteArray := prog_11_method_8_code
def yX9_noSet : MethodName := ⟨RX9, "noSet", "(I)Z"⟩
abbrev cX9_reset : ByteArray := prog_11_method_9_code
def yX9_reset : MethodName := ⟨RX9, "reset", "(I)I"⟩
abbrev cX9_keep : ByteArray := prog_11_method_10_code
def yX9_keep : MethodName := ⟨RX9, "keep", "()V"⟩
abbrev cX9_undo : ByteArray := prog_11_method_11_code
def yX9_undo : MethodName := ⟨RX9, "undo", "()I"⟩
abbrev cX9_redo : ByteArray := prog_11_method_12_code
def yX9_redo : MethodName := ⟨RX9, "redo", "()I"⟩
abbrev cX9_placeOf : ByteArray := prog_11_method_13_code
def yX9_placeOf : MethodName := ⟨RX9, "placeOf", "(I)I"⟩
abbrev cX9_append : ByteArray := prog_11_method_14_code
def yX9_append : MethodName := ⟨RX9, "append", "(I)V"⟩
abbrev cX9_drop : ByteArray := prog_11_method_15_code
def yX9_drop : MethodName := ⟨RX9, "drop", "(I)V"⟩
abbrev cX9_addEdge : ByteArray := prog_11_method_16_code
def yX9_addEdge : MethodName := ⟨RX9, "addEdge", "(I)I"⟩
abbrev cX9_noEdge : ByteArray := prog_11_method_17_code
def yX9_noEdge : MethodName := ⟨RX9, "noEdge", "(I)Z"⟩
abbrev cX9_removeEdge : ByteArray := prog_11_method_18_code
def yX9_removeEdge : MethodName := ⟨RX9, "removeEdge", "(I)I"⟩
abbrev cX9_isMinimalEdge : ByteArray := prog_11_method_19_code
def yX9_isMinimalEdge : MethodName := ⟨RX9, "isMinimalEdge", "(I)Z"⟩
abbrev cX9_minimalEdges : ByteArray := prog_11_method_20_code
def yX9_minimalEdges : MethodName := ⟨RX9, "minimalEdges", "()I"⟩
abbrev cX9_keepOnly : ByteArray := prog_11_method_21_code
def yX9_keepOnly : MethodName := ⟨RX9, "keepOnly", "(I)I"⟩
abbrev cX9_minimize : ByteArray := prog_11_method_22_code
def yX9_minimize : MethodName := ⟨RX9, "minimize", "()I"⟩
abbrev cX9_edgesWith : ByteArray := prog_11_method_23_code
def yX9_edgesWith : MethodName := ⟨RX9, "edgesWith", "(I)I"⟩
abbrev cX9_contract : ByteArray := prog_11_method_24_code
def yX9_contract : MethodName := ⟨RX9, "contract", "(I)I"⟩
abbrev cX9_delete : ByteArray := prog_11_method_25_code
def yX9_delete : MethodName := ⟨RX9, "delete", "(I)I"⟩
abbrev cX9_edge : ByteArray := prog_11_method_26_code
def yX9_edge : MethodName := ⟨RX9, "edge", "(I)I"⟩
abbrev cX9_value : ByteArray := prog_11_method_27_code
def yX9_value : MethodName := ⟨RX9, "value", "(I)I"⟩
abbrev cX9_edgesOf : ByteArray := prog_11_method_28_code
def yX9_edgesOf : MethodName := ⟨RX9, "edgesOf", "(I)I"⟩
abbrev cX9_setWeight : ByteArray := prog_11_method_29_code
def yX9_setWeight : MethodName := ⟨RX9, "setWeight", "(II)I"⟩
abbrev cX9_missedBy : ByteArray := prog_11_method_30_code
def yX9_missedBy : MethodName := ⟨RX9, "missedBy", "(I)I"⟩
abbrev cX9_privateTo : ByteArray := prog_11_method_31_code
def yX9_privateTo : MethodName := ⟨RX9, "privateTo", "(II)I"⟩
abbrev cX9_haveAllPrivate : ByteArray := prog_11_method_32_code
def yX9_haveAllPrivate : MethodName := ⟨RX9, "haveAllPrivate", "(I)Z"⟩
abbrev cX9_missed : ByteArray := prog_11_method_33_code
def yX9_missed : MethodName := ⟨RX9, "missed", "(I)I"⟩
abbrev cX9_privateEdges : ByteArray := prog_11_method_34_code
def yX9_privateEdges : MethodName := ⟨RX9, "privateEdges", "(II)I"⟩
abbrev cX9_kindOf : ByteArray := prog_11_method_35_code
def yX9_kindOf : MethodName := ⟨RX9, "kindOf", "(I)I"⟩
abbrev cX9_shrink : ByteArray := prog_11_method_36_code
def yX9_shrink : MethodName := ⟨RX9, "shrink", "(I)I"⟩
abbrev cX9_grow : ByteArray := prog_11_method_37_code
def yX9_grow : MethodName := ⟨RX9, "grow", "(I)I"⟩
abbrev cX9_toTry : ByteArray := prog_11_method_38_code
def yX9_toTry : MethodName := ⟨RX9, "toTry", "(II)I"⟩
abbrev cX9_visit : ByteArray := prog_11_method_39_code
def yX9_visit : MethodName := ⟨RX9, "visit", "(I)Z"⟩
abbrev cX9_lowest : ByteArray := prog_11_method_40_code
def yX9_lowest : MethodName := ⟨RX9, "lowest", "(I)I"⟩
abbrev cX9_search : ByteArray := prog_11_method_41_code
def yX9_search : MethodName := ⟨RX9, "search", "()V"⟩
abbrev cX9_sortAnswers : ByteArray := prog_11_method_42_code
def yX9_sortAnswers : MethodName := ⟨RX9, "sortAnswers", "()V"⟩
abbrev cX9_dualize : ByteArray := prog_11_method_43_code
def yX9_dualize : MethodName := ⟨RX9, "dualize", "()I"⟩
abbrev cX9_answerCount : ByteArray := prog_11_method_44_code
def yX9_answerCount : MethodName := ⟨RX9, "answerCount", "()I"⟩
abbrev cX9_answer : ByteArray := prog_11_method_45_code
def yX9_answer : MethodName := ⟨RX9, "answer", "(I)I"⟩
abbrev cX9_delay : ByteArray := prog_11_method_46_code
def yX9_delay : MethodName := ⟨RX9, "delay", "(I)I"⟩
abbrev cX9_visits : ByteArray := prog_11_method_47_code
def yX9_visits : MethodName := ⟨RX9, "visits", "()I"⟩
abbrev cX9_next : ByteArray := prog_11_method_48_code
def yX9_next : MethodName := ⟨RX9, "next", "(I)I"⟩
abbrev cX9_answersOfSize : ByteArray := prog_11_method_49_code
def yX9_answersOfSize : MethodName := ⟨RX9, "answersOfSize", "(I)I"⟩
abbrev cX9_answersWith : ByteArray := prog_11_method_50_code
def yX9_answersWith : MethodName := ⟨RX9, "answersWith", "(I)I"⟩
abbrev cX9_weighs : ByteArray := prog_11_method_51_code
def yX9_weighs : MethodName := ⟨RX9, "weighs", "(I)I"⟩
abbrev cX9_lightest : ByteArray := prog_11_method_52_code
def yX9_lightest : MethodName := ⟨RX9, "lightest", "(I)I"⟩
abbrev cX9_weightOf : ByteArray := prog_11_method_53_code
def yX9_weightOf : MethodName := ⟨RX9, "weightOf", "(I)I"⟩
abbrev cX9_hitting : ByteArray := prog_11_method_54_code
def yX9_hitting : MethodName := ⟨RX9, "hitting", "(I)I"⟩
abbrev cX9_hittingSets : ByteArray := prog_11_method_55_code
def yX9_hittingSets : MethodName := ⟨RX9, "hittingSets", "(I)I"⟩
abbrev cX9_chance : ByteArray := prog_11_method_56_code
def yX9_chance : MethodName := ⟨RX9, "chance", "()F"⟩
abbrev cX9_layFamily : ByteArray := prog_11_method_57_code
def yX9_layFamily : MethodName := ⟨RX9, "layFamily", "(I)V"⟩
abbrev cX9_nodeFor : ByteArray := prog_11_method_58_code
def yX9_nodeFor : MethodName := ⟨RX9, "nodeFor", "(III)I"⟩
abbrev cX9_layDiagram : ByteArray := prog_11_method_59_code
def yX9_layDiagram : MethodName := ⟨RX9, "layDiagram", "(I)V"⟩
abbrev cX9_diagramBarred : ByteArray := prog_11_method_60_code
def yX9_diagramBarred : MethodName := ⟨RX9, "diagramBarred", "(I)I"⟩
abbrev cX9_diagramSize : ByteArray := prog_11_method_61_code
def yX9_diagramSize : MethodName := ⟨RX9, "diagramSize", "(I)I"⟩
abbrev cX9_nodesAt : ByteArray := prog_11_method_62_code
def yX9_nodesAt : MethodName := ⟨RX9, "nodesAt", "(II)I"⟩
abbrev cX9_isAnswer : ByteArray := prog_11_method_63_code
def yX9_isAnswer : MethodName := ⟨RX9, "isAnswer", "(I)Z"⟩
abbrev cX9_isMinimal : ByteArray := prog_11_method_64_code
def yX9_isMinimal : MethodName := ⟨RX9, "isMinimal", "(I)Z"⟩
abbrev cX9_difference : ByteArray := prog_11_method_65_code
def yX9_difference : MethodName := ⟨RX9, "difference", "()I"⟩
abbrev cX9_isSelfDual : ByteArray := prog_11_method_66_code
def yX9_isSelfDual : MethodName := ⟨RX9, "isSelfDual", "()I"⟩
abbrev cX9_isIntersecting : ByteArray := prog_11_method_67_code
def yX9_isIntersecting : MethodName := ⟨RX9, "isIntersecting", "()I"⟩
abbrev cX9_type : ByteArray := prog_11_method_68_code
def yX9_type : MethodName := ⟨RX9, "type", "(C)I"⟩
abbrev cX9_clearText : ByteArray := prog_11_method_69_code
def yX9_clearText : MethodName := ⟨RX9, "clearText", "()I"⟩
abbrev cX9_digitAt : ByteArray := prog_11_method_70_code
def yX9_digitAt : MethodName := ⟨RX9, "digitAt", "(I)I"⟩
abbrev cX9_isAt : ByteArray := prog_11_method_71_code
def yX9_isAt : MethodName := ⟨RX9, "isAt", "(C)Z"⟩
abbrev cX9_readVertex : ByteArray := prog_11_method_72_code
def yX9_readVertex : MethodName := ⟨RX9, "readVertex", "(I)I"⟩
abbrev cX9_isOld : ByteArray := prog_11_method_73_code
def yX9_isOld : MethodName := ⟨RX9, "isOld", "(I)Z"⟩
abbrev cX9_readEdge : ByteArray := prog_11_method_74_code
def yX9_readEdge : MethodName := ⟨RX9, "readEdge", "()V"⟩
abbrev cX9_readEdges : ByteArray := prog_11_method_75_code
def yX9_readEdges : MethodName := ⟨RX9, "readEdges", "()I"⟩
def RJ6 : String := "java/lang/Integer"
def TJ6 : u_T := fun k => match k with
  | _ => ("", "", "", false)
def tyJ6 : Nat → FieldType := fun k => match k with
  | _ => .int
abbrev cJ6_bitCount_0f7a4 : ByteArray := prog_12_method_49_code
def yJ6_bitCount_0f7a4 : MethodName := ⟨RJ6, "bitCount", "(I)I"⟩
def RJ9 : String := "java/lang/Math"
def TJ9 : u_T := fun k => match k with
  | _ => ("", "", "", false)
def tyJ9 : Nat → FieldType := fun k => match k with
  | _ => .int
abbrev cJ9_min_7cf53 : ByteArray := prog_13_method_69_code
def yJ9_min_7cf53 : MethodName := ⟨RJ9, "min", "(II)I"⟩
def RJ10 : String := "java/lang/System"
def TJ10 : u_T := fun k => match k with
  | _ => ("", "", "", false)
def tyJ10 : Nat → FieldType := fun k => match k with
  | _ => .int
def RL : String := "HypergraphDualizerLaw"
abbrev cL_law : ByteArray := code
def yL_law : MethodName := ⟨RL, "law", "([I)Z"⟩
abbrev vwCl : List vw_C := [(RX0, TX0, 10), (RX1, TX1, 4), (RX2, TX2, 3), (RX3, TX3, 5), (RX4, TX4, 5), (RX5, TX5, 6), (RX6, TX6, 8), (RX7, TX7, 2), (RX8, TX8, 6), (RX9, TX9, 28)]
end
section
def gT : List Cond := (k2_sels lw_privs ++ tables_1).filter goodWord
theorem gin {w : Cond} {l : List Cond} {i : Nat} (hl : ∀ w ∈ l, w ∈ lw_tbl) (h : l[i]? = some w) (hg : goodWord w = true) : w ∈ gT := List.mem_filter.mpr ⟨hl w (List.mem_of_getElem? h), hg⟩
theorem gin_0 : ∀ w ∈ k2_sels lw_privs, w ∈ lw_tbl := fun w h => List.mem_append_left _ h
theorem gin_1 : ∀ w ∈ tables_1_1, w ∈ lw_tbl := fun w h => List.mem_append_right (k2_sels lw_privs) (show w ∈ tables_1 from (List.mem_append_left _ h))
theorem gin_2 : ∀ w ∈ tables_1_2, w ∈ lw_tbl := fun w h => List.mem_append_right (k2_sels lw_privs) (show w ∈ tables_1 from (List.mem_append_right _ (List.mem_append_left _ h)))
theorem gin_3 : ∀ w ∈ tables_1_3, w ∈ lw_tbl := fun w h => List.mem_append_right (k2_sels lw_privs) (show w ∈ tables_1 from (List.mem_append_right _ (List.mem_append_right _ (List.mem_append_left _ h))))
theorem gin_4 : ∀ w ∈ tables_1_4, w ∈ lw_tbl := fun w h => List.mem_append_right (k2_sels lw_privs) (show w ∈ tables_1 from (List.mem_append_right _ (List.mem_append_right _ (List.mem_append_right _ (List.mem_append_left _ h)))))
theorem gin_5 : ∀ w ∈ tables_1_5, w ∈ lw_tbl := fun w h => List.mem_append_right (k2_sels lw_privs) (show w ∈ tables_1 from (List.mem_append_right _ (List.mem_append_right _ (List.mem_append_right _ (List.mem_append_right _ h)))))
theorem q1_0 : Jvm.Cond.initialized "HypergraphDualizerLaw" ∈ gT := gin gin_1 (i := 0) rfl rfl
theorem q1_1 : Jvm.Cond.initialized "HypergraphDualizer" ∈ gT := gin gin_1 (i := 1) rfl rfl
theorem q1_2 : Jvm.Cond.initialized "HypergraphDualizer$Hypergraph" ∈ gT := gin gin_1 (i := 2) rfl rfl
theorem q1_3 : Jvm.Cond.initialized "HypergraphDualizer$History" ∈ gT := gin gin_1 (i := 3) rfl rfl
theorem q1_4 : Jvm.Cond.initialized "HypergraphDualizer$Weights" ∈ gT := gin gin_1 (i := 4) rfl rfl
theorem q1_5 : Jvm.Cond.initialized "HypergraphDualizer$Search" ∈ gT := gin gin_1 (i := 5) rfl rfl
theorem q1_6 : Jvm.Cond.initialized "HypergraphDualizer$Family" ∈ gT := gin gin_1 (i := 6) rfl rfl
theorem q1_7 : Jvm.Cond.initialized "HypergraphDualizer$HittingCounts" ∈ gT := gin gin_1 (i := 7) rfl rfl
theorem q1_8 : Jvm.Cond.initialized "HypergraphDualizer$Diagram" ∈ gT := gin gin_1 (i := 8) rfl rfl
theorem q1_9 : Jvm.Cond.initialized "HypergraphDualizer$EdgeText" ∈ gT := gin gin_1 (i := 9) rfl rfl
theorem q1_10 : Jvm.Cond.initialized "HypergraphDualizerModel" ∈ gT := gin gin_1 (i := 10) rfl rfl
theorem q1_11 : Jvm.Cond.initialized "java/lang/System" ∈ gT := gin gin_1 (i := 11) rfl rfl
theorem q1_12 : Jvm.Cond.initialized "java/lang/Math" ∈ gT := gin gin_1 (i := 12) rfl rfl
theorem q1_13 : Jvm.Cond.initialized "java/lang/Integer" ∈ gT := gin gin_1 (i := 13) rfl rfl
theorem q1_14 : Jvm.Cond.classLink "HypergraphDualizerLaw" (7 : Nat) "HypergraphDualizer" ∈ gT := gin gin_1 (i := 14) rfl rfl
theorem q1_15 : Jvm.Cond.instantiable "HypergraphDualizer" (6 : Nat) ∈ gT := gin gin_1 (i := 15) rfl rfl
theorem q1_16 : Jvm.Cond.methodLink "HypergraphDualizerLaw" (9 : Nat) ({ cls := "HypergraphDualizer", name := "<init>", desc := "()V" } : Jvm.MethodName) ∈ gT := gin gin_1 (i := 16) rfl rfl
theorem q1_17 : Jvm.Cond.instanceMethod ({ cls := "HypergraphDualizer", name := "<init>", desc := "()V" } : Jvm.MethodName) ∈ gT := gin gin_1 (i := 17) rfl rfl
theorem q1_18 : Jvm.Cond.code ({ cls := "HypergraphDualizer", name := "<init>", desc := "()V" } : Jvm.MethodName) prog_1_method_1_code (2 : Nat) (Option.none : Option Jvm.ClassFile.FieldType) ∈ gT := gin gin_1 (i := 18) rfl rfl
theorem q1_19 : Jvm.Cond.methodLink "HypergraphDualizer" (3 : Nat) ({ cls := "java/lang/Object", name := "<init>", desc := "()V" } : Jvm.MethodName) ∈ gT := gin gin_1 (i := 19) rfl rfl
theorem q1_20 : Jvm.Cond.instanceMethod ({ cls := "java/lang/Object", name := "<init>", desc := "()V" } : Jvm.MethodName) ∈ gT := gin gin_1 (i := 20) rfl rfl
theorem q1_21 : Jvm.Cond.code ({ cls := "java/lang/Object", name := "<init>", desc := "()V" } : Jvm.MethodName) object_method_1_code (1 : Nat) (Option.none : Option Jvm.ClassFile.FieldType) ∈ gT := gin gin_1 (i := 21) rfl rfl
theorem q1_22 : Jvm.Cond.classLink "HypergraphDualizer" (9 : Nat) "HypergraphDualizer$Hypergraph" ∈ gT := gin gin_1 (i := 22) rfl rfl
theorem q1_23 : Jvm.Cond.instantiable "HypergraphDualizer$Hypergraph" (6 : Nat) ∈ gT := gin gin_1 (i := 23) rfl rfl
theorem q1_24 : Jvm.Cond.methodLink "HypergraphDualizer" (11 : Nat) ({ cls := "HypergraphDualizer$Hypergraph", name := "<init>", desc := "()V" } : Jvm.MethodName) ∈ gT := gin gin_1 (i := 24) rfl rfl
theorem q1_25 : Jvm.Cond.instanceMethod ({ cls := "HypergraphDualizer$Hypergraph", name := "<init>", desc := "()V" } : Jvm.MethodName) ∈ gT := gin gin_1 (i := 25) rfl rfl
theorem q1_26 : Jvm.Cond.code ({ cls := "HypergraphDualizer$Hypergraph", name := "<init>", desc := "()V" } : Jvm.MethodName) prog_7_method_1_code (1 : Nat) (Option.none : Option Jvm.ClassFile.FieldType) ∈ gT := gin gin_1 (i := 26) rfl rfl
theorem q1_27 : Jvm.Cond.methodLink "HypergraphDualizer$Hypergraph" (3 : Nat) ({ cls := "java/lang/Object", name := "<init>", desc := "()V" } : Jvm.MethodName) ∈ gT := gin gin_1 (i := 27) rfl rfl
theorem q1_28 : Jvm.Cond.classLink "HypergraphDualizer$Hypergraph" (22 : Nat) "HypergraphDualizer$History" ∈ gT := gin gin_1 (i := 28) rfl rfl
theorem q1_29 : Jvm.Cond.instantiable "HypergraphDualizer$History" (5 : Nat) ∈ gT := gin gin_1 (i := 29) rfl rfl
theorem q1_30 : Jvm.Cond.methodLink "HypergraphDualizer$Hypergraph" (24 : Nat) ({ cls := "HypergraphDualizer$History", name := "<init>", desc := "()V" } : Jvm.MethodName) ∈ gT := gin gin_1 (i := 30) rfl rfl
theorem q1_31 : Jvm.Cond.instanceMethod ({ cls := "HypergraphDualizer$History", name := "<init>", desc := "()V" } : Jvm.MethodName) ∈ gT := gin gin_1 (i := 31) rfl rfl
theorem q1_32 : Jvm.Cond.code ({ cls := "HypergraphDualizer$History", name := "<init>", desc := "()V" } : Jvm.MethodName) prog_5_method_1_code (1 : Nat) (Option.none : Option Jvm.ClassFile.FieldType) ∈ gT := gin gin_1 (i := 32) rfl rfl
theorem q1_33 : Jvm.Cond.methodLink "HypergraphDualizer$History" (3 : Nat) ({ cls := "java/lang/Object", name := "<init>", desc := "()V" } : Jvm.MethodName) ∈ gT := gin gin_1 (i := 33) rfl rfl
theorem q1_34 : Jvm.Cond.classLink "HypergraphDualizer$History" (11 : Nat) "[[I" ∈ gT := gin gin_1 (i := 34) rfl rfl
theorem q1_36 : Jvm.Cond.fieldLink "HypergraphDualizer$History" (20 : Nat) "HypergraphDualizer$History" "undoable" "I" ∈ gT := gin gin_1 (i := 36) rfl rfl
theorem q1_37 : Jvm.Cond.fieldLink "HypergraphDualizer" (138 : Nat) "HypergraphDualizer$History" "undoable" "I" ∈ gT := gin gin_1 (i := 37) rfl rfl
theorem q1_38 : Jvm.Cond.fieldLink "HypergraphDualizer$History" (24 : Nat) "HypergraphDualizer$History" "redoable" "I" ∈ gT := gin gin_1 (i := 38) rfl rfl
theorem q1_39 : Jvm.Cond.fieldLink "HypergraphDualizer" (146 : Nat) "HypergraphDualizer$History" "redoable" "I" ∈ gT := gin gin_1 (i := 39) rfl rfl
theorem q1_40 : Jvm.Cond.fieldLink "HypergraphDualizer$History" (13 : Nat) "HypergraphDualizer$History" "rows" "[[I" ∈ gT := gin gin_1 (i := 40) rfl rfl
theorem q1_41 : Jvm.Cond.fieldLink "HypergraphDualizer$History" (16 : Nat) "HypergraphDualizer$History" "counts" "[I" ∈ gT := gin gin_1 (i := 41) rfl rfl
theorem q1_42 : Jvm.Cond.fieldLink "HypergraphDualizer$History" (27 : Nat) "HypergraphDualizer$History" "now" "I" ∈ gT := gin gin_1 (i := 42) rfl rfl
theorem q1_43 : Jvm.Cond.lays "HypergraphDualizer$History" "HypergraphDualizer$History" "undoable" "I" ∈ gT := gin gin_1 (i := 43) rfl rfl
theorem q1_45 : Jvm.Cond.lays "HypergraphDualizer$History" "HypergraphDualizer$History" "redoable" "I" ∈ gT := gin gin_1 (i := 45) rfl rfl
theorem q1_47 : Jvm.Cond.laysFinal "HypergraphDualizer$History" "HypergraphDualizer$History" "rows" "[[I" ∈ gT := gin gin_1 (i := 47) rfl rfl
theorem q1_49 : Jvm.Cond.laysFinal "HypergraphDualizer$History" "HypergraphDualizer$History" "counts" "[I" ∈ gT := gin gin_1 (i := 49) rfl rfl
theorem q1_51 : Jvm.Cond.lays "HypergraphDualizer$History" "HypergraphDualizer$History" "now" "I" ∈ gT := gin gin_1 (i := 51) rfl rfl
theorem q1_54 : Jvm.Cond.arrayClass Jvm.ClassFile.FieldType.int ∈ gT := gin gin_1 (i := 54) rfl rfl
theorem q1_55 : Jvm.Cond.fieldLink "HypergraphDualizer$Hypergraph" (9 : Nat) "HypergraphDualizer$Hypergraph" "vertices" "I" ∈ gT := gin gin_1 (i := 55) rfl rfl
theorem q1_56 : Jvm.Cond.fieldLink "HypergraphDualizer" (63 : Nat) "HypergraphDualizer$Hypergraph" "vertices" "I" ∈ gT := gin gin_1 (i := 56) rfl rfl
theorem q1_57 : Jvm.Cond.fieldLink "HypergraphDualizer$Search" (42 : Nat) "HypergraphDualizer$Hypergraph" "vertices" "I" ∈ gT := gin gin_1 (i := 57) rfl rfl
theorem q1_58 : Jvm.Cond.fieldLink "HypergraphDualizer$Family" (47 : Nat) "HypergraphDualizer$Hypergraph" "vertices" "I" ∈ gT := gin gin_1 (i := 58) rfl rfl
theorem q1_59 : Jvm.Cond.fieldLink "HypergraphDualizer$EdgeText" (39 : Nat) "HypergraphDualizer$Hypergraph" "vertices" "I" ∈ gT := gin gin_1 (i := 59) rfl rfl
theorem q1_60 : Jvm.Cond.fieldLink "HypergraphDualizer$HittingCounts" (42 : Nat) "HypergraphDualizer$Hypergraph" "vertices" "I" ∈ gT := gin gin_1 (i := 60) rfl rfl
theorem q1_61 : Jvm.Cond.fieldLink "HypergraphDualizer$Diagram" (57 : Nat) "HypergraphDualizer$Hypergraph" "vertices" "I" ∈ gT := gin gin_1 (i := 61) rfl rfl
theorem q1_62 : Jvm.Cond.fieldLink "HypergraphDualizer$Hypergraph" (29 : Nat) "HypergraphDualizer$Hypergraph" "count" "I" ∈ gT := gin gin_1 (i := 62) rfl rfl
theorem q1_63 : Jvm.Cond.fieldLink "HypergraphDualizer$Family" (28 : Nat) "HypergraphDualizer$Hypergraph" "count" "I" ∈ gT := gin gin_1 (i := 63) rfl rfl
theorem q1_64 : Jvm.Cond.fieldLink "HypergraphDualizer" (87 : Nat) "HypergraphDualizer$Hypergraph" "count" "I" ∈ gT := gin gin_1 (i := 64) rfl rfl
theorem q1_65 : Jvm.Cond.fieldLink "HypergraphDualizer$Search" (80 : Nat) "HypergraphDualizer$Hypergraph" "count" "I" ∈ gT := gin gin_1 (i := 65) rfl rfl
theorem q1_66 : Jvm.Cond.fieldLink "HypergraphDualizer$Hypergraph" (15 : Nat) "HypergraphDualizer$Hypergraph" "edges" "[I" ∈ gT := gin gin_1 (i := 66) rfl rfl
theorem q1_67 : Jvm.Cond.fieldLink "HypergraphDualizer$Family" (23 : Nat) "HypergraphDualizer$Hypergraph" "edges" "[I" ∈ gT := gin gin_1 (i := 67) rfl rfl
theorem q1_68 : Jvm.Cond.fieldLink "HypergraphDualizer" (93 : Nat) "HypergraphDualizer$Hypergraph" "edges" "[I" ∈ gT := gin gin_1 (i := 68) rfl rfl
theorem q1_69 : Jvm.Cond.fieldLink "HypergraphDualizer$Search" (83 : Nat) "HypergraphDualizer$Hypergraph" "edges" "[I" ∈ gT := gin gin_1 (i := 69) rfl rfl
theorem q1_70 : Jvm.Cond.fieldLink "HypergraphDualizer$Hypergraph" (19 : Nat) "HypergraphDualizer$Hypergraph" "edgesAt" "[I" ∈ gT := gin gin_1 (i := 70) rfl rfl
theorem q1_71 : Jvm.Cond.fieldLink "HypergraphDualizer$Search" (65 : Nat) "HypergraphDualizer$Hypergraph" "edgesAt" "[I" ∈ gT := gin gin_1 (i := 71) rfl rfl
theorem q1_72 : Jvm.Cond.fieldLink "HypergraphDualizer$Family" (50 : Nat) "HypergraphDualizer$Hypergraph" "edgesAt" "[I" ∈ gT := gin gin_1 (i := 72) rfl rfl
theorem q1_73 : Jvm.Cond.fieldLink "HypergraphDualizer" (110 : Nat) "HypergraphDualizer$Hypergraph" "edgesAt" "[I" ∈ gT := gin gin_1 (i := 73) rfl rfl
theorem q1_74 : Jvm.Cond.fieldLink "HypergraphDualizer$Hypergraph" (25 : Nat) "HypergraphDualizer$Hypergraph" "history" "LHypergraphDualizer$History;" ∈ gT := gin gin_1 (i := 74) rfl rfl
theorem q1_75 : Jvm.Cond.fieldLink "HypergraphDualizer" (134 : Nat) "HypergraphDualizer$Hypergraph" "history" "LHypergraphDualizer$History;" ∈ gT := gin gin_1 (i := 75) rfl rfl
theorem q1_76 : Jvm.Cond.fieldLink "HypergraphDualizer$Search" (26 : Nat) "HypergraphDualizer$Hypergraph" "version" "I" ∈ gT := gin gin_1 (i := 76) rfl rfl
theorem q1_77 : Jvm.Cond.fieldLink "HypergraphDualizer$HittingCounts" (33 : Nat) "HypergraphDualizer$Hypergraph" "version" "I" ∈ gT := gin gin_1 (i := 77) rfl rfl
theorem q1_78 : Jvm.Cond.fieldLink "HypergraphDualizer$Diagram" (46 : Nat) "HypergraphDualizer$Hypergraph" "version" "I" ∈ gT := gin gin_1 (i := 78) rfl rfl
theorem q1_79 : Jvm.Cond.fieldLink "HypergraphDualizer$Hypergraph" (71 : Nat) "HypergraphDualizer$Hypergraph" "version" "I" ∈ gT := gin gin_1 (i := 79) rfl rfl
theorem q1_80 : Jvm.Cond.lays "HypergraphDualizer$Hypergraph" "HypergraphDualizer$Hypergraph" "vertices" "I" ∈ gT := gin gin_1 (i := 80) rfl rfl
theorem q1_82 : Jvm.Cond.lays "HypergraphDualizer$Hypergraph" "HypergraphDualizer$Hypergraph" "count" "I" ∈ gT := gin gin_1 (i := 82) rfl rfl
theorem q1_84 : Jvm.Cond.laysFinal "HypergraphDualizer$Hypergraph" "HypergraphDualizer$Hypergraph" "edges" "[I" ∈ gT := gin gin_1 (i := 84) rfl rfl
theorem q1_86 : Jvm.Cond.laysFinal "HypergraphDualizer$Hypergraph" "HypergraphDualizer$Hypergraph" "edgesAt" "[I" ∈ gT := gin gin_1 (i := 86) rfl rfl
theorem q1_88 : Jvm.Cond.laysFinal "HypergraphDualizer$Hypergraph" "HypergraphDualizer$Hypergraph" "history" "LHypergraphDualizer$History;" ∈ gT := gin gin_1 (i := 88) rfl rfl
theorem q1_90 : Jvm.Cond.lays "HypergraphDualizer$Hypergraph" "HypergraphDualizer$Hypergraph" "version" "I" ∈ gT := gin gin_1 (i := 90) rfl rfl
theorem q1_93 : Jvm.Cond.classLink "HypergraphDualizer" (16 : Nat) "HypergraphDualizer$Weights" ∈ gT := gin gin_1 (i := 93) rfl rfl
theorem q1_94 : Jvm.Cond.instantiable "HypergraphDualizer$Weights" (2 : Nat) ∈ gT := gin gin_1 (i := 94) rfl rfl
theorem q1_95 : Jvm.Cond.methodLink "HypergraphDualizer" (18 : Nat) ({ cls := "HypergraphDualizer$Weights", name := "<init>", desc := "()V" } : Jvm.MethodName) ∈ gT := gin gin_1 (i := 95) rfl rfl
theorem q1_96 : Jvm.Cond.instanceMethod ({ cls := "HypergraphDualizer$Weights", name := "<init>", desc := "()V" } : Jvm.MethodName) ∈ gT := gin gin_1 (i := 96) rfl rfl
theorem q1_97 : Jvm.Cond.code ({ cls := "HypergraphDualizer$Weights", name := "<init>", desc := "()V" } : Jvm.MethodName) prog_9_method_1_code (1 : Nat) (Option.none : Option Jvm.ClassFile.FieldType) ∈ gT := gin gin_1 (i := 97) rfl rfl
theorem q1_98 : Jvm.Cond.methodLink "HypergraphDualizer$Weights" (3 : Nat) ({ cls := "java/lang/Object", name := "<init>", desc := "()V" } : Jvm.MethodName) ∈ gT := gin gin_1 (i := 98) rfl rfl
theorem q1_99 : Jvm.Cond.fieldLink "HypergraphDualizer$Weights" (9 : Nat) "HypergraphDualizer$Weights" "ofVertex" "[I" ∈ gT := gin gin_1 (i := 99) rfl rfl
theorem q1_100 : Jvm.Cond.fieldLink "HypergraphDualizer" (155 : Nat) "HypergraphDualizer$Weights" "ofVertex" "[I" ∈ gT := gin gin_1 (i := 100) rfl rfl
theorem q1_101 : Jvm.Cond.fieldLink "HypergraphDualizer$Weights" (15 : Nat) "HypergraphDualizer$Weights" "keys" "[I" ∈ gT := gin gin_1 (i := 101) rfl rfl
theorem q1_102 : Jvm.Cond.laysFinal "HypergraphDualizer$Weights" "HypergraphDualizer$Weights" "ofVertex" "[I" ∈ gT := gin gin_1 (i := 102) rfl rfl
theorem q1_104 : Jvm.Cond.laysFinal "HypergraphDualizer$Weights" "HypergraphDualizer$Weights" "keys" "[I" ∈ gT := gin gin_1 (i := 104) rfl rfl
theorem q1_107 : Jvm.Cond.methodLink "HypergraphDualizer" (23 : Nat) ({ cls := "HypergraphDualizer$Weights", name := "startAnew", desc := "()V" } : Jvm.MethodName) ∈ gT := gin gin_1 (i := 107) rfl rfl
theorem q1_108 : Jvm.Cond.instanceMethod ({ cls := "HypergraphDualizer$Weights", name := "startAnew", desc := "()V" } : Jvm.MethodName) ∈ gT := gin gin_1 (i := 108) rfl rfl
theorem q1_109 : Jvm.Cond.selects "HypergraphDualizer$Weights" ({ cls := "HypergraphDualizer$Weights", name := "startAnew", desc := "()V" } : Jvm.MethodName) ({ cls := "HypergraphDualizer$Weights", name := "startAnew", desc := "()V" } : Jvm.MethodName) ∈ gT := gin gin_1 (i := 109) rfl rfl
theorem q1_110 : Jvm.Cond.code ({ cls := "HypergraphDualizer$Weights", name := "startAnew", desc := "()V" } : Jvm.MethodName) prog_9_method_2_code (2 : Nat) (Option.none : Option Jvm.ClassFile.FieldType) ∈ gT := gin gin_1 (i := 110) rfl rfl
theorem q1_111 : Jvm.Cond.classLink "HypergraphDualizer" (26 : Nat) "HypergraphDualizer$Search" ∈ gT := gin gin_1 (i := 111) rfl rfl
theorem q1_112 : Jvm.Cond.instantiable "HypergraphDualizer$Search" (8 : Nat) ∈ gT := gin gin_1 (i := 112) rfl rfl
theorem q1_113 : Jvm.Cond.methodLink "HypergraphDualizer" (28 : Nat) ({ cls := "HypergraphDualizer$Search", name := "<init>", desc := "(LHypergraphDualizer$Hypergraph;)V" } : Jvm.MethodName) ∈ gT := gin gin_1 (i := 113) rfl rfl
theorem q1_114 : Jvm.Cond.instanceMethod ({ cls := "HypergraphDualizer$Search", name := "<init>", desc := "(LHypergraphDualizer$Hypergraph;)V" } : Jvm.MethodName) ∈ gT := gin gin_1 (i := 114) rfl rfl
theorem q1_115 : Jvm.Cond.code ({ cls := "HypergraphDualizer$Search", name := "<init>", desc := "(LHypergraphDualizer$Hypergraph;)V" } : Jvm.MethodName) prog_8_method_1_code (2 : Nat) (Option.none : Option Jvm.ClassFile.FieldType) ∈ gT := gin gin_1 (i := 115) rfl rfl
theorem q1_116 : Jvm.Cond.methodLink "HypergraphDualizer$Search" (3 : Nat) ({ cls := "java/lang/Object", name := "<init>", desc := "()V" } : Jvm.MethodName) ∈ gT := gin gin_1 (i := 116) rfl rfl
theorem q1_117 : Jvm.Cond.fieldLink "HypergraphDualizer$Search" (15 : Nat) "HypergraphDualizer$Search" "answers" "[I" ∈ gT := gin gin_1 (i := 117) rfl rfl
theorem q1_118 : Jvm.Cond.fieldLink "HypergraphDualizer$Family" (36 : Nat) "HypergraphDualizer$Search" "answers" "[I" ∈ gT := gin gin_1 (i := 118) rfl rfl
theorem q1_119 : Jvm.Cond.fieldLink "HypergraphDualizer$Weights" (28 : Nat) "HypergraphDualizer$Search" "answers" "[I" ∈ gT := gin gin_1 (i := 119) rfl rfl
theorem q1_120 : Jvm.Cond.fieldLink "HypergraphDualizer" (177 : Nat) "HypergraphDualizer$Search" "answers" "[I" ∈ gT := gin gin_1 (i := 120) rfl rfl
theorem q1_121 : Jvm.Cond.fieldLink "HypergraphDualizer$Search" (19 : Nat) "HypergraphDualizer$Search" "delays" "[I" ∈ gT := gin gin_1 (i := 121) rfl rfl
theorem q1_122 : Jvm.Cond.fieldLink "HypergraphDualizer" (180 : Nat) "HypergraphDualizer$Search" "delays" "[I" ∈ gT := gin gin_1 (i := 122) rfl rfl
theorem q1_123 : Jvm.Cond.fieldLink "HypergraphDualizer$Search" (29 : Nat) "HypergraphDualizer$Search" "found" "I" ∈ gT := gin gin_1 (i := 123) rfl rfl
theorem q1_124 : Jvm.Cond.fieldLink "HypergraphDualizer$Family" (41 : Nat) "HypergraphDualizer$Search" "found" "I" ∈ gT := gin gin_1 (i := 124) rfl rfl
theorem q1_125 : Jvm.Cond.fieldLink "HypergraphDualizer$Weights" (22 : Nat) "HypergraphDualizer$Search" "found" "I" ∈ gT := gin gin_1 (i := 125) rfl rfl
theorem q1_126 : Jvm.Cond.fieldLink "HypergraphDualizer" (125 : Nat) "HypergraphDualizer$Search" "found" "I" ∈ gT := gin gin_1 (i := 126) rfl rfl
theorem q1_127 : Jvm.Cond.fieldLink "HypergraphDualizer$Search" (32 : Nat) "HypergraphDualizer$Search" "visited" "I" ∈ gT := gin gin_1 (i := 127) rfl rfl
theorem q1_128 : Jvm.Cond.fieldLink "HypergraphDualizer" (183 : Nat) "HypergraphDualizer$Search" "visited" "I" ∈ gT := gin gin_1 (i := 128) rfl rfl
theorem q1_129 : Jvm.Cond.fieldLink "HypergraphDualizer$Search" (9 : Nat) "HypergraphDualizer$Search" "graph" "LHypergraphDualizer$Hypergraph;" ∈ gT := gin gin_1 (i := 129) rfl rfl
theorem q1_130 : Jvm.Cond.fieldLink "HypergraphDualizer$Search" (35 : Nat) "HypergraphDualizer$Search" "visitedBefore" "I" ∈ gT := gin gin_1 (i := 130) rfl rfl
theorem q1_131 : Jvm.Cond.fieldLink "HypergraphDualizer$Search" (38 : Nat) "HypergraphDualizer$Search" "givenUp" "Z" ∈ gT := gin gin_1 (i := 131) rfl rfl
theorem q1_132 : Jvm.Cond.fieldLink "HypergraphDualizer$Search" (22 : Nat) "HypergraphDualizer$Search" "version" "I" ∈ gT := gin gin_1 (i := 132) rfl rfl
theorem q1_133 : Jvm.Cond.laysFinal "HypergraphDualizer$Search" "HypergraphDualizer$Search" "answers" "[I" ∈ gT := gin gin_1 (i := 133) rfl rfl
theorem q1_135 : Jvm.Cond.laysFinal "HypergraphDualizer$Search" "HypergraphDualizer$Search" "delays" "[I" ∈ gT := gin gin_1 (i := 135) rfl rfl
theorem q1_137 : Jvm.Cond.lays "HypergraphDualizer$Search" "HypergraphDualizer$Search" "found" "I" ∈ gT := gin gin_1 (i := 137) rfl rfl
theorem q1_139 : Jvm.Cond.lays "HypergraphDualizer$Search" "HypergraphDualizer$Search" "visited" "I" ∈ gT := gin gin_1 (i := 139) rfl rfl
theorem q1_141 : Jvm.Cond.laysFinal "HypergraphDualizer$Search" "HypergraphDualizer$Search" "graph" "LHypergraphDualizer$Hypergraph;" ∈ gT := gin gin_1 (i := 141) rfl rfl
theorem q1_143 : Jvm.Cond.lays "HypergraphDualizer$Search" "HypergraphDualizer$Search" "visitedBefore" "I" ∈ gT := gin gin_1 (i := 143) rfl rfl
theorem q1_145 : Jvm.Cond.lays "HypergraphDualizer$Search" "HypergraphDualizer$Search" "givenUp" "Z" ∈ gT := gin gin_1 (i := 145) rfl rfl
theorem q1_147 : Jvm.Cond.lays "HypergraphDualizer$Search" "HypergraphDualizer$Search" "version" "I" ∈ gT := gin gin_1 (i := 147) rfl rfl
theorem q1_150 : Jvm.Cond.classLink "HypergraphDualizer" (35 : Nat) "HypergraphDualizer$Family" ∈ gT := gin gin_1 (i := 150) rfl rfl
theorem q1_151 : Jvm.Cond.instantiable "HypergraphDualizer$Family" (3 : Nat) ∈ gT := gin gin_1 (i := 151) rfl rfl
theorem q1_152 : Jvm.Cond.methodLink "HypergraphDualizer" (37 : Nat) ({ cls := "HypergraphDualizer$Family", name := "<init>", desc := "(LHypergraphDualizer$Hypergraph;LHypergraphDualizer$Search;)V" } : Jvm.MethodName) ∈ gT := gin gin_1 (i := 152) rfl rfl
theorem q1_153 : Jvm.Cond.instanceMethod ({ cls := "HypergraphDualizer$Family", name := "<init>", desc := "(LHypergraphDualizer$Hypergraph;LHypergraphDualizer$Search;)V" } : Jvm.MethodName) ∈ gT := gin gin_1 (i := 153) rfl rfl
theorem q1_154 : Jvm.Cond.code ({ cls := "HypergraphDualizer$Family", name := "<init>", desc := "(LHypergraphDualizer$Hypergraph;LHypergraphDualizer$Search;)V" } : Jvm.MethodName) prog_4_method_1_code (3 : Nat) (Option.none : Option Jvm.ClassFile.FieldType) ∈ gT := gin gin_1 (i := 154) rfl rfl
theorem q1_155 : Jvm.Cond.methodLink "HypergraphDualizer$Family" (3 : Nat) ({ cls := "java/lang/Object", name := "<init>", desc := "()V" } : Jvm.MethodName) ∈ gT := gin gin_1 (i := 155) rfl rfl
theorem q1_156 : Jvm.Cond.fieldLink "HypergraphDualizer$Family" (9 : Nat) "HypergraphDualizer$Family" "cells" "[I" ∈ gT := gin gin_1 (i := 156) rfl rfl
theorem q1_157 : Jvm.Cond.fieldLink "HypergraphDualizer$HittingCounts" (45 : Nat) "HypergraphDualizer$Family" "cells" "[I" ∈ gT := gin gin_1 (i := 157) rfl rfl
theorem q1_158 : Jvm.Cond.fieldLink "HypergraphDualizer$Diagram" (63 : Nat) "HypergraphDualizer$Family" "cells" "[I" ∈ gT := gin gin_1 (i := 158) rfl rfl
theorem q1_159 : Jvm.Cond.fieldLink "HypergraphDualizer$Family" (15 : Nat) "HypergraphDualizer$Family" "graph" "LHypergraphDualizer$Hypergraph;" ∈ gT := gin gin_1 (i := 159) rfl rfl
theorem q1_160 : Jvm.Cond.fieldLink "HypergraphDualizer$Family" (19 : Nat) "HypergraphDualizer$Family" "search" "LHypergraphDualizer$Search;" ∈ gT := gin gin_1 (i := 160) rfl rfl
theorem q1_161 : Jvm.Cond.laysFinal "HypergraphDualizer$Family" "HypergraphDualizer$Family" "cells" "[I" ∈ gT := gin gin_1 (i := 161) rfl rfl
theorem q1_163 : Jvm.Cond.laysFinal "HypergraphDualizer$Family" "HypergraphDualizer$Family" "graph" "LHypergraphDualizer$Hypergraph;" ∈ gT := gin gin_1 (i := 163) rfl rfl
theorem q1_165 : Jvm.Cond.laysFinal "HypergraphDualizer$Family" "HypergraphDualizer$Family" "search" "LHypergraphDualizer$Search;" ∈ gT := gin gin_1 (i := 165) rfl rfl
theorem q1_168 : Jvm.Cond.classLink "HypergraphDualizer" (40 : Nat) "HypergraphDualizer$HittingCounts" ∈ gT := gin gin_1 (i := 168) rfl rfl
theorem q1_169 : Jvm.Cond.instantiable "HypergraphDualizer$HittingCounts" (5 : Nat) ∈ gT := gin gin_1 (i := 169) rfl rfl
theorem q1_170 : Jvm.Cond.methodLink "HypergraphDualizer" (42 : Nat) ({ cls := "HypergraphDualizer$HittingCounts", name := "<init>", desc := "(LHypergraphDualizer$Hypergraph;LHypergraphDualizer$Family;)V" } : Jvm.MethodName) ∈ gT := gin gin_1 (i := 170) rfl rfl
theorem q1_171 : Jvm.Cond.instanceMethod ({ cls := "HypergraphDualizer$HittingCounts", name := "<init>", desc := "(LHypergraphDualizer$Hypergraph;LHypergraphDualizer$Family;)V" } : Jvm.MethodName) ∈ gT := gin gin_1 (i := 171) rfl rfl
theorem q1_172 : Jvm.Cond.code ({ cls := "HypergraphDualizer$HittingCounts", name := "<init>", desc := "(LHypergraphDualizer$Hypergraph;LHypergraphDualizer$Family;)V" } : Jvm.MethodName) prog_6_method_1_code (3 : Nat) (Option.none : Option Jvm.ClassFile.FieldType) ∈ gT := gin gin_1 (i := 172) rfl rfl
theorem q1_173 : Jvm.Cond.methodLink "HypergraphDualizer$HittingCounts" (3 : Nat) ({ cls := "java/lang/Object", name := "<init>", desc := "()V" } : Jvm.MethodName) ∈ gT := gin gin_1 (i := 173) rfl rfl
theorem q1_174 : Jvm.Cond.fieldLink "HypergraphDualizer$HittingCounts" (9 : Nat) "HypergraphDualizer$HittingCounts" "graph" "LHypergraphDualizer$Hypergraph;" ∈ gT := gin gin_1 (i := 174) rfl rfl
theorem q1_175 : Jvm.Cond.fieldLink "HypergraphDualizer$HittingCounts" (15 : Nat) "HypergraphDualizer$HittingCounts" "family" "LHypergraphDualizer$Family;" ∈ gT := gin gin_1 (i := 175) rfl rfl
theorem q1_176 : Jvm.Cond.fieldLink "HypergraphDualizer$HittingCounts" (19 : Nat) "HypergraphDualizer$HittingCounts" "counts" "[I" ∈ gT := gin gin_1 (i := 176) rfl rfl
theorem q1_177 : Jvm.Cond.fieldLink "HypergraphDualizer$HittingCounts" (30 : Nat) "HypergraphDualizer$HittingCounts" "total" "I" ∈ gT := gin gin_1 (i := 177) rfl rfl
theorem q1_178 : Jvm.Cond.fieldLink "HypergraphDualizer$HittingCounts" (23 : Nat) "HypergraphDualizer$HittingCounts" "version" "I" ∈ gT := gin gin_1 (i := 178) rfl rfl
theorem q1_179 : Jvm.Cond.laysFinal "HypergraphDualizer$HittingCounts" "HypergraphDualizer$HittingCounts" "graph" "LHypergraphDualizer$Hypergraph;" ∈ gT := gin gin_1 (i := 179) rfl rfl
theorem q1_181 : Jvm.Cond.laysFinal "HypergraphDualizer$HittingCounts" "HypergraphDualizer$HittingCounts" "family" "LHypergraphDualizer$Family;" ∈ gT := gin gin_1 (i := 181) rfl rfl
theorem q1_183 : Jvm.Cond.laysFinal "HypergraphDualizer$HittingCounts" "HypergraphDualizer$HittingCounts" "counts" "[I" ∈ gT := gin gin_1 (i := 183) rfl rfl
theorem q1_185 : Jvm.Cond.lays "HypergraphDualizer$HittingCounts" "HypergraphDualizer$HittingCounts" "total" "I" ∈ gT := gin gin_1 (i := 185) rfl rfl
theorem q1_187 : Jvm.Cond.lays "HypergraphDualizer$HittingCounts" "HypergraphDualizer$HittingCounts" "version" "I" ∈ gT := gin gin_1 (i := 187) rfl rfl
theorem q1_190 : Jvm.Cond.classLink "HypergraphDualizer" (49 : Nat) "HypergraphDualizer$Diagram" ∈ gT := gin gin_1 (i := 190) rfl rfl
theorem q1_191 : Jvm.Cond.instantiable "HypergraphDualizer$Diagram" (10 : Nat) ∈ gT := gin gin_1 (i := 191) rfl rfl
theorem q1_192 : Jvm.Cond.methodLink "HypergraphDualizer" (51 : Nat) ({ cls := "HypergraphDualizer$Diagram", name := "<init>", desc := "(LHypergraphDualizer$Hypergraph;LHypergraphDualizer$Family;)V" } : Jvm.MethodName) ∈ gT := gin gin_1 (i := 192) rfl rfl
theorem q1_193 : Jvm.Cond.instanceMethod ({ cls := "HypergraphDualizer$Diagram", name := "<init>", desc := "(LHypergraphDualizer$Hypergraph;LHypergraphDualizer$Family;)V" } : Jvm.MethodName) ∈ gT := gin gin_1 (i := 193) rfl rfl
theorem q1_194 : Jvm.Cond.code ({ cls := "HypergraphDualizer$Diagram", name := "<init>", desc := "(LHypergraphDualizer$Hypergraph;LHypergraphDualizer$Family;)V" } : Jvm.MethodName) prog_2_method_1_code (3 : Nat) (Option.none : Option Jvm.ClassFile.FieldType) ∈ gT := gin gin_1 (i := 194) rfl rfl
theorem q1_195 : Jvm.Cond.methodLink "HypergraphDualizer$Diagram" (5 : Nat) ({ cls := "java/lang/Object", name := "<init>", desc := "()V" } : Jvm.MethodName) ∈ gT := gin gin_1 (i := 195) rfl rfl
theorem q1_196 : Jvm.Cond.fieldLink "HypergraphDualizer$Diagram" (11 : Nat) "HypergraphDualizer$Diagram" "graph" "LHypergraphDualizer$Hypergraph;" ∈ gT := gin gin_1 (i := 196) rfl rfl
theorem q1_197 : Jvm.Cond.fieldLink "HypergraphDualizer$Diagram" (15 : Nat) "HypergraphDualizer$Diagram" "family" "LHypergraphDualizer$Family;" ∈ gT := gin gin_1 (i := 197) rfl rfl
theorem q1_198 : Jvm.Cond.fieldLink "HypergraphDualizer$Diagram" (19 : Nat) "HypergraphDualizer$Diagram" "counts" "[I" ∈ gT := gin gin_1 (i := 198) rfl rfl
theorem q1_199 : Jvm.Cond.fieldLink "HypergraphDualizer$Diagram" (23 : Nat) "HypergraphDualizer$Diagram" "lows" "[I" ∈ gT := gin gin_1 (i := 199) rfl rfl
theorem q1_200 : Jvm.Cond.fieldLink "HypergraphDualizer$Diagram" (26 : Nat) "HypergraphDualizer$Diagram" "highs" "[I" ∈ gT := gin gin_1 (i := 200) rfl rfl
theorem q1_201 : Jvm.Cond.fieldLink "HypergraphDualizer$Diagram" (29 : Nat) "HypergraphDualizer$Diagram" "olders" "[I" ∈ gT := gin gin_1 (i := 201) rfl rfl
theorem q1_202 : Jvm.Cond.fieldLink "HypergraphDualizer$Diagram" (32 : Nat) "HypergraphDualizer$Diagram" "newest" "[I" ∈ gT := gin gin_1 (i := 202) rfl rfl
theorem q1_203 : Jvm.Cond.fieldLink "HypergraphDualizer$Diagram" (43 : Nat) "HypergraphDualizer$Diagram" "nodes" "I" ∈ gT := gin gin_1 (i := 203) rfl rfl
theorem q1_204 : Jvm.Cond.fieldLink "HypergraphDualizer$Diagram" (49 : Nat) "HypergraphDualizer$Diagram" "drawn" "I" ∈ gT := gin gin_1 (i := 204) rfl rfl
theorem q1_205 : Jvm.Cond.fieldLink "HypergraphDualizer$Diagram" (35 : Nat) "HypergraphDualizer$Diagram" "version" "I" ∈ gT := gin gin_1 (i := 205) rfl rfl
theorem q1_206 : Jvm.Cond.laysFinal "HypergraphDualizer$Diagram" "HypergraphDualizer$Diagram" "graph" "LHypergraphDualizer$Hypergraph;" ∈ gT := gin gin_1 (i := 206) rfl rfl
theorem q1_208 : Jvm.Cond.laysFinal "HypergraphDualizer$Diagram" "HypergraphDualizer$Diagram" "family" "LHypergraphDualizer$Family;" ∈ gT := gin gin_1 (i := 208) rfl rfl
theorem q1_210 : Jvm.Cond.laysFinal "HypergraphDualizer$Diagram" "HypergraphDualizer$Diagram" "counts" "[I" ∈ gT := gin gin_1 (i := 210) rfl rfl
theorem q1_212 : Jvm.Cond.laysFinal "HypergraphDualizer$Diagram" "HypergraphDualizer$Diagram" "lows" "[I" ∈ gT := gin gin_1 (i := 212) rfl rfl
theorem q1_214 : Jvm.Cond.laysFinal "HypergraphDualizer$Diagram" "HypergraphDualizer$Diagram" "highs" "[I" ∈ gT := gin gin_1 (i := 214) rfl rfl
theorem q1_216 : Jvm.Cond.laysFinal "HypergraphDualizer$Diagram" "HypergraphDualizer$Diagram" "olders" "[I" ∈ gT := gin gin_1 (i := 216) rfl rfl
theorem q1_218 : Jvm.Cond.laysFinal "HypergraphDualizer$Diagram" "HypergraphDualizer$Diagram" "newest" "[I" ∈ gT := gin gin_1 (i := 218) rfl rfl
theorem q1_220 : Jvm.Cond.lays "HypergraphDualizer$Diagram" "HypergraphDualizer$Diagram" "nodes" "I" ∈ gT := gin gin_1 (i := 220) rfl rfl
theorem q1_222 : Jvm.Cond.lays "HypergraphDualizer$Diagram" "HypergraphDualizer$Diagram" "drawn" "I" ∈ gT := gin gin_1 (i := 222) rfl rfl
theorem q1_224 : Jvm.Cond.lays "HypergraphDualizer$Diagram" "HypergraphDualizer$Diagram" "version" "I" ∈ gT := gin gin_1 (i := 224) rfl rfl
theorem q1_227 : Jvm.Cond.classLink "HypergraphDualizer" (56 : Nat) "HypergraphDualizer$EdgeText" ∈ gT := gin gin_1 (i := 227) rfl rfl
theorem q1_228 : Jvm.Cond.instantiable "HypergraphDualizer$EdgeText" (4 : Nat) ∈ gT := gin gin_1 (i := 228) rfl rfl
theorem q1_229 : Jvm.Cond.methodLink "HypergraphDualizer" (58 : Nat) ({ cls := "HypergraphDualizer$EdgeText", name := "<init>", desc := "()V" } : Jvm.MethodName) ∈ gT := gin gin_1 (i := 229) rfl rfl
theorem q1_230 : Jvm.Cond.instanceMethod ({ cls := "HypergraphDualizer$EdgeText", name := "<init>", desc := "()V" } : Jvm.MethodName) ∈ gT := gin gin_1 (i := 230) rfl rfl
theorem q1_231 : Jvm.Cond.code ({ cls := "HypergraphDualizer$EdgeText", name := "<init>", desc := "()V" } : Jvm.MethodName) prog_3_method_1_code (1 : Nat) (Option.none : Option Jvm.ClassFile.FieldType) ∈ gT := gin gin_1 (i := 231) rfl rfl
theorem q1_232 : Jvm.Cond.methodLink "HypergraphDualizer$EdgeText" (3 : Nat) ({ cls := "java/lang/Object", name := "<init>", desc := "()V" } : Jvm.MethodName) ∈ gT := gin gin_1 (i := 232) rfl rfl
theorem q1_233 : Jvm.Cond.fieldLink "HypergraphDualizer$EdgeText" (15 : Nat) "HypergraphDualizer$EdgeText" "length" "I" ∈ gT := gin gin_1 (i := 233) rfl rfl
theorem q1_234 : Jvm.Cond.fieldLink "HypergraphDualizer" (225 : Nat) "HypergraphDualizer$EdgeText" "length" "I" ∈ gT := gin gin_1 (i := 234) rfl rfl
theorem q1_235 : Jvm.Cond.fieldLink "HypergraphDualizer$EdgeText" (9 : Nat) "HypergraphDualizer$EdgeText" "characters" "[C" ∈ gT := gin gin_1 (i := 235) rfl rfl
theorem q1_236 : Jvm.Cond.fieldLink "HypergraphDualizer$EdgeText" (19 : Nat) "HypergraphDualizer$EdgeText" "at" "I" ∈ gT := gin gin_1 (i := 236) rfl rfl
theorem q1_237 : Jvm.Cond.fieldLink "HypergraphDualizer$EdgeText" (22 : Nat) "HypergraphDualizer$EdgeText" "fault" "I" ∈ gT := gin gin_1 (i := 237) rfl rfl
theorem q1_238 : Jvm.Cond.lays "HypergraphDualizer$EdgeText" "HypergraphDualizer$EdgeText" "length" "I" ∈ gT := gin gin_1 (i := 238) rfl rfl
theorem q2_0 : Jvm.Cond.laysFinal "HypergraphDualizer$EdgeText" "HypergraphDualizer$EdgeText" "characters" "[C" ∈ gT := gin gin_2 (i := 0) rfl rfl
theorem q2_2 : Jvm.Cond.lays "HypergraphDualizer$EdgeText" "HypergraphDualizer$EdgeText" "at" "I" ∈ gT := gin gin_2 (i := 2) rfl rfl
theorem q2_4 : Jvm.Cond.lays "HypergraphDualizer$EdgeText" "HypergraphDualizer$EdgeText" "fault" "I" ∈ gT := gin gin_2 (i := 4) rfl rfl
theorem q2_7 : Jvm.Cond.arrayClass Jvm.ClassFile.FieldType.char ∈ gT := gin gin_2 (i := 7) rfl rfl
theorem q2_8 : Jvm.Cond.fieldLink "HypergraphDualizer" (12 : Nat) "HypergraphDualizer" "graph" "LHypergraphDualizer$Hypergraph;" ∈ gT := gin gin_2 (i := 8) rfl rfl
theorem q2_9 : Jvm.Cond.fieldLink "HypergraphDualizer" (19 : Nat) "HypergraphDualizer" "weights" "LHypergraphDualizer$Weights;" ∈ gT := gin gin_2 (i := 9) rfl rfl
theorem q2_10 : Jvm.Cond.fieldLink "HypergraphDualizer" (31 : Nat) "HypergraphDualizer" "search" "LHypergraphDualizer$Search;" ∈ gT := gin gin_2 (i := 10) rfl rfl
theorem q2_11 : Jvm.Cond.fieldLink "HypergraphDualizer" (45 : Nat) "HypergraphDualizer" "hittingCounts" "LHypergraphDualizer$HittingCounts;" ∈ gT := gin gin_2 (i := 11) rfl rfl
theorem q2_12 : Jvm.Cond.fieldLink "HypergraphDualizer" (52 : Nat) "HypergraphDualizer" "diagram" "LHypergraphDualizer$Diagram;" ∈ gT := gin gin_2 (i := 12) rfl rfl
theorem q2_13 : Jvm.Cond.fieldLink "HypergraphDualizer" (59 : Nat) "HypergraphDualizer" "text" "LHypergraphDualizer$EdgeText;" ∈ gT := gin gin_2 (i := 13) rfl rfl
theorem q2_14 : Jvm.Cond.laysFinal "HypergraphDualizer" "HypergraphDualizer" "graph" "LHypergraphDualizer$Hypergraph;" ∈ gT := gin gin_2 (i := 14) rfl rfl
theorem q2_16 : Jvm.Cond.laysFinal "HypergraphDualizer" "HypergraphDualizer" "weights" "LHypergraphDualizer$Weights;" ∈ gT := gin gin_2 (i := 16) rfl rfl
theorem q2_18 : Jvm.Cond.laysFinal "HypergraphDualizer" "HypergraphDualizer" "search" "LHypergraphDualizer$Search;" ∈ gT := gin gin_2 (i := 18) rfl rfl
theorem q2_20 : Jvm.Cond.laysFinal "HypergraphDualizer" "HypergraphDualizer" "hittingCounts" "LHypergraphDualizer$HittingCounts;" ∈ gT := gin gin_2 (i := 20) rfl rfl
theorem q2_22 : Jvm.Cond.laysFinal "HypergraphDualizer" "HypergraphDualizer" "diagram" "LHypergraphDualizer$Diagram;" ∈ gT := gin gin_2 (i := 22) rfl rfl
theorem q2_24 : Jvm.Cond.laysFinal "HypergraphDualizer" "HypergraphDualizer" "text" "LHypergraphDualizer$EdgeText;" ∈ gT := gin gin_2 (i := 24) rfl rfl
theorem q2_27 : Jvm.Cond.methodLink "HypergraphDualizerLaw" (13 : Nat) ({ cls := "HypergraphDualizer", name := "reset", desc := "(I)I" } : Jvm.MethodName) ∈ gT := gin gin_2 (i := 27) rfl rfl
theorem q2_28 : Jvm.Cond.instanceMethod ({ cls := "HypergraphDualizer", name := "reset", desc := "(I)I" } : Jvm.MethodName) ∈ gT := gin gin_2 (i := 28) rfl rfl
theorem q2_29 : Jvm.Cond.selects "HypergraphDualizer" ({ cls := "HypergraphDualizer", name := "reset", desc := "(I)I" } : Jvm.MethodName) ({ cls := "HypergraphDualizer", name := "reset", desc := "(I)I" } : Jvm.MethodName) ∈ gT := gin gin_2 (i := 29) rfl rfl
theorem q2_30 : Jvm.Cond.code ({ cls := "HypergraphDualizer", name := "reset", desc := "(I)I" } : Jvm.MethodName) prog_1_method_2_code (3 : Nat) (Option.some Jvm.ClassFile.FieldType.int) ∈ gT := gin gin_2 (i := 30) rfl rfl
theorem q2_31 : Jvm.Cond.methodLink "HypergraphDualizer" (67 : Nat) ({ cls := "HypergraphDualizer$Hypergraph", name := "startAnew", desc := "(I)V" } : Jvm.MethodName) ∈ gT := gin gin_2 (i := 31) rfl rfl
theorem q2_32 : Jvm.Cond.instanceMethod ({ cls := "HypergraphDualizer$Hypergraph", name := "startAnew", desc := "(I)V" } : Jvm.MethodName) ∈ gT := gin gin_2 (i := 32) rfl rfl
theorem q2_33 : Jvm.Cond.selects "HypergraphDualizer$Hypergraph" ({ cls := "HypergraphDualizer$Hypergraph", name := "startAnew", desc := "(I)V" } : Jvm.MethodName) ({ cls := "HypergraphDualizer$Hypergraph", name := "startAnew", desc := "(I)V" } : Jvm.MethodName) ∈ gT := gin gin_2 (i := 33) rfl rfl
theorem q2_34 : Jvm.Cond.code ({ cls := "HypergraphDualizer$Hypergraph", name := "startAnew", desc := "(I)V" } : Jvm.MethodName) prog_7_method_2_code (2 : Nat) (Option.none : Option Jvm.ClassFile.FieldType) ∈ gT := gin gin_2 (i := 34) rfl rfl
theorem q2_35 : Jvm.Cond.methodLink "HypergraphDualizer$Hypergraph" (32 : Nat) ({ cls := "HypergraphDualizer$History", name := "forget", desc := "()V" } : Jvm.MethodName) ∈ gT := gin gin_2 (i := 35) rfl rfl
theorem q2_36 : Jvm.Cond.instanceMethod ({ cls := "HypergraphDualizer$History", name := "forget", desc := "()V" } : Jvm.MethodName) ∈ gT := gin gin_2 (i := 36) rfl rfl
theorem q2_37 : Jvm.Cond.selects "HypergraphDualizer$History" ({ cls := "HypergraphDualizer$History", name := "forget", desc := "()V" } : Jvm.MethodName) ({ cls := "HypergraphDualizer$History", name := "forget", desc := "()V" } : Jvm.MethodName) ∈ gT := gin gin_2 (i := 37) rfl rfl
theorem q2_38 : Jvm.Cond.code ({ cls := "HypergraphDualizer$History", name := "forget", desc := "()V" } : Jvm.MethodName) prog_5_method_2_code (1 : Nat) (Option.none : Option Jvm.ClassFile.FieldType) ∈ gT := gin gin_2 (i := 38) rfl rfl
theorem q2_39 : Jvm.Cond.methodLink "HypergraphDualizer$Hypergraph" (35 : Nat) ({ cls := "HypergraphDualizer$Hypergraph", name := "followChange", desc := "()V" } : Jvm.MethodName) ∈ gT := gin gin_2 (i := 39) rfl rfl
theorem q2_41 : Jvm.Cond.instanceMethod ({ cls := "HypergraphDualizer$Hypergraph", name := "followChange", desc := "()V" } : Jvm.MethodName) ∈ gT := gin gin_2 (i := 41) rfl rfl
theorem q2_42 : Jvm.Cond.code ({ cls := "HypergraphDualizer$Hypergraph", name := "followChange", desc := "()V" } : Jvm.MethodName) prog_7_method_16_code (4 : Nat) (Option.none : Option Jvm.ClassFile.FieldType) ∈ gT := gin gin_2 (i := 42) rfl rfl
theorem q2_44 : Jvm.Cond.static ({ cls := "HypergraphDualizer", name := "has", desc := "(II)Z" } : Jvm.MethodName) ∈ gT := gin gin_2 (i := 44) rfl rfl
theorem q2_45 : Jvm.Cond.code ({ cls := "HypergraphDualizer", name := "has", desc := "(II)Z" } : Jvm.MethodName) prog_1_method_42_code (2 : Nat) (Option.some Jvm.ClassFile.FieldType.boolean) ∈ gT := gin gin_2 (i := 45) rfl rfl
theorem q2_46 : Jvm.Cond.methodLink "HypergraphDualizerLaw" (18 : Nat) ({ cls := "HypergraphDualizer", name := "addEdge", desc := "(I)I" } : Jvm.MethodName) ∈ gT := gin gin_2 (i := 46) rfl rfl
theorem q2_47 : Jvm.Cond.instanceMethod ({ cls := "HypergraphDualizer", name := "addEdge", desc := "(I)I" } : Jvm.MethodName) ∈ gT := gin gin_2 (i := 47) rfl rfl
theorem q2_48 : Jvm.Cond.selects "HypergraphDualizer" ({ cls := "HypergraphDualizer", name := "addEdge", desc := "(I)I" } : Jvm.MethodName) ({ cls := "HypergraphDualizer", name := "addEdge", desc := "(I)I" } : Jvm.MethodName) ∈ gT := gin gin_2 (i := 48) rfl rfl
theorem q2_49 : Jvm.Cond.code ({ cls := "HypergraphDualizer", name := "addEdge", desc := "(I)I" } : Jvm.MethodName) prog_1_method_3_code (2 : Nat) (Option.some Jvm.ClassFile.FieldType.int) ∈ gT := gin gin_2 (i := 49) rfl rfl
theorem q2_50 : Jvm.Cond.methodLink "HypergraphDualizer" (70 : Nat) ({ cls := "HypergraphDualizer$Hypergraph", name := "isSet", desc := "(I)Z" } : Jvm.MethodName) ∈ gT := gin gin_2 (i := 50) rfl rfl
theorem q2_51 : Jvm.Cond.instanceMethod ({ cls := "HypergraphDualizer$Hypergraph", name := "isSet", desc := "(I)Z" } : Jvm.MethodName) ∈ gT := gin gin_2 (i := 51) rfl rfl
theorem q2_52 : Jvm.Cond.selects "HypergraphDualizer$Hypergraph" ({ cls := "HypergraphDualizer$Hypergraph", name := "isSet", desc := "(I)Z" } : Jvm.MethodName) ({ cls := "HypergraphDualizer$Hypergraph", name := "isSet", desc := "(I)Z" } : Jvm.MethodName) ∈ gT := gin gin_2 (i := 52) rfl rfl
theorem q2_53 : Jvm.Cond.code ({ cls := "HypergraphDualizer$Hypergraph", name := "isSet", desc := "(I)Z" } : Jvm.MethodName) prog_7_method_5_code (2 : Nat) (Option.some Jvm.ClassFile.FieldType.boolean) ∈ gT := gin gin_2 (i := 53) rfl rfl
theorem q2_54 : Jvm.Cond.methodLink "HypergraphDualizer" (74 : Nat) ({ cls := "HypergraphDualizer$Hypergraph", name := "contains", desc := "(I)Z" } : Jvm.MethodName) ∈ gT := gin gin_2 (i := 54) rfl rfl
theorem q2_55 : Jvm.Cond.instanceMethod ({ cls := "HypergraphDualizer$Hypergraph", name := "contains", desc := "(I)Z" } : Jvm.MethodName) ∈ gT := gin gin_2 (i := 55) rfl rfl
theorem q2_56 : Jvm.Cond.selects "HypergraphDualizer$Hypergraph" ({ cls := "HypergraphDualizer$Hypergraph", name := "contains", desc := "(I)Z" } : Jvm.MethodName) ({ cls := "HypergraphDualizer$Hypergraph", name := "contains", desc := "(I)Z" } : Jvm.MethodName) ∈ gT := gin gin_2 (i := 56) rfl rfl
theorem q2_57 : Jvm.Cond.code ({ cls := "HypergraphDualizer$Hypergraph", name := "contains", desc := "(I)Z" } : Jvm.MethodName) prog_7_method_8_code (3 : Nat) (Option.some Jvm.ClassFile.FieldType.boolean) ∈ gT := gin gin_2 (i := 57) rfl rfl
theorem q2_58 : Jvm.Cond.methodLink "HypergraphDualizer" (77 : Nat) ({ cls := "HypergraphDualizer$Hypergraph", name := "isFull", desc := "()Z" } : Jvm.MethodName) ∈ gT := gin gin_2 (i := 58) rfl rfl
theorem q2_59 : Jvm.Cond.instanceMethod ({ cls := "HypergraphDualizer$Hypergraph", name := "isFull", desc := "()Z" } : Jvm.MethodName) ∈ gT := gin gin_2 (i := 59) rfl rfl
theorem q2_60 : Jvm.Cond.selects "HypergraphDualizer$Hypergraph" ({ cls := "HypergraphDualizer$Hypergraph", name := "isFull", desc := "()Z" } : Jvm.MethodName) ({ cls := "HypergraphDualizer$Hypergraph", name := "isFull", desc := "()Z" } : Jvm.MethodName) ∈ gT := gin gin_2 (i := 60) rfl rfl
theorem q2_61 : Jvm.Cond.code ({ cls := "HypergraphDualizer$Hypergraph", name := "isFull", desc := "()Z" } : Jvm.MethodName) prog_7_method_6_code (1 : Nat) (Option.some Jvm.ClassFile.FieldType.boolean) ∈ gT := gin gin_2 (i := 61) rfl rfl
theorem q2_62 : Jvm.Cond.methodLink "HypergraphDualizer" (81 : Nat) ({ cls := "HypergraphDualizer$Hypergraph", name := "append", desc := "(I)V" } : Jvm.MethodName) ∈ gT := gin gin_2 (i := 62) rfl rfl
theorem q2_63 : Jvm.Cond.instanceMethod ({ cls := "HypergraphDualizer$Hypergraph", name := "append", desc := "(I)V" } : Jvm.MethodName) ∈ gT := gin gin_2 (i := 63) rfl rfl
theorem q2_64 : Jvm.Cond.selects "HypergraphDualizer$Hypergraph" ({ cls := "HypergraphDualizer$Hypergraph", name := "append", desc := "(I)V" } : Jvm.MethodName) ({ cls := "HypergraphDualizer$Hypergraph", name := "append", desc := "(I)V" } : Jvm.MethodName) ∈ gT := gin gin_2 (i := 64) rfl rfl
theorem q2_65 : Jvm.Cond.code ({ cls := "HypergraphDualizer$Hypergraph", name := "append", desc := "(I)V" } : Jvm.MethodName) prog_7_method_9_code (2 : Nat) (Option.none : Option Jvm.ClassFile.FieldType) ∈ gT := gin gin_2 (i := 65) rfl rfl
theorem q2_66 : Jvm.Cond.methodLink "HypergraphDualizer$Hypergraph" (38 : Nat) ({ cls := "HypergraphDualizer$Hypergraph", name := "isFull", desc := "()Z" } : Jvm.MethodName) ∈ gT := gin gin_2 (i := 66) rfl rfl
theorem q2_67 : Jvm.Cond.methodLink "HypergraphDualizer" (84 : Nat) ({ cls := "HypergraphDualizer$Hypergraph", name := "endEdit", desc := "()V" } : Jvm.MethodName) ∈ gT := gin gin_2 (i := 67) rfl rfl
theorem q2_68 : Jvm.Cond.instanceMethod ({ cls := "HypergraphDualizer$Hypergraph", name := "endEdit", desc := "()V" } : Jvm.MethodName) ∈ gT := gin gin_2 (i := 68) rfl rfl
theorem q2_69 : Jvm.Cond.selects "HypergraphDualizer$Hypergraph" ({ cls := "HypergraphDualizer$Hypergraph", name := "endEdit", desc := "()V" } : Jvm.MethodName) ({ cls := "HypergraphDualizer$Hypergraph", name := "endEdit", desc := "()V" } : Jvm.MethodName) ∈ gT := gin gin_2 (i := 69) rfl rfl
theorem q2_70 : Jvm.Cond.code ({ cls := "HypergraphDualizer$Hypergraph", name := "endEdit", desc := "()V" } : Jvm.MethodName) prog_7_method_12_code (1 : Nat) (Option.none : Option Jvm.ClassFile.FieldType) ∈ gT := gin gin_2 (i := 70) rfl rfl
theorem q2_71 : Jvm.Cond.methodLink "HypergraphDualizer$Hypergraph" (54 : Nat) ({ cls := "HypergraphDualizer$History", name := "add", desc := "([II)V" } : Jvm.MethodName) ∈ gT := gin gin_2 (i := 71) rfl rfl
theorem q2_72 : Jvm.Cond.instanceMethod ({ cls := "HypergraphDualizer$History", name := "add", desc := "([II)V" } : Jvm.MethodName) ∈ gT := gin gin_2 (i := 72) rfl rfl
theorem q2_73 : Jvm.Cond.selects "HypergraphDualizer$History" ({ cls := "HypergraphDualizer$History", name := "add", desc := "([II)V" } : Jvm.MethodName) ({ cls := "HypergraphDualizer$History", name := "add", desc := "([II)V" } : Jvm.MethodName) ∈ gT := gin gin_2 (i := 73) rfl rfl
theorem q2_74 : Jvm.Cond.code ({ cls := "HypergraphDualizer$History", name := "add", desc := "([II)V" } : Jvm.MethodName) prog_5_method_3_code (3 : Nat) (Option.none : Option Jvm.ClassFile.FieldType) ∈ gT := gin gin_2 (i := 74) rfl rfl
theorem q2_75 : Jvm.Cond.methodLink "HypergraphDualizer$History" (30 : Nat) ({ cls := "java/lang/System", name := "arraycopy", desc := "(Ljava/lang/Object;ILjava/lang/Object;II)V" } : Jvm.MethodName) ∈ gT := gin gin_2 (i := 75) rfl rfl
theorem q2_76 : Jvm.Cond.static ({ cls := "java/lang/System", name := "arraycopy", desc := "(Ljava/lang/Object;ILjava/lang/Object;II)V" } : Jvm.MethodName) ∈ gT := gin gin_2 (i := 76) rfl rfl
theorem q2_77 : Jvm.Cond.native ({ cls := "java/lang/System", name := "arraycopy", desc := "(Ljava/lang/Object;ILjava/lang/Object;II)V" } : Jvm.MethodName) ∈ gT := gin gin_2 (i := 77) rfl rfl
theorem q2_78 : Jvm.Cond.methodLink "HypergraphDualizer$History" (36 : Nat) ({ cls := "java/lang/Math", name := "min", desc := "(II)I" } : Jvm.MethodName) ∈ gT := gin gin_2 (i := 78) rfl rfl
theorem q2_79 : Jvm.Cond.static ({ cls := "java/lang/Math", name := "min", desc := "(II)I" } : Jvm.MethodName) ∈ gT := gin gin_2 (i := 79) rfl rfl
theorem q2_80 : Jvm.Cond.code ({ cls := "java/lang/Math", name := "min", desc := "(II)I" } : Jvm.MethodName) prog_13_method_69_code (2 : Nat) (Option.some Jvm.ClassFile.FieldType.int) ∈ gT := gin gin_2 (i := 80) rfl rfl
theorem q2_81 : Jvm.Cond.methodLink "HypergraphDualizerLaw" (22 : Nat) ({ cls := "HypergraphDualizer", name := "removeEdge", desc := "(I)I" } : Jvm.MethodName) ∈ gT := gin gin_2 (i := 81) rfl rfl
theorem q2_82 : Jvm.Cond.instanceMethod ({ cls := "HypergraphDualizer", name := "removeEdge", desc := "(I)I" } : Jvm.MethodName) ∈ gT := gin gin_2 (i := 82) rfl rfl
theorem q2_83 : Jvm.Cond.selects "HypergraphDualizer" ({ cls := "HypergraphDualizer", name := "removeEdge", desc := "(I)I" } : Jvm.MethodName) ({ cls := "HypergraphDualizer", name := "removeEdge", desc := "(I)I" } : Jvm.MethodName) ∈ gT := gin gin_2 (i := 83) rfl rfl
theorem q2_84 : Jvm.Cond.code ({ cls := "HypergraphDualizer", name := "removeEdge", desc := "(I)I" } : Jvm.MethodName) prog_1_method_4_code (3 : Nat) (Option.some Jvm.ClassFile.FieldType.int) ∈ gT := gin gin_2 (i := 84) rfl rfl
theorem q2_85 : Jvm.Cond.methodLink "HypergraphDualizer" (90 : Nat) ({ cls := "HypergraphDualizer$Hypergraph", name := "isEdge", desc := "(I)Z" } : Jvm.MethodName) ∈ gT := gin gin_2 (i := 85) rfl rfl
theorem q2_86 : Jvm.Cond.instanceMethod ({ cls := "HypergraphDualizer$Hypergraph", name := "isEdge", desc := "(I)Z" } : Jvm.MethodName) ∈ gT := gin gin_2 (i := 86) rfl rfl
theorem q2_87 : Jvm.Cond.selects "HypergraphDualizer$Hypergraph" ({ cls := "HypergraphDualizer$Hypergraph", name := "isEdge", desc := "(I)Z" } : Jvm.MethodName) ({ cls := "HypergraphDualizer$Hypergraph", name := "isEdge", desc := "(I)Z" } : Jvm.MethodName) ∈ gT := gin gin_2 (i := 87) rfl rfl
theorem q2_88 : Jvm.Cond.code ({ cls := "HypergraphDualizer$Hypergraph", name := "isEdge", desc := "(I)Z" } : Jvm.MethodName) prog_7_method_4_code (2 : Nat) (Option.some Jvm.ClassFile.FieldType.boolean) ∈ gT := gin gin_2 (i := 88) rfl rfl
theorem q2_89 : Jvm.Cond.methodLink "HypergraphDualizer" (97 : Nat) ({ cls := "HypergraphDualizer$Hypergraph", name := "allEdges", desc := "()I" } : Jvm.MethodName) ∈ gT := gin gin_2 (i := 89) rfl rfl
theorem q2_90 : Jvm.Cond.instanceMethod ({ cls := "HypergraphDualizer$Hypergraph", name := "allEdges", desc := "()I" } : Jvm.MethodName) ∈ gT := gin gin_2 (i := 90) rfl rfl
theorem q2_91 : Jvm.Cond.selects "HypergraphDualizer$Hypergraph" ({ cls := "HypergraphDualizer$Hypergraph", name := "allEdges", desc := "()I" } : Jvm.MethodName) ({ cls := "HypergraphDualizer$Hypergraph", name := "allEdges", desc := "()I" } : Jvm.MethodName) ∈ gT := gin gin_2 (i := 91) rfl rfl
theorem q2_92 : Jvm.Cond.code ({ cls := "HypergraphDualizer$Hypergraph", name := "allEdges", desc := "()I" } : Jvm.MethodName) prog_7_method_7_code (1 : Nat) (Option.some Jvm.ClassFile.FieldType.int) ∈ gT := gin gin_2 (i := 92) rfl rfl
theorem q2_93 : Jvm.Cond.methodLink "HypergraphDualizer" (101 : Nat) ({ cls := "HypergraphDualizer$Hypergraph", name := "keepOnly", desc := "(I)V" } : Jvm.MethodName) ∈ gT := gin gin_2 (i := 93) rfl rfl
theorem q2_94 : Jvm.Cond.instanceMethod ({ cls := "HypergraphDualizer$Hypergraph", name := "keepOnly", desc := "(I)V" } : Jvm.MethodName) ∈ gT := gin gin_2 (i := 94) rfl rfl
theorem q2_95 : Jvm.Cond.selects "HypergraphDualizer$Hypergraph" ({ cls := "HypergraphDualizer$Hypergraph", name := "keepOnly", desc := "(I)V" } : Jvm.MethodName) ({ cls := "HypergraphDualizer$Hypergraph", name := "keepOnly", desc := "(I)V" } : Jvm.MethodName) ∈ gT := gin gin_2 (i := 95) rfl rfl
theorem q2_96 : Jvm.Cond.code ({ cls := "HypergraphDualizer$Hypergraph", name := "keepOnly", desc := "(I)V" } : Jvm.MethodName) prog_7_method_10_code (4 : Nat) (Option.none : Option Jvm.ClassFile.FieldType) ∈ gT := gin gin_2 (i := 96) rfl rfl
theorem q2_97 : Jvm.Cond.methodLink "HypergraphDualizer$Hypergraph" (46 : Nat) ({ cls := "HypergraphDualizer$Hypergraph", name := "append", desc := "(I)V" } : Jvm.MethodName) ∈ gT := gin gin_2 (i := 97) rfl rfl
theorem q2_98 : Jvm.Cond.methodLink "HypergraphDualizerLaw" (26 : Nat) ({ cls := "HypergraphDualizer", name := "minimize", desc := "()I" } : Jvm.MethodName) ∈ gT := gin gin_2 (i := 98) rfl rfl
theorem q2_99 : Jvm.Cond.instanceMethod ({ cls := "HypergraphDualizer", name := "minimize", desc := "()I" } : Jvm.MethodName) ∈ gT := gin gin_2 (i := 99) rfl rfl
theorem q2_100 : Jvm.Cond.selects "HypergraphDualizer" ({ cls := "HypergraphDualizer", name := "minimize", desc := "()I" } : Jvm.MethodName) ({ cls := "HypergraphDualizer", name := "minimize", desc := "()I" } : Jvm.MethodName) ∈ gT := gin gin_2 (i := 100) rfl rfl
theorem q2_101 : Jvm.Cond.code ({ cls := "HypergraphDualizer", name := "minimize", desc := "()I" } : Jvm.MethodName) prog_1_method_5_code (2 : Nat) (Option.some Jvm.ClassFile.FieldType.int) ∈ gT := gin gin_2 (i := 101) rfl rfl
theorem q2_102 : Jvm.Cond.methodLink "HypergraphDualizer" (104 : Nat) ({ cls := "HypergraphDualizer$Hypergraph", name := "minimalEdges", desc := "()I" } : Jvm.MethodName) ∈ gT := gin gin_2 (i := 102) rfl rfl
theorem q2_103 : Jvm.Cond.instanceMethod ({ cls := "HypergraphDualizer$Hypergraph", name := "minimalEdges", desc := "()I" } : Jvm.MethodName) ∈ gT := gin gin_2 (i := 103) rfl rfl
theorem q2_104 : Jvm.Cond.selects "HypergraphDualizer$Hypergraph" ({ cls := "HypergraphDualizer$Hypergraph", name := "minimalEdges", desc := "()I" } : Jvm.MethodName) ({ cls := "HypergraphDualizer$Hypergraph", name := "minimalEdges", desc := "()I" } : Jvm.MethodName) ∈ gT := gin gin_2 (i := 104) rfl rfl
theorem q2_105 : Jvm.Cond.code ({ cls := "HypergraphDualizer$Hypergraph", name := "minimalEdges", desc := "()I" } : Jvm.MethodName) prog_7_method_17_code (3 : Nat) (Option.some Jvm.ClassFile.FieldType.int) ∈ gT := gin gin_2 (i := 105) rfl rfl
theorem q2_106 : Jvm.Cond.methodLink "HypergraphDualizer$Hypergraph" (74 : Nat) ({ cls := "HypergraphDualizer$Hypergraph", name := "isMinimal", desc := "(I)Z" } : Jvm.MethodName) ∈ gT := gin gin_2 (i := 106) rfl rfl
theorem q2_108 : Jvm.Cond.instanceMethod ({ cls := "HypergraphDualizer$Hypergraph", name := "isMinimal", desc := "(I)Z" } : Jvm.MethodName) ∈ gT := gin gin_2 (i := 108) rfl rfl
theorem q2_109 : Jvm.Cond.code ({ cls := "HypergraphDualizer$Hypergraph", name := "isMinimal", desc := "(I)Z" } : Jvm.MethodName) prog_7_method_18_code (3 : Nat) (Option.some Jvm.ClassFile.FieldType.boolean) ∈ gT := gin gin_2 (i := 109) rfl rfl
theorem q2_111 : Jvm.Cond.static ({ cls := "HypergraphDualizer", name := "isWithin", desc := "(II)Z" } : Jvm.MethodName) ∈ gT := gin gin_2 (i := 111) rfl rfl
theorem q2_112 : Jvm.Cond.code ({ cls := "HypergraphDualizer", name := "isWithin", desc := "(II)Z" } : Jvm.MethodName) prog_1_method_43_code (2 : Nat) (Option.some Jvm.ClassFile.FieldType.boolean) ∈ gT := gin gin_2 (i := 112) rfl rfl
theorem q2_113 : Jvm.Cond.methodLink "HypergraphDualizerLaw" (31 : Nat) ({ cls := "HypergraphDualizer", name := "contract", desc := "(I)I" } : Jvm.MethodName) ∈ gT := gin gin_2 (i := 113) rfl rfl
theorem q2_114 : Jvm.Cond.instanceMethod ({ cls := "HypergraphDualizer", name := "contract", desc := "(I)I" } : Jvm.MethodName) ∈ gT := gin gin_2 (i := 114) rfl rfl
theorem q2_115 : Jvm.Cond.selects "HypergraphDualizer" ({ cls := "HypergraphDualizer", name := "contract", desc := "(I)I" } : Jvm.MethodName) ({ cls := "HypergraphDualizer", name := "contract", desc := "(I)I" } : Jvm.MethodName) ∈ gT := gin gin_2 (i := 115) rfl rfl
theorem q2_116 : Jvm.Cond.code ({ cls := "HypergraphDualizer", name := "contract", desc := "(I)I" } : Jvm.MethodName) prog_1_method_6_code (3 : Nat) (Option.some Jvm.ClassFile.FieldType.int) ∈ gT := gin gin_2 (i := 116) rfl rfl
theorem q2_117 : Jvm.Cond.methodLink "HypergraphDualizer" (107 : Nat) ({ cls := "HypergraphDualizer$Hypergraph", name := "isVertex", desc := "(I)Z" } : Jvm.MethodName) ∈ gT := gin gin_2 (i := 117) rfl rfl
theorem q2_118 : Jvm.Cond.instanceMethod ({ cls := "HypergraphDualizer$Hypergraph", name := "isVertex", desc := "(I)Z" } : Jvm.MethodName) ∈ gT := gin gin_2 (i := 118) rfl rfl
theorem q2_119 : Jvm.Cond.selects "HypergraphDualizer$Hypergraph" ({ cls := "HypergraphDualizer$Hypergraph", name := "isVertex", desc := "(I)Z" } : Jvm.MethodName) ({ cls := "HypergraphDualizer$Hypergraph", name := "isVertex", desc := "(I)Z" } : Jvm.MethodName) ∈ gT := gin gin_2 (i := 119) rfl rfl
theorem q2_120 : Jvm.Cond.code ({ cls := "HypergraphDualizer$Hypergraph", name := "isVertex", desc := "(I)Z" } : Jvm.MethodName) prog_7_method_3_code (2 : Nat) (Option.some Jvm.ClassFile.FieldType.boolean) ∈ gT := gin gin_2 (i := 120) rfl rfl
theorem q2_121 : Jvm.Cond.methodLink "HypergraphDualizer" (113 : Nat) ({ cls := "java/lang/Integer", name := "bitCount", desc := "(I)I" } : Jvm.MethodName) ∈ gT := gin gin_2 (i := 121) rfl rfl
theorem q2_122 : Jvm.Cond.static ({ cls := "java/lang/Integer", name := "bitCount", desc := "(I)I" } : Jvm.MethodName) ∈ gT := gin gin_2 (i := 122) rfl rfl
theorem q2_123 : Jvm.Cond.code ({ cls := "java/lang/Integer", name := "bitCount", desc := "(I)I" } : Jvm.MethodName) prog_12_method_49_code (1 : Nat) (Option.some Jvm.ClassFile.FieldType.int) ∈ gT := gin gin_2 (i := 123) rfl rfl
theorem q2_124 : Jvm.Cond.constant "java/lang/Integer" (265 : Nat) (1431655765 : Int32) ∈ gT := gin gin_2 (i := 124) rfl rfl
theorem q2_125 : Jvm.Cond.constant "java/lang/Integer" (266 : Nat) (858993459 : Int32) ∈ gT := gin gin_2 (i := 125) rfl rfl
theorem q2_126 : Jvm.Cond.constant "java/lang/Integer" (267 : Nat) (252645135 : Int32) ∈ gT := gin gin_2 (i := 126) rfl rfl
theorem q2_127 : Jvm.Cond.methodLink "HypergraphDualizer" (119 : Nat) ({ cls := "HypergraphDualizer$Hypergraph", name := "takeOut", desc := "(I)V" } : Jvm.MethodName) ∈ gT := gin gin_2 (i := 127) rfl rfl
theorem q2_128 : Jvm.Cond.instanceMethod ({ cls := "HypergraphDualizer$Hypergraph", name := "takeOut", desc := "(I)V" } : Jvm.MethodName) ∈ gT := gin gin_2 (i := 128) rfl rfl
theorem q2_129 : Jvm.Cond.selects "HypergraphDualizer$Hypergraph" ({ cls := "HypergraphDualizer$Hypergraph", name := "takeOut", desc := "(I)V" } : Jvm.MethodName) ({ cls := "HypergraphDualizer$Hypergraph", name := "takeOut", desc := "(I)V" } : Jvm.MethodName) ∈ gT := gin gin_2 (i := 129) rfl rfl
theorem q2_130 : Jvm.Cond.code ({ cls := "HypergraphDualizer$Hypergraph", name := "takeOut", desc := "(I)V" } : Jvm.MethodName) prog_7_method_11_code (5 : Nat) (Option.none : Option Jvm.ClassFile.FieldType) ∈ gT := gin gin_2 (i := 130) rfl rfl
theorem q2_131 : Jvm.Cond.methodLink "HypergraphDualizer$Hypergraph" (50 : Nat) ({ cls := "HypergraphDualizer$Hypergraph", name := "contains", desc := "(I)Z" } : Jvm.MethodName) ∈ gT := gin gin_2 (i := 131) rfl rfl
theorem q2_132 : Jvm.Cond.methodLink "HypergraphDualizerLaw" (35 : Nat) ({ cls := "HypergraphDualizer", name := "delete", desc := "(I)I" } : Jvm.MethodName) ∈ gT := gin gin_2 (i := 132) rfl rfl
theorem q2_133 : Jvm.Cond.instanceMethod ({ cls := "HypergraphDualizer", name := "delete", desc := "(I)I" } : Jvm.MethodName) ∈ gT := gin gin_2 (i := 133) rfl rfl
theorem q2_134 : Jvm.Cond.selects "HypergraphDualizer" ({ cls := "HypergraphDualizer", name := "delete", desc := "(I)I" } : Jvm.MethodName) ({ cls := "HypergraphDualizer", name := "delete", desc := "(I)I" } : Jvm.MethodName) ∈ gT := gin gin_2 (i := 134) rfl rfl
theorem q2_135 : Jvm.Cond.code ({ cls := "HypergraphDualizer", name := "delete", desc := "(I)I" } : Jvm.MethodName) prog_1_method_7_code (3 : Nat) (Option.some Jvm.ClassFile.FieldType.int) ∈ gT := gin gin_2 (i := 135) rfl rfl
theorem q2_136 : Jvm.Cond.methodLink "HypergraphDualizerLaw" (39 : Nat) ({ cls := "HypergraphDualizer", name := "dualize", desc := "()I" } : Jvm.MethodName) ∈ gT := gin gin_2 (i := 136) rfl rfl
theorem q2_137 : Jvm.Cond.instanceMethod ({ cls := "HypergraphDualizer", name := "dualize", desc := "()I" } : Jvm.MethodName) ∈ gT := gin gin_2 (i := 137) rfl rfl
theorem q2_138 : Jvm.Cond.selects "HypergraphDualizer" ({ cls := "HypergraphDualizer", name := "dualize", desc := "()I" } : Jvm.MethodName) ({ cls := "HypergraphDualizer", name := "dualize", desc := "()I" } : Jvm.MethodName) ∈ gT := gin gin_2 (i := 138) rfl rfl
theorem q2_139 : Jvm.Cond.code ({ cls := "HypergraphDualizer", name := "dualize", desc := "()I" } : Jvm.MethodName) prog_1_method_8_code (3 : Nat) (Option.some Jvm.ClassFile.FieldType.int) ∈ gT := gin gin_2 (i := 139) rfl rfl
theorem q2_140 : Jvm.Cond.methodLink "HypergraphDualizer" (122 : Nat) ({ cls := "HypergraphDualizer$Search", name := "succeeds", desc := "()Z" } : Jvm.MethodName) ∈ gT := gin gin_2 (i := 140) rfl rfl
theorem q2_141 : Jvm.Cond.instanceMethod ({ cls := "HypergraphDualizer$Search", name := "succeeds", desc := "()Z" } : Jvm.MethodName) ∈ gT := gin gin_2 (i := 141) rfl rfl
theorem q2_142 : Jvm.Cond.selects "HypergraphDualizer$Search" ({ cls := "HypergraphDualizer$Search", name := "succeeds", desc := "()Z" } : Jvm.MethodName) ({ cls := "HypergraphDualizer$Search", name := "succeeds", desc := "()Z" } : Jvm.MethodName) ∈ gT := gin gin_2 (i := 142) rfl rfl
theorem q2_143 : Jvm.Cond.code ({ cls := "HypergraphDualizer$Search", name := "succeeds", desc := "()Z" } : Jvm.MethodName) prog_8_method_2_code (1 : Nat) (Option.some Jvm.ClassFile.FieldType.boolean) ∈ gT := gin gin_2 (i := 143) rfl rfl
theorem q2_144 : Jvm.Cond.methodLink "HypergraphDualizer$Search" (45 : Nat) ({ cls := "HypergraphDualizer$Search", name := "explore", desc := "(LHypergraphDualizer$Search;IIIII)V" } : Jvm.MethodName) ∈ gT := gin gin_2 (i := 144) rfl rfl
theorem q2_145 : Jvm.Cond.static ({ cls := "HypergraphDualizer$Search", name := "explore", desc := "(LHypergraphDualizer$Search;IIIII)V" } : Jvm.MethodName) ∈ gT := gin gin_2 (i := 145) rfl rfl
theorem q2_146 : Jvm.Cond.code ({ cls := "HypergraphDualizer$Search", name := "explore", desc := "(LHypergraphDualizer$Search;IIIII)V" } : Jvm.MethodName) prog_8_method_3_code (14 : Nat) (Option.none : Option Jvm.ClassFile.FieldType) ∈ gT := gin gin_2 (i := 146) rfl rfl
theorem q2_147 : Jvm.Cond.methodLink "HypergraphDualizer$Search" (49 : Nat) ({ cls := "HypergraphDualizer$Hypergraph", name := "allEdges", desc := "()I" } : Jvm.MethodName) ∈ gT := gin gin_2 (i := 147) rfl rfl
theorem q2_148 : Jvm.Cond.methodLink "HypergraphDualizer$Search" (53 : Nat) ({ cls := "HypergraphDualizer$Search", name := "keep", desc := "(I)V" } : Jvm.MethodName) ∈ gT := gin gin_2 (i := 148) rfl rfl
theorem q2_150 : Jvm.Cond.instanceMethod ({ cls := "HypergraphDualizer$Search", name := "keep", desc := "(I)V" } : Jvm.MethodName) ∈ gT := gin gin_2 (i := 150) rfl rfl
theorem q2_151 : Jvm.Cond.code ({ cls := "HypergraphDualizer$Search", name := "keep", desc := "(I)V" } : Jvm.MethodName) prog_8_method_4_code (2 : Nat) (Option.none : Option Jvm.ClassFile.FieldType) ∈ gT := gin gin_2 (i := 151) rfl rfl
theorem q2_152 : Jvm.Cond.methodLink "HypergraphDualizer$Search" (57 : Nat) ({ cls := "HypergraphDualizer$Hypergraph", name := "fewestCandidates", desc := "(II)I" } : Jvm.MethodName) ∈ gT := gin gin_2 (i := 152) rfl rfl
theorem q2_153 : Jvm.Cond.instanceMethod ({ cls := "HypergraphDualizer$Hypergraph", name := "fewestCandidates", desc := "(II)I" } : Jvm.MethodName) ∈ gT := gin gin_2 (i := 153) rfl rfl
theorem q2_154 : Jvm.Cond.selects "HypergraphDualizer$Hypergraph" ({ cls := "HypergraphDualizer$Hypergraph", name := "fewestCandidates", desc := "(II)I" } : Jvm.MethodName) ({ cls := "HypergraphDualizer$Hypergraph", name := "fewestCandidates", desc := "(II)I" } : Jvm.MethodName) ∈ gT := gin gin_2 (i := 154) rfl rfl
theorem q2_155 : Jvm.Cond.code ({ cls := "HypergraphDualizer$Hypergraph", name := "fewestCandidates", desc := "(II)I" } : Jvm.MethodName) prog_7_method_27_code (8 : Nat) (Option.some Jvm.ClassFile.FieldType.int) ∈ gT := gin gin_2 (i := 155) rfl rfl
theorem q2_156 : Jvm.Cond.methodLink "HypergraphDualizer$Hypergraph" (80 : Nat) ({ cls := "java/lang/Integer", name := "bitCount", desc := "(I)I" } : Jvm.MethodName) ∈ gT := gin gin_2 (i := 156) rfl rfl
theorem q2_158 : Jvm.Cond.methodLink "HypergraphDualizer$Search" (68 : Nat) ({ cls := "HypergraphDualizer$Hypergraph", name := "eachHasPrivate", desc := "(II)Z" } : Jvm.MethodName) ∈ gT := gin gin_2 (i := 158) rfl rfl
theorem q2_159 : Jvm.Cond.instanceMethod ({ cls := "HypergraphDualizer$Hypergraph", name := "eachHasPrivate", desc := "(II)Z" } : Jvm.MethodName) ∈ gT := gin gin_2 (i := 159) rfl rfl
theorem q2_160 : Jvm.Cond.selects "HypergraphDualizer$Hypergraph" ({ cls := "HypergraphDualizer$Hypergraph", name := "eachHasPrivate", desc := "(II)Z" } : Jvm.MethodName) ({ cls := "HypergraphDualizer$Hypergraph", name := "eachHasPrivate", desc := "(II)Z" } : Jvm.MethodName) ∈ gT := gin gin_2 (i := 160) rfl rfl
theorem q2_161 : Jvm.Cond.code ({ cls := "HypergraphDualizer$Hypergraph", name := "eachHasPrivate", desc := "(II)Z" } : Jvm.MethodName) prog_7_method_24_code (4 : Nat) (Option.some Jvm.ClassFile.FieldType.boolean) ∈ gT := gin gin_2 (i := 161) rfl rfl
theorem q2_162 : Jvm.Cond.methodLink "HypergraphDualizer" (128 : Nat) ({ cls := "HypergraphDualizer$Search", name := "leastAbove", desc := "(I)I" } : Jvm.MethodName) ∈ gT := gin gin_2 (i := 162) rfl rfl
theorem q2_163 : Jvm.Cond.instanceMethod ({ cls := "HypergraphDualizer$Search", name := "leastAbove", desc := "(I)I" } : Jvm.MethodName) ∈ gT := gin gin_2 (i := 163) rfl rfl
theorem q2_164 : Jvm.Cond.selects "HypergraphDualizer$Search" ({ cls := "HypergraphDualizer$Search", name := "leastAbove", desc := "(I)I" } : Jvm.MethodName) ({ cls := "HypergraphDualizer$Search", name := "leastAbove", desc := "(I)I" } : Jvm.MethodName) ∈ gT := gin gin_2 (i := 164) rfl rfl
theorem q2_165 : Jvm.Cond.code ({ cls := "HypergraphDualizer$Search", name := "leastAbove", desc := "(I)I" } : Jvm.MethodName) prog_8_method_5_code (4 : Nat) (Option.some Jvm.ClassFile.FieldType.int) ∈ gT := gin gin_2 (i := 165) rfl rfl
theorem q2_166 : Jvm.Cond.methodLink "HypergraphDualizerLaw" (43 : Nat) ({ cls := "HypergraphDualizer", name := "undo", desc := "()I" } : Jvm.MethodName) ∈ gT := gin gin_2 (i := 166) rfl rfl
theorem q2_167 : Jvm.Cond.instanceMethod ({ cls := "HypergraphDualizer", name := "undo", desc := "()I" } : Jvm.MethodName) ∈ gT := gin gin_2 (i := 167) rfl rfl
theorem q2_168 : Jvm.Cond.selects "HypergraphDualizer" ({ cls := "HypergraphDualizer", name := "undo", desc := "()I" } : Jvm.MethodName) ({ cls := "HypergraphDualizer", name := "undo", desc := "()I" } : Jvm.MethodName) ∈ gT := gin gin_2 (i := 168) rfl rfl
theorem q2_169 : Jvm.Cond.code ({ cls := "HypergraphDualizer", name := "undo", desc := "()I" } : Jvm.MethodName) prog_1_method_9_code (1 : Nat) (Option.some Jvm.ClassFile.FieldType.int) ∈ gT := gin gin_2 (i := 169) rfl rfl
theorem q2_170 : Jvm.Cond.methodLink "HypergraphDualizer" (131 : Nat) ({ cls := "HypergraphDualizer$Hypergraph", name := "stepBack", desc := "()Z" } : Jvm.MethodName) ∈ gT := gin gin_2 (i := 170) rfl rfl
theorem q2_171 : Jvm.Cond.instanceMethod ({ cls := "HypergraphDualizer$Hypergraph", name := "stepBack", desc := "()Z" } : Jvm.MethodName) ∈ gT := gin gin_2 (i := 171) rfl rfl
theorem q2_172 : Jvm.Cond.selects "HypergraphDualizer$Hypergraph" ({ cls := "HypergraphDualizer$Hypergraph", name := "stepBack", desc := "()Z" } : Jvm.MethodName) ({ cls := "HypergraphDualizer$Hypergraph", name := "stepBack", desc := "()Z" } : Jvm.MethodName) ∈ gT := gin gin_2 (i := 172) rfl rfl
theorem q2_173 : Jvm.Cond.code ({ cls := "HypergraphDualizer$Hypergraph", name := "stepBack", desc := "()Z" } : Jvm.MethodName) prog_7_method_13_code (1 : Nat) (Option.some Jvm.ClassFile.FieldType.boolean) ∈ gT := gin gin_2 (i := 173) rfl rfl
theorem q2_174 : Jvm.Cond.methodLink "HypergraphDualizer$Hypergraph" (58 : Nat) ({ cls := "HypergraphDualizer$History", name := "moveBack", desc := "()Z" } : Jvm.MethodName) ∈ gT := gin gin_2 (i := 174) rfl rfl
theorem q2_175 : Jvm.Cond.instanceMethod ({ cls := "HypergraphDualizer$History", name := "moveBack", desc := "()Z" } : Jvm.MethodName) ∈ gT := gin gin_2 (i := 175) rfl rfl
theorem q2_176 : Jvm.Cond.selects "HypergraphDualizer$History" ({ cls := "HypergraphDualizer$History", name := "moveBack", desc := "()Z" } : Jvm.MethodName) ({ cls := "HypergraphDualizer$History", name := "moveBack", desc := "()Z" } : Jvm.MethodName) ∈ gT := gin gin_2 (i := 176) rfl rfl
theorem q2_177 : Jvm.Cond.code ({ cls := "HypergraphDualizer$History", name := "moveBack", desc := "()Z" } : Jvm.MethodName) prog_5_method_4_code (1 : Nat) (Option.some Jvm.ClassFile.FieldType.boolean) ∈ gT := gin gin_2 (i := 177) rfl rfl
theorem q2_178 : Jvm.Cond.methodLink "HypergraphDualizer$Hypergraph" (61 : Nat) ({ cls := "HypergraphDualizer$Hypergraph", name := "takePast", desc := "()V" } : Jvm.MethodName) ∈ gT := gin gin_2 (i := 178) rfl rfl
theorem q2_180 : Jvm.Cond.instanceMethod ({ cls := "HypergraphDualizer$Hypergraph", name := "takePast", desc := "()V" } : Jvm.MethodName) ∈ gT := gin gin_2 (i := 180) rfl rfl
theorem q2_181 : Jvm.Cond.code ({ cls := "HypergraphDualizer$Hypergraph", name := "takePast", desc := "()V" } : Jvm.MethodName) prog_7_method_15_code (1 : Nat) (Option.none : Option Jvm.ClassFile.FieldType) ∈ gT := gin gin_2 (i := 181) rfl rfl
theorem q2_182 : Jvm.Cond.methodLink "HypergraphDualizer$Hypergraph" (67 : Nat) ({ cls := "HypergraphDualizer$History", name := "copyTo", desc := "([I)I" } : Jvm.MethodName) ∈ gT := gin gin_2 (i := 182) rfl rfl
theorem q2_183 : Jvm.Cond.instanceMethod ({ cls := "HypergraphDualizer$History", name := "copyTo", desc := "([I)I" } : Jvm.MethodName) ∈ gT := gin gin_2 (i := 183) rfl rfl
theorem q2_184 : Jvm.Cond.selects "HypergraphDualizer$History" ({ cls := "HypergraphDualizer$History", name := "copyTo", desc := "([I)I" } : Jvm.MethodName) ({ cls := "HypergraphDualizer$History", name := "copyTo", desc := "([I)I" } : Jvm.MethodName) ∈ gT := gin gin_2 (i := 184) rfl rfl
theorem q2_185 : Jvm.Cond.code ({ cls := "HypergraphDualizer$History", name := "copyTo", desc := "([I)I" } : Jvm.MethodName) prog_5_method_6_code (2 : Nat) (Option.some Jvm.ClassFile.FieldType.int) ∈ gT := gin gin_2 (i := 185) rfl rfl
theorem q2_186 : Jvm.Cond.methodLink "HypergraphDualizerLaw" (47 : Nat) ({ cls := "HypergraphDualizer", name := "redo", desc := "()I" } : Jvm.MethodName) ∈ gT := gin gin_2 (i := 186) rfl rfl
theorem q2_187 : Jvm.Cond.instanceMethod ({ cls := "HypergraphDualizer", name := "redo", desc := "()I" } : Jvm.MethodName) ∈ gT := gin gin_2 (i := 187) rfl rfl
theorem q2_188 : Jvm.Cond.selects "HypergraphDualizer" ({ cls := "HypergraphDualizer", name := "redo", desc := "()I" } : Jvm.MethodName) ({ cls := "HypergraphDualizer", name := "redo", desc := "()I" } : Jvm.MethodName) ∈ gT := gin gin_2 (i := 188) rfl rfl
theorem q2_189 : Jvm.Cond.code ({ cls := "HypergraphDualizer", name := "redo", desc := "()I" } : Jvm.MethodName) prog_1_method_10_code (1 : Nat) (Option.some Jvm.ClassFile.FieldType.int) ∈ gT := gin gin_2 (i := 189) rfl rfl
theorem q2_190 : Jvm.Cond.methodLink "HypergraphDualizer" (143 : Nat) ({ cls := "HypergraphDualizer$Hypergraph", name := "stepForward", desc := "()Z" } : Jvm.MethodName) ∈ gT := gin gin_2 (i := 190) rfl rfl
theorem q2_191 : Jvm.Cond.instanceMethod ({ cls := "HypergraphDualizer$Hypergraph", name := "stepForward", desc := "()Z" } : Jvm.MethodName) ∈ gT := gin gin_2 (i := 191) rfl rfl
theorem q2_192 : Jvm.Cond.selects "HypergraphDualizer$Hypergraph" ({ cls := "HypergraphDualizer$Hypergraph", name := "stepForward", desc := "()Z" } : Jvm.MethodName) ({ cls := "HypergraphDualizer$Hypergraph", name := "stepForward", desc := "()Z" } : Jvm.MethodName) ∈ gT := gin gin_2 (i := 192) rfl rfl
theorem q2_193 : Jvm.Cond.code ({ cls := "HypergraphDualizer$Hypergraph", name := "stepForward", desc := "()Z" } : Jvm.MethodName) prog_7_method_14_code (1 : Nat) (Option.some Jvm.ClassFile.FieldType.boolean) ∈ gT := gin gin_2 (i := 193) rfl rfl
theorem q2_194 : Jvm.Cond.methodLink "HypergraphDualizer$Hypergraph" (64 : Nat) ({ cls := "HypergraphDualizer$History", name := "moveForward", desc := "()Z" } : Jvm.MethodName) ∈ gT := gin gin_2 (i := 194) rfl rfl
theorem q2_195 : Jvm.Cond.instanceMethod ({ cls := "HypergraphDualizer$History", name := "moveForward", desc := "()Z" } : Jvm.MethodName) ∈ gT := gin gin_2 (i := 195) rfl rfl
theorem q2_196 : Jvm.Cond.selects "HypergraphDualizer$History" ({ cls := "HypergraphDualizer$History", name := "moveForward", desc := "()Z" } : Jvm.MethodName) ({ cls := "HypergraphDualizer$History", name := "moveForward", desc := "()Z" } : Jvm.MethodName) ∈ gT := gin gin_2 (i := 196) rfl rfl
theorem q2_197 : Jvm.Cond.code ({ cls := "HypergraphDualizer$History", name := "moveForward", desc := "()Z" } : Jvm.MethodName) prog_5_method_5_code (1 : Nat) (Option.some Jvm.ClassFile.FieldType.boolean) ∈ gT := gin gin_2 (i := 197) rfl rfl
theorem q2_198 : Jvm.Cond.methodLink "HypergraphDualizerLaw" (51 : Nat) ({ cls := "HypergraphDualizer", name := "edge", desc := "(I)I" } : Jvm.MethodName) ∈ gT := gin gin_2 (i := 198) rfl rfl
theorem q2_199 : Jvm.Cond.instanceMethod ({ cls := "HypergraphDualizer", name := "edge", desc := "(I)I" } : Jvm.MethodName) ∈ gT := gin gin_2 (i := 199) rfl rfl
theorem q2_200 : Jvm.Cond.selects "HypergraphDualizer" ({ cls := "HypergraphDualizer", name := "edge", desc := "(I)I" } : Jvm.MethodName) ({ cls := "HypergraphDualizer", name := "edge", desc := "(I)I" } : Jvm.MethodName) ∈ gT := gin gin_2 (i := 200) rfl rfl
theorem q2_201 : Jvm.Cond.code ({ cls := "HypergraphDualizer", name := "edge", desc := "(I)I" } : Jvm.MethodName) prog_1_method_11_code (2 : Nat) (Option.some Jvm.ClassFile.FieldType.int) ∈ gT := gin gin_2 (i := 201) rfl rfl
theorem q2_202 : Jvm.Cond.methodLink "HypergraphDualizerLaw" (55 : Nat) ({ cls := "HypergraphDualizer", name := "value", desc := "(I)I" } : Jvm.MethodName) ∈ gT := gin gin_2 (i := 202) rfl rfl
theorem q2_203 : Jvm.Cond.instanceMethod ({ cls := "HypergraphDualizer", name := "value", desc := "(I)I" } : Jvm.MethodName) ∈ gT := gin gin_2 (i := 203) rfl rfl
theorem q2_204 : Jvm.Cond.selects "HypergraphDualizer" ({ cls := "HypergraphDualizer", name := "value", desc := "(I)I" } : Jvm.MethodName) ({ cls := "HypergraphDualizer", name := "value", desc := "(I)I" } : Jvm.MethodName) ∈ gT := gin gin_2 (i := 204) rfl rfl
theorem q2_205 : Jvm.Cond.code ({ cls := "HypergraphDualizer", name := "value", desc := "(I)I" } : Jvm.MethodName) prog_1_method_12_code (2 : Nat) (Option.some Jvm.ClassFile.FieldType.int) ∈ gT := gin gin_2 (i := 205) rfl rfl
theorem q2_206 : Jvm.Cond.methodLink "HypergraphDualizer" (149 : Nat) ({ cls := "HypergraphDualizer$Hypergraph", name := "smallestSize", desc := "()I" } : Jvm.MethodName) ∈ gT := gin gin_2 (i := 206) rfl rfl
theorem q2_207 : Jvm.Cond.instanceMethod ({ cls := "HypergraphDualizer$Hypergraph", name := "smallestSize", desc := "()I" } : Jvm.MethodName) ∈ gT := gin gin_2 (i := 207) rfl rfl
theorem q2_208 : Jvm.Cond.selects "HypergraphDualizer$Hypergraph" ({ cls := "HypergraphDualizer$Hypergraph", name := "smallestSize", desc := "()I" } : Jvm.MethodName) ({ cls := "HypergraphDualizer$Hypergraph", name := "smallestSize", desc := "()I" } : Jvm.MethodName) ∈ gT := gin gin_2 (i := 208) rfl rfl
theorem q2_209 : Jvm.Cond.code ({ cls := "HypergraphDualizer$Hypergraph", name := "smallestSize", desc := "()I" } : Jvm.MethodName) prog_7_method_20_code (3 : Nat) (Option.some Jvm.ClassFile.FieldType.int) ∈ gT := gin gin_2 (i := 209) rfl rfl
theorem q2_210 : Jvm.Cond.methodLink "HypergraphDualizer$Hypergraph" (86 : Nat) ({ cls := "java/lang/Math", name := "min", desc := "(II)I" } : Jvm.MethodName) ∈ gT := gin gin_2 (i := 210) rfl rfl
theorem q2_211 : Jvm.Cond.methodLink "HypergraphDualizer" (152 : Nat) ({ cls := "HypergraphDualizer$Hypergraph", name := "unionOf", desc := "(I)I" } : Jvm.MethodName) ∈ gT := gin gin_2 (i := 211) rfl rfl
theorem q2_212 : Jvm.Cond.instanceMethod ({ cls := "HypergraphDualizer$Hypergraph", name := "unionOf", desc := "(I)I" } : Jvm.MethodName) ∈ gT := gin gin_2 (i := 212) rfl rfl
theorem q2_213 : Jvm.Cond.selects "HypergraphDualizer$Hypergraph" ({ cls := "HypergraphDualizer$Hypergraph", name := "unionOf", desc := "(I)I" } : Jvm.MethodName) ({ cls := "HypergraphDualizer$Hypergraph", name := "unionOf", desc := "(I)I" } : Jvm.MethodName) ∈ gT := gin gin_2 (i := 213) rfl rfl
theorem q2_214 : Jvm.Cond.code ({ cls := "HypergraphDualizer$Hypergraph", name := "unionOf", desc := "(I)I" } : Jvm.MethodName) prog_7_method_19_code (4 : Nat) (Option.some Jvm.ClassFile.FieldType.int) ∈ gT := gin gin_2 (i := 214) rfl rfl
theorem q2_215 : Jvm.Cond.methodLink "HypergraphDualizerLaw" (59 : Nat) ({ cls := "HypergraphDualizer", name := "edgesOf", desc := "(I)I" } : Jvm.MethodName) ∈ gT := gin gin_2 (i := 215) rfl rfl
theorem q2_216 : Jvm.Cond.instanceMethod ({ cls := "HypergraphDualizer", name := "edgesOf", desc := "(I)I" } : Jvm.MethodName) ∈ gT := gin gin_2 (i := 216) rfl rfl
theorem q2_217 : Jvm.Cond.selects "HypergraphDualizer" ({ cls := "HypergraphDualizer", name := "edgesOf", desc := "(I)I" } : Jvm.MethodName) ({ cls := "HypergraphDualizer", name := "edgesOf", desc := "(I)I" } : Jvm.MethodName) ∈ gT := gin gin_2 (i := 217) rfl rfl
theorem q2_218 : Jvm.Cond.code ({ cls := "HypergraphDualizer", name := "edgesOf", desc := "(I)I" } : Jvm.MethodName) prog_1_method_13_code (2 : Nat) (Option.some Jvm.ClassFile.FieldType.int) ∈ gT := gin gin_2 (i := 218) rfl rfl
theorem q2_219 : Jvm.Cond.methodLink "HypergraphDualizerLaw" (63 : Nat) ({ cls := "HypergraphDualizer", name := "setWeight", desc := "(II)I" } : Jvm.MethodName) ∈ gT := gin gin_2 (i := 219) rfl rfl
theorem q2_220 : Jvm.Cond.instanceMethod ({ cls := "HypergraphDualizer", name := "setWeight", desc := "(II)I" } : Jvm.MethodName) ∈ gT := gin gin_2 (i := 220) rfl rfl
theorem q2_221 : Jvm.Cond.selects "HypergraphDualizer" ({ cls := "HypergraphDualizer", name := "setWeight", desc := "(II)I" } : Jvm.MethodName) ({ cls := "HypergraphDualizer", name := "setWeight", desc := "(II)I" } : Jvm.MethodName) ∈ gT := gin gin_2 (i := 221) rfl rfl
theorem q2_222 : Jvm.Cond.code ({ cls := "HypergraphDualizer", name := "setWeight", desc := "(II)I" } : Jvm.MethodName) prog_1_method_14_code (4 : Nat) (Option.some Jvm.ClassFile.FieldType.int) ∈ gT := gin gin_2 (i := 222) rfl rfl
theorem q2_223 : Jvm.Cond.methodLink "HypergraphDualizerLaw" (68 : Nat) ({ cls := "HypergraphDualizer", name := "missed", desc := "(I)I" } : Jvm.MethodName) ∈ gT := gin gin_2 (i := 223) rfl rfl
theorem q2_224 : Jvm.Cond.instanceMethod ({ cls := "HypergraphDualizer", name := "missed", desc := "(I)I" } : Jvm.MethodName) ∈ gT := gin gin_2 (i := 224) rfl rfl
theorem q2_225 : Jvm.Cond.selects "HypergraphDualizer" ({ cls := "HypergraphDualizer", name := "missed", desc := "(I)I" } : Jvm.MethodName) ({ cls := "HypergraphDualizer", name := "missed", desc := "(I)I" } : Jvm.MethodName) ∈ gT := gin gin_2 (i := 225) rfl rfl
theorem q2_226 : Jvm.Cond.code ({ cls := "HypergraphDualizer", name := "missed", desc := "(I)I" } : Jvm.MethodName) prog_1_method_15_code (2 : Nat) (Option.some Jvm.ClassFile.FieldType.int) ∈ gT := gin gin_2 (i := 226) rfl rfl
theorem q2_227 : Jvm.Cond.methodLink "HypergraphDualizer" (158 : Nat) ({ cls := "HypergraphDualizer$Hypergraph", name := "missedBy", desc := "(I)I" } : Jvm.MethodName) ∈ gT := gin gin_2 (i := 227) rfl rfl
theorem q2_228 : Jvm.Cond.instanceMethod ({ cls := "HypergraphDualizer$Hypergraph", name := "missedBy", desc := "(I)I" } : Jvm.MethodName) ∈ gT := gin gin_2 (i := 228) rfl rfl
theorem q2_229 : Jvm.Cond.selects "HypergraphDualizer$Hypergraph" ({ cls := "HypergraphDualizer$Hypergraph", name := "missedBy", desc := "(I)I" } : Jvm.MethodName) ({ cls := "HypergraphDualizer$Hypergraph", name := "missedBy", desc := "(I)I" } : Jvm.MethodName) ∈ gT := gin gin_2 (i := 229) rfl rfl
theorem q2_230 : Jvm.Cond.code ({ cls := "HypergraphDualizer$Hypergraph", name := "missedBy", desc := "(I)I" } : Jvm.MethodName) prog_7_method_22_code (4 : Nat) (Option.some Jvm.ClassFile.FieldType.int) ∈ gT := gin gin_2 (i := 230) rfl rfl
theorem q2_231 : Jvm.Cond.methodLink "HypergraphDualizer$Hypergraph" (92 : Nat) ({ cls := "HypergraphDualizer$Hypergraph", name := "allEdges", desc := "()I" } : Jvm.MethodName) ∈ gT := gin gin_2 (i := 231) rfl rfl
theorem q2_232 : Jvm.Cond.methodLink "HypergraphDualizerLaw" (72 : Nat) ({ cls := "HypergraphDualizer", name := "privateEdges", desc := "(II)I" } : Jvm.MethodName) ∈ gT := gin gin_2 (i := 232) rfl rfl
theorem q2_233 : Jvm.Cond.instanceMethod ({ cls := "HypergraphDualizer", name := "privateEdges", desc := "(II)I" } : Jvm.MethodName) ∈ gT := gin gin_2 (i := 233) rfl rfl
theorem q2_234 : Jvm.Cond.selects "HypergraphDualizer" ({ cls := "HypergraphDualizer", name := "privateEdges", desc := "(II)I" } : Jvm.MethodName) ({ cls := "HypergraphDualizer", name := "privateEdges", desc := "(II)I" } : Jvm.MethodName) ∈ gT := gin gin_2 (i := 234) rfl rfl
theorem q2_235 : Jvm.Cond.code ({ cls := "HypergraphDualizer", name := "privateEdges", desc := "(II)I" } : Jvm.MethodName) prog_1_method_16_code (3 : Nat) (Option.some Jvm.ClassFile.FieldType.int) ∈ gT := gin gin_2 (i := 235) rfl rfl
theorem q2_236 : Jvm.Cond.methodLink "HypergraphDualizer" (161 : Nat) ({ cls := "HypergraphDualizer", name := "has", desc := "(II)Z" } : Jvm.MethodName) ∈ gT := gin gin_2 (i := 236) rfl rfl
theorem q2_237 : Jvm.Cond.methodLink "HypergraphDualizer" (165 : Nat) ({ cls := "HypergraphDualizer$Hypergraph", name := "hitOnceBy", desc := "(I)I" } : Jvm.MethodName) ∈ gT := gin gin_2 (i := 237) rfl rfl
theorem q2_238 : Jvm.Cond.instanceMethod ({ cls := "HypergraphDualizer$Hypergraph", name := "hitOnceBy", desc := "(I)I" } : Jvm.MethodName) ∈ gT := gin gin_2 (i := 238) rfl rfl
theorem q2_239 : Jvm.Cond.selects "HypergraphDualizer$Hypergraph" ({ cls := "HypergraphDualizer$Hypergraph", name := "hitOnceBy", desc := "(I)I" } : Jvm.MethodName) ({ cls := "HypergraphDualizer$Hypergraph", name := "hitOnceBy", desc := "(I)I" } : Jvm.MethodName) ∈ gT := gin gin_2 (i := 239) rfl rfl
theorem q3_0 : Jvm.Cond.code ({ cls := "HypergraphDualizer$Hypergraph", name := "hitOnceBy", desc := "(I)I" } : Jvm.MethodName) prog_7_method_23_code (5 : Nat) (Option.some Jvm.ClassFile.FieldType.int) ∈ gT := gin gin_3 (i := 0) rfl rfl
theorem q3_1 : Jvm.Cond.methodLink "HypergraphDualizerLaw" (76 : Nat) ({ cls := "HypergraphDualizer", name := "kindOf", desc := "(I)I" } : Jvm.MethodName) ∈ gT := gin gin_3 (i := 1) rfl rfl
theorem q3_2 : Jvm.Cond.instanceMethod ({ cls := "HypergraphDualizer", name := "kindOf", desc := "(I)I" } : Jvm.MethodName) ∈ gT := gin gin_3 (i := 2) rfl rfl
theorem q3_3 : Jvm.Cond.selects "HypergraphDualizer" ({ cls := "HypergraphDualizer", name := "kindOf", desc := "(I)I" } : Jvm.MethodName) ({ cls := "HypergraphDualizer", name := "kindOf", desc := "(I)I" } : Jvm.MethodName) ∈ gT := gin gin_3 (i := 3) rfl rfl
theorem q3_4 : Jvm.Cond.code ({ cls := "HypergraphDualizer", name := "kindOf", desc := "(I)I" } : Jvm.MethodName) prog_1_method_17_code (2 : Nat) (Option.some Jvm.ClassFile.FieldType.int) ∈ gT := gin gin_3 (i := 4) rfl rfl
theorem q3_5 : Jvm.Cond.methodLink "HypergraphDualizer" (168 : Nat) ({ cls := "HypergraphDualizer$Hypergraph", name := "isAnswer", desc := "(I)Z" } : Jvm.MethodName) ∈ gT := gin gin_3 (i := 5) rfl rfl
theorem q3_6 : Jvm.Cond.instanceMethod ({ cls := "HypergraphDualizer$Hypergraph", name := "isAnswer", desc := "(I)Z" } : Jvm.MethodName) ∈ gT := gin gin_3 (i := 6) rfl rfl
theorem q3_7 : Jvm.Cond.selects "HypergraphDualizer$Hypergraph" ({ cls := "HypergraphDualizer$Hypergraph", name := "isAnswer", desc := "(I)Z" } : Jvm.MethodName) ({ cls := "HypergraphDualizer$Hypergraph", name := "isAnswer", desc := "(I)Z" } : Jvm.MethodName) ∈ gT := gin gin_3 (i := 7) rfl rfl
theorem q3_8 : Jvm.Cond.code ({ cls := "HypergraphDualizer$Hypergraph", name := "isAnswer", desc := "(I)Z" } : Jvm.MethodName) prog_7_method_25_code (2 : Nat) (Option.some Jvm.ClassFile.FieldType.boolean) ∈ gT := gin gin_3 (i := 8) rfl rfl
theorem q3_9 : Jvm.Cond.methodLink "HypergraphDualizer$Hypergraph" (96 : Nat) ({ cls := "HypergraphDualizer$Hypergraph", name := "missedBy", desc := "(I)I" } : Jvm.MethodName) ∈ gT := gin gin_3 (i := 9) rfl rfl
theorem q3_10 : Jvm.Cond.methodLink "HypergraphDualizer$Hypergraph" (99 : Nat) ({ cls := "HypergraphDualizer$Hypergraph", name := "hitOnceBy", desc := "(I)I" } : Jvm.MethodName) ∈ gT := gin gin_3 (i := 10) rfl rfl
theorem q3_11 : Jvm.Cond.methodLink "HypergraphDualizer$Hypergraph" (102 : Nat) ({ cls := "HypergraphDualizer$Hypergraph", name := "eachHasPrivate", desc := "(II)Z" } : Jvm.MethodName) ∈ gT := gin gin_3 (i := 11) rfl rfl
theorem q3_12 : Jvm.Cond.methodLink "HypergraphDualizerLaw" (80 : Nat) ({ cls := "HypergraphDualizer", name := "shrink", desc := "(I)I" } : Jvm.MethodName) ∈ gT := gin gin_3 (i := 12) rfl rfl
theorem q3_13 : Jvm.Cond.instanceMethod ({ cls := "HypergraphDualizer", name := "shrink", desc := "(I)I" } : Jvm.MethodName) ∈ gT := gin gin_3 (i := 13) rfl rfl
theorem q3_14 : Jvm.Cond.selects "HypergraphDualizer" ({ cls := "HypergraphDualizer", name := "shrink", desc := "(I)I" } : Jvm.MethodName) ({ cls := "HypergraphDualizer", name := "shrink", desc := "(I)I" } : Jvm.MethodName) ∈ gT := gin gin_3 (i := 14) rfl rfl
theorem q3_15 : Jvm.Cond.code ({ cls := "HypergraphDualizer", name := "shrink", desc := "(I)I" } : Jvm.MethodName) prog_1_method_18_code (5 : Nat) (Option.some Jvm.ClassFile.FieldType.int) ∈ gT := gin gin_3 (i := 15) rfl rfl
theorem q3_16 : Jvm.Cond.methodLink "HypergraphDualizerLaw" (84 : Nat) ({ cls := "HypergraphDualizer", name := "grow", desc := "(I)I" } : Jvm.MethodName) ∈ gT := gin gin_3 (i := 16) rfl rfl
theorem q3_17 : Jvm.Cond.instanceMethod ({ cls := "HypergraphDualizer", name := "grow", desc := "(I)I" } : Jvm.MethodName) ∈ gT := gin gin_3 (i := 17) rfl rfl
theorem q3_18 : Jvm.Cond.selects "HypergraphDualizer" ({ cls := "HypergraphDualizer", name := "grow", desc := "(I)I" } : Jvm.MethodName) ({ cls := "HypergraphDualizer", name := "grow", desc := "(I)I" } : Jvm.MethodName) ∈ gT := gin gin_3 (i := 18) rfl rfl
theorem q3_19 : Jvm.Cond.code ({ cls := "HypergraphDualizer", name := "grow", desc := "(I)I" } : Jvm.MethodName) prog_1_method_19_code (5 : Nat) (Option.some Jvm.ClassFile.FieldType.int) ∈ gT := gin gin_3 (i := 19) rfl rfl
theorem q3_20 : Jvm.Cond.methodLink "HypergraphDualizer" (171 : Nat) ({ cls := "HypergraphDualizer$Hypergraph", name := "busiestVertex", desc := "(I)I" } : Jvm.MethodName) ∈ gT := gin gin_3 (i := 20) rfl rfl
theorem q3_21 : Jvm.Cond.instanceMethod ({ cls := "HypergraphDualizer$Hypergraph", name := "busiestVertex", desc := "(I)I" } : Jvm.MethodName) ∈ gT := gin gin_3 (i := 21) rfl rfl
theorem q3_22 : Jvm.Cond.selects "HypergraphDualizer$Hypergraph" ({ cls := "HypergraphDualizer$Hypergraph", name := "busiestVertex", desc := "(I)I" } : Jvm.MethodName) ({ cls := "HypergraphDualizer$Hypergraph", name := "busiestVertex", desc := "(I)I" } : Jvm.MethodName) ∈ gT := gin gin_3 (i := 22) rfl rfl
theorem q3_23 : Jvm.Cond.code ({ cls := "HypergraphDualizer$Hypergraph", name := "busiestVertex", desc := "(I)I" } : Jvm.MethodName) prog_7_method_26_code (6 : Nat) (Option.some Jvm.ClassFile.FieldType.int) ∈ gT := gin gin_3 (i := 23) rfl rfl
theorem q3_24 : Jvm.Cond.methodLink "HypergraphDualizerLaw" (88 : Nat) ({ cls := "HypergraphDualizer", name := "answerCount", desc := "()I" } : Jvm.MethodName) ∈ gT := gin gin_3 (i := 24) rfl rfl
theorem q3_25 : Jvm.Cond.instanceMethod ({ cls := "HypergraphDualizer", name := "answerCount", desc := "()I" } : Jvm.MethodName) ∈ gT := gin gin_3 (i := 25) rfl rfl
theorem q3_26 : Jvm.Cond.selects "HypergraphDualizer" ({ cls := "HypergraphDualizer", name := "answerCount", desc := "()I" } : Jvm.MethodName) ({ cls := "HypergraphDualizer", name := "answerCount", desc := "()I" } : Jvm.MethodName) ∈ gT := gin gin_3 (i := 26) rfl rfl
theorem q3_27 : Jvm.Cond.code ({ cls := "HypergraphDualizer", name := "answerCount", desc := "()I" } : Jvm.MethodName) prog_1_method_20_code (1 : Nat) (Option.some Jvm.ClassFile.FieldType.int) ∈ gT := gin gin_3 (i := 27) rfl rfl
theorem q3_28 : Jvm.Cond.methodLink "HypergraphDualizerLaw" (92 : Nat) ({ cls := "HypergraphDualizer", name := "answer", desc := "(I)I" } : Jvm.MethodName) ∈ gT := gin gin_3 (i := 28) rfl rfl
theorem q3_29 : Jvm.Cond.instanceMethod ({ cls := "HypergraphDualizer", name := "answer", desc := "(I)I" } : Jvm.MethodName) ∈ gT := gin gin_3 (i := 29) rfl rfl
theorem q3_30 : Jvm.Cond.selects "HypergraphDualizer" ({ cls := "HypergraphDualizer", name := "answer", desc := "(I)I" } : Jvm.MethodName) ({ cls := "HypergraphDualizer", name := "answer", desc := "(I)I" } : Jvm.MethodName) ∈ gT := gin gin_3 (i := 30) rfl rfl
theorem q3_31 : Jvm.Cond.code ({ cls := "HypergraphDualizer", name := "answer", desc := "(I)I" } : Jvm.MethodName) prog_1_method_21_code (3 : Nat) (Option.some Jvm.ClassFile.FieldType.int) ∈ gT := gin gin_3 (i := 31) rfl rfl
theorem q3_32 : Jvm.Cond.methodLink "HypergraphDualizer" (174 : Nat) ({ cls := "HypergraphDualizer", name := "problemWithPlace", desc := "(I)I" } : Jvm.MethodName) ∈ gT := gin gin_3 (i := 32) rfl rfl
theorem q3_34 : Jvm.Cond.instanceMethod ({ cls := "HypergraphDualizer", name := "problemWithPlace", desc := "(I)I" } : Jvm.MethodName) ∈ gT := gin gin_3 (i := 34) rfl rfl
theorem q3_35 : Jvm.Cond.code ({ cls := "HypergraphDualizer", name := "problemWithPlace", desc := "(I)I" } : Jvm.MethodName) prog_1_method_29_code (2 : Nat) (Option.some Jvm.ClassFile.FieldType.int) ∈ gT := gin gin_3 (i := 35) rfl rfl
theorem q3_36 : Jvm.Cond.methodLink "HypergraphDualizerLaw" (96 : Nat) ({ cls := "HypergraphDualizer", name := "delay", desc := "(I)I" } : Jvm.MethodName) ∈ gT := gin gin_3 (i := 36) rfl rfl
theorem q3_37 : Jvm.Cond.instanceMethod ({ cls := "HypergraphDualizer", name := "delay", desc := "(I)I" } : Jvm.MethodName) ∈ gT := gin gin_3 (i := 37) rfl rfl
theorem q3_38 : Jvm.Cond.selects "HypergraphDualizer" ({ cls := "HypergraphDualizer", name := "delay", desc := "(I)I" } : Jvm.MethodName) ({ cls := "HypergraphDualizer", name := "delay", desc := "(I)I" } : Jvm.MethodName) ∈ gT := gin gin_3 (i := 38) rfl rfl
theorem q3_39 : Jvm.Cond.code ({ cls := "HypergraphDualizer", name := "delay", desc := "(I)I" } : Jvm.MethodName) prog_1_method_22_code (3 : Nat) (Option.some Jvm.ClassFile.FieldType.int) ∈ gT := gin gin_3 (i := 39) rfl rfl
theorem q3_40 : Jvm.Cond.methodLink "HypergraphDualizerLaw" (100 : Nat) ({ cls := "HypergraphDualizer", name := "visits", desc := "()I" } : Jvm.MethodName) ∈ gT := gin gin_3 (i := 40) rfl rfl
theorem q3_41 : Jvm.Cond.instanceMethod ({ cls := "HypergraphDualizer", name := "visits", desc := "()I" } : Jvm.MethodName) ∈ gT := gin gin_3 (i := 41) rfl rfl
theorem q3_42 : Jvm.Cond.selects "HypergraphDualizer" ({ cls := "HypergraphDualizer", name := "visits", desc := "()I" } : Jvm.MethodName) ({ cls := "HypergraphDualizer", name := "visits", desc := "()I" } : Jvm.MethodName) ∈ gT := gin gin_3 (i := 42) rfl rfl
theorem q3_43 : Jvm.Cond.code ({ cls := "HypergraphDualizer", name := "visits", desc := "()I" } : Jvm.MethodName) prog_1_method_23_code (1 : Nat) (Option.some Jvm.ClassFile.FieldType.int) ∈ gT := gin gin_3 (i := 43) rfl rfl
theorem q3_44 : Jvm.Cond.methodLink "HypergraphDualizerLaw" (104 : Nat) ({ cls := "HypergraphDualizer", name := "next", desc := "(I)I" } : Jvm.MethodName) ∈ gT := gin gin_3 (i := 44) rfl rfl
theorem q3_45 : Jvm.Cond.instanceMethod ({ cls := "HypergraphDualizer", name := "next", desc := "(I)I" } : Jvm.MethodName) ∈ gT := gin gin_3 (i := 45) rfl rfl
theorem q3_46 : Jvm.Cond.selects "HypergraphDualizer" ({ cls := "HypergraphDualizer", name := "next", desc := "(I)I" } : Jvm.MethodName) ({ cls := "HypergraphDualizer", name := "next", desc := "(I)I" } : Jvm.MethodName) ∈ gT := gin gin_3 (i := 46) rfl rfl
theorem q3_47 : Jvm.Cond.code ({ cls := "HypergraphDualizer", name := "next", desc := "(I)I" } : Jvm.MethodName) prog_1_method_24_code (2 : Nat) (Option.some Jvm.ClassFile.FieldType.int) ∈ gT := gin gin_3 (i := 47) rfl rfl
theorem q3_48 : Jvm.Cond.methodLink "HypergraphDualizerLaw" (108 : Nat) ({ cls := "HypergraphDualizer", name := "answersOfSize", desc := "(I)I" } : Jvm.MethodName) ∈ gT := gin gin_3 (i := 48) rfl rfl
theorem q3_49 : Jvm.Cond.instanceMethod ({ cls := "HypergraphDualizer", name := "answersOfSize", desc := "(I)I" } : Jvm.MethodName) ∈ gT := gin gin_3 (i := 49) rfl rfl
theorem q3_50 : Jvm.Cond.selects "HypergraphDualizer" ({ cls := "HypergraphDualizer", name := "answersOfSize", desc := "(I)I" } : Jvm.MethodName) ({ cls := "HypergraphDualizer", name := "answersOfSize", desc := "(I)I" } : Jvm.MethodName) ∈ gT := gin gin_3 (i := 50) rfl rfl
theorem q3_51 : Jvm.Cond.code ({ cls := "HypergraphDualizer", name := "answersOfSize", desc := "(I)I" } : Jvm.MethodName) prog_1_method_25_code (2 : Nat) (Option.some Jvm.ClassFile.FieldType.int) ∈ gT := gin gin_3 (i := 51) rfl rfl
theorem q3_52 : Jvm.Cond.methodLink "HypergraphDualizer" (186 : Nat) ({ cls := "HypergraphDualizer$Search", name := "countOfSize", desc := "(I)I" } : Jvm.MethodName) ∈ gT := gin gin_3 (i := 52) rfl rfl
theorem q3_53 : Jvm.Cond.instanceMethod ({ cls := "HypergraphDualizer$Search", name := "countOfSize", desc := "(I)I" } : Jvm.MethodName) ∈ gT := gin gin_3 (i := 53) rfl rfl
theorem q3_54 : Jvm.Cond.selects "HypergraphDualizer$Search" ({ cls := "HypergraphDualizer$Search", name := "countOfSize", desc := "(I)I" } : Jvm.MethodName) ({ cls := "HypergraphDualizer$Search", name := "countOfSize", desc := "(I)I" } : Jvm.MethodName) ∈ gT := gin gin_3 (i := 54) rfl rfl
theorem q3_55 : Jvm.Cond.code ({ cls := "HypergraphDualizer$Search", name := "countOfSize", desc := "(I)I" } : Jvm.MethodName) prog_8_method_6_code (4 : Nat) (Option.some Jvm.ClassFile.FieldType.int) ∈ gT := gin gin_3 (i := 55) rfl rfl
theorem q3_56 : Jvm.Cond.methodLink "HypergraphDualizer$Search" (71 : Nat) ({ cls := "java/lang/Integer", name := "bitCount", desc := "(I)I" } : Jvm.MethodName) ∈ gT := gin gin_3 (i := 56) rfl rfl
theorem q3_57 : Jvm.Cond.methodLink "HypergraphDualizerLaw" (112 : Nat) ({ cls := "HypergraphDualizer", name := "answersWith", desc := "(I)I" } : Jvm.MethodName) ∈ gT := gin gin_3 (i := 57) rfl rfl
theorem q3_58 : Jvm.Cond.instanceMethod ({ cls := "HypergraphDualizer", name := "answersWith", desc := "(I)I" } : Jvm.MethodName) ∈ gT := gin gin_3 (i := 58) rfl rfl
theorem q3_59 : Jvm.Cond.selects "HypergraphDualizer" ({ cls := "HypergraphDualizer", name := "answersWith", desc := "(I)I" } : Jvm.MethodName) ({ cls := "HypergraphDualizer", name := "answersWith", desc := "(I)I" } : Jvm.MethodName) ∈ gT := gin gin_3 (i := 59) rfl rfl
theorem q3_60 : Jvm.Cond.code ({ cls := "HypergraphDualizer", name := "answersWith", desc := "(I)I" } : Jvm.MethodName) prog_1_method_26_code (2 : Nat) (Option.some Jvm.ClassFile.FieldType.int) ∈ gT := gin gin_3 (i := 60) rfl rfl
theorem q3_61 : Jvm.Cond.methodLink "HypergraphDualizer" (189 : Nat) ({ cls := "HypergraphDualizer$Search", name := "countWith", desc := "(I)I" } : Jvm.MethodName) ∈ gT := gin gin_3 (i := 61) rfl rfl
theorem q3_62 : Jvm.Cond.instanceMethod ({ cls := "HypergraphDualizer$Search", name := "countWith", desc := "(I)I" } : Jvm.MethodName) ∈ gT := gin gin_3 (i := 62) rfl rfl
theorem q3_63 : Jvm.Cond.selects "HypergraphDualizer$Search" ({ cls := "HypergraphDualizer$Search", name := "countWith", desc := "(I)I" } : Jvm.MethodName) ({ cls := "HypergraphDualizer$Search", name := "countWith", desc := "(I)I" } : Jvm.MethodName) ∈ gT := gin gin_3 (i := 63) rfl rfl
theorem q3_64 : Jvm.Cond.code ({ cls := "HypergraphDualizer$Search", name := "countWith", desc := "(I)I" } : Jvm.MethodName) prog_8_method_7_code (4 : Nat) (Option.some Jvm.ClassFile.FieldType.int) ∈ gT := gin gin_3 (i := 64) rfl rfl
theorem q3_65 : Jvm.Cond.methodLink "HypergraphDualizerLaw" (116 : Nat) ({ cls := "HypergraphDualizer", name := "lightest", desc := "(I)I" } : Jvm.MethodName) ∈ gT := gin gin_3 (i := 65) rfl rfl
theorem q3_66 : Jvm.Cond.instanceMethod ({ cls := "HypergraphDualizer", name := "lightest", desc := "(I)I" } : Jvm.MethodName) ∈ gT := gin gin_3 (i := 66) rfl rfl
theorem q3_67 : Jvm.Cond.selects "HypergraphDualizer" ({ cls := "HypergraphDualizer", name := "lightest", desc := "(I)I" } : Jvm.MethodName) ({ cls := "HypergraphDualizer", name := "lightest", desc := "(I)I" } : Jvm.MethodName) ∈ gT := gin gin_3 (i := 67) rfl rfl
theorem q3_68 : Jvm.Cond.code ({ cls := "HypergraphDualizer", name := "lightest", desc := "(I)I" } : Jvm.MethodName) prog_1_method_27_code (3 : Nat) (Option.some Jvm.ClassFile.FieldType.int) ∈ gT := gin gin_3 (i := 68) rfl rfl
theorem q3_69 : Jvm.Cond.methodLink "HypergraphDualizer" (192 : Nat) ({ cls := "HypergraphDualizer$Weights", name := "lightestOf", desc := "(LHypergraphDualizer$Search;I)I" } : Jvm.MethodName) ∈ gT := gin gin_3 (i := 69) rfl rfl
theorem q3_70 : Jvm.Cond.instanceMethod ({ cls := "HypergraphDualizer$Weights", name := "lightestOf", desc := "(LHypergraphDualizer$Search;I)I" } : Jvm.MethodName) ∈ gT := gin gin_3 (i := 70) rfl rfl
theorem q3_71 : Jvm.Cond.selects "HypergraphDualizer$Weights" ({ cls := "HypergraphDualizer$Weights", name := "lightestOf", desc := "(LHypergraphDualizer$Search;I)I" } : Jvm.MethodName) ({ cls := "HypergraphDualizer$Weights", name := "lightestOf", desc := "(LHypergraphDualizer$Search;I)I" } : Jvm.MethodName) ∈ gT := gin gin_3 (i := 71) rfl rfl
theorem q3_72 : Jvm.Cond.code ({ cls := "HypergraphDualizer$Weights", name := "lightestOf", desc := "(LHypergraphDualizer$Search;I)I" } : Jvm.MethodName) prog_9_method_4_code (7 : Nat) (Option.some Jvm.ClassFile.FieldType.int) ∈ gT := gin gin_3 (i := 72) rfl rfl
theorem q3_73 : Jvm.Cond.methodLink "HypergraphDualizer$Weights" (31 : Nat) ({ cls := "HypergraphDualizer$Weights", name := "sumOf", desc := "(I)I" } : Jvm.MethodName) ∈ gT := gin gin_3 (i := 73) rfl rfl
theorem q3_74 : Jvm.Cond.instanceMethod ({ cls := "HypergraphDualizer$Weights", name := "sumOf", desc := "(I)I" } : Jvm.MethodName) ∈ gT := gin gin_3 (i := 74) rfl rfl
theorem q3_75 : Jvm.Cond.selects "HypergraphDualizer$Weights" ({ cls := "HypergraphDualizer$Weights", name := "sumOf", desc := "(I)I" } : Jvm.MethodName) ({ cls := "HypergraphDualizer$Weights", name := "sumOf", desc := "(I)I" } : Jvm.MethodName) ∈ gT := gin gin_3 (i := 75) rfl rfl
theorem q3_76 : Jvm.Cond.code ({ cls := "HypergraphDualizer$Weights", name := "sumOf", desc := "(I)I" } : Jvm.MethodName) prog_9_method_3_code (4 : Nat) (Option.some Jvm.ClassFile.FieldType.int) ∈ gT := gin gin_3 (i := 76) rfl rfl
theorem q3_78 : Jvm.Cond.constant "HypergraphDualizer$Weights" (35 : Nat) (22724608 : Int32) ∈ gT := gin gin_3 (i := 78) rfl rfl
theorem q3_79 : Jvm.Cond.methodLink "HypergraphDualizer$Weights" (36 : Nat) ({ cls := "HypergraphDualizer$Weights", name := "keysUpTo", desc := "(II)I" } : Jvm.MethodName) ∈ gT := gin gin_3 (i := 79) rfl rfl
theorem q3_81 : Jvm.Cond.instanceMethod ({ cls := "HypergraphDualizer$Weights", name := "keysUpTo", desc := "(II)I" } : Jvm.MethodName) ∈ gT := gin gin_3 (i := 81) rfl rfl
theorem q3_82 : Jvm.Cond.code ({ cls := "HypergraphDualizer$Weights", name := "keysUpTo", desc := "(II)I" } : Jvm.MethodName) prog_9_method_5_code (5 : Nat) (Option.some Jvm.ClassFile.FieldType.int) ∈ gT := gin gin_3 (i := 82) rfl rfl
theorem q3_83 : Jvm.Cond.methodLink "HypergraphDualizerLaw" (120 : Nat) ({ cls := "HypergraphDualizer", name := "weightOf", desc := "(I)I" } : Jvm.MethodName) ∈ gT := gin gin_3 (i := 83) rfl rfl
theorem q3_84 : Jvm.Cond.instanceMethod ({ cls := "HypergraphDualizer", name := "weightOf", desc := "(I)I" } : Jvm.MethodName) ∈ gT := gin gin_3 (i := 84) rfl rfl
theorem q3_85 : Jvm.Cond.selects "HypergraphDualizer" ({ cls := "HypergraphDualizer", name := "weightOf", desc := "(I)I" } : Jvm.MethodName) ({ cls := "HypergraphDualizer", name := "weightOf", desc := "(I)I" } : Jvm.MethodName) ∈ gT := gin gin_3 (i := 85) rfl rfl
theorem q3_86 : Jvm.Cond.code ({ cls := "HypergraphDualizer", name := "weightOf", desc := "(I)I" } : Jvm.MethodName) prog_1_method_28_code (2 : Nat) (Option.some Jvm.ClassFile.FieldType.int) ∈ gT := gin gin_3 (i := 86) rfl rfl
theorem q3_87 : Jvm.Cond.methodLink "HypergraphDualizer" (196 : Nat) ({ cls := "HypergraphDualizer$Weights", name := "sumOf", desc := "(I)I" } : Jvm.MethodName) ∈ gT := gin gin_3 (i := 87) rfl rfl
theorem q3_88 : Jvm.Cond.methodLink "HypergraphDualizerLaw" (124 : Nat) ({ cls := "HypergraphDualizer", name := "hittingSets", desc := "(I)I" } : Jvm.MethodName) ∈ gT := gin gin_3 (i := 88) rfl rfl
theorem q3_89 : Jvm.Cond.instanceMethod ({ cls := "HypergraphDualizer", name := "hittingSets", desc := "(I)I" } : Jvm.MethodName) ∈ gT := gin gin_3 (i := 89) rfl rfl
theorem q3_90 : Jvm.Cond.selects "HypergraphDualizer" ({ cls := "HypergraphDualizer", name := "hittingSets", desc := "(I)I" } : Jvm.MethodName) ({ cls := "HypergraphDualizer", name := "hittingSets", desc := "(I)I" } : Jvm.MethodName) ∈ gT := gin gin_3 (i := 90) rfl rfl
theorem q3_91 : Jvm.Cond.code ({ cls := "HypergraphDualizer", name := "hittingSets", desc := "(I)I" } : Jvm.MethodName) prog_1_method_30_code (2 : Nat) (Option.some Jvm.ClassFile.FieldType.int) ∈ gT := gin gin_3 (i := 91) rfl rfl
theorem q3_92 : Jvm.Cond.methodLink "HypergraphDualizer" (199 : Nat) ({ cls := "HypergraphDualizer$HittingCounts", name := "countOfAll", desc := "()I" } : Jvm.MethodName) ∈ gT := gin gin_3 (i := 92) rfl rfl
theorem q3_93 : Jvm.Cond.instanceMethod ({ cls := "HypergraphDualizer$HittingCounts", name := "countOfAll", desc := "()I" } : Jvm.MethodName) ∈ gT := gin gin_3 (i := 93) rfl rfl
theorem q3_94 : Jvm.Cond.selects "HypergraphDualizer$HittingCounts" ({ cls := "HypergraphDualizer$HittingCounts", name := "countOfAll", desc := "()I" } : Jvm.MethodName) ({ cls := "HypergraphDualizer$HittingCounts", name := "countOfAll", desc := "()I" } : Jvm.MethodName) ∈ gT := gin gin_3 (i := 94) rfl rfl
theorem q3_95 : Jvm.Cond.code ({ cls := "HypergraphDualizer$HittingCounts", name := "countOfAll", desc := "()I" } : Jvm.MethodName) prog_6_method_2_code (1 : Nat) (Option.some Jvm.ClassFile.FieldType.int) ∈ gT := gin gin_3 (i := 95) rfl rfl
theorem q3_96 : Jvm.Cond.methodLink "HypergraphDualizer$HittingCounts" (27 : Nat) ({ cls := "HypergraphDualizer$HittingCounts", name := "bringUpToDate", desc := "()V" } : Jvm.MethodName) ∈ gT := gin gin_3 (i := 96) rfl rfl
theorem q3_98 : Jvm.Cond.instanceMethod ({ cls := "HypergraphDualizer$HittingCounts", name := "bringUpToDate", desc := "()V" } : Jvm.MethodName) ∈ gT := gin gin_3 (i := 98) rfl rfl
theorem q3_99 : Jvm.Cond.code ({ cls := "HypergraphDualizer$HittingCounts", name := "bringUpToDate", desc := "()V" } : Jvm.MethodName) prog_6_method_4_code (3 : Nat) (Option.none : Option Jvm.ClassFile.FieldType) ∈ gT := gin gin_3 (i := 99) rfl rfl
theorem q3_100 : Jvm.Cond.methodLink "HypergraphDualizer$HittingCounts" (36 : Nat) ({ cls := "HypergraphDualizer$Family", name := "fill", desc := "(I)V" } : Jvm.MethodName) ∈ gT := gin gin_3 (i := 100) rfl rfl
theorem q3_101 : Jvm.Cond.instanceMethod ({ cls := "HypergraphDualizer$Family", name := "fill", desc := "(I)V" } : Jvm.MethodName) ∈ gT := gin gin_3 (i := 101) rfl rfl
theorem q3_102 : Jvm.Cond.selects "HypergraphDualizer$Family" ({ cls := "HypergraphDualizer$Family", name := "fill", desc := "(I)V" } : Jvm.MethodName) ({ cls := "HypergraphDualizer$Family", name := "fill", desc := "(I)V" } : Jvm.MethodName) ∈ gT := gin gin_3 (i := 102) rfl rfl
theorem q3_103 : Jvm.Cond.code ({ cls := "HypergraphDualizer$Family", name := "fill", desc := "(I)V" } : Jvm.MethodName) prog_4_method_2_code (2 : Nat) (Option.none : Option Jvm.ClassFile.FieldType) ∈ gT := gin gin_3 (i := 103) rfl rfl
theorem q3_104 : Jvm.Cond.methodLink "HypergraphDualizer$Family" (32 : Nat) ({ cls := "HypergraphDualizer$Family", name := "mark", desc := "([II)V" } : Jvm.MethodName) ∈ gT := gin gin_3 (i := 104) rfl rfl
theorem q3_106 : Jvm.Cond.instanceMethod ({ cls := "HypergraphDualizer$Family", name := "mark", desc := "([II)V" } : Jvm.MethodName) ∈ gT := gin gin_3 (i := 106) rfl rfl
theorem q3_107 : Jvm.Cond.code ({ cls := "HypergraphDualizer$Family", name := "mark", desc := "([II)V" } : Jvm.MethodName) prog_4_method_3_code (5 : Nat) (Option.none : Option Jvm.ClassFile.FieldType) ∈ gT := gin gin_3 (i := 107) rfl rfl
theorem q3_108 : Jvm.Cond.methodLink "HypergraphDualizer$Family" (44 : Nat) ({ cls := "HypergraphDualizer$Family", name := "markHittingSets", desc := "()V" } : Jvm.MethodName) ∈ gT := gin gin_3 (i := 108) rfl rfl
theorem q3_110 : Jvm.Cond.instanceMethod ({ cls := "HypergraphDualizer$Family", name := "markHittingSets", desc := "()V" } : Jvm.MethodName) ∈ gT := gin gin_3 (i := 110) rfl rfl
theorem q3_111 : Jvm.Cond.code ({ cls := "HypergraphDualizer$Family", name := "markHittingSets", desc := "()V" } : Jvm.MethodName) prog_4_method_4_code (4 : Nat) (Option.none : Option Jvm.ClassFile.FieldType) ∈ gT := gin gin_3 (i := 111) rfl rfl
theorem q3_112 : Jvm.Cond.methodLink "HypergraphDualizer$Family" (53 : Nat) ({ cls := "HypergraphDualizer$Hypergraph", name := "allEdges", desc := "()I" } : Jvm.MethodName) ∈ gT := gin gin_3 (i := 112) rfl rfl
theorem q3_113 : Jvm.Cond.methodLink "HypergraphDualizer$HittingCounts" (48 : Nat) ({ cls := "java/lang/Integer", name := "bitCount", desc := "(I)I" } : Jvm.MethodName) ∈ gT := gin gin_3 (i := 113) rfl rfl
theorem q3_114 : Jvm.Cond.methodLink "HypergraphDualizer" (202 : Nat) ({ cls := "HypergraphDualizer$HittingCounts", name := "countOfSize", desc := "(I)I" } : Jvm.MethodName) ∈ gT := gin gin_3 (i := 114) rfl rfl
theorem q3_115 : Jvm.Cond.instanceMethod ({ cls := "HypergraphDualizer$HittingCounts", name := "countOfSize", desc := "(I)I" } : Jvm.MethodName) ∈ gT := gin gin_3 (i := 115) rfl rfl
theorem q3_116 : Jvm.Cond.selects "HypergraphDualizer$HittingCounts" ({ cls := "HypergraphDualizer$HittingCounts", name := "countOfSize", desc := "(I)I" } : Jvm.MethodName) ({ cls := "HypergraphDualizer$HittingCounts", name := "countOfSize", desc := "(I)I" } : Jvm.MethodName) ∈ gT := gin gin_3 (i := 116) rfl rfl
theorem q3_117 : Jvm.Cond.code ({ cls := "HypergraphDualizer$HittingCounts", name := "countOfSize", desc := "(I)I" } : Jvm.MethodName) prog_6_method_3_code (2 : Nat) (Option.some Jvm.ClassFile.FieldType.int) ∈ gT := gin gin_3 (i := 117) rfl rfl
theorem q3_118 : Jvm.Cond.methodLink "HypergraphDualizerLaw" (128 : Nat) ({ cls := "HypergraphDualizer", name := "chance", desc := "()F" } : Jvm.MethodName) ∈ gT := gin gin_3 (i := 118) rfl rfl
theorem q3_119 : Jvm.Cond.instanceMethod ({ cls := "HypergraphDualizer", name := "chance", desc := "()F" } : Jvm.MethodName) ∈ gT := gin gin_3 (i := 119) rfl rfl
theorem q3_120 : Jvm.Cond.selects "HypergraphDualizer" ({ cls := "HypergraphDualizer", name := "chance", desc := "()F" } : Jvm.MethodName) ({ cls := "HypergraphDualizer", name := "chance", desc := "()F" } : Jvm.MethodName) ∈ gT := gin gin_3 (i := 120) rfl rfl
theorem q3_121 : Jvm.Cond.code ({ cls := "HypergraphDualizer", name := "chance", desc := "()F" } : Jvm.MethodName) prog_1_method_31_code (1 : Nat) (Option.some Jvm.ClassFile.FieldType.float) ∈ gT := gin gin_3 (i := 121) rfl rfl
theorem q3_122 : Jvm.Cond.methodLink "HypergraphDualizerLaw" (133 : Nat) ({ cls := "HypergraphDualizer", name := "diagramSize", desc := "(I)I" } : Jvm.MethodName) ∈ gT := gin gin_3 (i := 122) rfl rfl
theorem q3_123 : Jvm.Cond.instanceMethod ({ cls := "HypergraphDualizer", name := "diagramSize", desc := "(I)I" } : Jvm.MethodName) ∈ gT := gin gin_3 (i := 123) rfl rfl
theorem q3_124 : Jvm.Cond.selects "HypergraphDualizer" ({ cls := "HypergraphDualizer", name := "diagramSize", desc := "(I)I" } : Jvm.MethodName) ({ cls := "HypergraphDualizer", name := "diagramSize", desc := "(I)I" } : Jvm.MethodName) ∈ gT := gin gin_3 (i := 124) rfl rfl
theorem q3_125 : Jvm.Cond.code ({ cls := "HypergraphDualizer", name := "diagramSize", desc := "(I)I" } : Jvm.MethodName) prog_1_method_32_code (2 : Nat) (Option.some Jvm.ClassFile.FieldType.int) ∈ gT := gin gin_3 (i := 125) rfl rfl
theorem q3_126 : Jvm.Cond.methodLink "HypergraphDualizer" (203 : Nat) ({ cls := "HypergraphDualizer", name := "isFamily", desc := "(I)Z" } : Jvm.MethodName) ∈ gT := gin gin_3 (i := 126) rfl rfl
theorem q3_127 : Jvm.Cond.static ({ cls := "HypergraphDualizer", name := "isFamily", desc := "(I)Z" } : Jvm.MethodName) ∈ gT := gin gin_3 (i := 127) rfl rfl
theorem q3_128 : Jvm.Cond.code ({ cls := "HypergraphDualizer", name := "isFamily", desc := "(I)Z" } : Jvm.MethodName) prog_1_method_34_code (1 : Nat) (Option.some Jvm.ClassFile.FieldType.boolean) ∈ gT := gin gin_3 (i := 128) rfl rfl
theorem q3_129 : Jvm.Cond.methodLink "HypergraphDualizer" (206 : Nat) ({ cls := "HypergraphDualizer", name := "canBeDrawn", desc := "(I)Z" } : Jvm.MethodName) ∈ gT := gin gin_3 (i := 129) rfl rfl
theorem q3_131 : Jvm.Cond.instanceMethod ({ cls := "HypergraphDualizer", name := "canBeDrawn", desc := "(I)Z" } : Jvm.MethodName) ∈ gT := gin gin_3 (i := 131) rfl rfl
theorem q3_132 : Jvm.Cond.code ({ cls := "HypergraphDualizer", name := "canBeDrawn", desc := "(I)Z" } : Jvm.MethodName) prog_1_method_35_code (2 : Nat) (Option.some Jvm.ClassFile.FieldType.boolean) ∈ gT := gin gin_3 (i := 132) rfl rfl
theorem q3_133 : Jvm.Cond.methodLink "HypergraphDualizer" (209 : Nat) ({ cls := "HypergraphDualizer$Diagram", name := "sizeOf", desc := "(I)I" } : Jvm.MethodName) ∈ gT := gin gin_3 (i := 133) rfl rfl
theorem q3_134 : Jvm.Cond.instanceMethod ({ cls := "HypergraphDualizer$Diagram", name := "sizeOf", desc := "(I)I" } : Jvm.MethodName) ∈ gT := gin gin_3 (i := 134) rfl rfl
theorem q3_135 : Jvm.Cond.selects "HypergraphDualizer$Diagram" ({ cls := "HypergraphDualizer$Diagram", name := "sizeOf", desc := "(I)I" } : Jvm.MethodName) ({ cls := "HypergraphDualizer$Diagram", name := "sizeOf", desc := "(I)I" } : Jvm.MethodName) ∈ gT := gin gin_3 (i := 135) rfl rfl
theorem q3_136 : Jvm.Cond.code ({ cls := "HypergraphDualizer$Diagram", name := "sizeOf", desc := "(I)I" } : Jvm.MethodName) prog_2_method_2_code (2 : Nat) (Option.some Jvm.ClassFile.FieldType.int) ∈ gT := gin gin_3 (i := 136) rfl rfl
theorem q3_137 : Jvm.Cond.methodLink "HypergraphDualizer$Diagram" (39 : Nat) ({ cls := "HypergraphDualizer$Diagram", name := "draw", desc := "(I)V" } : Jvm.MethodName) ∈ gT := gin gin_3 (i := 137) rfl rfl
theorem q3_139 : Jvm.Cond.instanceMethod ({ cls := "HypergraphDualizer$Diagram", name := "draw", desc := "(I)V" } : Jvm.MethodName) ∈ gT := gin gin_3 (i := 139) rfl rfl
theorem q3_140 : Jvm.Cond.code ({ cls := "HypergraphDualizer$Diagram", name := "draw", desc := "(I)V" } : Jvm.MethodName) prog_2_method_4_code (3 : Nat) (Option.none : Option Jvm.ClassFile.FieldType) ∈ gT := gin gin_3 (i := 140) rfl rfl
theorem q3_141 : Jvm.Cond.methodLink "HypergraphDualizer$Diagram" (52 : Nat) ({ cls := "HypergraphDualizer$Family", name := "fill", desc := "(I)V" } : Jvm.MethodName) ∈ gT := gin gin_3 (i := 141) rfl rfl
theorem q3_142 : Jvm.Cond.methodLink "HypergraphDualizer$Diagram" (60 : Nat) ({ cls := "HypergraphDualizer$Diagram", name := "drawNodesAt", desc := "(I)V" } : Jvm.MethodName) ∈ gT := gin gin_3 (i := 142) rfl rfl
theorem q3_144 : Jvm.Cond.instanceMethod ({ cls := "HypergraphDualizer$Diagram", name := "drawNodesAt", desc := "(I)V" } : Jvm.MethodName) ∈ gT := gin gin_3 (i := 144) rfl rfl
theorem q3_145 : Jvm.Cond.code ({ cls := "HypergraphDualizer$Diagram", name := "drawNodesAt", desc := "(I)V" } : Jvm.MethodName) prog_2_method_5_code (7 : Nat) (Option.none : Option Jvm.ClassFile.FieldType) ∈ gT := gin gin_3 (i := 145) rfl rfl
theorem q3_146 : Jvm.Cond.methodLink "HypergraphDualizer$Diagram" (66 : Nat) ({ cls := "HypergraphDualizer$Diagram", name := "nodeWith", desc := "(III)I" } : Jvm.MethodName) ∈ gT := gin gin_3 (i := 146) rfl rfl
theorem q3_148 : Jvm.Cond.instanceMethod ({ cls := "HypergraphDualizer$Diagram", name := "nodeWith", desc := "(III)I" } : Jvm.MethodName) ∈ gT := gin gin_3 (i := 148) rfl rfl
theorem q3_149 : Jvm.Cond.code ({ cls := "HypergraphDualizer$Diagram", name := "nodeWith", desc := "(III)I" } : Jvm.MethodName) prog_2_method_6_code (7 : Nat) (Option.some Jvm.ClassFile.FieldType.int) ∈ gT := gin gin_3 (i := 149) rfl rfl
theorem q3_150 : Jvm.Cond.methodLink "HypergraphDualizerLaw" (137 : Nat) ({ cls := "HypergraphDualizer", name := "nodesAt", desc := "(II)I" } : Jvm.MethodName) ∈ gT := gin gin_3 (i := 150) rfl rfl
theorem q3_151 : Jvm.Cond.instanceMethod ({ cls := "HypergraphDualizer", name := "nodesAt", desc := "(II)I" } : Jvm.MethodName) ∈ gT := gin gin_3 (i := 151) rfl rfl
theorem q3_152 : Jvm.Cond.selects "HypergraphDualizer" ({ cls := "HypergraphDualizer", name := "nodesAt", desc := "(II)I" } : Jvm.MethodName) ({ cls := "HypergraphDualizer", name := "nodesAt", desc := "(II)I" } : Jvm.MethodName) ∈ gT := gin gin_3 (i := 152) rfl rfl
theorem q3_153 : Jvm.Cond.code ({ cls := "HypergraphDualizer", name := "nodesAt", desc := "(II)I" } : Jvm.MethodName) prog_1_method_33_code (3 : Nat) (Option.some Jvm.ClassFile.FieldType.int) ∈ gT := gin gin_3 (i := 153) rfl rfl
theorem q3_154 : Jvm.Cond.methodLink "HypergraphDualizer" (212 : Nat) ({ cls := "HypergraphDualizer$Diagram", name := "countAt", desc := "(II)I" } : Jvm.MethodName) ∈ gT := gin gin_3 (i := 154) rfl rfl
theorem q3_155 : Jvm.Cond.instanceMethod ({ cls := "HypergraphDualizer$Diagram", name := "countAt", desc := "(II)I" } : Jvm.MethodName) ∈ gT := gin gin_3 (i := 155) rfl rfl
theorem q3_156 : Jvm.Cond.selects "HypergraphDualizer$Diagram" ({ cls := "HypergraphDualizer$Diagram", name := "countAt", desc := "(II)I" } : Jvm.MethodName) ({ cls := "HypergraphDualizer$Diagram", name := "countAt", desc := "(II)I" } : Jvm.MethodName) ∈ gT := gin gin_3 (i := 156) rfl rfl
theorem q3_157 : Jvm.Cond.code ({ cls := "HypergraphDualizer$Diagram", name := "countAt", desc := "(II)I" } : Jvm.MethodName) prog_2_method_3_code (3 : Nat) (Option.some Jvm.ClassFile.FieldType.int) ∈ gT := gin gin_3 (i := 157) rfl rfl
theorem q3_158 : Jvm.Cond.methodLink "HypergraphDualizerLaw" (141 : Nat) ({ cls := "HypergraphDualizer", name := "isSelfDual", desc := "()I" } : Jvm.MethodName) ∈ gT := gin gin_3 (i := 158) rfl rfl
theorem q3_159 : Jvm.Cond.instanceMethod ({ cls := "HypergraphDualizer", name := "isSelfDual", desc := "()I" } : Jvm.MethodName) ∈ gT := gin gin_3 (i := 159) rfl rfl
theorem q3_160 : Jvm.Cond.selects "HypergraphDualizer" ({ cls := "HypergraphDualizer", name := "isSelfDual", desc := "()I" } : Jvm.MethodName) ({ cls := "HypergraphDualizer", name := "isSelfDual", desc := "()I" } : Jvm.MethodName) ∈ gT := gin gin_3 (i := 160) rfl rfl
theorem q3_161 : Jvm.Cond.code ({ cls := "HypergraphDualizer", name := "isSelfDual", desc := "()I" } : Jvm.MethodName) prog_1_method_36_code (1 : Nat) (Option.some Jvm.ClassFile.FieldType.int) ∈ gT := gin gin_3 (i := 161) rfl rfl
theorem q3_162 : Jvm.Cond.methodLink "HypergraphDualizer" (216 : Nat) ({ cls := "HypergraphDualizer$Search", name := "leastDifference", desc := "()I" } : Jvm.MethodName) ∈ gT := gin gin_3 (i := 162) rfl rfl
theorem q3_163 : Jvm.Cond.instanceMethod ({ cls := "HypergraphDualizer$Search", name := "leastDifference", desc := "()I" } : Jvm.MethodName) ∈ gT := gin gin_3 (i := 163) rfl rfl
theorem q3_164 : Jvm.Cond.selects "HypergraphDualizer$Search" ({ cls := "HypergraphDualizer$Search", name := "leastDifference", desc := "()I" } : Jvm.MethodName) ({ cls := "HypergraphDualizer$Search", name := "leastDifference", desc := "()I" } : Jvm.MethodName) ∈ gT := gin gin_3 (i := 164) rfl rfl
theorem q3_165 : Jvm.Cond.code ({ cls := "HypergraphDualizer$Search", name := "leastDifference", desc := "()I" } : Jvm.MethodName) prog_8_method_8_code (5 : Nat) (Option.some Jvm.ClassFile.FieldType.int) ∈ gT := gin gin_3 (i := 165) rfl rfl
theorem q3_166 : Jvm.Cond.methodLink "HypergraphDualizer$Search" (77 : Nat) ({ cls := "HypergraphDualizer$Hypergraph", name := "minimalEdges", desc := "()I" } : Jvm.MethodName) ∈ gT := gin gin_3 (i := 166) rfl rfl
theorem q3_167 : Jvm.Cond.methodLink "HypergraphDualizer$Search" (86 : Nat) ({ cls := "HypergraphDualizer$Hypergraph", name := "isAnswer", desc := "(I)Z" } : Jvm.MethodName) ∈ gT := gin gin_3 (i := 167) rfl rfl
theorem q3_168 : Jvm.Cond.methodLink "HypergraphDualizer$Search" (90 : Nat) ({ cls := "HypergraphDualizer$Search", name := "isMinimalEdge", desc := "(II)Z" } : Jvm.MethodName) ∈ gT := gin gin_3 (i := 168) rfl rfl
theorem q3_170 : Jvm.Cond.instanceMethod ({ cls := "HypergraphDualizer$Search", name := "isMinimalEdge", desc := "(II)Z" } : Jvm.MethodName) ∈ gT := gin gin_3 (i := 170) rfl rfl
theorem q3_171 : Jvm.Cond.code ({ cls := "HypergraphDualizer$Search", name := "isMinimalEdge", desc := "(II)Z" } : Jvm.MethodName) prog_8_method_9_code (4 : Nat) (Option.some Jvm.ClassFile.FieldType.boolean) ∈ gT := gin gin_3 (i := 171) rfl rfl
theorem q3_172 : Jvm.Cond.methodLink "HypergraphDualizerLaw" (145 : Nat) ({ cls := "HypergraphDualizer", name := "difference", desc := "()I" } : Jvm.MethodName) ∈ gT := gin gin_3 (i := 172) rfl rfl
theorem q3_173 : Jvm.Cond.instanceMethod ({ cls := "HypergraphDualizer", name := "difference", desc := "()I" } : Jvm.MethodName) ∈ gT := gin gin_3 (i := 173) rfl rfl
theorem q3_174 : Jvm.Cond.selects "HypergraphDualizer" ({ cls := "HypergraphDualizer", name := "difference", desc := "()I" } : Jvm.MethodName) ({ cls := "HypergraphDualizer", name := "difference", desc := "()I" } : Jvm.MethodName) ∈ gT := gin gin_3 (i := 174) rfl rfl
theorem q3_175 : Jvm.Cond.code ({ cls := "HypergraphDualizer", name := "difference", desc := "()I" } : Jvm.MethodName) prog_1_method_37_code (1 : Nat) (Option.some Jvm.ClassFile.FieldType.int) ∈ gT := gin gin_3 (i := 175) rfl rfl
theorem q3_176 : Jvm.Cond.methodLink "HypergraphDualizerLaw" (149 : Nat) ({ cls := "HypergraphDualizer", name := "isIntersecting", desc := "()I" } : Jvm.MethodName) ∈ gT := gin gin_3 (i := 176) rfl rfl
theorem q3_177 : Jvm.Cond.instanceMethod ({ cls := "HypergraphDualizer", name := "isIntersecting", desc := "()I" } : Jvm.MethodName) ∈ gT := gin gin_3 (i := 177) rfl rfl
theorem q3_178 : Jvm.Cond.selects "HypergraphDualizer" ({ cls := "HypergraphDualizer", name := "isIntersecting", desc := "()I" } : Jvm.MethodName) ({ cls := "HypergraphDualizer", name := "isIntersecting", desc := "()I" } : Jvm.MethodName) ∈ gT := gin gin_3 (i := 178) rfl rfl
theorem q3_179 : Jvm.Cond.code ({ cls := "HypergraphDualizer", name := "isIntersecting", desc := "()I" } : Jvm.MethodName) prog_1_method_38_code (1 : Nat) (Option.some Jvm.ClassFile.FieldType.int) ∈ gT := gin gin_3 (i := 179) rfl rfl
theorem q3_180 : Jvm.Cond.methodLink "HypergraphDualizer" (219 : Nat) ({ cls := "HypergraphDualizer$Hypergraph", name := "eachTwoMeet", desc := "()Z" } : Jvm.MethodName) ∈ gT := gin gin_3 (i := 180) rfl rfl
theorem q3_181 : Jvm.Cond.instanceMethod ({ cls := "HypergraphDualizer$Hypergraph", name := "eachTwoMeet", desc := "()Z" } : Jvm.MethodName) ∈ gT := gin gin_3 (i := 181) rfl rfl
theorem q3_182 : Jvm.Cond.selects "HypergraphDualizer$Hypergraph" ({ cls := "HypergraphDualizer$Hypergraph", name := "eachTwoMeet", desc := "()Z" } : Jvm.MethodName) ({ cls := "HypergraphDualizer$Hypergraph", name := "eachTwoMeet", desc := "()Z" } : Jvm.MethodName) ∈ gT := gin gin_3 (i := 182) rfl rfl
theorem q3_183 : Jvm.Cond.code ({ cls := "HypergraphDualizer$Hypergraph", name := "eachTwoMeet", desc := "()Z" } : Jvm.MethodName) prog_7_method_21_code (3 : Nat) (Option.some Jvm.ClassFile.FieldType.boolean) ∈ gT := gin gin_3 (i := 183) rfl rfl
theorem q3_184 : Jvm.Cond.methodLink "HypergraphDualizerLaw" (153 : Nat) ({ cls := "HypergraphDualizer", name := "type", desc := "(C)I" } : Jvm.MethodName) ∈ gT := gin gin_3 (i := 184) rfl rfl
theorem q3_185 : Jvm.Cond.instanceMethod ({ cls := "HypergraphDualizer", name := "type", desc := "(C)I" } : Jvm.MethodName) ∈ gT := gin gin_3 (i := 185) rfl rfl
theorem q3_186 : Jvm.Cond.selects "HypergraphDualizer" ({ cls := "HypergraphDualizer", name := "type", desc := "(C)I" } : Jvm.MethodName) ({ cls := "HypergraphDualizer", name := "type", desc := "(C)I" } : Jvm.MethodName) ∈ gT := gin gin_3 (i := 186) rfl rfl
theorem q3_187 : Jvm.Cond.code ({ cls := "HypergraphDualizer", name := "type", desc := "(C)I" } : Jvm.MethodName) prog_1_method_39_code (2 : Nat) (Option.some Jvm.ClassFile.FieldType.int) ∈ gT := gin gin_3 (i := 187) rfl rfl
theorem q3_188 : Jvm.Cond.methodLink "HypergraphDualizer" (222 : Nat) ({ cls := "HypergraphDualizer$EdgeText", name := "append", desc := "(C)Z" } : Jvm.MethodName) ∈ gT := gin gin_3 (i := 188) rfl rfl
theorem q3_189 : Jvm.Cond.instanceMethod ({ cls := "HypergraphDualizer$EdgeText", name := "append", desc := "(C)Z" } : Jvm.MethodName) ∈ gT := gin gin_3 (i := 189) rfl rfl
theorem q3_190 : Jvm.Cond.selects "HypergraphDualizer$EdgeText" ({ cls := "HypergraphDualizer$EdgeText", name := "append", desc := "(C)Z" } : Jvm.MethodName) ({ cls := "HypergraphDualizer$EdgeText", name := "append", desc := "(C)Z" } : Jvm.MethodName) ∈ gT := gin gin_3 (i := 190) rfl rfl
theorem q3_191 : Jvm.Cond.code ({ cls := "HypergraphDualizer$EdgeText", name := "append", desc := "(C)Z" } : Jvm.MethodName) prog_3_method_2_code (2 : Nat) (Option.some Jvm.ClassFile.FieldType.boolean) ∈ gT := gin gin_3 (i := 191) rfl rfl
theorem q3_192 : Jvm.Cond.methodLink "HypergraphDualizerLaw" (158 : Nat) ({ cls := "HypergraphDualizer", name := "clearText", desc := "()I" } : Jvm.MethodName) ∈ gT := gin gin_3 (i := 192) rfl rfl
theorem q3_193 : Jvm.Cond.instanceMethod ({ cls := "HypergraphDualizer", name := "clearText", desc := "()I" } : Jvm.MethodName) ∈ gT := gin gin_3 (i := 193) rfl rfl
theorem q3_194 : Jvm.Cond.selects "HypergraphDualizer" ({ cls := "HypergraphDualizer", name := "clearText", desc := "()I" } : Jvm.MethodName) ({ cls := "HypergraphDualizer", name := "clearText", desc := "()I" } : Jvm.MethodName) ∈ gT := gin gin_3 (i := 194) rfl rfl
theorem q3_195 : Jvm.Cond.code ({ cls := "HypergraphDualizer", name := "clearText", desc := "()I" } : Jvm.MethodName) prog_1_method_40_code (2 : Nat) (Option.some Jvm.ClassFile.FieldType.int) ∈ gT := gin gin_3 (i := 195) rfl rfl
theorem q3_196 : Jvm.Cond.methodLink "HypergraphDualizerLaw" (162 : Nat) ({ cls := "HypergraphDualizer", name := "readEdges", desc := "()I" } : Jvm.MethodName) ∈ gT := gin gin_3 (i := 196) rfl rfl
theorem q3_197 : Jvm.Cond.instanceMethod ({ cls := "HypergraphDualizer", name := "readEdges", desc := "()I" } : Jvm.MethodName) ∈ gT := gin gin_3 (i := 197) rfl rfl
theorem q3_198 : Jvm.Cond.selects "HypergraphDualizer" ({ cls := "HypergraphDualizer", name := "readEdges", desc := "()I" } : Jvm.MethodName) ({ cls := "HypergraphDualizer", name := "readEdges", desc := "()I" } : Jvm.MethodName) ∈ gT := gin gin_3 (i := 198) rfl rfl
theorem q3_199 : Jvm.Cond.code ({ cls := "HypergraphDualizer", name := "readEdges", desc := "()I" } : Jvm.MethodName) prog_1_method_41_code (3 : Nat) (Option.some Jvm.ClassFile.FieldType.int) ∈ gT := gin gin_3 (i := 199) rfl rfl
theorem q3_200 : Jvm.Cond.methodLink "HypergraphDualizer" (228 : Nat) ({ cls := "HypergraphDualizer$EdgeText", name := "readInto", desc := "(LHypergraphDualizer$Hypergraph;)I" } : Jvm.MethodName) ∈ gT := gin gin_3 (i := 200) rfl rfl
theorem q3_201 : Jvm.Cond.instanceMethod ({ cls := "HypergraphDualizer$EdgeText", name := "readInto", desc := "(LHypergraphDualizer$Hypergraph;)I" } : Jvm.MethodName) ∈ gT := gin gin_3 (i := 201) rfl rfl
theorem q3_202 : Jvm.Cond.selects "HypergraphDualizer$EdgeText" ({ cls := "HypergraphDualizer$EdgeText", name := "readInto", desc := "(LHypergraphDualizer$Hypergraph;)I" } : Jvm.MethodName) ({ cls := "HypergraphDualizer$EdgeText", name := "readInto", desc := "(LHypergraphDualizer$Hypergraph;)I" } : Jvm.MethodName) ∈ gT := gin gin_3 (i := 202) rfl rfl
theorem q3_203 : Jvm.Cond.code ({ cls := "HypergraphDualizer$EdgeText", name := "readInto", desc := "(LHypergraphDualizer$Hypergraph;)I" } : Jvm.MethodName) prog_3_method_3_code (4 : Nat) (Option.some Jvm.ClassFile.FieldType.int) ∈ gT := gin gin_3 (i := 203) rfl rfl
theorem q3_204 : Jvm.Cond.methodLink "HypergraphDualizer$EdgeText" (25 : Nat) ({ cls := "HypergraphDualizer$EdgeText", name := "readEdge", desc := "(LHypergraphDualizer$Hypergraph;)V" } : Jvm.MethodName) ∈ gT := gin gin_3 (i := 204) rfl rfl
theorem q3_206 : Jvm.Cond.instanceMethod ({ cls := "HypergraphDualizer$EdgeText", name := "readEdge", desc := "(LHypergraphDualizer$Hypergraph;)V" } : Jvm.MethodName) ∈ gT := gin gin_3 (i := 206) rfl rfl
theorem q3_207 : Jvm.Cond.code ({ cls := "HypergraphDualizer$EdgeText", name := "readEdge", desc := "(LHypergraphDualizer$Hypergraph;)V" } : Jvm.MethodName) prog_3_method_4_code (6 : Nat) (Option.none : Option Jvm.ClassFile.FieldType) ∈ gT := gin gin_3 (i := 207) rfl rfl
theorem q3_208 : Jvm.Cond.methodLink "HypergraphDualizer$EdgeText" (33 : Nat) ({ cls := "HypergraphDualizer$Hypergraph", name := "isFull", desc := "()Z" } : Jvm.MethodName) ∈ gT := gin gin_3 (i := 208) rfl rfl
theorem q3_209 : Jvm.Cond.methodLink "HypergraphDualizer$EdgeText" (42 : Nat) ({ cls := "HypergraphDualizer$EdgeText", name := "readVertex", desc := "(II)I" } : Jvm.MethodName) ∈ gT := gin gin_3 (i := 209) rfl rfl
theorem q3_211 : Jvm.Cond.instanceMethod ({ cls := "HypergraphDualizer$EdgeText", name := "readVertex", desc := "(II)I" } : Jvm.MethodName) ∈ gT := gin gin_3 (i := 211) rfl rfl
theorem q3_212 : Jvm.Cond.code ({ cls := "HypergraphDualizer$EdgeText", name := "readVertex", desc := "(II)I" } : Jvm.MethodName) prog_3_method_5_code (6 : Nat) (Option.some Jvm.ClassFile.FieldType.int) ∈ gT := gin gin_3 (i := 212) rfl rfl
theorem q3_213 : Jvm.Cond.methodLink "HypergraphDualizer$EdgeText" (54 : Nat) ({ cls := "HypergraphDualizer$EdgeText", name := "digit", desc := "()I" } : Jvm.MethodName) ∈ gT := gin gin_3 (i := 213) rfl rfl
theorem q3_215 : Jvm.Cond.instanceMethod ({ cls := "HypergraphDualizer$EdgeText", name := "digit", desc := "()I" } : Jvm.MethodName) ∈ gT := gin gin_3 (i := 215) rfl rfl
theorem q3_216 : Jvm.Cond.code ({ cls := "HypergraphDualizer$EdgeText", name := "digit", desc := "()I" } : Jvm.MethodName) prog_3_method_6_code (1 : Nat) (Option.some Jvm.ClassFile.FieldType.int) ∈ gT := gin gin_3 (i := 216) rfl rfl
theorem q3_218 : Jvm.Cond.methodLink "HypergraphDualizer$EdgeText" (29 : Nat) ({ cls := "HypergraphDualizer$EdgeText", name := "skips", desc := "(C)Z" } : Jvm.MethodName) ∈ gT := gin gin_3 (i := 218) rfl rfl
theorem q3_220 : Jvm.Cond.instanceMethod ({ cls := "HypergraphDualizer$EdgeText", name := "skips", desc := "(C)Z" } : Jvm.MethodName) ∈ gT := gin gin_3 (i := 220) rfl rfl
theorem q3_221 : Jvm.Cond.code ({ cls := "HypergraphDualizer$EdgeText", name := "skips", desc := "(C)Z" } : Jvm.MethodName) prog_3_method_7_code (2 : Nat) (Option.some Jvm.ClassFile.FieldType.boolean) ∈ gT := gin gin_3 (i := 221) rfl rfl
theorem q3_222 : Jvm.Cond.methodLink "HypergraphDualizer$EdgeText" (46 : Nat) ({ cls := "HypergraphDualizer$Hypergraph", name := "contains", desc := "(I)Z" } : Jvm.MethodName) ∈ gT := gin gin_3 (i := 222) rfl rfl
theorem q3_223 : Jvm.Cond.methodLink "HypergraphDualizer$EdgeText" (50 : Nat) ({ cls := "HypergraphDualizer$Hypergraph", name := "append", desc := "(I)V" } : Jvm.MethodName) ∈ gT := gin gin_3 (i := 223) rfl rfl
theorem q3_224 : Jvm.Cond.classLink "HypergraphDualizerLaw" (10 : Nat) "HypergraphDualizerModel" ∈ gT := gin gin_3 (i := 224) rfl rfl
theorem q3_225 : Jvm.Cond.instantiable "HypergraphDualizerModel" (28 : Nat) ∈ gT := gin gin_3 (i := 225) rfl rfl
theorem q3_226 : Jvm.Cond.methodLink "HypergraphDualizerLaw" (12 : Nat) ({ cls := "HypergraphDualizerModel", name := "<init>", desc := "()V" } : Jvm.MethodName) ∈ gT := gin gin_3 (i := 226) rfl rfl
theorem q3_227 : Jvm.Cond.instanceMethod ({ cls := "HypergraphDualizerModel", name := "<init>", desc := "()V" } : Jvm.MethodName) ∈ gT := gin gin_3 (i := 227) rfl rfl
theorem q3_228 : Jvm.Cond.code ({ cls := "HypergraphDualizerModel", name := "<init>", desc := "()V" } : Jvm.MethodName) prog_11_method_1_code (1 : Nat) (Option.none : Option Jvm.ClassFile.FieldType) ∈ gT := gin gin_3 (i := 228) rfl rfl
theorem q3_229 : Jvm.Cond.methodLink "HypergraphDualizerModel" (1 : Nat) ({ cls := "java/lang/Object", name := "<init>", desc := "()V" } : Jvm.MethodName) ∈ gT := gin gin_3 (i := 229) rfl rfl
theorem q3_230 : Jvm.Cond.methodLink "HypergraphDualizerModel" (63 : Nat) ({ cls := "HypergraphDualizerModel", name := "restWeights", desc := "()V" } : Jvm.MethodName) ∈ gT := gin gin_3 (i := 230) rfl rfl
theorem q3_232 : Jvm.Cond.instanceMethod ({ cls := "HypergraphDualizerModel", name := "restWeights", desc := "()V" } : Jvm.MethodName) ∈ gT := gin gin_3 (i := 232) rfl rfl
theorem q3_233 : Jvm.Cond.code ({ cls := "HypergraphDualizerModel", name := "restWeights", desc := "()V" } : Jvm.MethodName) prog_11_method_4_code (2 : Nat) (Option.none : Option Jvm.ClassFile.FieldType) ∈ gT := gin gin_3 (i := 233) rfl rfl
theorem q3_234 : Jvm.Cond.fieldLink "HypergraphDualizerModel" (59 : Nat) "HypergraphDualizerModel" "vertices" "I" ∈ gT := gin gin_3 (i := 234) rfl rfl
theorem q3_235 : Jvm.Cond.fieldLink "HypergraphDualizerModel" (7 : Nat) "HypergraphDualizerModel" "now" "[I" ∈ gT := gin gin_3 (i := 235) rfl rfl
theorem q3_236 : Jvm.Cond.fieldLink "HypergraphDualizerModel" (13 : Nat) "HypergraphDualizerModel" "weight" "[I" ∈ gT := gin gin_3 (i := 236) rfl rfl
theorem q3_237 : Jvm.Cond.fieldLink "HypergraphDualizerModel" (16 : Nat) "HypergraphDualizerModel" "undone" "[I" ∈ gT := gin gin_3 (i := 237) rfl rfl
theorem q3_238 : Jvm.Cond.fieldLink "HypergraphDualizerModel" (19 : Nat) "HypergraphDualizerModel" "redone" "[I" ∈ gT := gin gin_3 (i := 238) rfl rfl
theorem q3_239 : Jvm.Cond.fieldLink "HypergraphDualizerModel" (74 : Nat) "HypergraphDualizerModel" "undoMany" "I" ∈ gT := gin gin_3 (i := 239) rfl rfl
theorem q4_0 : Jvm.Cond.fieldLink "HypergraphDualizerModel" (77 : Nat) "HypergraphDualizerModel" "redoMany" "I" ∈ gT := gin gin_4 (i := 0) rfl rfl
theorem q4_1 : Jvm.Cond.fieldLink "HypergraphDualizerModel" (135 : Nat) "HypergraphDualizerModel" "answers" "I" ∈ gT := gin gin_4 (i := 1) rfl rfl
theorem q4_2 : Jvm.Cond.fieldLink "HypergraphDualizerModel" (132 : Nat) "HypergraphDualizerModel" "visited" "I" ∈ gT := gin gin_4 (i := 2) rfl rfl
theorem q4_3 : Jvm.Cond.fieldLink "HypergraphDualizerModel" (144 : Nat) "HypergraphDualizerModel" "isGivenUp" "Z" ∈ gT := gin gin_4 (i := 3) rfl rfl
theorem q4_4 : Jvm.Cond.fieldLink "HypergraphDualizerModel" (22 : Nat) "HypergraphDualizerModel" "answerOf" "[I" ∈ gT := gin gin_4 (i := 4) rfl rfl
theorem q4_5 : Jvm.Cond.fieldLink "HypergraphDualizerModel" (25 : Nat) "HypergraphDualizerModel" "delayOf" "[I" ∈ gT := gin gin_4 (i := 5) rfl rfl
theorem q4_6 : Jvm.Cond.fieldLink "HypergraphDualizerModel" (28 : Nat) "HypergraphDualizerModel" "setAt" "[I" ∈ gT := gin gin_4 (i := 6) rfl rfl
theorem q4_7 : Jvm.Cond.fieldLink "HypergraphDualizerModel" (31 : Nat) "HypergraphDualizerModel" "candidatesAt" "[I" ∈ gT := gin gin_4 (i := 7) rfl rfl
theorem q4_8 : Jvm.Cond.fieldLink "HypergraphDualizerModel" (34 : Nat) "HypergraphDualizerModel" "leftAt" "[I" ∈ gT := gin gin_4 (i := 8) rfl rfl
theorem q4_9 : Jvm.Cond.fieldLink "HypergraphDualizerModel" (37 : Nat) "HypergraphDualizerModel" "triedAt" "[I" ∈ gT := gin gin_4 (i := 9) rfl rfl
theorem q4_10 : Jvm.Cond.fieldLink "HypergraphDualizerModel" (138 : Nat) "HypergraphDualizerModel" "lastVisit" "I" ∈ gT := gin gin_4 (i := 10) rfl rfl
theorem q4_11 : Jvm.Cond.fieldLink "HypergraphDualizerModel" (40 : Nat) "HypergraphDualizerModel" "table" "[I" ∈ gT := gin gin_4 (i := 11) rfl rfl
theorem q4_12 : Jvm.Cond.fieldLink "HypergraphDualizerModel" (166 : Nat) "HypergraphDualizerModel" "nodes" "I" ∈ gT := gin gin_4 (i := 12) rfl rfl
theorem q4_13 : Jvm.Cond.fieldLink "HypergraphDualizerModel" (43 : Nat) "HypergraphDualizerModel" "lowOf" "[I" ∈ gT := gin gin_4 (i := 13) rfl rfl
theorem q4_14 : Jvm.Cond.fieldLink "HypergraphDualizerModel" (46 : Nat) "HypergraphDualizerModel" "highOf" "[I" ∈ gT := gin gin_4 (i := 14) rfl rfl
theorem q4_15 : Jvm.Cond.fieldLink "HypergraphDualizerModel" (49 : Nat) "HypergraphDualizerModel" "nodesOf" "[I" ∈ gT := gin gin_4 (i := 15) rfl rfl
theorem q4_16 : Jvm.Cond.fieldLink "HypergraphDualizerModel" (191 : Nat) "HypergraphDualizerModel" "typed" "I" ∈ gT := gin gin_4 (i := 16) rfl rfl
theorem q4_17 : Jvm.Cond.fieldLink "HypergraphDualizerModel" (52 : Nat) "HypergraphDualizerModel" "text" "[C" ∈ gT := gin gin_4 (i := 17) rfl rfl
theorem q4_18 : Jvm.Cond.fieldLink "HypergraphDualizerModel" (194 : Nat) "HypergraphDualizerModel" "place" "I" ∈ gT := gin gin_4 (i := 18) rfl rfl
theorem q4_19 : Jvm.Cond.fieldLink "HypergraphDualizerModel" (200 : Nat) "HypergraphDualizerModel" "fault" "I" ∈ gT := gin gin_4 (i := 19) rfl rfl
theorem q4_20 : Jvm.Cond.fieldLink "HypergraphDualizerModel" (203 : Nat) "HypergraphDualizerModel" "readMany" "I" ∈ gT := gin gin_4 (i := 20) rfl rfl
theorem q4_21 : Jvm.Cond.fieldLink "HypergraphDualizerModel" (56 : Nat) "HypergraphDualizerModel" "read" "[I" ∈ gT := gin gin_4 (i := 21) rfl rfl
theorem q4_22 : Jvm.Cond.lays "HypergraphDualizerModel" "HypergraphDualizerModel" "vertices" "I" ∈ gT := gin gin_4 (i := 22) rfl rfl
theorem q4_24 : Jvm.Cond.laysFinal "HypergraphDualizerModel" "HypergraphDualizerModel" "now" "[I" ∈ gT := gin gin_4 (i := 24) rfl rfl
theorem q4_26 : Jvm.Cond.laysFinal "HypergraphDualizerModel" "HypergraphDualizerModel" "weight" "[I" ∈ gT := gin gin_4 (i := 26) rfl rfl
theorem q4_28 : Jvm.Cond.laysFinal "HypergraphDualizerModel" "HypergraphDualizerModel" "undone" "[I" ∈ gT := gin gin_4 (i := 28) rfl rfl
theorem q4_30 : Jvm.Cond.laysFinal "HypergraphDualizerModel" "HypergraphDualizerModel" "redone" "[I" ∈ gT := gin gin_4 (i := 30) rfl rfl
theorem q4_32 : Jvm.Cond.lays "HypergraphDualizerModel" "HypergraphDualizerModel" "undoMany" "I" ∈ gT := gin gin_4 (i := 32) rfl rfl
theorem q4_34 : Jvm.Cond.lays "HypergraphDualizerModel" "HypergraphDualizerModel" "redoMany" "I" ∈ gT := gin gin_4 (i := 34) rfl rfl
theorem q4_36 : Jvm.Cond.lays "HypergraphDualizerModel" "HypergraphDualizerModel" "answers" "I" ∈ gT := gin gin_4 (i := 36) rfl rfl
theorem q4_38 : Jvm.Cond.lays "HypergraphDualizerModel" "HypergraphDualizerModel" "visited" "I" ∈ gT := gin gin_4 (i := 38) rfl rfl
theorem q4_40 : Jvm.Cond.lays "HypergraphDualizerModel" "HypergraphDualizerModel" "isGivenUp" "Z" ∈ gT := gin gin_4 (i := 40) rfl rfl
theorem q4_42 : Jvm.Cond.laysFinal "HypergraphDualizerModel" "HypergraphDualizerModel" "answerOf" "[I" ∈ gT := gin gin_4 (i := 42) rfl rfl
theorem q4_44 : Jvm.Cond.laysFinal "HypergraphDualizerModel" "HypergraphDualizerModel" "delayOf" "[I" ∈ gT := gin gin_4 (i := 44) rfl rfl
theorem q4_46 : Jvm.Cond.laysFinal "HypergraphDualizerModel" "HypergraphDualizerModel" "setAt" "[I" ∈ gT := gin gin_4 (i := 46) rfl rfl
theorem q4_48 : Jvm.Cond.laysFinal "HypergraphDualizerModel" "HypergraphDualizerModel" "candidatesAt" "[I" ∈ gT := gin gin_4 (i := 48) rfl rfl
theorem q4_50 : Jvm.Cond.laysFinal "HypergraphDualizerModel" "HypergraphDualizerModel" "leftAt" "[I" ∈ gT := gin gin_4 (i := 50) rfl rfl
theorem q4_52 : Jvm.Cond.laysFinal "HypergraphDualizerModel" "HypergraphDualizerModel" "triedAt" "[I" ∈ gT := gin gin_4 (i := 52) rfl rfl
theorem q4_54 : Jvm.Cond.lays "HypergraphDualizerModel" "HypergraphDualizerModel" "lastVisit" "I" ∈ gT := gin gin_4 (i := 54) rfl rfl
theorem q4_56 : Jvm.Cond.laysFinal "HypergraphDualizerModel" "HypergraphDualizerModel" "table" "[I" ∈ gT := gin gin_4 (i := 56) rfl rfl
theorem q4_58 : Jvm.Cond.lays "HypergraphDualizerModel" "HypergraphDualizerModel" "nodes" "I" ∈ gT := gin gin_4 (i := 58) rfl rfl
theorem q4_60 : Jvm.Cond.laysFinal "HypergraphDualizerModel" "HypergraphDualizerModel" "lowOf" "[I" ∈ gT := gin gin_4 (i := 60) rfl rfl
theorem q4_62 : Jvm.Cond.laysFinal "HypergraphDualizerModel" "HypergraphDualizerModel" "highOf" "[I" ∈ gT := gin gin_4 (i := 62) rfl rfl
theorem q4_64 : Jvm.Cond.laysFinal "HypergraphDualizerModel" "HypergraphDualizerModel" "nodesOf" "[I" ∈ gT := gin gin_4 (i := 64) rfl rfl
theorem q4_66 : Jvm.Cond.lays "HypergraphDualizerModel" "HypergraphDualizerModel" "typed" "I" ∈ gT := gin gin_4 (i := 66) rfl rfl
theorem q4_68 : Jvm.Cond.laysFinal "HypergraphDualizerModel" "HypergraphDualizerModel" "text" "[C" ∈ gT := gin gin_4 (i := 68) rfl rfl
theorem q4_70 : Jvm.Cond.lays "HypergraphDualizerModel" "HypergraphDualizerModel" "place" "I" ∈ gT := gin gin_4 (i := 70) rfl rfl
theorem q4_72 : Jvm.Cond.lays "HypergraphDualizerModel" "HypergraphDualizerModel" "fault" "I" ∈ gT := gin gin_4 (i := 72) rfl rfl
theorem q4_74 : Jvm.Cond.lays "HypergraphDualizerModel" "HypergraphDualizerModel" "readMany" "I" ∈ gT := gin gin_4 (i := 74) rfl rfl
theorem q4_76 : Jvm.Cond.laysFinal "HypergraphDualizerModel" "HypergraphDualizerModel" "read" "[I" ∈ gT := gin gin_4 (i := 76) rfl rfl
theorem q4_79 : Jvm.Cond.methodLink "HypergraphDualizerLaw" (17 : Nat) ({ cls := "HypergraphDualizerModel", name := "reset", desc := "(I)I" } : Jvm.MethodName) ∈ gT := gin gin_4 (i := 79) rfl rfl
theorem q4_80 : Jvm.Cond.instanceMethod ({ cls := "HypergraphDualizerModel", name := "reset", desc := "(I)I" } : Jvm.MethodName) ∈ gT := gin gin_4 (i := 80) rfl rfl
theorem q4_81 : Jvm.Cond.selects "HypergraphDualizerModel" ({ cls := "HypergraphDualizerModel", name := "reset", desc := "(I)I" } : Jvm.MethodName) ({ cls := "HypergraphDualizerModel", name := "reset", desc := "(I)I" } : Jvm.MethodName) ∈ gT := gin gin_4 (i := 81) rfl rfl
theorem q4_82 : Jvm.Cond.code ({ cls := "HypergraphDualizerModel", name := "reset", desc := "(I)I" } : Jvm.MethodName) prog_11_method_9_code (3 : Nat) (Option.some Jvm.ClassFile.FieldType.int) ∈ gT := gin gin_4 (i := 82) rfl rfl
theorem q4_83 : Jvm.Cond.methodLink "HypergraphDualizerModel" (66 : Nat) ({ cls := "HypergraphDualizerModel", name := "in", desc := "(III)Z" } : Jvm.MethodName) ∈ gT := gin gin_4 (i := 83) rfl rfl
theorem q4_84 : Jvm.Cond.static ({ cls := "HypergraphDualizerModel", name := "in", desc := "(III)Z" } : Jvm.MethodName) ∈ gT := gin gin_4 (i := 84) rfl rfl
theorem q4_85 : Jvm.Cond.code ({ cls := "HypergraphDualizerModel", name := "in", desc := "(III)Z" } : Jvm.MethodName) prog_11_method_2_code (3 : Nat) (Option.some Jvm.ClassFile.FieldType.boolean) ∈ gT := gin gin_4 (i := 85) rfl rfl
theorem q4_86 : Jvm.Cond.methodLink "HypergraphDualizerLaw" (46 : Nat) ({ cls := "HypergraphDualizerModel", name := "undo", desc := "()I" } : Jvm.MethodName) ∈ gT := gin gin_4 (i := 86) rfl rfl
theorem q4_87 : Jvm.Cond.instanceMethod ({ cls := "HypergraphDualizerModel", name := "undo", desc := "()I" } : Jvm.MethodName) ∈ gT := gin gin_4 (i := 87) rfl rfl
theorem q4_88 : Jvm.Cond.selects "HypergraphDualizerModel" ({ cls := "HypergraphDualizerModel", name := "undo", desc := "()I" } : Jvm.MethodName) ({ cls := "HypergraphDualizerModel", name := "undo", desc := "()I" } : Jvm.MethodName) ∈ gT := gin gin_4 (i := 88) rfl rfl
theorem q4_89 : Jvm.Cond.code ({ cls := "HypergraphDualizerModel", name := "undo", desc := "()I" } : Jvm.MethodName) prog_11_method_11_code (2 : Nat) (Option.some Jvm.ClassFile.FieldType.int) ∈ gT := gin gin_4 (i := 89) rfl rfl
theorem q4_90 : Jvm.Cond.methodLink "HypergraphDualizerLaw" (50 : Nat) ({ cls := "HypergraphDualizerModel", name := "redo", desc := "()I" } : Jvm.MethodName) ∈ gT := gin gin_4 (i := 90) rfl rfl
theorem q4_91 : Jvm.Cond.instanceMethod ({ cls := "HypergraphDualizerModel", name := "redo", desc := "()I" } : Jvm.MethodName) ∈ gT := gin gin_4 (i := 91) rfl rfl
theorem q4_92 : Jvm.Cond.selects "HypergraphDualizerModel" ({ cls := "HypergraphDualizerModel", name := "redo", desc := "()I" } : Jvm.MethodName) ({ cls := "HypergraphDualizerModel", name := "redo", desc := "()I" } : Jvm.MethodName) ∈ gT := gin gin_4 (i := 92) rfl rfl
theorem q4_93 : Jvm.Cond.code ({ cls := "HypergraphDualizerModel", name := "redo", desc := "()I" } : Jvm.MethodName) prog_11_method_12_code (2 : Nat) (Option.some Jvm.ClassFile.FieldType.int) ∈ gT := gin gin_4 (i := 93) rfl rfl
theorem q4_94 : Jvm.Cond.methodLink "HypergraphDualizerLaw" (21 : Nat) ({ cls := "HypergraphDualizerModel", name := "addEdge", desc := "(I)I" } : Jvm.MethodName) ∈ gT := gin gin_4 (i := 94) rfl rfl
theorem q4_95 : Jvm.Cond.instanceMethod ({ cls := "HypergraphDualizerModel", name := "addEdge", desc := "(I)I" } : Jvm.MethodName) ∈ gT := gin gin_4 (i := 95) rfl rfl
theorem q4_96 : Jvm.Cond.selects "HypergraphDualizerModel" ({ cls := "HypergraphDualizerModel", name := "addEdge", desc := "(I)I" } : Jvm.MethodName) ({ cls := "HypergraphDualizerModel", name := "addEdge", desc := "(I)I" } : Jvm.MethodName) ∈ gT := gin gin_4 (i := 96) rfl rfl
theorem q4_97 : Jvm.Cond.code ({ cls := "HypergraphDualizerModel", name := "addEdge", desc := "(I)I" } : Jvm.MethodName) prog_11_method_16_code (2 : Nat) (Option.some Jvm.ClassFile.FieldType.int) ∈ gT := gin gin_4 (i := 97) rfl rfl
theorem q4_98 : Jvm.Cond.methodLink "HypergraphDualizerModel" (83 : Nat) ({ cls := "HypergraphDualizerModel", name := "noSet", desc := "(I)Z" } : Jvm.MethodName) ∈ gT := gin gin_4 (i := 98) rfl rfl
theorem q4_100 : Jvm.Cond.instanceMethod ({ cls := "HypergraphDualizerModel", name := "noSet", desc := "(I)Z" } : Jvm.MethodName) ∈ gT := gin gin_4 (i := 100) rfl rfl
theorem q4_101 : Jvm.Cond.code ({ cls := "HypergraphDualizerModel", name := "noSet", desc := "(I)Z" } : Jvm.MethodName) prog_11_method_8_code (2 : Nat) (Option.some Jvm.ClassFile.FieldType.boolean) ∈ gT := gin gin_4 (i := 101) rfl rfl
theorem q4_102 : Jvm.Cond.methodLink "HypergraphDualizerModel" (70 : Nat) ({ cls := "HypergraphDualizerModel", name := "whole", desc := "()I" } : Jvm.MethodName) ∈ gT := gin gin_4 (i := 102) rfl rfl
theorem q4_104 : Jvm.Cond.instanceMethod ({ cls := "HypergraphDualizerModel", name := "whole", desc := "()I" } : Jvm.MethodName) ∈ gT := gin gin_4 (i := 104) rfl rfl
theorem q4_105 : Jvm.Cond.code ({ cls := "HypergraphDualizerModel", name := "whole", desc := "()I" } : Jvm.MethodName) prog_11_method_6_code (1 : Nat) (Option.some Jvm.ClassFile.FieldType.int) ∈ gT := gin gin_4 (i := 105) rfl rfl
theorem q4_106 : Jvm.Cond.methodLink "HypergraphDualizerModel" (87 : Nat) ({ cls := "HypergraphDualizerModel", name := "placeOf", desc := "(I)I" } : Jvm.MethodName) ∈ gT := gin gin_4 (i := 106) rfl rfl
theorem q4_108 : Jvm.Cond.instanceMethod ({ cls := "HypergraphDualizerModel", name := "placeOf", desc := "(I)I" } : Jvm.MethodName) ∈ gT := gin gin_4 (i := 108) rfl rfl
theorem q4_109 : Jvm.Cond.code ({ cls := "HypergraphDualizerModel", name := "placeOf", desc := "(I)I" } : Jvm.MethodName) prog_11_method_13_code (3 : Nat) (Option.some Jvm.ClassFile.FieldType.int) ∈ gT := gin gin_4 (i := 109) rfl rfl
theorem q4_110 : Jvm.Cond.methodLink "HypergraphDualizerModel" (80 : Nat) ({ cls := "HypergraphDualizerModel", name := "many", desc := "()I" } : Jvm.MethodName) ∈ gT := gin gin_4 (i := 110) rfl rfl
theorem q4_112 : Jvm.Cond.instanceMethod ({ cls := "HypergraphDualizerModel", name := "many", desc := "()I" } : Jvm.MethodName) ∈ gT := gin gin_4 (i := 112) rfl rfl
theorem q4_113 : Jvm.Cond.code ({ cls := "HypergraphDualizerModel", name := "many", desc := "()I" } : Jvm.MethodName) prog_11_method_5_code (1 : Nat) (Option.some Jvm.ClassFile.FieldType.int) ∈ gT := gin gin_4 (i := 113) rfl rfl
theorem q4_114 : Jvm.Cond.methodLink "HypergraphDualizerModel" (91 : Nat) ({ cls := "HypergraphDualizerModel", name := "keep", desc := "()V" } : Jvm.MethodName) ∈ gT := gin gin_4 (i := 114) rfl rfl
theorem q4_116 : Jvm.Cond.instanceMethod ({ cls := "HypergraphDualizerModel", name := "keep", desc := "()V" } : Jvm.MethodName) ∈ gT := gin gin_4 (i := 116) rfl rfl
theorem q4_117 : Jvm.Cond.code ({ cls := "HypergraphDualizerModel", name := "keep", desc := "()V" } : Jvm.MethodName) prog_11_method_10_code (2 : Nat) (Option.none : Option Jvm.ClassFile.FieldType) ∈ gT := gin gin_4 (i := 117) rfl rfl
theorem q4_118 : Jvm.Cond.methodLink "HypergraphDualizerModel" (94 : Nat) ({ cls := "HypergraphDualizerModel", name := "append", desc := "(I)V" } : Jvm.MethodName) ∈ gT := gin gin_4 (i := 118) rfl rfl
theorem q4_120 : Jvm.Cond.instanceMethod ({ cls := "HypergraphDualizerModel", name := "append", desc := "(I)V" } : Jvm.MethodName) ∈ gT := gin gin_4 (i := 120) rfl rfl
theorem q4_121 : Jvm.Cond.code ({ cls := "HypergraphDualizerModel", name := "append", desc := "(I)V" } : Jvm.MethodName) prog_11_method_14_code (2 : Nat) (Option.none : Option Jvm.ClassFile.FieldType) ∈ gT := gin gin_4 (i := 121) rfl rfl
theorem q4_122 : Jvm.Cond.methodLink "HypergraphDualizerLaw" (25 : Nat) ({ cls := "HypergraphDualizerModel", name := "removeEdge", desc := "(I)I" } : Jvm.MethodName) ∈ gT := gin gin_4 (i := 122) rfl rfl
theorem q4_123 : Jvm.Cond.instanceMethod ({ cls := "HypergraphDualizerModel", name := "removeEdge", desc := "(I)I" } : Jvm.MethodName) ∈ gT := gin gin_4 (i := 123) rfl rfl
theorem q4_124 : Jvm.Cond.selects "HypergraphDualizerModel" ({ cls := "HypergraphDualizerModel", name := "removeEdge", desc := "(I)I" } : Jvm.MethodName) ({ cls := "HypergraphDualizerModel", name := "removeEdge", desc := "(I)I" } : Jvm.MethodName) ∈ gT := gin gin_4 (i := 124) rfl rfl
theorem q4_125 : Jvm.Cond.code ({ cls := "HypergraphDualizerModel", name := "removeEdge", desc := "(I)I" } : Jvm.MethodName) prog_11_method_18_code (3 : Nat) (Option.some Jvm.ClassFile.FieldType.int) ∈ gT := gin gin_4 (i := 125) rfl rfl
theorem q4_126 : Jvm.Cond.methodLink "HypergraphDualizerModel" (98 : Nat) ({ cls := "HypergraphDualizerModel", name := "noEdge", desc := "(I)Z" } : Jvm.MethodName) ∈ gT := gin gin_4 (i := 126) rfl rfl
theorem q4_128 : Jvm.Cond.instanceMethod ({ cls := "HypergraphDualizerModel", name := "noEdge", desc := "(I)Z" } : Jvm.MethodName) ∈ gT := gin gin_4 (i := 128) rfl rfl
theorem q4_129 : Jvm.Cond.code ({ cls := "HypergraphDualizerModel", name := "noEdge", desc := "(I)Z" } : Jvm.MethodName) prog_11_method_17_code (2 : Nat) (Option.some Jvm.ClassFile.FieldType.boolean) ∈ gT := gin gin_4 (i := 129) rfl rfl
theorem q4_130 : Jvm.Cond.methodLink "HypergraphDualizerModel" (101 : Nat) ({ cls := "HypergraphDualizerModel", name := "drop", desc := "(I)V" } : Jvm.MethodName) ∈ gT := gin gin_4 (i := 130) rfl rfl
theorem q4_132 : Jvm.Cond.instanceMethod ({ cls := "HypergraphDualizerModel", name := "drop", desc := "(I)V" } : Jvm.MethodName) ∈ gT := gin gin_4 (i := 132) rfl rfl
theorem q4_133 : Jvm.Cond.code ({ cls := "HypergraphDualizerModel", name := "drop", desc := "(I)V" } : Jvm.MethodName) prog_11_method_15_code (3 : Nat) (Option.none : Option Jvm.ClassFile.FieldType) ∈ gT := gin gin_4 (i := 133) rfl rfl
theorem q4_134 : Jvm.Cond.methodLink "HypergraphDualizerLaw" (30 : Nat) ({ cls := "HypergraphDualizerModel", name := "minimize", desc := "()I" } : Jvm.MethodName) ∈ gT := gin gin_4 (i := 134) rfl rfl
theorem q4_135 : Jvm.Cond.instanceMethod ({ cls := "HypergraphDualizerModel", name := "minimize", desc := "()I" } : Jvm.MethodName) ∈ gT := gin gin_4 (i := 135) rfl rfl
theorem q4_136 : Jvm.Cond.selects "HypergraphDualizerModel" ({ cls := "HypergraphDualizerModel", name := "minimize", desc := "()I" } : Jvm.MethodName) ({ cls := "HypergraphDualizerModel", name := "minimize", desc := "()I" } : Jvm.MethodName) ∈ gT := gin gin_4 (i := 136) rfl rfl
theorem q4_137 : Jvm.Cond.code ({ cls := "HypergraphDualizerModel", name := "minimize", desc := "()I" } : Jvm.MethodName) prog_11_method_22_code (1 : Nat) (Option.some Jvm.ClassFile.FieldType.int) ∈ gT := gin gin_4 (i := 137) rfl rfl
theorem q4_138 : Jvm.Cond.methodLink "HypergraphDualizerModel" (107 : Nat) ({ cls := "HypergraphDualizerModel", name := "minimalEdges", desc := "()I" } : Jvm.MethodName) ∈ gT := gin gin_4 (i := 138) rfl rfl
theorem q4_140 : Jvm.Cond.instanceMethod ({ cls := "HypergraphDualizerModel", name := "minimalEdges", desc := "()I" } : Jvm.MethodName) ∈ gT := gin gin_4 (i := 140) rfl rfl
theorem q4_141 : Jvm.Cond.code ({ cls := "HypergraphDualizerModel", name := "minimalEdges", desc := "()I" } : Jvm.MethodName) prog_11_method_20_code (3 : Nat) (Option.some Jvm.ClassFile.FieldType.int) ∈ gT := gin gin_4 (i := 141) rfl rfl
theorem q4_142 : Jvm.Cond.methodLink "HypergraphDualizerModel" (104 : Nat) ({ cls := "HypergraphDualizerModel", name := "isMinimalEdge", desc := "(I)Z" } : Jvm.MethodName) ∈ gT := gin gin_4 (i := 142) rfl rfl
theorem q4_144 : Jvm.Cond.instanceMethod ({ cls := "HypergraphDualizerModel", name := "isMinimalEdge", desc := "(I)Z" } : Jvm.MethodName) ∈ gT := gin gin_4 (i := 144) rfl rfl
theorem q4_145 : Jvm.Cond.code ({ cls := "HypergraphDualizerModel", name := "isMinimalEdge", desc := "(I)Z" } : Jvm.MethodName) prog_11_method_19_code (4 : Nat) (Option.some Jvm.ClassFile.FieldType.boolean) ∈ gT := gin gin_4 (i := 145) rfl rfl
theorem q4_146 : Jvm.Cond.methodLink "HypergraphDualizerModel" (110 : Nat) ({ cls := "HypergraphDualizerModel", name := "keepOnly", desc := "(I)I" } : Jvm.MethodName) ∈ gT := gin gin_4 (i := 146) rfl rfl
theorem q4_148 : Jvm.Cond.instanceMethod ({ cls := "HypergraphDualizerModel", name := "keepOnly", desc := "(I)I" } : Jvm.MethodName) ∈ gT := gin gin_4 (i := 148) rfl rfl
theorem q4_149 : Jvm.Cond.code ({ cls := "HypergraphDualizerModel", name := "keepOnly", desc := "(I)I" } : Jvm.MethodName) prog_11_method_21_code (4 : Nat) (Option.some Jvm.ClassFile.FieldType.int) ∈ gT := gin gin_4 (i := 149) rfl rfl
theorem q4_150 : Jvm.Cond.methodLink "HypergraphDualizerLaw" (34 : Nat) ({ cls := "HypergraphDualizerModel", name := "contract", desc := "(I)I" } : Jvm.MethodName) ∈ gT := gin gin_4 (i := 150) rfl rfl
theorem q4_151 : Jvm.Cond.instanceMethod ({ cls := "HypergraphDualizerModel", name := "contract", desc := "(I)I" } : Jvm.MethodName) ∈ gT := gin gin_4 (i := 151) rfl rfl
theorem q4_152 : Jvm.Cond.selects "HypergraphDualizerModel" ({ cls := "HypergraphDualizerModel", name := "contract", desc := "(I)I" } : Jvm.MethodName) ({ cls := "HypergraphDualizerModel", name := "contract", desc := "(I)I" } : Jvm.MethodName) ∈ gT := gin gin_4 (i := 152) rfl rfl
theorem q4_153 : Jvm.Cond.code ({ cls := "HypergraphDualizerModel", name := "contract", desc := "(I)I" } : Jvm.MethodName) prog_11_method_24_code (5 : Nat) (Option.some Jvm.ClassFile.FieldType.int) ∈ gT := gin gin_4 (i := 153) rfl rfl
theorem q4_154 : Jvm.Cond.methodLink "HypergraphDualizerModel" (113 : Nat) ({ cls := "HypergraphDualizerModel", name := "noVertex", desc := "(I)Z" } : Jvm.MethodName) ∈ gT := gin gin_4 (i := 154) rfl rfl
theorem q4_156 : Jvm.Cond.instanceMethod ({ cls := "HypergraphDualizerModel", name := "noVertex", desc := "(I)Z" } : Jvm.MethodName) ∈ gT := gin gin_4 (i := 156) rfl rfl
theorem q4_157 : Jvm.Cond.code ({ cls := "HypergraphDualizerModel", name := "noVertex", desc := "(I)Z" } : Jvm.MethodName) prog_11_method_7_code (2 : Nat) (Option.some Jvm.ClassFile.FieldType.boolean) ∈ gT := gin gin_4 (i := 157) rfl rfl
theorem q4_158 : Jvm.Cond.methodLink "HypergraphDualizerModel" (116 : Nat) ({ cls := "HypergraphDualizerModel", name := "edgesWith", desc := "(I)I" } : Jvm.MethodName) ∈ gT := gin gin_4 (i := 158) rfl rfl
theorem q4_160 : Jvm.Cond.instanceMethod ({ cls := "HypergraphDualizerModel", name := "edgesWith", desc := "(I)I" } : Jvm.MethodName) ∈ gT := gin gin_4 (i := 160) rfl rfl
theorem q4_161 : Jvm.Cond.code ({ cls := "HypergraphDualizerModel", name := "edgesWith", desc := "(I)I" } : Jvm.MethodName) prog_11_method_23_code (4 : Nat) (Option.some Jvm.ClassFile.FieldType.int) ∈ gT := gin gin_4 (i := 161) rfl rfl
theorem q4_162 : Jvm.Cond.methodLink "HypergraphDualizerModel" (119 : Nat) ({ cls := "HypergraphDualizerModel", name := "bits", desc := "(I)I" } : Jvm.MethodName) ∈ gT := gin gin_4 (i := 162) rfl rfl
theorem q4_163 : Jvm.Cond.static ({ cls := "HypergraphDualizerModel", name := "bits", desc := "(I)I" } : Jvm.MethodName) ∈ gT := gin gin_4 (i := 163) rfl rfl
theorem q4_164 : Jvm.Cond.code ({ cls := "HypergraphDualizerModel", name := "bits", desc := "(I)I" } : Jvm.MethodName) prog_11_method_3_code (3 : Nat) (Option.some Jvm.ClassFile.FieldType.int) ∈ gT := gin gin_4 (i := 164) rfl rfl
theorem q4_165 : Jvm.Cond.methodLink "HypergraphDualizerLaw" (38 : Nat) ({ cls := "HypergraphDualizerModel", name := "delete", desc := "(I)I" } : Jvm.MethodName) ∈ gT := gin gin_4 (i := 165) rfl rfl
theorem q4_166 : Jvm.Cond.instanceMethod ({ cls := "HypergraphDualizerModel", name := "delete", desc := "(I)I" } : Jvm.MethodName) ∈ gT := gin gin_4 (i := 166) rfl rfl
theorem q4_167 : Jvm.Cond.selects "HypergraphDualizerModel" ({ cls := "HypergraphDualizerModel", name := "delete", desc := "(I)I" } : Jvm.MethodName) ({ cls := "HypergraphDualizerModel", name := "delete", desc := "(I)I" } : Jvm.MethodName) ∈ gT := gin gin_4 (i := 167) rfl rfl
theorem q4_168 : Jvm.Cond.code ({ cls := "HypergraphDualizerModel", name := "delete", desc := "(I)I" } : Jvm.MethodName) prog_11_method_25_code (3 : Nat) (Option.some Jvm.ClassFile.FieldType.int) ∈ gT := gin gin_4 (i := 168) rfl rfl
theorem q4_169 : Jvm.Cond.methodLink "HypergraphDualizerLaw" (54 : Nat) ({ cls := "HypergraphDualizerModel", name := "edge", desc := "(I)I" } : Jvm.MethodName) ∈ gT := gin gin_4 (i := 169) rfl rfl
theorem q4_170 : Jvm.Cond.instanceMethod ({ cls := "HypergraphDualizerModel", name := "edge", desc := "(I)I" } : Jvm.MethodName) ∈ gT := gin gin_4 (i := 170) rfl rfl
theorem q4_171 : Jvm.Cond.selects "HypergraphDualizerModel" ({ cls := "HypergraphDualizerModel", name := "edge", desc := "(I)I" } : Jvm.MethodName) ({ cls := "HypergraphDualizerModel", name := "edge", desc := "(I)I" } : Jvm.MethodName) ∈ gT := gin gin_4 (i := 171) rfl rfl
theorem q4_172 : Jvm.Cond.code ({ cls := "HypergraphDualizerModel", name := "edge", desc := "(I)I" } : Jvm.MethodName) prog_11_method_26_code (2 : Nat) (Option.some Jvm.ClassFile.FieldType.int) ∈ gT := gin gin_4 (i := 172) rfl rfl
theorem q4_173 : Jvm.Cond.methodLink "HypergraphDualizerLaw" (58 : Nat) ({ cls := "HypergraphDualizerModel", name := "value", desc := "(I)I" } : Jvm.MethodName) ∈ gT := gin gin_4 (i := 173) rfl rfl
theorem q4_174 : Jvm.Cond.instanceMethod ({ cls := "HypergraphDualizerModel", name := "value", desc := "(I)I" } : Jvm.MethodName) ∈ gT := gin gin_4 (i := 174) rfl rfl
theorem q4_175 : Jvm.Cond.selects "HypergraphDualizerModel" ({ cls := "HypergraphDualizerModel", name := "value", desc := "(I)I" } : Jvm.MethodName) ({ cls := "HypergraphDualizerModel", name := "value", desc := "(I)I" } : Jvm.MethodName) ∈ gT := gin gin_4 (i := 175) rfl rfl
theorem q4_176 : Jvm.Cond.code ({ cls := "HypergraphDualizerModel", name := "value", desc := "(I)I" } : Jvm.MethodName) prog_11_method_27_code (6 : Nat) (Option.some Jvm.ClassFile.FieldType.int) ∈ gT := gin gin_4 (i := 176) rfl rfl
theorem q4_177 : Jvm.Cond.methodLink "HypergraphDualizerLaw" (62 : Nat) ({ cls := "HypergraphDualizerModel", name := "edgesOf", desc := "(I)I" } : Jvm.MethodName) ∈ gT := gin gin_4 (i := 177) rfl rfl
theorem q4_178 : Jvm.Cond.instanceMethod ({ cls := "HypergraphDualizerModel", name := "edgesOf", desc := "(I)I" } : Jvm.MethodName) ∈ gT := gin gin_4 (i := 178) rfl rfl
theorem q4_179 : Jvm.Cond.selects "HypergraphDualizerModel" ({ cls := "HypergraphDualizerModel", name := "edgesOf", desc := "(I)I" } : Jvm.MethodName) ({ cls := "HypergraphDualizerModel", name := "edgesOf", desc := "(I)I" } : Jvm.MethodName) ∈ gT := gin gin_4 (i := 179) rfl rfl
theorem q4_180 : Jvm.Cond.code ({ cls := "HypergraphDualizerModel", name := "edgesOf", desc := "(I)I" } : Jvm.MethodName) prog_11_method_28_code (2 : Nat) (Option.some Jvm.ClassFile.FieldType.int) ∈ gT := gin gin_4 (i := 180) rfl rfl
theorem q4_181 : Jvm.Cond.methodLink "HypergraphDualizerLaw" (67 : Nat) ({ cls := "HypergraphDualizerModel", name := "setWeight", desc := "(II)I" } : Jvm.MethodName) ∈ gT := gin gin_4 (i := 181) rfl rfl
theorem q4_182 : Jvm.Cond.instanceMethod ({ cls := "HypergraphDualizerModel", name := "setWeight", desc := "(II)I" } : Jvm.MethodName) ∈ gT := gin gin_4 (i := 182) rfl rfl
theorem q4_183 : Jvm.Cond.selects "HypergraphDualizerModel" ({ cls := "HypergraphDualizerModel", name := "setWeight", desc := "(II)I" } : Jvm.MethodName) ({ cls := "HypergraphDualizerModel", name := "setWeight", desc := "(II)I" } : Jvm.MethodName) ∈ gT := gin gin_4 (i := 183) rfl rfl
theorem q4_184 : Jvm.Cond.code ({ cls := "HypergraphDualizerModel", name := "setWeight", desc := "(II)I" } : Jvm.MethodName) prog_11_method_29_code (4 : Nat) (Option.some Jvm.ClassFile.FieldType.int) ∈ gT := gin gin_4 (i := 184) rfl rfl
theorem q4_185 : Jvm.Cond.methodLink "HypergraphDualizerLaw" (71 : Nat) ({ cls := "HypergraphDualizerModel", name := "missed", desc := "(I)I" } : Jvm.MethodName) ∈ gT := gin gin_4 (i := 185) rfl rfl
theorem q4_186 : Jvm.Cond.instanceMethod ({ cls := "HypergraphDualizerModel", name := "missed", desc := "(I)I" } : Jvm.MethodName) ∈ gT := gin gin_4 (i := 186) rfl rfl
theorem q4_187 : Jvm.Cond.selects "HypergraphDualizerModel" ({ cls := "HypergraphDualizerModel", name := "missed", desc := "(I)I" } : Jvm.MethodName) ({ cls := "HypergraphDualizerModel", name := "missed", desc := "(I)I" } : Jvm.MethodName) ∈ gT := gin gin_4 (i := 187) rfl rfl
theorem q4_188 : Jvm.Cond.code ({ cls := "HypergraphDualizerModel", name := "missed", desc := "(I)I" } : Jvm.MethodName) prog_11_method_33_code (2 : Nat) (Option.some Jvm.ClassFile.FieldType.int) ∈ gT := gin gin_4 (i := 188) rfl rfl
theorem q4_189 : Jvm.Cond.methodLink "HypergraphDualizerModel" (126 : Nat) ({ cls := "HypergraphDualizerModel", name := "missedBy", desc := "(I)I" } : Jvm.MethodName) ∈ gT := gin gin_4 (i := 189) rfl rfl
theorem q4_191 : Jvm.Cond.instanceMethod ({ cls := "HypergraphDualizerModel", name := "missedBy", desc := "(I)I" } : Jvm.MethodName) ∈ gT := gin gin_4 (i := 191) rfl rfl
theorem q4_192 : Jvm.Cond.code ({ cls := "HypergraphDualizerModel", name := "missedBy", desc := "(I)I" } : Jvm.MethodName) prog_11_method_30_code (4 : Nat) (Option.some Jvm.ClassFile.FieldType.int) ∈ gT := gin gin_4 (i := 192) rfl rfl
theorem q4_193 : Jvm.Cond.methodLink "HypergraphDualizerLaw" (75 : Nat) ({ cls := "HypergraphDualizerModel", name := "privateEdges", desc := "(II)I" } : Jvm.MethodName) ∈ gT := gin gin_4 (i := 193) rfl rfl
theorem q4_194 : Jvm.Cond.instanceMethod ({ cls := "HypergraphDualizerModel", name := "privateEdges", desc := "(II)I" } : Jvm.MethodName) ∈ gT := gin gin_4 (i := 194) rfl rfl
theorem q4_195 : Jvm.Cond.selects "HypergraphDualizerModel" ({ cls := "HypergraphDualizerModel", name := "privateEdges", desc := "(II)I" } : Jvm.MethodName) ({ cls := "HypergraphDualizerModel", name := "privateEdges", desc := "(II)I" } : Jvm.MethodName) ∈ gT := gin gin_4 (i := 195) rfl rfl
theorem q4_196 : Jvm.Cond.code ({ cls := "HypergraphDualizerModel", name := "privateEdges", desc := "(II)I" } : Jvm.MethodName) prog_11_method_34_code (3 : Nat) (Option.some Jvm.ClassFile.FieldType.int) ∈ gT := gin gin_4 (i := 196) rfl rfl
theorem q4_197 : Jvm.Cond.methodLink "HypergraphDualizerModel" (122 : Nat) ({ cls := "HypergraphDualizerModel", name := "privateTo", desc := "(II)I" } : Jvm.MethodName) ∈ gT := gin gin_4 (i := 197) rfl rfl
theorem q4_199 : Jvm.Cond.instanceMethod ({ cls := "HypergraphDualizerModel", name := "privateTo", desc := "(II)I" } : Jvm.MethodName) ∈ gT := gin gin_4 (i := 199) rfl rfl
theorem q4_200 : Jvm.Cond.code ({ cls := "HypergraphDualizerModel", name := "privateTo", desc := "(II)I" } : Jvm.MethodName) prog_11_method_31_code (5 : Nat) (Option.some Jvm.ClassFile.FieldType.int) ∈ gT := gin gin_4 (i := 200) rfl rfl
theorem q4_201 : Jvm.Cond.methodLink "HypergraphDualizerLaw" (79 : Nat) ({ cls := "HypergraphDualizerModel", name := "kindOf", desc := "(I)I" } : Jvm.MethodName) ∈ gT := gin gin_4 (i := 201) rfl rfl
theorem q4_202 : Jvm.Cond.instanceMethod ({ cls := "HypergraphDualizerModel", name := "kindOf", desc := "(I)I" } : Jvm.MethodName) ∈ gT := gin gin_4 (i := 202) rfl rfl
theorem q4_203 : Jvm.Cond.selects "HypergraphDualizerModel" ({ cls := "HypergraphDualizerModel", name := "kindOf", desc := "(I)I" } : Jvm.MethodName) ({ cls := "HypergraphDualizerModel", name := "kindOf", desc := "(I)I" } : Jvm.MethodName) ∈ gT := gin gin_4 (i := 203) rfl rfl
theorem q4_204 : Jvm.Cond.code ({ cls := "HypergraphDualizerModel", name := "kindOf", desc := "(I)I" } : Jvm.MethodName) prog_11_method_35_code (2 : Nat) (Option.some Jvm.ClassFile.FieldType.int) ∈ gT := gin gin_4 (i := 204) rfl rfl
theorem q4_205 : Jvm.Cond.methodLink "HypergraphDualizerModel" (129 : Nat) ({ cls := "HypergraphDualizerModel", name := "haveAllPrivate", desc := "(I)Z" } : Jvm.MethodName) ∈ gT := gin gin_4 (i := 205) rfl rfl
theorem q4_207 : Jvm.Cond.instanceMethod ({ cls := "HypergraphDualizerModel", name := "haveAllPrivate", desc := "(I)Z" } : Jvm.MethodName) ∈ gT := gin gin_4 (i := 207) rfl rfl
theorem q4_208 : Jvm.Cond.code ({ cls := "HypergraphDualizerModel", name := "haveAllPrivate", desc := "(I)Z" } : Jvm.MethodName) prog_11_method_32_code (4 : Nat) (Option.some Jvm.ClassFile.FieldType.boolean) ∈ gT := gin gin_4 (i := 208) rfl rfl
theorem q4_209 : Jvm.Cond.methodLink "HypergraphDualizerLaw" (83 : Nat) ({ cls := "HypergraphDualizerModel", name := "shrink", desc := "(I)I" } : Jvm.MethodName) ∈ gT := gin gin_4 (i := 209) rfl rfl
theorem q4_210 : Jvm.Cond.instanceMethod ({ cls := "HypergraphDualizerModel", name := "shrink", desc := "(I)I" } : Jvm.MethodName) ∈ gT := gin gin_4 (i := 210) rfl rfl
theorem q4_211 : Jvm.Cond.selects "HypergraphDualizerModel" ({ cls := "HypergraphDualizerModel", name := "shrink", desc := "(I)I" } : Jvm.MethodName) ({ cls := "HypergraphDualizerModel", name := "shrink", desc := "(I)I" } : Jvm.MethodName) ∈ gT := gin gin_4 (i := 211) rfl rfl
theorem q4_212 : Jvm.Cond.code ({ cls := "HypergraphDualizerModel", name := "shrink", desc := "(I)I" } : Jvm.MethodName) prog_11_method_36_code (4 : Nat) (Option.some Jvm.ClassFile.FieldType.int) ∈ gT := gin gin_4 (i := 212) rfl rfl
theorem q4_213 : Jvm.Cond.methodLink "HypergraphDualizerLaw" (87 : Nat) ({ cls := "HypergraphDualizerModel", name := "grow", desc := "(I)I" } : Jvm.MethodName) ∈ gT := gin gin_4 (i := 213) rfl rfl
theorem q4_214 : Jvm.Cond.instanceMethod ({ cls := "HypergraphDualizerModel", name := "grow", desc := "(I)I" } : Jvm.MethodName) ∈ gT := gin gin_4 (i := 214) rfl rfl
theorem q4_215 : Jvm.Cond.selects "HypergraphDualizerModel" ({ cls := "HypergraphDualizerModel", name := "grow", desc := "(I)I" } : Jvm.MethodName) ({ cls := "HypergraphDualizerModel", name := "grow", desc := "(I)I" } : Jvm.MethodName) ∈ gT := gin gin_4 (i := 215) rfl rfl
theorem q4_216 : Jvm.Cond.code ({ cls := "HypergraphDualizerModel", name := "grow", desc := "(I)I" } : Jvm.MethodName) prog_11_method_37_code (6 : Nat) (Option.some Jvm.ClassFile.FieldType.int) ∈ gT := gin gin_4 (i := 216) rfl rfl
theorem q4_217 : Jvm.Cond.methodLink "HypergraphDualizerLaw" (42 : Nat) ({ cls := "HypergraphDualizerModel", name := "dualize", desc := "()I" } : Jvm.MethodName) ∈ gT := gin gin_4 (i := 217) rfl rfl
theorem q4_218 : Jvm.Cond.instanceMethod ({ cls := "HypergraphDualizerModel", name := "dualize", desc := "()I" } : Jvm.MethodName) ∈ gT := gin gin_4 (i := 218) rfl rfl
theorem q4_219 : Jvm.Cond.selects "HypergraphDualizerModel" ({ cls := "HypergraphDualizerModel", name := "dualize", desc := "()I" } : Jvm.MethodName) ({ cls := "HypergraphDualizerModel", name := "dualize", desc := "()I" } : Jvm.MethodName) ∈ gT := gin gin_4 (i := 219) rfl rfl
theorem q4_220 : Jvm.Cond.code ({ cls := "HypergraphDualizerModel", name := "dualize", desc := "()I" } : Jvm.MethodName) prog_11_method_43_code (2 : Nat) (Option.some Jvm.ClassFile.FieldType.int) ∈ gT := gin gin_4 (i := 220) rfl rfl
theorem q4_221 : Jvm.Cond.methodLink "HypergraphDualizerModel" (154 : Nat) ({ cls := "HypergraphDualizerModel", name := "search", desc := "()V" } : Jvm.MethodName) ∈ gT := gin gin_4 (i := 221) rfl rfl
theorem q4_223 : Jvm.Cond.instanceMethod ({ cls := "HypergraphDualizerModel", name := "search", desc := "()V" } : Jvm.MethodName) ∈ gT := gin gin_4 (i := 223) rfl rfl
theorem q4_224 : Jvm.Cond.code ({ cls := "HypergraphDualizerModel", name := "search", desc := "()V" } : Jvm.MethodName) prog_11_method_41_code (2 : Nat) (Option.none : Option Jvm.ClassFile.FieldType) ∈ gT := gin gin_4 (i := 224) rfl rfl
theorem q4_225 : Jvm.Cond.methodLink "HypergraphDualizerModel" (148 : Nat) ({ cls := "HypergraphDualizerModel", name := "visit", desc := "(I)Z" } : Jvm.MethodName) ∈ gT := gin gin_4 (i := 225) rfl rfl
theorem q4_227 : Jvm.Cond.instanceMethod ({ cls := "HypergraphDualizerModel", name := "visit", desc := "(I)Z" } : Jvm.MethodName) ∈ gT := gin gin_4 (i := 227) rfl rfl
theorem q4_228 : Jvm.Cond.code ({ cls := "HypergraphDualizerModel", name := "visit", desc := "(I)Z" } : Jvm.MethodName) prog_11_method_39_code (4 : Nat) (Option.some Jvm.ClassFile.FieldType.boolean) ∈ gT := gin gin_4 (i := 228) rfl rfl
theorem q4_229 : Jvm.Cond.methodLink "HypergraphDualizerModel" (141 : Nat) ({ cls := "HypergraphDualizerModel", name := "toTry", desc := "(II)I" } : Jvm.MethodName) ∈ gT := gin gin_4 (i := 229) rfl rfl
theorem q4_231 : Jvm.Cond.instanceMethod ({ cls := "HypergraphDualizerModel", name := "toTry", desc := "(II)I" } : Jvm.MethodName) ∈ gT := gin gin_4 (i := 231) rfl rfl
theorem q4_232 : Jvm.Cond.code ({ cls := "HypergraphDualizerModel", name := "toTry", desc := "(II)I" } : Jvm.MethodName) prog_11_method_38_code (6 : Nat) (Option.some Jvm.ClassFile.FieldType.int) ∈ gT := gin gin_4 (i := 232) rfl rfl
theorem q4_233 : Jvm.Cond.methodLink "HypergraphDualizerModel" (151 : Nat) ({ cls := "HypergraphDualizerModel", name := "lowest", desc := "(I)I" } : Jvm.MethodName) ∈ gT := gin gin_4 (i := 233) rfl rfl
theorem q4_234 : Jvm.Cond.static ({ cls := "HypergraphDualizerModel", name := "lowest", desc := "(I)I" } : Jvm.MethodName) ∈ gT := gin gin_4 (i := 234) rfl rfl
theorem q4_235 : Jvm.Cond.code ({ cls := "HypergraphDualizerModel", name := "lowest", desc := "(I)I" } : Jvm.MethodName) prog_11_method_40_code (1 : Nat) (Option.some Jvm.ClassFile.FieldType.int) ∈ gT := gin gin_4 (i := 235) rfl rfl
theorem q4_236 : Jvm.Cond.methodLink "HypergraphDualizerModel" (157 : Nat) ({ cls := "HypergraphDualizerModel", name := "sortAnswers", desc := "()V" } : Jvm.MethodName) ∈ gT := gin gin_4 (i := 236) rfl rfl
theorem q4_238 : Jvm.Cond.instanceMethod ({ cls := "HypergraphDualizerModel", name := "sortAnswers", desc := "()V" } : Jvm.MethodName) ∈ gT := gin gin_4 (i := 238) rfl rfl
theorem q4_239 : Jvm.Cond.code ({ cls := "HypergraphDualizerModel", name := "sortAnswers", desc := "()V" } : Jvm.MethodName) prog_11_method_42_code (4 : Nat) (Option.none : Option Jvm.ClassFile.FieldType) ∈ gT := gin gin_4 (i := 239) rfl rfl
theorem q5_0 : Jvm.Cond.methodLink "HypergraphDualizerLaw" (91 : Nat) ({ cls := "HypergraphDualizerModel", name := "answerCount", desc := "()I" } : Jvm.MethodName) ∈ gT := gin gin_5 (i := 0) rfl rfl
theorem q5_1 : Jvm.Cond.instanceMethod ({ cls := "HypergraphDualizerModel", name := "answerCount", desc := "()I" } : Jvm.MethodName) ∈ gT := gin gin_5 (i := 1) rfl rfl
theorem q5_2 : Jvm.Cond.selects "HypergraphDualizerModel" ({ cls := "HypergraphDualizerModel", name := "answerCount", desc := "()I" } : Jvm.MethodName) ({ cls := "HypergraphDualizerModel", name := "answerCount", desc := "()I" } : Jvm.MethodName) ∈ gT := gin gin_5 (i := 2) rfl rfl
theorem q5_3 : Jvm.Cond.code ({ cls := "HypergraphDualizerModel", name := "answerCount", desc := "()I" } : Jvm.MethodName) prog_11_method_44_code (1 : Nat) (Option.some Jvm.ClassFile.FieldType.int) ∈ gT := gin gin_5 (i := 3) rfl rfl
theorem q5_4 : Jvm.Cond.methodLink "HypergraphDualizerLaw" (95 : Nat) ({ cls := "HypergraphDualizerModel", name := "answer", desc := "(I)I" } : Jvm.MethodName) ∈ gT := gin gin_5 (i := 4) rfl rfl
theorem q5_5 : Jvm.Cond.instanceMethod ({ cls := "HypergraphDualizerModel", name := "answer", desc := "(I)I" } : Jvm.MethodName) ∈ gT := gin gin_5 (i := 5) rfl rfl
theorem q5_6 : Jvm.Cond.selects "HypergraphDualizerModel" ({ cls := "HypergraphDualizerModel", name := "answer", desc := "(I)I" } : Jvm.MethodName) ({ cls := "HypergraphDualizerModel", name := "answer", desc := "(I)I" } : Jvm.MethodName) ∈ gT := gin gin_5 (i := 6) rfl rfl
theorem q5_7 : Jvm.Cond.code ({ cls := "HypergraphDualizerModel", name := "answer", desc := "(I)I" } : Jvm.MethodName) prog_11_method_45_code (2 : Nat) (Option.some Jvm.ClassFile.FieldType.int) ∈ gT := gin gin_5 (i := 7) rfl rfl
theorem q5_8 : Jvm.Cond.methodLink "HypergraphDualizerLaw" (99 : Nat) ({ cls := "HypergraphDualizerModel", name := "delay", desc := "(I)I" } : Jvm.MethodName) ∈ gT := gin gin_5 (i := 8) rfl rfl
theorem q5_9 : Jvm.Cond.instanceMethod ({ cls := "HypergraphDualizerModel", name := "delay", desc := "(I)I" } : Jvm.MethodName) ∈ gT := gin gin_5 (i := 9) rfl rfl
theorem q5_10 : Jvm.Cond.selects "HypergraphDualizerModel" ({ cls := "HypergraphDualizerModel", name := "delay", desc := "(I)I" } : Jvm.MethodName) ({ cls := "HypergraphDualizerModel", name := "delay", desc := "(I)I" } : Jvm.MethodName) ∈ gT := gin gin_5 (i := 10) rfl rfl
theorem q5_11 : Jvm.Cond.code ({ cls := "HypergraphDualizerModel", name := "delay", desc := "(I)I" } : Jvm.MethodName) prog_11_method_46_code (2 : Nat) (Option.some Jvm.ClassFile.FieldType.int) ∈ gT := gin gin_5 (i := 11) rfl rfl
theorem q5_12 : Jvm.Cond.methodLink "HypergraphDualizerLaw" (103 : Nat) ({ cls := "HypergraphDualizerModel", name := "visits", desc := "()I" } : Jvm.MethodName) ∈ gT := gin gin_5 (i := 12) rfl rfl
theorem q5_13 : Jvm.Cond.instanceMethod ({ cls := "HypergraphDualizerModel", name := "visits", desc := "()I" } : Jvm.MethodName) ∈ gT := gin gin_5 (i := 13) rfl rfl
theorem q5_14 : Jvm.Cond.selects "HypergraphDualizerModel" ({ cls := "HypergraphDualizerModel", name := "visits", desc := "()I" } : Jvm.MethodName) ({ cls := "HypergraphDualizerModel", name := "visits", desc := "()I" } : Jvm.MethodName) ∈ gT := gin gin_5 (i := 14) rfl rfl
theorem q5_15 : Jvm.Cond.code ({ cls := "HypergraphDualizerModel", name := "visits", desc := "()I" } : Jvm.MethodName) prog_11_method_47_code (1 : Nat) (Option.some Jvm.ClassFile.FieldType.int) ∈ gT := gin gin_5 (i := 15) rfl rfl
theorem q5_16 : Jvm.Cond.methodLink "HypergraphDualizerLaw" (107 : Nat) ({ cls := "HypergraphDualizerModel", name := "next", desc := "(I)I" } : Jvm.MethodName) ∈ gT := gin gin_5 (i := 16) rfl rfl
theorem q5_17 : Jvm.Cond.instanceMethod ({ cls := "HypergraphDualizerModel", name := "next", desc := "(I)I" } : Jvm.MethodName) ∈ gT := gin gin_5 (i := 17) rfl rfl
theorem q5_18 : Jvm.Cond.selects "HypergraphDualizerModel" ({ cls := "HypergraphDualizerModel", name := "next", desc := "(I)I" } : Jvm.MethodName) ({ cls := "HypergraphDualizerModel", name := "next", desc := "(I)I" } : Jvm.MethodName) ∈ gT := gin gin_5 (i := 18) rfl rfl
theorem q5_19 : Jvm.Cond.code ({ cls := "HypergraphDualizerModel", name := "next", desc := "(I)I" } : Jvm.MethodName) prog_11_method_48_code (4 : Nat) (Option.some Jvm.ClassFile.FieldType.int) ∈ gT := gin gin_5 (i := 19) rfl rfl
theorem q5_20 : Jvm.Cond.methodLink "HypergraphDualizerLaw" (111 : Nat) ({ cls := "HypergraphDualizerModel", name := "answersOfSize", desc := "(I)I" } : Jvm.MethodName) ∈ gT := gin gin_5 (i := 20) rfl rfl
theorem q5_21 : Jvm.Cond.instanceMethod ({ cls := "HypergraphDualizerModel", name := "answersOfSize", desc := "(I)I" } : Jvm.MethodName) ∈ gT := gin gin_5 (i := 21) rfl rfl
theorem q5_22 : Jvm.Cond.selects "HypergraphDualizerModel" ({ cls := "HypergraphDualizerModel", name := "answersOfSize", desc := "(I)I" } : Jvm.MethodName) ({ cls := "HypergraphDualizerModel", name := "answersOfSize", desc := "(I)I" } : Jvm.MethodName) ∈ gT := gin gin_5 (i := 22) rfl rfl
theorem q5_23 : Jvm.Cond.code ({ cls := "HypergraphDualizerModel", name := "answersOfSize", desc := "(I)I" } : Jvm.MethodName) prog_11_method_49_code (4 : Nat) (Option.some Jvm.ClassFile.FieldType.int) ∈ gT := gin gin_5 (i := 23) rfl rfl
theorem q5_24 : Jvm.Cond.methodLink "HypergraphDualizerLaw" (115 : Nat) ({ cls := "HypergraphDualizerModel", name := "answersWith", desc := "(I)I" } : Jvm.MethodName) ∈ gT := gin gin_5 (i := 24) rfl rfl
theorem q5_25 : Jvm.Cond.instanceMethod ({ cls := "HypergraphDualizerModel", name := "answersWith", desc := "(I)I" } : Jvm.MethodName) ∈ gT := gin gin_5 (i := 25) rfl rfl
theorem q5_26 : Jvm.Cond.selects "HypergraphDualizerModel" ({ cls := "HypergraphDualizerModel", name := "answersWith", desc := "(I)I" } : Jvm.MethodName) ({ cls := "HypergraphDualizerModel", name := "answersWith", desc := "(I)I" } : Jvm.MethodName) ∈ gT := gin gin_5 (i := 26) rfl rfl
theorem q5_27 : Jvm.Cond.code ({ cls := "HypergraphDualizerModel", name := "answersWith", desc := "(I)I" } : Jvm.MethodName) prog_11_method_50_code (4 : Nat) (Option.some Jvm.ClassFile.FieldType.int) ∈ gT := gin gin_5 (i := 27) rfl rfl
theorem q5_28 : Jvm.Cond.methodLink "HypergraphDualizerLaw" (119 : Nat) ({ cls := "HypergraphDualizerModel", name := "lightest", desc := "(I)I" } : Jvm.MethodName) ∈ gT := gin gin_5 (i := 28) rfl rfl
theorem q5_29 : Jvm.Cond.instanceMethod ({ cls := "HypergraphDualizerModel", name := "lightest", desc := "(I)I" } : Jvm.MethodName) ∈ gT := gin gin_5 (i := 29) rfl rfl
theorem q5_30 : Jvm.Cond.selects "HypergraphDualizerModel" ({ cls := "HypergraphDualizerModel", name := "lightest", desc := "(I)I" } : Jvm.MethodName) ({ cls := "HypergraphDualizerModel", name := "lightest", desc := "(I)I" } : Jvm.MethodName) ∈ gT := gin gin_5 (i := 30) rfl rfl
theorem q5_31 : Jvm.Cond.code ({ cls := "HypergraphDualizerModel", name := "lightest", desc := "(I)I" } : Jvm.MethodName) prog_11_method_52_code (7 : Nat) (Option.some Jvm.ClassFile.FieldType.int) ∈ gT := gin gin_5 (i := 31) rfl rfl
theorem q5_32 : Jvm.Cond.methodLink "HypergraphDualizerModel" (160 : Nat) ({ cls := "HypergraphDualizerModel", name := "weighs", desc := "(I)I" } : Jvm.MethodName) ∈ gT := gin gin_5 (i := 32) rfl rfl
theorem q5_34 : Jvm.Cond.instanceMethod ({ cls := "HypergraphDualizerModel", name := "weighs", desc := "(I)I" } : Jvm.MethodName) ∈ gT := gin gin_5 (i := 34) rfl rfl
theorem q5_35 : Jvm.Cond.code ({ cls := "HypergraphDualizerModel", name := "weighs", desc := "(I)I" } : Jvm.MethodName) prog_11_method_51_code (4 : Nat) (Option.some Jvm.ClassFile.FieldType.int) ∈ gT := gin gin_5 (i := 35) rfl rfl
theorem q5_36 : Jvm.Cond.methodLink "HypergraphDualizerLaw" (123 : Nat) ({ cls := "HypergraphDualizerModel", name := "weightOf", desc := "(I)I" } : Jvm.MethodName) ∈ gT := gin gin_5 (i := 36) rfl rfl
theorem q5_37 : Jvm.Cond.instanceMethod ({ cls := "HypergraphDualizerModel", name := "weightOf", desc := "(I)I" } : Jvm.MethodName) ∈ gT := gin gin_5 (i := 37) rfl rfl
theorem q5_38 : Jvm.Cond.selects "HypergraphDualizerModel" ({ cls := "HypergraphDualizerModel", name := "weightOf", desc := "(I)I" } : Jvm.MethodName) ({ cls := "HypergraphDualizerModel", name := "weightOf", desc := "(I)I" } : Jvm.MethodName) ∈ gT := gin gin_5 (i := 38) rfl rfl
theorem q5_39 : Jvm.Cond.code ({ cls := "HypergraphDualizerModel", name := "weightOf", desc := "(I)I" } : Jvm.MethodName) prog_11_method_53_code (2 : Nat) (Option.some Jvm.ClassFile.FieldType.int) ∈ gT := gin gin_5 (i := 39) rfl rfl
theorem q5_40 : Jvm.Cond.methodLink "HypergraphDualizerLaw" (127 : Nat) ({ cls := "HypergraphDualizerModel", name := "hittingSets", desc := "(I)I" } : Jvm.MethodName) ∈ gT := gin gin_5 (i := 40) rfl rfl
theorem q5_41 : Jvm.Cond.instanceMethod ({ cls := "HypergraphDualizerModel", name := "hittingSets", desc := "(I)I" } : Jvm.MethodName) ∈ gT := gin gin_5 (i := 41) rfl rfl
theorem q5_42 : Jvm.Cond.selects "HypergraphDualizerModel" ({ cls := "HypergraphDualizerModel", name := "hittingSets", desc := "(I)I" } : Jvm.MethodName) ({ cls := "HypergraphDualizerModel", name := "hittingSets", desc := "(I)I" } : Jvm.MethodName) ∈ gT := gin gin_5 (i := 42) rfl rfl
theorem q5_43 : Jvm.Cond.code ({ cls := "HypergraphDualizerModel", name := "hittingSets", desc := "(I)I" } : Jvm.MethodName) prog_11_method_55_code (2 : Nat) (Option.some Jvm.ClassFile.FieldType.int) ∈ gT := gin gin_5 (i := 43) rfl rfl
theorem q5_44 : Jvm.Cond.methodLink "HypergraphDualizerModel" (163 : Nat) ({ cls := "HypergraphDualizerModel", name := "hitting", desc := "(I)I" } : Jvm.MethodName) ∈ gT := gin gin_5 (i := 44) rfl rfl
theorem q5_46 : Jvm.Cond.instanceMethod ({ cls := "HypergraphDualizerModel", name := "hitting", desc := "(I)I" } : Jvm.MethodName) ∈ gT := gin gin_5 (i := 46) rfl rfl
theorem q5_47 : Jvm.Cond.code ({ cls := "HypergraphDualizerModel", name := "hitting", desc := "(I)I" } : Jvm.MethodName) prog_11_method_54_code (4 : Nat) (Option.some Jvm.ClassFile.FieldType.int) ∈ gT := gin gin_5 (i := 47) rfl rfl
theorem q5_48 : Jvm.Cond.methodLink "HypergraphDualizerLaw" (132 : Nat) ({ cls := "HypergraphDualizerModel", name := "chance", desc := "()F" } : Jvm.MethodName) ∈ gT := gin gin_5 (i := 48) rfl rfl
theorem q5_49 : Jvm.Cond.instanceMethod ({ cls := "HypergraphDualizerModel", name := "chance", desc := "()F" } : Jvm.MethodName) ∈ gT := gin gin_5 (i := 49) rfl rfl
theorem q5_50 : Jvm.Cond.selects "HypergraphDualizerModel" ({ cls := "HypergraphDualizerModel", name := "chance", desc := "()F" } : Jvm.MethodName) ({ cls := "HypergraphDualizerModel", name := "chance", desc := "()F" } : Jvm.MethodName) ∈ gT := gin gin_5 (i := 50) rfl rfl
theorem q5_51 : Jvm.Cond.code ({ cls := "HypergraphDualizerModel", name := "chance", desc := "()F" } : Jvm.MethodName) prog_11_method_56_code (1 : Nat) (Option.some Jvm.ClassFile.FieldType.float) ∈ gT := gin gin_5 (i := 51) rfl rfl
theorem q5_52 : Jvm.Cond.methodLink "HypergraphDualizerLaw" (136 : Nat) ({ cls := "HypergraphDualizerModel", name := "diagramSize", desc := "(I)I" } : Jvm.MethodName) ∈ gT := gin gin_5 (i := 52) rfl rfl
theorem q5_53 : Jvm.Cond.instanceMethod ({ cls := "HypergraphDualizerModel", name := "diagramSize", desc := "(I)I" } : Jvm.MethodName) ∈ gT := gin gin_5 (i := 53) rfl rfl
theorem q5_54 : Jvm.Cond.selects "HypergraphDualizerModel" ({ cls := "HypergraphDualizerModel", name := "diagramSize", desc := "(I)I" } : Jvm.MethodName) ({ cls := "HypergraphDualizerModel", name := "diagramSize", desc := "(I)I" } : Jvm.MethodName) ∈ gT := gin gin_5 (i := 54) rfl rfl
theorem q5_55 : Jvm.Cond.code ({ cls := "HypergraphDualizerModel", name := "diagramSize", desc := "(I)I" } : Jvm.MethodName) prog_11_method_61_code (3 : Nat) (Option.some Jvm.ClassFile.FieldType.int) ∈ gT := gin gin_5 (i := 55) rfl rfl
theorem q5_56 : Jvm.Cond.methodLink "HypergraphDualizerModel" (179 : Nat) ({ cls := "HypergraphDualizerModel", name := "diagramBarred", desc := "(I)I" } : Jvm.MethodName) ∈ gT := gin gin_5 (i := 56) rfl rfl
theorem q5_58 : Jvm.Cond.instanceMethod ({ cls := "HypergraphDualizerModel", name := "diagramBarred", desc := "(I)I" } : Jvm.MethodName) ∈ gT := gin gin_5 (i := 58) rfl rfl
theorem q5_59 : Jvm.Cond.code ({ cls := "HypergraphDualizerModel", name := "diagramBarred", desc := "(I)I" } : Jvm.MethodName) prog_11_method_60_code (2 : Nat) (Option.some Jvm.ClassFile.FieldType.int) ∈ gT := gin gin_5 (i := 59) rfl rfl
theorem q5_60 : Jvm.Cond.methodLink "HypergraphDualizerModel" (176 : Nat) ({ cls := "HypergraphDualizerModel", name := "layDiagram", desc := "(I)V" } : Jvm.MethodName) ∈ gT := gin gin_5 (i := 60) rfl rfl
theorem q5_62 : Jvm.Cond.instanceMethod ({ cls := "HypergraphDualizerModel", name := "layDiagram", desc := "(I)V" } : Jvm.MethodName) ∈ gT := gin gin_5 (i := 62) rfl rfl
theorem q5_63 : Jvm.Cond.code ({ cls := "HypergraphDualizerModel", name := "layDiagram", desc := "(I)V" } : Jvm.MethodName) prog_11_method_59_code (6 : Nat) (Option.none : Option Jvm.ClassFile.FieldType) ∈ gT := gin gin_5 (i := 63) rfl rfl
theorem q5_64 : Jvm.Cond.methodLink "HypergraphDualizerModel" (169 : Nat) ({ cls := "HypergraphDualizerModel", name := "layFamily", desc := "(I)V" } : Jvm.MethodName) ∈ gT := gin gin_5 (i := 64) rfl rfl
theorem q5_66 : Jvm.Cond.instanceMethod ({ cls := "HypergraphDualizerModel", name := "layFamily", desc := "(I)V" } : Jvm.MethodName) ∈ gT := gin gin_5 (i := 66) rfl rfl
theorem q5_67 : Jvm.Cond.code ({ cls := "HypergraphDualizerModel", name := "layFamily", desc := "(I)V" } : Jvm.MethodName) prog_11_method_57_code (3 : Nat) (Option.none : Option Jvm.ClassFile.FieldType) ∈ gT := gin gin_5 (i := 67) rfl rfl
theorem q5_68 : Jvm.Cond.methodLink "HypergraphDualizerModel" (172 : Nat) ({ cls := "HypergraphDualizerModel", name := "nodeFor", desc := "(III)I" } : Jvm.MethodName) ∈ gT := gin gin_5 (i := 68) rfl rfl
theorem q5_70 : Jvm.Cond.instanceMethod ({ cls := "HypergraphDualizerModel", name := "nodeFor", desc := "(III)I" } : Jvm.MethodName) ∈ gT := gin gin_5 (i := 70) rfl rfl
theorem q5_71 : Jvm.Cond.code ({ cls := "HypergraphDualizerModel", name := "nodeFor", desc := "(III)I" } : Jvm.MethodName) prog_11_method_58_code (5 : Nat) (Option.some Jvm.ClassFile.FieldType.int) ∈ gT := gin gin_5 (i := 71) rfl rfl
theorem q5_72 : Jvm.Cond.methodLink "HypergraphDualizerLaw" (140 : Nat) ({ cls := "HypergraphDualizerModel", name := "nodesAt", desc := "(II)I" } : Jvm.MethodName) ∈ gT := gin gin_5 (i := 72) rfl rfl
theorem q5_73 : Jvm.Cond.instanceMethod ({ cls := "HypergraphDualizerModel", name := "nodesAt", desc := "(II)I" } : Jvm.MethodName) ∈ gT := gin gin_5 (i := 73) rfl rfl
theorem q5_74 : Jvm.Cond.selects "HypergraphDualizerModel" ({ cls := "HypergraphDualizerModel", name := "nodesAt", desc := "(II)I" } : Jvm.MethodName) ({ cls := "HypergraphDualizerModel", name := "nodesAt", desc := "(II)I" } : Jvm.MethodName) ∈ gT := gin gin_5 (i := 74) rfl rfl
theorem q5_75 : Jvm.Cond.code ({ cls := "HypergraphDualizerModel", name := "nodesAt", desc := "(II)I" } : Jvm.MethodName) prog_11_method_62_code (4 : Nat) (Option.some Jvm.ClassFile.FieldType.int) ∈ gT := gin gin_5 (i := 75) rfl rfl
theorem q5_76 : Jvm.Cond.methodLink "HypergraphDualizerLaw" (148 : Nat) ({ cls := "HypergraphDualizerModel", name := "difference", desc := "()I" } : Jvm.MethodName) ∈ gT := gin gin_5 (i := 76) rfl rfl
theorem q5_77 : Jvm.Cond.instanceMethod ({ cls := "HypergraphDualizerModel", name := "difference", desc := "()I" } : Jvm.MethodName) ∈ gT := gin gin_5 (i := 77) rfl rfl
theorem q5_78 : Jvm.Cond.selects "HypergraphDualizerModel" ({ cls := "HypergraphDualizerModel", name := "difference", desc := "()I" } : Jvm.MethodName) ({ cls := "HypergraphDualizerModel", name := "difference", desc := "()I" } : Jvm.MethodName) ∈ gT := gin gin_5 (i := 78) rfl rfl
theorem q5_79 : Jvm.Cond.code ({ cls := "HypergraphDualizerModel", name := "difference", desc := "()I" } : Jvm.MethodName) prog_11_method_65_code (2 : Nat) (Option.some Jvm.ClassFile.FieldType.int) ∈ gT := gin gin_5 (i := 79) rfl rfl
theorem q5_80 : Jvm.Cond.methodLink "HypergraphDualizerModel" (182 : Nat) ({ cls := "HypergraphDualizerModel", name := "isMinimal", desc := "(I)Z" } : Jvm.MethodName) ∈ gT := gin gin_5 (i := 80) rfl rfl
theorem q5_82 : Jvm.Cond.instanceMethod ({ cls := "HypergraphDualizerModel", name := "isMinimal", desc := "(I)Z" } : Jvm.MethodName) ∈ gT := gin gin_5 (i := 82) rfl rfl
theorem q5_83 : Jvm.Cond.code ({ cls := "HypergraphDualizerModel", name := "isMinimal", desc := "(I)Z" } : Jvm.MethodName) prog_11_method_64_code (3 : Nat) (Option.some Jvm.ClassFile.FieldType.boolean) ∈ gT := gin gin_5 (i := 83) rfl rfl
theorem q5_84 : Jvm.Cond.methodLink "HypergraphDualizerModel" (185 : Nat) ({ cls := "HypergraphDualizerModel", name := "isAnswer", desc := "(I)Z" } : Jvm.MethodName) ∈ gT := gin gin_5 (i := 84) rfl rfl
theorem q5_86 : Jvm.Cond.instanceMethod ({ cls := "HypergraphDualizerModel", name := "isAnswer", desc := "(I)Z" } : Jvm.MethodName) ∈ gT := gin gin_5 (i := 86) rfl rfl
theorem q5_87 : Jvm.Cond.code ({ cls := "HypergraphDualizerModel", name := "isAnswer", desc := "(I)Z" } : Jvm.MethodName) prog_11_method_63_code (2 : Nat) (Option.some Jvm.ClassFile.FieldType.boolean) ∈ gT := gin gin_5 (i := 87) rfl rfl
theorem q5_88 : Jvm.Cond.methodLink "HypergraphDualizerLaw" (144 : Nat) ({ cls := "HypergraphDualizerModel", name := "isSelfDual", desc := "()I" } : Jvm.MethodName) ∈ gT := gin gin_5 (i := 88) rfl rfl
theorem q5_89 : Jvm.Cond.instanceMethod ({ cls := "HypergraphDualizerModel", name := "isSelfDual", desc := "()I" } : Jvm.MethodName) ∈ gT := gin gin_5 (i := 89) rfl rfl
theorem q5_90 : Jvm.Cond.selects "HypergraphDualizerModel" ({ cls := "HypergraphDualizerModel", name := "isSelfDual", desc := "()I" } : Jvm.MethodName) ({ cls := "HypergraphDualizerModel", name := "isSelfDual", desc := "()I" } : Jvm.MethodName) ∈ gT := gin gin_5 (i := 90) rfl rfl
theorem q5_91 : Jvm.Cond.code ({ cls := "HypergraphDualizerModel", name := "isSelfDual", desc := "()I" } : Jvm.MethodName) prog_11_method_66_code (2 : Nat) (Option.some Jvm.ClassFile.FieldType.int) ∈ gT := gin gin_5 (i := 91) rfl rfl
theorem q5_92 : Jvm.Cond.methodLink "HypergraphDualizerModel" (188 : Nat) ({ cls := "HypergraphDualizerModel", name := "difference", desc := "()I" } : Jvm.MethodName) ∈ gT := gin gin_5 (i := 92) rfl rfl
theorem q5_93 : Jvm.Cond.methodLink "HypergraphDualizerLaw" (152 : Nat) ({ cls := "HypergraphDualizerModel", name := "isIntersecting", desc := "()I" } : Jvm.MethodName) ∈ gT := gin gin_5 (i := 93) rfl rfl
theorem q5_94 : Jvm.Cond.instanceMethod ({ cls := "HypergraphDualizerModel", name := "isIntersecting", desc := "()I" } : Jvm.MethodName) ∈ gT := gin gin_5 (i := 94) rfl rfl
theorem q5_95 : Jvm.Cond.selects "HypergraphDualizerModel" ({ cls := "HypergraphDualizerModel", name := "isIntersecting", desc := "()I" } : Jvm.MethodName) ({ cls := "HypergraphDualizerModel", name := "isIntersecting", desc := "()I" } : Jvm.MethodName) ∈ gT := gin gin_5 (i := 95) rfl rfl
theorem q5_96 : Jvm.Cond.code ({ cls := "HypergraphDualizerModel", name := "isIntersecting", desc := "()I" } : Jvm.MethodName) prog_11_method_67_code (3 : Nat) (Option.some Jvm.ClassFile.FieldType.int) ∈ gT := gin gin_5 (i := 96) rfl rfl
theorem q5_97 : Jvm.Cond.methodLink "HypergraphDualizerLaw" (157 : Nat) ({ cls := "HypergraphDualizerModel", name := "type", desc := "(C)I" } : Jvm.MethodName) ∈ gT := gin gin_5 (i := 97) rfl rfl
theorem q5_98 : Jvm.Cond.instanceMethod ({ cls := "HypergraphDualizerModel", name := "type", desc := "(C)I" } : Jvm.MethodName) ∈ gT := gin gin_5 (i := 98) rfl rfl
theorem q5_99 : Jvm.Cond.selects "HypergraphDualizerModel" ({ cls := "HypergraphDualizerModel", name := "type", desc := "(C)I" } : Jvm.MethodName) ({ cls := "HypergraphDualizerModel", name := "type", desc := "(C)I" } : Jvm.MethodName) ∈ gT := gin gin_5 (i := 99) rfl rfl
theorem q5_100 : Jvm.Cond.code ({ cls := "HypergraphDualizerModel", name := "type", desc := "(C)I" } : Jvm.MethodName) prog_11_method_68_code (2 : Nat) (Option.some Jvm.ClassFile.FieldType.int) ∈ gT := gin gin_5 (i := 100) rfl rfl
theorem q5_101 : Jvm.Cond.methodLink "HypergraphDualizerLaw" (161 : Nat) ({ cls := "HypergraphDualizerModel", name := "clearText", desc := "()I" } : Jvm.MethodName) ∈ gT := gin gin_5 (i := 101) rfl rfl
theorem q5_102 : Jvm.Cond.instanceMethod ({ cls := "HypergraphDualizerModel", name := "clearText", desc := "()I" } : Jvm.MethodName) ∈ gT := gin gin_5 (i := 102) rfl rfl
theorem q5_103 : Jvm.Cond.selects "HypergraphDualizerModel" ({ cls := "HypergraphDualizerModel", name := "clearText", desc := "()I" } : Jvm.MethodName) ({ cls := "HypergraphDualizerModel", name := "clearText", desc := "()I" } : Jvm.MethodName) ∈ gT := gin gin_5 (i := 103) rfl rfl
theorem q5_104 : Jvm.Cond.code ({ cls := "HypergraphDualizerModel", name := "clearText", desc := "()I" } : Jvm.MethodName) prog_11_method_69_code (2 : Nat) (Option.some Jvm.ClassFile.FieldType.int) ∈ gT := gin gin_5 (i := 104) rfl rfl
theorem q5_105 : Jvm.Cond.methodLink "HypergraphDualizerLaw" (165 : Nat) ({ cls := "HypergraphDualizerModel", name := "readEdges", desc := "()I" } : Jvm.MethodName) ∈ gT := gin gin_5 (i := 105) rfl rfl
theorem q5_106 : Jvm.Cond.instanceMethod ({ cls := "HypergraphDualizerModel", name := "readEdges", desc := "()I" } : Jvm.MethodName) ∈ gT := gin gin_5 (i := 106) rfl rfl
theorem q5_107 : Jvm.Cond.selects "HypergraphDualizerModel" ({ cls := "HypergraphDualizerModel", name := "readEdges", desc := "()I" } : Jvm.MethodName) ({ cls := "HypergraphDualizerModel", name := "readEdges", desc := "()I" } : Jvm.MethodName) ∈ gT := gin gin_5 (i := 107) rfl rfl
theorem q5_108 : Jvm.Cond.code ({ cls := "HypergraphDualizerModel", name := "readEdges", desc := "()I" } : Jvm.MethodName) prog_11_method_75_code (2 : Nat) (Option.some Jvm.ClassFile.FieldType.int) ∈ gT := gin gin_5 (i := 108) rfl rfl
theorem q5_109 : Jvm.Cond.methodLink "HypergraphDualizerModel" (216 : Nat) ({ cls := "HypergraphDualizerModel", name := "readEdge", desc := "()V" } : Jvm.MethodName) ∈ gT := gin gin_5 (i := 109) rfl rfl
theorem q5_111 : Jvm.Cond.instanceMethod ({ cls := "HypergraphDualizerModel", name := "readEdge", desc := "()V" } : Jvm.MethodName) ∈ gT := gin gin_5 (i := 111) rfl rfl
theorem q5_112 : Jvm.Cond.code ({ cls := "HypergraphDualizerModel", name := "readEdge", desc := "()V" } : Jvm.MethodName) prog_11_method_74_code (2 : Nat) (Option.none : Option Jvm.ClassFile.FieldType) ∈ gT := gin gin_5 (i := 112) rfl rfl
theorem q5_113 : Jvm.Cond.methodLink "HypergraphDualizerModel" (206 : Nat) ({ cls := "HypergraphDualizerModel", name := "readVertex", desc := "(I)I" } : Jvm.MethodName) ∈ gT := gin gin_5 (i := 113) rfl rfl
theorem q5_115 : Jvm.Cond.instanceMethod ({ cls := "HypergraphDualizerModel", name := "readVertex", desc := "(I)I" } : Jvm.MethodName) ∈ gT := gin gin_5 (i := 115) rfl rfl
theorem q5_116 : Jvm.Cond.code ({ cls := "HypergraphDualizerModel", name := "readVertex", desc := "(I)I" } : Jvm.MethodName) prog_11_method_72_code (6 : Nat) (Option.some Jvm.ClassFile.FieldType.int) ∈ gT := gin gin_5 (i := 116) rfl rfl
theorem q5_117 : Jvm.Cond.methodLink "HypergraphDualizerModel" (197 : Nat) ({ cls := "HypergraphDualizerModel", name := "digitAt", desc := "(I)I" } : Jvm.MethodName) ∈ gT := gin gin_5 (i := 117) rfl rfl
theorem q5_119 : Jvm.Cond.instanceMethod ({ cls := "HypergraphDualizerModel", name := "digitAt", desc := "(I)I" } : Jvm.MethodName) ∈ gT := gin gin_5 (i := 119) rfl rfl
theorem q5_120 : Jvm.Cond.code ({ cls := "HypergraphDualizerModel", name := "digitAt", desc := "(I)I" } : Jvm.MethodName) prog_11_method_70_code (2 : Nat) (Option.some Jvm.ClassFile.FieldType.int) ∈ gT := gin gin_5 (i := 120) rfl rfl
theorem q5_121 : Jvm.Cond.methodLink "HypergraphDualizerModel" (209 : Nat) ({ cls := "HypergraphDualizerModel", name := "isAt", desc := "(C)Z" } : Jvm.MethodName) ∈ gT := gin gin_5 (i := 121) rfl rfl
theorem q5_123 : Jvm.Cond.instanceMethod ({ cls := "HypergraphDualizerModel", name := "isAt", desc := "(C)Z" } : Jvm.MethodName) ∈ gT := gin gin_5 (i := 123) rfl rfl
theorem q5_124 : Jvm.Cond.code ({ cls := "HypergraphDualizerModel", name := "isAt", desc := "(C)Z" } : Jvm.MethodName) prog_11_method_71_code (2 : Nat) (Option.some Jvm.ClassFile.FieldType.boolean) ∈ gT := gin gin_5 (i := 124) rfl rfl
theorem q5_125 : Jvm.Cond.methodLink "HypergraphDualizerModel" (213 : Nat) ({ cls := "HypergraphDualizerModel", name := "isOld", desc := "(I)Z" } : Jvm.MethodName) ∈ gT := gin gin_5 (i := 125) rfl rfl
theorem q5_127 : Jvm.Cond.instanceMethod ({ cls := "HypergraphDualizerModel", name := "isOld", desc := "(I)Z" } : Jvm.MethodName) ∈ gT := gin gin_5 (i := 127) rfl rfl
theorem q5_128 : Jvm.Cond.code ({ cls := "HypergraphDualizerModel", name := "isOld", desc := "(I)Z" } : Jvm.MethodName) prog_11_method_73_code (4 : Nat) (Option.some Jvm.ClassFile.FieldType.boolean) ∈ gT := gin gin_5 (i := 128) rfl rfl
theorem qs_0 : Cond.selects "HypergraphDualizer$Hypergraph" ⟨"HypergraphDualizer$Hypergraph", "followChange", "()V"⟩ ⟨"HypergraphDualizer$Hypergraph", "followChange", "()V"⟩ ∈ gT := gin gin_0 (i := 0) rfl rfl
theorem qs_1 : Cond.selects "HypergraphDualizer$Hypergraph" ⟨"HypergraphDualizer$Hypergraph", "isMinimal", "(I)Z"⟩ ⟨"HypergraphDualizer$Hypergraph", "isMinimal", "(I)Z"⟩ ∈ gT := gin gin_0 (i := 1) rfl rfl
theorem qs_2 : Cond.selects "HypergraphDualizer$Search" ⟨"HypergraphDualizer$Search", "keep", "(I)V"⟩ ⟨"HypergraphDualizer$Search", "keep", "(I)V"⟩ ∈ gT := gin gin_0 (i := 2) rfl rfl
theorem qs_3 : Cond.selects "HypergraphDualizer$Hypergraph" ⟨"HypergraphDualizer$Hypergraph", "takePast", "()V"⟩ ⟨"HypergraphDualizer$Hypergraph", "takePast", "()V"⟩ ∈ gT := gin gin_0 (i := 3) rfl rfl
theorem qs_4 : Cond.selects "HypergraphDualizer" ⟨"HypergraphDualizer", "problemWithPlace", "(I)I"⟩ ⟨"HypergraphDualizer", "problemWithPlace", "(I)I"⟩ ∈ gT := gin gin_0 (i := 4) rfl rfl
theorem qs_5 : Cond.selects "HypergraphDualizer$Weights" ⟨"HypergraphDualizer$Weights", "keysUpTo", "(II)I"⟩ ⟨"HypergraphDualizer$Weights", "keysUpTo", "(II)I"⟩ ∈ gT := gin gin_0 (i := 5) rfl rfl
theorem qs_6 : Cond.selects "HypergraphDualizer$HittingCounts" ⟨"HypergraphDualizer$HittingCounts", "bringUpToDate", "()V"⟩ ⟨"HypergraphDualizer$HittingCounts", "bringUpToDate", "()V"⟩ ∈ gT := gin gin_0 (i := 6) rfl rfl
theorem qs_7 : Cond.selects "HypergraphDualizer$Family" ⟨"HypergraphDualizer$Family", "mark", "([II)V"⟩ ⟨"HypergraphDualizer$Family", "mark", "([II)V"⟩ ∈ gT := gin gin_0 (i := 7) rfl rfl
theorem qs_8 : Cond.selects "HypergraphDualizer$Family" ⟨"HypergraphDualizer$Family", "markHittingSets", "()V"⟩ ⟨"HypergraphDualizer$Family", "markHittingSets", "()V"⟩ ∈ gT := gin gin_0 (i := 8) rfl rfl
theorem qs_9 : Cond.selects "HypergraphDualizer" ⟨"HypergraphDualizer", "canBeDrawn", "(I)Z"⟩ ⟨"HypergraphDualizer", "canBeDrawn", "(I)Z"⟩ ∈ gT := gin gin_0 (i := 9) rfl rfl
theorem qs_10 : Cond.selects "HypergraphDualizer$Diagram" ⟨"HypergraphDualizer$Diagram", "draw", "(I)V"⟩ ⟨"HypergraphDualizer$Diagram", "draw", "(I)V"⟩ ∈ gT := gin gin_0 (i := 10) rfl rfl
theorem qs_11 : Cond.selects "HypergraphDualizer$Diagram" ⟨"HypergraphDualizer$Diagram", "drawNodesAt", "(I)V"⟩ ⟨"HypergraphDualizer$Diagram", "drawNodesAt", "(I)V"⟩ ∈ gT := gin gin_0 (i := 11) rfl rfl
theorem qs_12 : Cond.selects "HypergraphDualizer$Diagram" ⟨"HypergraphDualizer$Diagram", "nodeWith", "(III)I"⟩ ⟨"HypergraphDualizer$Diagram", "nodeWith", "(III)I"⟩ ∈ gT := gin gin_0 (i := 12) rfl rfl
theorem qs_13 : Cond.selects "HypergraphDualizer$Search" ⟨"HypergraphDualizer$Search", "isMinimalEdge", "(II)Z"⟩ ⟨"HypergraphDualizer$Search", "isMinimalEdge", "(II)Z"⟩ ∈ gT := gin gin_0 (i := 13) rfl rfl
theorem qs_14 : Cond.selects "HypergraphDualizer$EdgeText" ⟨"HypergraphDualizer$EdgeText", "readEdge", "(LHypergraphDualizer$Hypergraph;)V"⟩ ⟨"HypergraphDualizer$EdgeText", "readEdge", "(LHypergraphDualizer$Hypergraph;)V"⟩ ∈ gT := gin gin_0 (i := 14) rfl rfl
theorem qs_15 : Cond.selects "HypergraphDualizer$EdgeText" ⟨"HypergraphDualizer$EdgeText", "readVertex", "(II)I"⟩ ⟨"HypergraphDualizer$EdgeText", "readVertex", "(II)I"⟩ ∈ gT := gin gin_0 (i := 15) rfl rfl
theorem qs_16 : Cond.selects "HypergraphDualizer$EdgeText" ⟨"HypergraphDualizer$EdgeText", "digit", "()I"⟩ ⟨"HypergraphDualizer$EdgeText", "digit", "()I"⟩ ∈ gT := gin gin_0 (i := 16) rfl rfl
theorem qs_17 : Cond.selects "HypergraphDualizer$EdgeText" ⟨"HypergraphDualizer$EdgeText", "skips", "(C)Z"⟩ ⟨"HypergraphDualizer$EdgeText", "skips", "(C)Z"⟩ ∈ gT := gin gin_0 (i := 17) rfl rfl
theorem qs_18 : Cond.selects "HypergraphDualizerModel" ⟨"HypergraphDualizerModel", "restWeights", "()V"⟩ ⟨"HypergraphDualizerModel", "restWeights", "()V"⟩ ∈ gT := gin gin_0 (i := 18) rfl rfl
theorem qs_19 : Cond.selects "HypergraphDualizerModel" ⟨"HypergraphDualizerModel", "noSet", "(I)Z"⟩ ⟨"HypergraphDualizerModel", "noSet", "(I)Z"⟩ ∈ gT := gin gin_0 (i := 19) rfl rfl
theorem qs_20 : Cond.selects "HypergraphDualizerModel" ⟨"HypergraphDualizerModel", "whole", "()I"⟩ ⟨"HypergraphDualizerModel", "whole", "()I"⟩ ∈ gT := gin gin_0 (i := 20) rfl rfl
theorem qs_21 : Cond.selects "HypergraphDualizerModel" ⟨"HypergraphDualizerModel", "placeOf", "(I)I"⟩ ⟨"HypergraphDualizerModel", "placeOf", "(I)I"⟩ ∈ gT := gin gin_0 (i := 21) rfl rfl
theorem qs_22 : Cond.selects "HypergraphDualizerModel" ⟨"HypergraphDualizerModel", "many", "()I"⟩ ⟨"HypergraphDualizerModel", "many", "()I"⟩ ∈ gT := gin gin_0 (i := 22) rfl rfl
theorem qs_23 : Cond.selects "HypergraphDualizerModel" ⟨"HypergraphDualizerModel", "keep", "()V"⟩ ⟨"HypergraphDualizerModel", "keep", "()V"⟩ ∈ gT := gin gin_0 (i := 23) rfl rfl
theorem qs_24 : Cond.selects "HypergraphDualizerModel" ⟨"HypergraphDualizerModel", "append", "(I)V"⟩ ⟨"HypergraphDualizerModel", "append", "(I)V"⟩ ∈ gT := gin gin_0 (i := 24) rfl rfl
theorem qs_25 : Cond.selects "HypergraphDualizerModel" ⟨"HypergraphDualizerModel", "noEdge", "(I)Z"⟩ ⟨"HypergraphDualizerModel", "noEdge", "(I)Z"⟩ ∈ gT := gin gin_0 (i := 25) rfl rfl
theorem qs_26 : Cond.selects "HypergraphDualizerModel" ⟨"HypergraphDualizerModel", "drop", "(I)V"⟩ ⟨"HypergraphDualizerModel", "drop", "(I)V"⟩ ∈ gT := gin gin_0 (i := 26) rfl rfl
theorem qs_27 : Cond.selects "HypergraphDualizerModel" ⟨"HypergraphDualizerModel", "minimalEdges", "()I"⟩ ⟨"HypergraphDualizerModel", "minimalEdges", "()I"⟩ ∈ gT := gin gin_0 (i := 27) rfl rfl
theorem qs_28 : Cond.selects "HypergraphDualizerModel" ⟨"HypergraphDualizerModel", "isMinimalEdge", "(I)Z"⟩ ⟨"HypergraphDualizerModel", "isMinimalEdge", "(I)Z"⟩ ∈ gT := gin gin_0 (i := 28) rfl rfl
theorem qs_29 : Cond.selects "HypergraphDualizerModel" ⟨"HypergraphDualizerModel", "keepOnly", "(I)I"⟩ ⟨"HypergraphDualizerModel", "keepOnly", "(I)I"⟩ ∈ gT := gin gin_0 (i := 29) rfl rfl
theorem qs_30 : Cond.selects "HypergraphDualizerModel" ⟨"HypergraphDualizerModel", "noVertex", "(I)Z"⟩ ⟨"HypergraphDualizerModel", "noVertex", "(I)Z"⟩ ∈ gT := gin gin_0 (i := 30) rfl rfl
theorem qs_31 : Cond.selects "HypergraphDualizerModel" ⟨"HypergraphDualizerModel", "edgesWith", "(I)I"⟩ ⟨"HypergraphDualizerModel", "edgesWith", "(I)I"⟩ ∈ gT := gin gin_0 (i := 31) rfl rfl
theorem qs_32 : Cond.selects "HypergraphDualizerModel" ⟨"HypergraphDualizerModel", "missedBy", "(I)I"⟩ ⟨"HypergraphDualizerModel", "missedBy", "(I)I"⟩ ∈ gT := gin gin_0 (i := 32) rfl rfl
theorem qs_33 : Cond.selects "HypergraphDualizerModel" ⟨"HypergraphDualizerModel", "privateTo", "(II)I"⟩ ⟨"HypergraphDualizerModel", "privateTo", "(II)I"⟩ ∈ gT := gin gin_0 (i := 33) rfl rfl
theorem qs_34 : Cond.selects "HypergraphDualizerModel" ⟨"HypergraphDualizerModel", "haveAllPrivate", "(I)Z"⟩ ⟨"HypergraphDualizerModel", "haveAllPrivate", "(I)Z"⟩ ∈ gT := gin gin_0 (i := 34) rfl rfl
theorem qs_35 : Cond.selects "HypergraphDualizerModel" ⟨"HypergraphDualizerModel", "search", "()V"⟩ ⟨"HypergraphDualizerModel", "search", "()V"⟩ ∈ gT := gin gin_0 (i := 35) rfl rfl
theorem qs_36 : Cond.selects "HypergraphDualizerModel" ⟨"HypergraphDualizerModel", "visit", "(I)Z"⟩ ⟨"HypergraphDualizerModel", "visit", "(I)Z"⟩ ∈ gT := gin gin_0 (i := 36) rfl rfl
theorem qs_37 : Cond.selects "HypergraphDualizerModel" ⟨"HypergraphDualizerModel", "toTry", "(II)I"⟩ ⟨"HypergraphDualizerModel", "toTry", "(II)I"⟩ ∈ gT := gin gin_0 (i := 37) rfl rfl
theorem qs_38 : Cond.selects "HypergraphDualizerModel" ⟨"HypergraphDualizerModel", "sortAnswers", "()V"⟩ ⟨"HypergraphDualizerModel", "sortAnswers", "()V"⟩ ∈ gT := gin gin_0 (i := 38) rfl rfl
theorem qs_39 : Cond.selects "HypergraphDualizerModel" ⟨"HypergraphDualizerModel", "weighs", "(I)I"⟩ ⟨"HypergraphDualizerModel", "weighs", "(I)I"⟩ ∈ gT := gin gin_0 (i := 39) rfl rfl
theorem qs_40 : Cond.selects "HypergraphDualizerModel" ⟨"HypergraphDualizerModel", "hitting", "(I)I"⟩ ⟨"HypergraphDualizerModel", "hitting", "(I)I"⟩ ∈ gT := gin gin_0 (i := 40) rfl rfl
theorem qs_41 : Cond.selects "HypergraphDualizerModel" ⟨"HypergraphDualizerModel", "diagramBarred", "(I)I"⟩ ⟨"HypergraphDualizerModel", "diagramBarred", "(I)I"⟩ ∈ gT := gin gin_0 (i := 41) rfl rfl
theorem qs_42 : Cond.selects "HypergraphDualizerModel" ⟨"HypergraphDualizerModel", "layDiagram", "(I)V"⟩ ⟨"HypergraphDualizerModel", "layDiagram", "(I)V"⟩ ∈ gT := gin gin_0 (i := 42) rfl rfl
theorem qs_43 : Cond.selects "HypergraphDualizerModel" ⟨"HypergraphDualizerModel", "layFamily", "(I)V"⟩ ⟨"HypergraphDualizerModel", "layFamily", "(I)V"⟩ ∈ gT := gin gin_0 (i := 43) rfl rfl
theorem qs_44 : Cond.selects "HypergraphDualizerModel" ⟨"HypergraphDualizerModel", "nodeFor", "(III)I"⟩ ⟨"HypergraphDualizerModel", "nodeFor", "(III)I"⟩ ∈ gT := gin gin_0 (i := 44) rfl rfl
theorem qs_45 : Cond.selects "HypergraphDualizerModel" ⟨"HypergraphDualizerModel", "isMinimal", "(I)Z"⟩ ⟨"HypergraphDualizerModel", "isMinimal", "(I)Z"⟩ ∈ gT := gin gin_0 (i := 45) rfl rfl
theorem qs_46 : Cond.selects "HypergraphDualizerModel" ⟨"HypergraphDualizerModel", "isAnswer", "(I)Z"⟩ ⟨"HypergraphDualizerModel", "isAnswer", "(I)Z"⟩ ∈ gT := gin gin_0 (i := 46) rfl rfl
theorem qs_47 : Cond.selects "HypergraphDualizerModel" ⟨"HypergraphDualizerModel", "readEdge", "()V"⟩ ⟨"HypergraphDualizerModel", "readEdge", "()V"⟩ ∈ gT := gin gin_0 (i := 47) rfl rfl
theorem qs_48 : Cond.selects "HypergraphDualizerModel" ⟨"HypergraphDualizerModel", "readVertex", "(I)I"⟩ ⟨"HypergraphDualizerModel", "readVertex", "(I)I"⟩ ∈ gT := gin gin_0 (i := 48) rfl rfl
theorem qs_49 : Cond.selects "HypergraphDualizerModel" ⟨"HypergraphDualizerModel", "digitAt", "(I)I"⟩ ⟨"HypergraphDualizerModel", "digitAt", "(I)I"⟩ ∈ gT := gin gin_0 (i := 49) rfl rfl
theorem qs_50 : Cond.selects "HypergraphDualizerModel" ⟨"HypergraphDualizerModel", "isAt", "(C)Z"⟩ ⟨"HypergraphDualizerModel", "isAt", "(C)Z"⟩ ∈ gT := gin gin_0 (i := 50) rfl rfl
theorem qs_51 : Cond.selects "HypergraphDualizerModel" ⟨"HypergraphDualizerModel", "isOld", "(I)Z"⟩ ⟨"HypergraphDualizerModel", "isOld", "(I)Z"⟩ ∈ gT := gin gin_0 (i := 51) rfl rfl
end
section
/-! values: a number, or the place of a cell; memory: what each place of each cell holds -/
abbrev gV : Type := Int32 ⊕ Nat
def gv (ad : Nat → Nat) (v : gV) : Value := match v with
  | .inl x => .int x
  | .inr i => .ref (ad i)
theorem gv_cat (ad : Nat → Nat) (v : gV) : (gv ad v).category = 1 := by cases v <;> rfl
abbrev gM : Type := Nat → Nat → Int32
def gsr (M : gM) (i : Nat) (f : Nat → Int32) : gM := fun j => if j = i then f else M j
def gst (M : gM) (i k : Nat) (x : Int32) : gM := gsr M i (upd (M i) k x)
theorem gsr_s (M : gM) (i : Nat) (f : Nat → Int32) : gsr M i f i = f := if_pos rfl
theorem gsr_n (M : gM) {i j : Nat} (f : Nat → Int32) (h : j ≠ i) : gsr M i f j = M j := if_neg h
/-- the cells of the system, by their places -/
def gE (cs : ClassId × ClassId × ClassId) (ad : Nat → Nat) (r : Nat → Int32) (i : Nat) : va_E := match i with
  | 0 => .inr (8, [.ref (ad 1), .ref (ad 3), .ref (ad 4), .ref (ad 6), .ref (ad 7), .ref (ad 8)])
  | 1 => .inr (5, [.int (r 0), .int (r 1), .ref (ad 9), .ref (ad 10), .ref (ad 2), .int (r 5)])
  | 2 => .inr (3, [.int (r 0), .int (r 1), .ref (ad 11), .ref (ad 12), .int (r 4)])
  | 3 => .inr (7, [.ref (ad 32), .ref (ad 33)])
  | 4 => .inr (6, [.ref (ad 30), .ref (ad 31), .int (r 2), .int (r 3), .ref (ad 1), .int (r 5), .int (r 6), .int (r 7)])
  | 5 => .inr (2, [.ref (ad 34), .ref (ad 1), .ref (ad 4)])
  | 6 => .inr (4, [.ref (ad 1), .ref (ad 5), .ref (ad 35), .int (r 3), .int (r 4)])
  | 7 => .inr (0, [.ref (ad 1), .ref (ad 5), .ref (ad 36), .ref (ad 37), .ref (ad 38), .ref (ad 39), .ref (ad 40), .int (r 7), .int (r 8), .int (r 9)])
  | 8 => .inr (1, [.int (r 0), .ref (ad 41), .int (r 2), .int (r 3)])
  | 9 => .inl (cs.1, 24, .inl r)
  | 10 => .inl (cs.1, 14, .inl r)
  | 11 => .inl (cs.2.2, 17, .inr (.inr (.inr (.inr (fun j => if j < 17 then some (ad (13 + j)) else none)))))
  | 12 => .inl (cs.1, 17, .inl r)
  | 13 => .inl (cs.1, 24, .inl r)
  | 14 => .inl (cs.1, 24, .inl r)
  | 15 => .inl (cs.1, 24, .inl r)
  | 16 => .inl (cs.1, 24, .inl r)
  | 17 => .inl (cs.1, 24, .inl r)
  | 18 => .inl (cs.1, 24, .inl r)
  | 19 => .inl (cs.1, 24, .inl r)
  | 20 => .inl (cs.1, 24, .inl r)
  | 21 => .inl (cs.1, 24, .inl r)
  | 22 => .inl (cs.1, 24, .inl r)
  | 23 => .inl (cs.1, 24, .inl r)
  | 24 => .inl (cs.1, 24, .inl r)
  | 25 => .inl (cs.1, 24, .inl r)
  | 26 => .inl (cs.1, 24, .inl r)
  | 27 => .inl (cs.1, 24, .inl r)
  | 28 => .inl (cs.1, 24, .inl r)
  | 29 => .inl (cs.1, 24, .inl r)
  | 30 => .inl (cs.1, 4000, .inl r)
  | 31 => .inl (cs.1, 4000, .inl r)
  | 32 => .inl (cs.1, 14, .inl r)
  | 33 => .inl (cs.1, 4000, .inl r)
  | 34 => .inl (cs.1, 16384, .inl r)
  | 35 => .inl (cs.1, 15, .inl r)
  | 36 => .inl (cs.1, 14, .inl r)
  | 37 => .inl (cs.1, 2303, .inl r)
  | 38 => .inl (cs.1, 2303, .inl r)
  | 39 => .inl (cs.1, 2303, .inl r)
  | 40 => .inl (cs.1, 1024, .inl r)
  | 41 => .inl (cs.2.1, 100, .inl r)
  | 42 => .inr (9, [.int (r 0), .ref (ad 43), .ref (ad 44), .ref (ad 45), .ref (ad 46), .int (r 5), .int (r 6), .int (r 7), .int (r 8), .int (r 9), .ref (ad 47), .ref (ad 48), .ref (ad 49), .ref (ad 50), .ref (ad 51), .ref (ad 52), .int (r 16), .ref (ad 53), .int (r 18), .ref (ad 54), .ref (ad 55), .ref (ad 56), .int (r 22), .ref (ad 57), .int (r 24), .int (r 25), .int (r 26), .ref (ad 58)])
  | 43 => .inl (cs.1, 25, .inl r)
  | 44 => .inl (cs.1, 14, .inl r)
  | 45 => .inl (cs.1, 400, .inl r)
  | 46 => .inl (cs.1, 400, .inl r)
  | 47 => .inl (cs.1, 4000, .inl r)
  | 48 => .inl (cs.1, 4000, .inl r)
  | 49 => .inl (cs.1, 16, .inl r)
  | 50 => .inl (cs.1, 16, .inl r)
  | 51 => .inl (cs.1, 16, .inl r)
  | 52 => .inl (cs.1, 16, .inl r)
  | 53 => .inl (cs.1, 16384, .inl r)
  | 54 => .inl (cs.1, 16384, .inl r)
  | 55 => .inl (cs.1, 16384, .inl r)
  | 56 => .inl (cs.1, 14, .inl r)
  | 57 => .inl (cs.2.1, 100, .inl r)
  | 58 => .inl (cs.1, 24, .inl r)
  | _ => .inr (0, [])
def gw (L : List Nat) (cs : ClassId × ClassId × ClassId) (ad : Nat → Nat) (M : gM) : va_W := L.map (fun i => (ad i, gE cs ad (M i) i))
theorem gw_get {L : List Nat} (cs : ClassId × ClassId × ClassId) (ad : Nat → Nat) (M : gM) {i : Nat} (h : i ∈ L) : ∃ k : Nat, (gw L cs ad M)[k]? = some (ad i, gE cs ad (M i) i) ∧ L[k]? = some i := by
  obtain ⟨k, hk⟩ := List.getElem?_of_mem h
  exact ⟨k, by unfold gw; rw [List.getElem?_map, hk]; rfl, hk⟩
theorem gw_set {L : List Nat} (hn : va_nd L = true) (cs : ClassId × ClassId × ClassId) (ad : Nat → Nat) (M : gM) {k i : Nat} (hk : L[k]? = some i) (f : Nat → Int32) {e : va_E} (he : gE cs ad f i = e) : (gw L cs ad M).set k (ad i, e) = gw L cs ad (gsr M i f) := by
  apply List.ext_getElem?
  intro j
  have hkl : k < L.length := (List.getElem?_eq_some_iff.mp hk).1
  unfold gw
  by_cases hj : j = k
  · subst hj
    rw [List.getElem?_set_self (by rw [List.length_map]; exact hkl), List.getElem?_map, hk]
    show _ = some (ad i, gE cs ad (gsr M i f i) i)
    rw [gsr_s, he]
  · rw [List.getElem?_set_ne (Ne.symm hj), List.getElem?_map, List.getElem?_map]
    cases h : L[j]? with
    | none => rfl
    | some i2 =>
      have hne : i2 ≠ i := by
        rintro rfl
        exact hj (va_nd_inj L hn j k i2 h hk)
      show some (ad i2, gE cs ad (M i2) i2) = some (ad i2, gE cs ad (gsr M i f i2) i2)
      rw [gsr_n M f hne]
/-- the locals: by their places; none: nothing is said -/
def gls (ad : Nat → Nat) : Nat → List (Option gV) → List (Nat × Value)
  | _, [] => []
  | n, none :: t => gls ad (n + 1) t
  | n, some v :: t => (n, gv ad v) :: gls ad (n + 1) t
theorem gls_in {ad : Nat → Nat} : ∀ {lv : List (Option gV)} {n j : Nat} {v : gV}, lv[j]? = some (some v) → (n + j, gv ad v) ∈ gls ad n lv
  | [], _, _, _, h => by simp at h
  | none :: t, n, 0, v, h => by simp at h
  | none :: t, n, j + 1, v, h => by
    have := gls_in (ad := ad) (n := n + 1) (show t[j]? = some (some v) by simpa using h)
    rw [show n + (j + 1) = n + 1 + j by omega]
    exact this
  | some w :: t, n, 0, v, h => by
    simp at h
    subst h
    exact List.mem_cons_self
  | some w :: t, n, j + 1, v, h => by
    have := gls_in (ad := ad) (n := n + 1) (show t[j]? = some (some v) by simpa using h)
    rw [show n + (j + 1) = n + 1 + j by omega]
    exact List.mem_cons_of_mem _ this
theorem gls_out {ad : Nat → Nat} : ∀ {lv : List (Option gV)} {n : Nat} {q : Nat × Value}, q ∈ gls ad n lv → ∃ j v, lv[j]? = some (some v) ∧ q = (n + j, gv ad v)
  | [], _, _, h => by simp [gls] at h
  | none :: t, n, q, h => by
    obtain ⟨j, v, h1, h2⟩ := gls_out (lv := t) (n := n + 1) h
    exact ⟨j + 1, v, by simpa using h1, by rw [h2]; congr 1; omega⟩
  | some w :: t, n, q, h => by
    rcases List.mem_cons.mp h with h | h
    · exact ⟨0, w, by simp, by rw [h]; rfl⟩
    · obtain ⟨j, v, h1, h2⟩ := gls_out (lv := t) (n := n + 1) h
      exact ⟨j + 1, v, by simpa using h1, by rw [h2]; congr 1; omega⟩
theorem gls_at {ad : Nat → Nat} {ls : Array Slot} {lv : List (Option gV)} {i n : Nat} {v : gV} (h : lv_has ls n (gls ad 0 lv)) (hl : lv[i]? = some (some v)) : ls[i]? = some (.val (gv ad v)) := by
  have := h.2.2 _ (gls_in (ad := ad) (n := 0) hl)
  rwa [Nat.zero_add] at this
theorem gls_set {ad : Nat → Nat} {ls : Array Slot} {lv : List (Option gV)} {i : Nat} {v : gV} (h : lv_has ls lv.length ((i, gv ad v) :: (gls ad 0 lv).filter (fun q => !(q.1 == i) && !(q.1 + 1 == i && q.2.category == 2)))) : lv_has ls (lv.set i (some v)).length (gls ad 0 (lv.set i (some v))) := by
  refine ⟨by rw [List.length_set]; exact h.1, h.2.1, fun q hq => h.2.2 q ?_⟩
  obtain ⟨j, w, h1, rfl⟩ := gls_out hq
  rw [Nat.zero_add]
  by_cases hj : j = i
  · subst hj
    have hl : j < (lv.set j (some v)).length := (List.getElem?_eq_some_iff.mp h1).1
    rw [List.length_set] at hl
    rw [List.getElem?_set_self hl] at h1
    cases h1
    exact List.mem_cons_self
  · rw [List.getElem?_set_ne (Ne.symm hj)] at h1
    refine List.mem_cons_of_mem _ (List.mem_filter.mpr ⟨?_, ?_⟩)
    · have := gls_in (ad := ad) (n := 0) h1
      rwa [Nat.zero_add] at this
    · simp [hj, gv_cat]
theorem gls_entry (ad : Nat → Nat) (n : Nat) : ∀ (as : List gV) (i : Nat), gls ad i (as.map some ++ List.replicate n none) = lv_args i (as.map (gv ad))
  | [], i => by
    induction n generalizing i with
    | zero => rfl
    | succ n ih => simp only [List.map_nil, List.nil_append] at ih ⊢; rw [List.replicate_succ]; exact ih (i + 1)
  | v :: t, i => by
    show (i, gv ad v) :: gls ad (i + 1) (t.map some ++ List.replicate n none) = (i, gv ad v) :: lv_args (if (gv ad v).category = 2 then i + 2 else i + 1) (t.map (gv ad))
    rw [gv_cat, if_neg (by decide), gls_entry ad n t (i + 1)]
theorem gls_sl (ad : Nat → Nat) : ∀ as : List gV, (lg_sl (as.map (gv ad))).length = as.length
  | [] => rfl
  | v :: t => by
    show ((if (gv ad v).category = 2 then [Slot.val (gv ad v), .second] else [.val (gv ad v)]) ++ lg_sl (t.map (gv ad))).length = _
    rw [gv_cat, if_neg (by decide), List.length_append, gls_sl ad t]
    simp [Nat.add_comm]
/-- the words that every method may use; those of nest mates ride apart -/
def gNest : List Cond := [.methodLinkNest "HypergraphDualizer$EdgeText" 58 ⟨"HypergraphDualizer", "has", "(II)Z"⟩ "HypergraphDualizer", .methodLinkNest "HypergraphDualizer$Hypergraph" 42 ⟨"HypergraphDualizer", "has", "(II)Z"⟩ "HypergraphDualizer", .methodLinkNest "HypergraphDualizer$Hypergraph" 77 ⟨"HypergraphDualizer", "isWithin", "(II)Z"⟩ "HypergraphDualizer", .methodLinkNest "HypergraphDualizer$Search" 61 ⟨"HypergraphDualizer", "has", "(II)Z"⟩ "HypergraphDualizer", .methodLinkNest "HypergraphDualizer$Weights" 18 ⟨"HypergraphDualizer", "has", "(II)Z"⟩ "HypergraphDualizer"]
def gNs (U : State) : Prop := ∀ w ∈ gNest, va_Nw w U
theorem gNs.warm {s U : State} (hW : s.WarmedH U.vm) (h : gNs s) : gNs U := by
  intro w hw
  have h1 := h w hw
  simp only [gNest, List.mem_cons, List.not_mem_nil, or_false] at hw
  rcases hw with rfl | rfl | rfl | rfl | rfl <;> exact va_Nw.warmM hW h1
theorem gNs.same {u U : State} (hv : u.vm = U.vm) (h : gNs u) : gNs U := by
  intro w hw
  have h1 := h w hw
  simp only [gNest, List.mem_cons, List.not_mem_nil, or_false] at hw
  rcases hw with rfl | rfl | rfl | rfl | rfl <;> exact va_Nw.same rfl hv h1
theorem gT_good : ∀ w ∈ gT, (w.onTables && w.keeps) = true ∨ ∃ ty, w = .arrayClass ty := fun w hw => good_of_word (List.mem_filter.mp hw).2
theorem gT_in {y : MethodName} {cc : ByteArray} {nL : Nat} {ret : Option FieldType} (h : Cond.code y cc nL ret ∈ gT) : GoodIn gT (Cond.code y cc nL ret :: gT) := by
  intro w hw
  rcases List.mem_cons.mp hw with rfl | hw
  · exact ⟨h, gT_good _ h⟩
  · exact ⟨hw, gT_good _ hw⟩
/-! the walk's judgement over pictures -/
abbrev gX : Type := Program × Launch × Env × Room × State × MethodId × Array Value × List Frame × Method × Code × va_G × (ClassId × ClassId × ClassId) × (Nat → Nat) × (Nat → Prop) × (State → Prop) × List Nat × Nat × Nat
def gtys (cs : ClassId × ClassId × ClassId) : List (ClassId × FieldType) := [(cs.1, .int), (cs.2.1, .char), (cs.2.2, .array .int)]
def gW (X : gX) (pc : Nat) (lv : List (Option gV)) (st : List gV) (M : gM) : Prop := match X with
  | (p, l, e, R, s, m, args, below, meth, c, D, cs, ad, A, Z, L, kc, kn) => ∀ (H : Heap) (locs : List Loc) (ls : Array Slot), va_P D vwCl (gw L cs ad M) H → va_D A (gw L cs ad M) → va_S A s.heap H locs → lv_has ls lv.length (gls ad 0 lv) → W p l e R s m args below meth c H locs kc kn Z (F0 m pc ls (st.map (gv ad)))
def gOk (X : gX) (cc : ByteArray) (own : String) (d nL : Nat) (ret : Option FieldType) (L : List Nat) : Prop := match X with
  | (p, l, e, R, s, m, args, below, meth, c, D, cs, ad, A, Z, L0, kc, kn) => L0 = L ∧ p.tables.exec = Jvm.exec ∧ c.code = cc ∧ c.maxLocals = nL ∧ meth.sig.returnType = ret ∧ meth.locks = false ∧ s.vm.findClass own = some m.cls ∧ (∀ w ∈ gT, w.before args s = true) ∧ gNs s ∧ va_K D vwCl (gtys cs) s ∧ (∀ q, s.heap.size ≤ q → A q) ∧ va_nd L = true ∧ d ≤ R.frames ∧ 40 * d ≤ R.locals ∧ kc ≤ R.cells ∧ kn ≤ R.slots
def gRm (d : Nat) : Room := { frames := d, cells := 0, slots := 0, locals := 40 * d }
def gPre (L : List Nat) (D : va_G) (cs : ClassId × ClassId × ClassId) (ad : Nat → Nat) (sz : Nat) (M : gM) (U : State) : Prop := U.heap.size = sz ∧ va_P D vwCl (gw L cs ad M) U.heap ∧ va_K D vwCl (gtys cs) U ∧ gNs U ∧ va_D (fun _ => True) (gw L cs ad M)
def gEnd (L : List Nat) (D : va_G) (cs : ClassId × ClassId × ClassId) (ad : Nat → Nat) (A : Nat → Prop) (M : gM) (t : State) : Prop := va_P D vwCl (gw L cs ad M) t.heap ∧ va_D A (gw L cs ad M)
/-- a method's contract: called with these values over this memory it ends, with a number and a memory of which Q holds -/
def gCi (L : List Nat) (d : Nat) (y : MethodName) (cc : ByteArray) (nL : Nat) (ty : FieldType) (as : List gV) (M : gM) (Q : Int32 → gM → Prop) : Prop :=
  ∀ (l : Launch) (D : va_G) (cs : ClassId × ClassId × ClassId) (ad : Nat → Nat) (sz : Nat), Met l y (.code y cc nL (some ty) :: gT) (gRm d) (va_Pc (as.map (gv ad)) (gPre L D cs ad sz M)) (va_Qi Q (gEnd L D cs ad (va_A (gw L cs ad M) sz)) (va_A (gw L cs ad M) sz)) 0 0 (va_A (gw L cs ad M) sz)
def gCv (L : List Nat) (d : Nat) (y : MethodName) (cc : ByteArray) (nL : Nat) (as : List gV) (M : gM) (Q : gM → Prop) : Prop :=
  ∀ (l : Launch) (D : va_G) (cs : ClassId × ClassId × ClassId) (ad : Nat → Nat) (sz : Nat), Met l y (.code y cc nL none :: gT) (gRm d) (va_Pc (as.map (gv ad)) (gPre L D cs ad sz M)) (va_Qv Q (gEnd L D cs ad (va_A (gw L cs ad M) sz)) (va_A (gw L cs ad M) sz)) 0 0 (va_A (gw L cs ad M) sz)
def gZi (X : gX) (Q : Int32 → gM → Prop) : Prop := match X with
  | (p, l, e, R, s, m, args, below, meth, c, D, cs, ad, A, Z, L, kc, kn) => Z = MQ below (va_Qi Q (gEnd L D cs ad A) A) args s kc kn A
def gZv (X : gX) (Q : gM → Prop) : Prop := match X with
  | (p, l, e, R, s, m, args, below, meth, c, D, cs, ad, A, Z, L, kc, kn) => Z = MQ below (va_Qv Q (gEnd L D cs ad A) A) args s kc kn A
set_option maxHeartbeats 4000000 in
theorem gCi_of {L : List Nat} {d : Nat} {y : MethodName} {cc : ByteArray} {nL : Nat} {ty : FieldType} {as : List gV} {M : gM} {Q : Int32 → gM → Prop} (hy : plainName y.cls = true) (hn : va_nd L = true) (hlen : as.length ≤ nL)
    (h : ∀ X : gX, gOk X cc y.cls d nL (some ty) L → gZi X Q → gW X 0 (as.map some ++ List.replicate (nL - as.length) none) [] M) : gCi L d y cc nL ty as M Q := by
  intro l D cs ad sz
  refine Met.ofW (cc := cc) (maxL := nL) (ret := some ty) hy rfl ?_
  intro p e s m args below meth c s1 B hml hv
  obtain ⟨rfl, hsz, hP, hK, hN, hD0⟩ := hv
  have hts0 := atoms_spec (ws := (.code y cc nL (some ty) :: gT)) B.pre
  subst hsz
  have hl := lv_entry (as.map (gv ad)) (n := nL) (by rw [gls_sl]; exact hlen)
  rw [lg_entry_eq]
  have key := h (p, l, e, gRm d, s, m, (as.map (gv ad)).toArray, below, meth, c, D, cs, ad, va_A (gw L cs ad M) s.heap.size, _, L, 0, 0) ⟨rfl, B.exec, B.bytes, hml, B.returns, B.notSynchronized, findClass_of_methodNamed B.named, fun w hw => hts0 w (List.mem_cons_of_mem _ hw), hN, hK, fun q hq => Or.inr hq, hn, Nat.le_refl _, Nat.le_refl _, Nat.le_refl _, Nat.le_refl _⟩ rfl
  refine key s.heap [] _ hP hD0.self va_S.rf ?_
  have e1 : (as.map some ++ List.replicate (nL - as.length) (none : Option gV)).length = nL := by
    rw [List.length_append, List.length_map, List.length_replicate]; omega
  rw [e1, gls_entry]
  exact hl
set_option maxHeartbeats 4000000 in
theorem gCv_of {L : List Nat} {d : Nat} {y : MethodName} {cc : ByteArray} {nL : Nat} {as : List gV} {M : gM} {Q : gM → Prop} (hy : plainName y.cls = true) (hn : va_nd L = true) (hlen : as.length ≤ nL)
    (h : ∀ X : gX, gOk X cc y.cls d nL none L → gZv X Q → gW X 0 (as.map some ++ List.replicate (nL - as.length) none) [] M) : gCv L d y cc nL as M Q := by
  intro l D cs ad sz
  refine Met.ofW (cc := cc) (maxL := nL) (ret := none) hy rfl ?_
  intro p e s m args below meth c s1 B hml hv
  obtain ⟨rfl, hsz, hP, hK, hN, hD0⟩ := hv
  have hts0 := atoms_spec (ws := (.code y cc nL none :: gT)) B.pre
  subst hsz
  have hl := lv_entry (as.map (gv ad)) (n := nL) (by rw [gls_sl]; exact hlen)
  rw [lg_entry_eq]
  have key := h (p, l, e, gRm d, s, m, (as.map (gv ad)).toArray, below, meth, c, D, cs, ad, va_A (gw L cs ad M) s.heap.size, _, L, 0, 0) ⟨rfl, B.exec, B.bytes, hml, B.returns, B.notSynchronized, findClass_of_methodNamed B.named, fun w hw => hts0 w (List.mem_cons_of_mem _ hw), hN, hK, fun q hq => Or.inr hq, hn, Nat.le_refl _, Nat.le_refl _, Nat.le_refl _, Nat.le_refl _⟩ rfl
  refine key s.heap [] _ hP hD0.self va_S.rf ?_
  have e1 : (as.map some ++ List.replicate (nL - as.length) (none : Option gV)).length = nL := by
    rw [List.length_append, List.length_map, List.length_replicate]; omega
  rw [e1, gls_entry]
  exact hl
/-! ends -/
theorem g_iret {X : gX} {cc : ByteArray} {own : String} {d nL : Nat} {L : List Nat} (ok : gOk X cc own d nL (some .int) L) {Q : Int32 → gM → Prop} (hZ : gZi X Q) {pc : Nat} {lv : List (Option gV)} {M : gM} {x : Int32} (hdg : decode cc pc = .ok (.ireturn, 1)) (h : Q x M) : gW X pc lv [.inl x] M := by
  obtain ⟨p, l, e, R, s, m, args, below, meth, c, D, cs, ad, A, Z, L0, kc, kn⟩ := X
  obtain ⟨rfl, hx, hb, hml, hr, hlocks, hown, hts, hN, hK, hA, hn, -⟩ := ok
  cases hZ
  exact fun H locs ls a1 a2 a3 a4 => W.iret (v := x) hx hb hr (fun t ht hW => ⟨⟨x, M, rfl, h, by rw [ht]; exact a1, a2⟩, a3.F ht⟩) a3.2.2 hdg hlocks
theorem g_zret {X : gX} {cc : ByteArray} {own : String} {d nL : Nat} {ty : FieldType} {L : List Nat} (ok : gOk X cc own d nL (some ty) L) {Q : Int32 → gM → Prop} (hZ : gZi X Q) {pc : Nat} {lv : List (Option gV)} {M : gM} {x : Int32} (hdg : decode cc pc = .ok (.ireturn, 1)) (hnw : narrow ty (.int x) = .int x) (h : Q x M) : gW X pc lv [.inl x] M := by
  obtain ⟨p, l, e, R, s, m, args, below, meth, c, D, cs, ad, A, Z, L0, kc, kn⟩ := X
  obtain ⟨rfl, hx, hb, hml, hr, hlocks, hown, hts, hN, hK, hA, hn, -⟩ := ok
  cases hZ
  exact fun H locs ls a1 a2 a3 a4 => W.zret (v := x) hx hb hr hnw (fun t ht hW => ⟨⟨x, M, rfl, h, by rw [ht]; exact a1, a2⟩, a3.F ht⟩) a3.2.2 hdg hlocks
theorem g_vret {X : gX} {cc : ByteArray} {own : String} {d nL : Nat} {L : List Nat} (ok : gOk X cc own d nL none L) {Q : gM → Prop} (hZ : gZv X Q) {pc : Nat} {lv : List (Option gV)} {M : gM} (hdg : decode cc pc = .ok (.return_, 1)) (h : Q M) : gW X pc lv [] M := by
  obtain ⟨p, l, e, R, s, m, args, below, meth, c, D, cs, ad, A, Z, L0, kc, kn⟩ := X
  obtain ⟨rfl, hx, hb, hml, hr, hlocks, hown, hts, hN, hK, hA, hn, -⟩ := ok
  cases hZ
  exact fun H locs ls a1 a2 a3 a4 => W.vret hx hb hr (fun t ht hW => ⟨⟨M, rfl, h, by rw [ht]; exact a1, a2⟩, a3.F ht⟩) a3.2.2 hdg hlocks
/-! fields and arrays -/
/-- place k of cell i is a field of that class, name and descriptor; it holds v of the row -/
def gFld (i k : Nat) (C f ds : String) (v : (Nat → Int32) → gV) : Prop := ∃ (ci N : Nat) (T : u_T) (fs : (ClassId × ClassId × ClassId) → (Nat → Nat) → (Nat → Int32) → List Value), vwCl[ci]? = some (C, T, N) ∧ k < N ∧ (T k).1 = C ∧ (T k).2.1 = f ∧ (T k).2.2.1 = ds ∧ (∀ w ∈ u_ws C T N, w ∈ gT) ∧ (∀ cs ad r, gE cs ad r i = .inr (ci, fs cs ad r)) ∧ ∀ cs ad r, (fs cs ad r)[k]? = some (gv ad (v r))
theorem g_get {X : gX} {cc : ByteArray} {own : String} {d nL : Nat} {ret : Option FieldType} {L : List Nat} (ok : gOk X cc own d nL ret L) {pc : Nat} {lv : List (Option gV)} {st : List gV} {M : gM} {i k idx : Nat} {C f ds : String} {v : (Nat → Int32) → gV} (hf : gFld i k C f ds v) (hi : i ∈ L) (hw : Cond.fieldLink own idx C f ds ∈ gT) (hdg : decode cc pc = .ok (.getfield idx, 3)) {w : gV} (hv : v (M i) = w) (kk : gW X (pc + 3) lv (w :: st) M) : gW X pc lv (.inr i :: st) M := by
  obtain ⟨p, l, e, R, s, m, args, below, meth, c, D, cs, ad, A, Z, L0, kc, kn⟩ := X
  obtain ⟨rfl, hx, hb, hml, hr, hlocks, hown, hts, hN, hK, hA, hn, -⟩ := ok
  obtain ⟨ci, N, T, fs, h1, h2, h3, rfl, rfl, h6, h7, h8⟩ := hf
  subst hv
  intro H locs ls a1 a2 a3 a4
  obtain ⟨q, hq, -⟩ := gw_get cs ad M hi
  rw [h7] at hq
  exact va_get (D := D) (ci := ci) (v := gv ad (v (M i))) (C := C) (T := T) (N := N) hx hb hts h6 hown hK a1 q hq h1 k h2 (hts _ hw) (fun x hx9 => by rw [← h3]; exact hx9) (h8 cs ad (M i)) hdg (kk H locs ls a1 a2 a3 a4)
/-- place k of cell i is a field that may be written -/
def gFldP (i k : Nat) (C f ds : String) (ty : FieldType) : Prop := ∃ (ci N : Nat) (T : u_T) (tf : Nat → FieldType) (fs : (ClassId × ClassId × ClassId) → (Nat → Nat) → (Nat → Int32) → List Value), vwCl[ci]? = some (C, T, N) ∧ k < N ∧ (T k).1 = C ∧ (T k).2.1 = f ∧ (T k).2.2.1 = ds ∧ (T k).2.2.2 = false ∧ parseFieldDescriptor ds = some ty ∧ (∀ w ∈ u_ws C T N, w ∈ gT) ∧ (∀ k, k < N → parseFieldDescriptor (T k).2.2.1 = some (tf k)) ∧ (∀ a, a < N → ∀ b, b < N → a ≠ b → (T a).2.1 ≠ (T b).2.1) ∧ (∀ cs ad r, gE cs ad r i = .inr (ci, fs cs ad r)) ∧ (∀ cs ad r, k < (fs cs ad r).length) ∧ ∀ cs ad r x, (fs cs ad r).set k (.int x) = fs cs ad (upd r k x)
theorem g_put {X : gX} {cc : ByteArray} {own : String} {d nL : Nat} {ret : Option FieldType} {L : List Nat} (ok : gOk X cc own d nL ret L) {pc : Nat} {lv : List (Option gV)} {st : List gV} {M : gM} {i k idx : Nat} {C f ds : String} {ty : FieldType} {x : Int32} (hf : gFldP i k C f ds ty) (hi : i ∈ L) (hw : Cond.fieldLink own idx C f ds ∈ gT) (hdg : decode cc pc = .ok (.putfield idx, 3)) (hnw : narrow ty (.int x) = .int x) (hft : fits ty (.int x) = true) (kk : gW X (pc + 3) lv st (gst M i k x)) : gW X pc lv (.inl x :: .inr i :: st) M := by
  obtain ⟨p, l, e, R, s, m, args, below, meth, c, D, cs, ad, A, Z, L0, kc, kn⟩ := X
  obtain ⟨rfl, hx, hb, hml, hr, hlocks, hown, hts, hN, hK, hA, hn, -⟩ := ok
  obtain ⟨ci, N, T, tf, fs, h1, h2, h3, rfl, rfl, h5, h55, h6, h66, h67, h7, h8, h9⟩ := hf
  intro H locs ls a1 a2 a3 a4
  obtain ⟨q, hq, hql⟩ := gw_get cs ad M hi
  rw [h7] at hq
  refine va_put (D := D) (ci := ci) (v := .int x) (ty := ty) (C := C) (T := T) (N := N) hx hb hts h6 tf h66 h67 hown hK a1 a2 a3 q hq h1 k h2 (hts _ hw) (fun x hx9 => by rw [← h3]; exact hx9) h5 h55 hnw hft (h8 cs ad (M i)) hdg (fun H locs hP hD hS => ?_)
  rw [h9, gw_set hn cs ad M hql (upd (M i) k x) (h7 cs ad _)] at hP hD
  exact kk H locs ls hP hD hS a4
def gArr (i n : Nat) : Prop := ∀ cs ad r, gE cs ad r i = .inl (cs.1, n, .inl r)
def gArC (i n : Nat) : Prop := ∀ cs ad r, gE cs ad r i = .inl (cs.2.1, n, .inl r)
theorem g_iald {X : gX} {cc : ByteArray} {own : String} {d nL : Nat} {ret : Option FieldType} {L : List Nat} (ok : gOk X cc own d nL ret L) {pc : Nat} {lv : List (Option gV)} {st : List gV} {M : gM} {i n : Nat} {j : Int32} (hf : gArr i n) (hi : i ∈ L) (hdg : decode cc pc = .ok (.iaload, 1)) (hin : vp_in j n) {w : Int32} (hv : M i j.toNatClampNeg = w) (kk : gW X (pc + 1) lv (.inl w :: st) M) : gW X pc lv (.inl j :: .inr i :: st) M := by
  obtain ⟨p, l, e, R, s, m, args, below, meth, c, D, cs, ad, A, Z, L0, kc, kn⟩ := X
  obtain ⟨rfl, hx, hb, hml, hr, hlocks, hown, hts, hN, hK, hA, hn, -⟩ := ok
  subst hv
  intro H locs ls a1 a2 a3 a4
  obtain ⟨q, hq, -⟩ := gw_get cs ad M hi
  rw [hf] at hq
  exact va_iald (D := D) hx hb hK a1 q 0 hq rfl hin hdg (kk H locs ls a1 a2 a3 a4)
theorem g_iast {X : gX} {cc : ByteArray} {own : String} {d nL : Nat} {ret : Option FieldType} {L : List Nat} (ok : gOk X cc own d nL ret L) {pc : Nat} {lv : List (Option gV)} {st : List gV} {M : gM} {i n : Nat} {j x : Int32} (hf : gArr i n) (hi : i ∈ L) (hdg : decode cc pc = .ok (.iastore, 1)) (hin : vp_in j n) (kk : gW X (pc + 1) lv st (gst M i j.toNatClampNeg x)) : gW X pc lv (.inl x :: .inl j :: .inr i :: st) M := by
  obtain ⟨p, l, e, R, s, m, args, below, meth, c, D, cs, ad, A, Z, L0, kc, kn⟩ := X
  obtain ⟨rfl, hx, hb, hml, hr, hlocks, hown, hts, hN, hK, hA, hn, -⟩ := ok
  intro H locs ls a1 a2 a3 a4
  obtain ⟨q, hq, hql⟩ := gw_get cs ad M hi
  rw [hf] at hq
  refine va_iast (D := D) hx hb hK a1 a2 a3 q 0 hq rfl hin hdg (fun H locs hP hD hS => ?_)
  rw [gw_set hn cs ad M hql (upd (M i) j.toNatClampNeg x) (hf cs ad _)] at hP hD
  exact kk H locs ls hP hD hS a4
theorem g_cald {X : gX} {cc : ByteArray} {own : String} {d nL : Nat} {ret : Option FieldType} {L : List Nat} (ok : gOk X cc own d nL ret L) {pc : Nat} {lv : List (Option gV)} {st : List gV} {M : gM} {i n : Nat} {j : Int32} (hf : gArC i n) (hi : i ∈ L) (hdg : decode cc pc = .ok (.caload, 1)) (hin : vp_in j n) {w : Int32} (hv : M i j.toNatClampNeg = w) (kk : gW X (pc + 1) lv (.inl w :: st) M) : gW X pc lv (.inl j :: .inr i :: st) M := by
  obtain ⟨p, l, e, R, s, m, args, below, meth, c, D, cs, ad, A, Z, L0, kc, kn⟩ := X
  obtain ⟨rfl, hx, hb, hml, hr, hlocks, hown, hts, hN, hK, hA, hn, -⟩ := ok
  subst hv
  intro H locs ls a1 a2 a3 a4
  obtain ⟨q, hq, -⟩ := gw_get cs ad M hi
  rw [hf] at hq
  exact va_cald (D := D) hx hb hK a1 q 1 hq rfl hin hdg (kk H locs ls a1 a2 a3 a4)
theorem g_cast {X : gX} {cc : ByteArray} {own : String} {d nL : Nat} {ret : Option FieldType} {L : List Nat} (ok : gOk X cc own d nL ret L) {pc : Nat} {lv : List (Option gV)} {st : List gV} {M : gM} {i n : Nat} {j x : Int32} (hf : gArC i n) (hi : i ∈ L) (hdg : decode cc pc = .ok (.castore, 1)) (hin : vp_in j n) (kk : gW X (pc + 1) lv st (gst M i j.toNatClampNeg (vp_nar .char x))) : gW X pc lv (.inl x :: .inl j :: .inr i :: st) M := by
  obtain ⟨p, l, e, R, s, m, args, below, meth, c, D, cs, ad, A, Z, L0, kc, kn⟩ := X
  obtain ⟨rfl, hx, hb, hml, hr, hlocks, hown, hts, hN, hK, hA, hn, -⟩ := ok
  intro H locs ls a1 a2 a3 a4
  obtain ⟨q, hq, hql⟩ := gw_get cs ad M hi
  rw [hf] at hq
  refine va_cast (D := D) hx hb hK a1 a2 a3 q 1 hq rfl hin hdg (fun H locs hP hD hS => ?_)
  rw [gw_set hn cs ad M hql (upd (M i) j.toNatClampNeg (vp_nar .char x)) (hf cs ad _)] at hP hD
  exact kk H locs ls hP hD hS a4
/-- the row of the ring -/
theorem g_aald {X : gX} {cc : ByteArray} {own : String} {d nL : Nat} {ret : Option FieldType} {L : List Nat} (ok : gOk X cc own d nL ret L) {pc : Nat} {lv : List (Option gV)} {st : List gV} {M : gM} {j : Int32} (hi : 11 ∈ L) (hdg : decode cc pc = .ok (.aaload, 1)) (hin : vp_in j 17) (kk : gW X (pc + 1) lv (.inr (13 + j.toNatClampNeg) :: st) M) : gW X pc lv (.inl j :: .inr 11 :: st) M := by
  obtain ⟨p, l, e, R, s, m, args, below, meth, c, D, cs, ad, A, Z, L0, kc, kn⟩ := X
  obtain ⟨rfl, hx, hb, hml, hr, hlocks, hown, hts, hN, hK, hA, hn, -⟩ := ok
  intro H locs ls a1 a2 a3 a4
  obtain ⟨q, hq, -⟩ := gw_get cs ad M hi
  have hq : (gw L0 cs ad M)[q]? = some (ad 11, .inl (cs.2.2, 17, .inr (.inr (.inr (.inr (fun j => if j < 17 then some (ad (13 + j)) else none)))))) := hq
  have hlt : j.toNatClampNeg < 17 := Nat.not_le.mp fun q => hin (Or.inr q)
  have k2 := kk H locs ls a1 a2 a3 a4
  have e1 : gv ad (.inr (13 + j.toNatClampNeg)) = va_rf ((fun j => if j < 17 then some (ad (13 + j)) else none) j.toNatClampNeg) := by
    show _ = va_rf (if j.toNatClampNeg < 17 then some (ad (13 + j.toNatClampNeg)) else none)
    rw [if_pos hlt]
    rfl
  exact W.aald (v := gv ad (.inr (13 + j.toNatClampNeg))) (ty := .array .int) hx hb (a1 q _ hq) ((hK.2 2 _ rfl).1 17 (fun j => va_rf ((fun j => if j < 17 then some (ad (13 + j)) else none) j))) rfl (fun q => by cases q) (by show ¬ (j < 0 ∨ (arrV _ _ _).slots.size ≤ _); rw [arrV_size]; exact hin) (by rw [vp_cell_q, arrV_read _ _ hlt, e1]) rfl rfl hdg k2
theorem g_copy {X : gX} {cc : ByteArray} {own : String} {d nL : Nat} {ret : Option FieldType} {L : List Nat} (ok : gOk X cc own d nL ret L) {pc : Nat} {lv : List (Option gV)} {st : List gV} {M : gM} {i0 i1 n0 n1 idx : Nat} {sp dp n : Int32} (h0 : gArr i0 n0) (h1 : gArr i1 n1) (hi0 : i0 ∈ L) (hi1 : i1 ∈ L) (hlv : lv.length = nL) (hd1 : 1 ≤ d) (hst : st = []) (hw : Cond.methodLink own idx arraycopyName ∈ gT) (hnat : Cond.native arraycopyName ∈ gT) (hstat : Cond.static arraycopyName ∈ gT) (hini : Cond.initialized "java/lang/System" ∈ gT)
    (c1 : ¬ sp < 0) (c2 : ¬ dp < 0) (c3 : ¬ n < 0) (c4 : sp.toNatClampNeg + n.toNatClampNeg ≤ n0) (c5 : dp.toNatClampNeg + n.toNatClampNeg ≤ n1) (hdg : decode cc pc = .ok (.invokestatic idx, 3)) (kk : gW X (pc + 3) lv st (gsr M i1 (va_cpy (M i0) (M i1) sp.toNatClampNeg dp.toNatClampNeg n.toNatClampNeg))) : gW X pc lv (.inl n :: .inl dp :: .inr i1 :: .inl sp :: .inr i0 :: st) M := by
  obtain ⟨p, l, e, R, s, m, args, below, meth, c, D, cs, ad, A, Z, L0, kc, kn⟩ := X
  obtain ⟨rfl, hx, hb, hml, hr, hlocks, hown, hts, hN, hK, hA, hn, hR1, hR2, hR3, hR4⟩ := ok
  subst hst
  intro H locs ls a1 a2 a3 a4
  obtain ⟨q0, hq0, -⟩ := gw_get cs ad M hi0
  obtain ⟨q1, hq1, hql⟩ := gw_get cs ad M hi1
  rw [h0] at hq0
  rw [h1] at hq1
  refine va_copyi (D := D) hx hb (by rw [hml, a4.1, hlv]) hown (hts _ hw) (hts _ hnat) (hts _ hstat) (hts _ hini) hK a1 a2 a3 q0 q1 0 0 hq0 hq1 rfl rfl rfl c1 c2 c3 c4 c5 (fun _ _ => rfl) (Nat.le_trans hd1 hR1) (Nat.le_trans (Nat.le_trans (Nat.le_of_ble_eq_true rfl) (Nat.mul_le_mul_left 40 hd1)) hR2) hdg (fun H locs hP hD hS => ?_)
  rw [gw_set hn cs ad M hql (va_cpy (M i0) (M i1) sp.toNatClampNeg dp.toNatClampNeg n.toNatClampNeg) (h1 cs ad _)] at hP hD
  exact kk H locs ls hP hD hS a4
theorem g_mmin {X : gX} {cc : ByteArray} {own : String} {d nL : Nat} {ret : Option FieldType} {L : List Nat} (ok : gOk X cc own d nL ret L) {pc : Nat} {lv : List (Option gV)} {st : List gV} {M : gM} {idx : Nat} {x y : Int32} (hlv : lv.length = nL) (hd1 : 1 ≤ d) (hst : st.length ≤ 8) (hw : Cond.methodLink own idx Lib.Math.min.name ∈ gT) (hstat : Cond.static Lib.Math.min.name ∈ gT) (hini : Cond.initialized "java/lang/Math" ∈ gT) (hcode : Cond.code Lib.Math.min.name Lib.Math.min.code 2 (some .int) ∈ gT)
    (hdg : decode cc pc = .ok (.invokestatic idx, 3)) (kk : gW X (pc + 3) lv (.inl (if y < x then y else x) :: st) M) : gW X pc lv (.inl y :: .inl x :: st) M := by
  obtain ⟨p, l, e, R, s, m, args, below, meth, c, D, cs, ad, A, Z, L0, kc, kn⟩ := X
  obtain ⟨rfl, hx, hb, hml, hr, hlocks, hown, hts, hN, hK, hA, hn, hR1, hR2, hR3, hR4⟩ := ok
  have e1 : ((st.map (gv ad)).map fun v => v.category).sum = st.length := by
    clear hst kk
    induction st with
    | nil => rfl
    | cons v t ih => simp only [List.map_cons, List.sum_cons, gv_cat, List.length_cons, ih]; omega
  exact fun H locs ls a1 a2 a3 a4 => va_mmin hx hb (by rw [hml, a4.1, hlv]) hown (hts _ hw) (hts _ hstat) (hts _ hini) (hts _ hcode) (Nat.le_trans hd1 hR1) (by rw [e1]; omega) hR3 hR4 hdg (kk H locs ls a1 a2 a3 a4)
theorem g_ldc {X : gX} {cc : ByteArray} {own : String} {d nL : Nat} {ret : Option FieldType} {L : List Nat} (ok : gOk X cc own d nL ret L) {pc : Nat} {lv : List (Option gV)} {st : List gV} {M : gM} {idx : Nat} {v : Int32} (hw : Cond.constant own idx v ∈ gT) (hdg : decode cc pc = .ok (.ldc idx, 2)) (kk : gW X (pc + 2) lv (.inl v :: st) M) : gW X pc lv st M := by
  obtain ⟨p, l, e, R, s, m, args, below, meth, c, D, cs, ad, A, Z, L0, kc, kn⟩ := X
  obtain ⟨rfl, hx, hb, hml, hr, hlocks, hown, hts, hN, hK, hA, hn, hR1, hR2, hR3, hR4⟩ := ok
  exact fun H locs ls a1 a2 a3 a4 => lv_ldc hx hb hown (hts _ hw) hdg (kk H locs ls a1 a2 a3 a4)
theorem g_ldcw {X : gX} {cc : ByteArray} {own : String} {d nL : Nat} {ret : Option FieldType} {L : List Nat} (ok : gOk X cc own d nL ret L) {pc : Nat} {lv : List (Option gV)} {st : List gV} {M : gM} {idx : Nat} {v : Int32} (hw : Cond.constant own idx v ∈ gT) (hdg : decode cc pc = .ok (.ldc_w idx, 3)) (kk : gW X (pc + 3) lv (.inl v :: st) M) : gW X pc lv st M := by
  obtain ⟨p, l, e, R, s, m, args, below, meth, c, D, cs, ad, A, Z, L0, kc, kn⟩ := X
  obtain ⟨rfl, hx, hb, hml, hr, hlocks, hown, hts, hN, hK, hA, hn, hR1, hR2, hR3, hR4⟩ := ok
  exact fun H locs ls a1 a2 a3 a4 => lv_ldcw hx hb hown (hts _ hw) hdg (kk H locs ls a1 a2 a3 a4)
theorem g_goto {X : gX} {cc : ByteArray} {own : String} {d nL : Nat} {ret : Option FieldType} {L : List Nat} (ok : gOk X cc own d nL ret L) {pc : Nat} {lv : List (Option gV)} {st : List gV} {M : gM} {off : Int} {tgt : Nat} (hdg : decode cc pc = .ok (.goto off, 3)) (ht : (pc : Int) + off = (tgt : Int)) (kk : gW X tgt lv st M) : gW X pc lv st M := by
  obtain ⟨p, l, e, R, s, m, args, below, meth, c, D, cs, ad, A, Z, L0, kc, kn⟩ := X
  exact fun H locs ls a1 a2 a3 a4 => lv_goto ok.2.1 ok.2.2.1 hdg ht (kk H locs ls a1 a2 a3 a4)
theorem g_tableIn {X : gX} {cc : ByteArray} {own : String} {d nL : Nat} {ret : Option FieldType} {L : List Nat} (ok : gOk X cc own d nL ret L) {pc : Nat} {lv : List (Option gV)} {st : List gV} {M : gM} {dflt lo hi : Int} {offs : Array Int} {len : Nat} {x : Int32} {off : Int} {tgt : Nat} (c : Int) (hx : x.toInt = c) (hdg : decode cc pc = .ok (.tableswitch dflt lo hi offs, len)) (h1 : ¬ c < lo) (h2 : ¬ hi < c) (ho : offs[(c - lo).toNat]? = some off) (ht : (pc : Int) + off = (tgt : Int)) (kk : gW X tgt lv st M) : gW X pc lv (.inl x :: st) M := by
  obtain ⟨p, l, e, R, s, m, args, below, meth, c, D, cs, ad, A, Z, L0, kc, kn⟩ := X
  subst hx
  exact fun H locs ls a1 a2 a3 a4 => lv_tableIn ok.2.1 ok.2.2.1 hdg h1 h2 ho ht (kk H locs ls a1 a2 a3 a4)
theorem g_tableOut {X : gX} {cc : ByteArray} {own : String} {d nL : Nat} {ret : Option FieldType} {L : List Nat} (ok : gOk X cc own d nL ret L) {pc : Nat} {lv : List (Option gV)} {st : List gV} {M : gM} {dflt lo hi : Int} {offs : Array Int} {len : Nat} {x : Int32} {tgt : Nat} (hdg : decode cc pc = .ok (.tableswitch dflt lo hi offs, len)) (h : x.toInt < lo ∨ hi < x.toInt) (ht : (pc : Int) + dflt = (tgt : Int)) (kk : gW X tgt lv st M) : gW X pc lv (.inl x :: st) M := by
  obtain ⟨p, l, e, R, s, m, args, below, meth, c, D, cs, ad, A, Z, L0, kc, kn⟩ := X
  exact fun H locs ls a1 a2 a3 a4 => lv_tableOut ok.2.1 ok.2.2.1 hdg h ht (kk H locs ls a1 a2 a3 a4)
/-! calls -/
/-- what a caller needs of a callee's name -/
def gSt (y : MethodName) (cc : ByteArray) (nL : Nat) (ret : Option FieldType) (n : Nat) : Prop := Cond.code y cc nL ret ∈ gT ∧ Cond.initialized y.cls ∈ gT ∧ (y.cls ≠ "java/lang/invoke/MethodHandle" ∧ y.cls ≠ "java/lang/invoke/VarHandle" ∧ (parseMethodDescriptor y.desc).map (fun d => d.parameters.length) = some n) ∧ nL ≤ 21
/-- the class of a cell -/
def gCls (i : Nat) (C : String) : Prop := ∃ (ci N : Nat) (T : u_T) (fs : (ClassId × ClassId × ClassId) → (Nat → Nat) → (Nat → Int32) → List Value), vwCl[ci]? = some (C, T, N) ∧ ∀ cs ad r, gE cs ad r i = .inr (ci, fs cs ad r)
theorem gPre_blind {L : List Nat} {D : va_G} {cs : ClassId × ClassId × ClassId} {ad : Nat → Nat} {sz : Nat} {M : gM} {as : List Value} : FrameBlind (va_Pc as (gPre L D cs ad sz M)) :=
  fun a U g mk q => ⟨q.1, q.2.1, q.2.2.1, va_K.moved (u := U) (U := U.calling g mk a) (Vm.Alike.refl U.vm) q.2.2.2.1, gNs.same (u := U) (U := U.calling g mk a) rfl q.2.2.2.2.1, q.2.2.2.2.2⟩
theorem gsum (ad : Nat → Nat) : ∀ st : List gV, ((st.map (gv ad)).map fun v => v.category).sum = st.length
  | [] => rfl
  | v :: t => by
    have := gsum ad t
    simp only [List.map_cons, List.sum_cons, gv_cat, List.length_cons]
    omega
theorem gA_free {A : Nat → Prop} {L : List Nat} {cs : ClassId × ClassId × ClassId} {ad : Nat → Nat} {M : gM} {H0 H : Heap} {locs : List Loc} (hD : va_D A (gw L cs ad M)) (hS : va_S A H0 H locs) (hA : ∀ q, H0.size ≤ q → A q) : ∀ q, va_A (gw L cs ad M) H.size q → A q := by
  intro q h
  rcases h with ⟨k, e, h⟩ | h
  · exact hD.2 k _ h
  · exact hA q (Nat.le_trans hS.1 h)
theorem gcallB {X : gX} {cc : ByteArray} {own : String} {d nL : Nat} {ret : Option FieldType} {L : List Nat} (ok : gOk X cc own d nL ret L) {d1 n1 nL1 idx : Nat} {y : MethodName} {cc1 : ByteArray} {ret1 : Option FieldType} (hs : gSt y cc1 nL1 ret1 n1) (hd : d1 + 1 ≤ d) (hl : Cond.methodLink own idx y ∈ gT) : match X with
  | (p, l, e, R, s, m, args, below, meth, c, D, cs, ad, A, Z, L, kc, kn) => CallB R s args own idx y cc1 nL1 ret1 (.code y cc1 nL1 ret1 :: gT) (gRm d1) 0 0 n1 := by
  obtain ⟨p, l, e, R, s, m, args, below, meth, c, D, cs, ad, A, Z, L0, kc, kn⟩ := X
  obtain ⟨rfl, hx, hb, hml, hr, hlocks, hown, hts, hN, hK, hA, hn, hR1, hR2, hR3, hR4⟩ := ok
  refine callB_of n1 hts (gT_in hs.1) rfl rfl rfl (hts _ hs.2.1) (hts _ hl) hs.2.2.1 ⟨Nat.le_trans hd hR1, ?_⟩
  show 8 + (nL1 + 11) + 40 * d1 ≤ R.locals
  have := hs.2.2.2
  omega
set_option maxHeartbeats 4000000 in
theorem g_callVi {X : gX} {cc : ByteArray} {own : String} {d nL : Nat} {ret : Option FieldType} {L : List Nat} (ok : gOk X cc own d nL ret L) {pc : Nat} {lv : List (Option gV)} {st stk : List gV} {M : gM} {i d1 n1 nL1 idx : Nat} {y : MethodName} {cc1 : ByteArray} {ty : FieldType} {as : List gV} {Q : Int32 → gM → Prop} (hlv : lv.length = nL)
    (hC : gCi L d1 y cc1 nL1 ty (.inr i :: as) M Q) (hs : gSt y cc1 nL1 (some ty) n1) (has : as.length = n1) (hd : d1 + 1 ≤ d) (hi : i ∈ L) (hcl : gCls i y.cls) (hsel : Cond.selects y.cls y y ∈ gT) (hins : Cond.instanceMethod y ∈ gT) (hst : st.length ≤ 8) (hstk : stk = as.reverse ++ .inr i :: st) (hl : Cond.methodLink own idx y ∈ gT) (hdg : decode cc pc = .ok (.invokevirtual idx, 3))
    (kk : ∀ r M1, Q r M1 → gW X (pc + 3) lv (.inl r :: st) M1) : gW X pc lv stk M := by
  have hB := gcallB ok hs hd hl
  obtain ⟨p, l, e, R, s, m, args, below, meth, c, D, cs, ad, A, Z, L0, kc, kn⟩ := X
  obtain ⟨rfl, hx, hb, hml, hr, hlocks, hown, hts, hN, hK, hA, hn, hR1, hR2, hR3, hR4⟩ := ok
  subst hstk
  obtain ⟨ci, N, T, fs, hc1, hc2⟩ := hcl
  intro H locs ls a1 a2 a3 a4
  obtain ⟨q, hq, -⟩ := gw_get cs ad M hi
  rw [hc2] at hq
  have hF := gA_free a2 a3 hA
  refine va_calli (va_runV (As := as.map (gv ad)) (rest := st.map (gv ad)) (b := ad i) (nL := nL) ⟨hx, hb, hml, hown, hts⟩ (hC l D cs ad H.size) ⟨hB, hts _ hins, hts _ hsel⟩ ⟨gPre_blind, va_recv hK a1 hc1 hq, fun U hU hW => ⟨rfl, by rw [hU], by rw [hU]; exact a1, va_K.moved hW.alike hK, hN.warm hW, a2.weaken (fun _ _ _ _ => trivial)⟩⟩ rfl (by rw [List.length_map]; exact has) (a4.1.trans hlv) (by show List.map (gv ad) (as.reverse ++ .inr i :: st) = _; rw [List.map_append, List.map_reverse]; rfl) (lv_room (by rw [gsum]; exact hst)) hdg ⟨hR3, hR4⟩) a3 (fun q _ h => hF q h) hF (fun r u t H1 locs1 ht hvm hw hB1 hz1 hk1 hS1 => ?_)
  rw [← ht] at hS1 ⊢
  exact kk r u hw t.heap locs1 ls hB1.1 (hB1.2.weaken (fun k q _ h => hF q.1 h)) hS1 a4
set_option maxHeartbeats 4000000 in
theorem g_callVv {X : gX} {cc : ByteArray} {own : String} {d nL : Nat} {ret : Option FieldType} {L : List Nat} (ok : gOk X cc own d nL ret L) {pc : Nat} {lv : List (Option gV)} {st stk : List gV} {M : gM} {i d1 n1 nL1 idx : Nat} {y : MethodName} {cc1 : ByteArray} {as : List gV} {Q : gM → Prop} (hlv : lv.length = nL)
    (hC : gCv L d1 y cc1 nL1 (.inr i :: as) M Q) (hs : gSt y cc1 nL1 none n1) (has : as.length = n1) (hd : d1 + 1 ≤ d) (hi : i ∈ L) (hcl : gCls i y.cls) (hsel : Cond.selects y.cls y y ∈ gT) (hins : Cond.instanceMethod y ∈ gT) (hst : st.length ≤ 8) (hstk : stk = as.reverse ++ .inr i :: st) (hl : Cond.methodLink own idx y ∈ gT) (hdg : decode cc pc = .ok (.invokevirtual idx, 3))
    (kk : ∀ M1, Q M1 → gW X (pc + 3) lv st M1) : gW X pc lv stk M := by
  have hB := gcallB ok hs hd hl
  obtain ⟨p, l, e, R, s, m, args, below, meth, c, D, cs, ad, A, Z, L0, kc, kn⟩ := X
  obtain ⟨rfl, hx, hb, hml, hr, hlocks, hown, hts, hN, hK, hA, hn, hR1, hR2, hR3, hR4⟩ := ok
  subst hstk
  obtain ⟨ci, N, T, fs, hc1, hc2⟩ := hcl
  intro H locs ls a1 a2 a3 a4
  obtain ⟨q, hq, -⟩ := gw_get cs ad M hi
  rw [hc2] at hq
  have hF := gA_free a2 a3 hA
  refine va_callv (va_runV (As := as.map (gv ad)) (rest := st.map (gv ad)) (b := ad i) (nL := nL) ⟨hx, hb, hml, hown, hts⟩ (hC l D cs ad H.size) ⟨hB, hts _ hins, hts _ hsel⟩ ⟨gPre_blind, va_recv hK a1 hc1 hq, fun U hU hW => ⟨rfl, by rw [hU], by rw [hU]; exact a1, va_K.moved hW.alike hK, hN.warm hW, a2.weaken (fun _ _ _ _ => trivial)⟩⟩ rfl (by rw [List.length_map]; exact has) (a4.1.trans hlv) (by show List.map (gv ad) (as.reverse ++ .inr i :: st) = _; rw [List.map_append, List.map_reverse]; rfl) (lv_room (by rw [gsum]; exact hst)) hdg ⟨hR3, hR4⟩) a3 (fun q _ h => hF q h) hF (fun u t H1 locs1 ht hvm hw hB1 hz1 hk1 hS1 => ?_)
  rw [← ht] at hS1 ⊢
  exact kk u hw t.heap locs1 ls hB1.1 (hB1.2.weaken (fun k q _ h => hF q.1 h)) hS1 a4
set_option maxHeartbeats 4000000 in
theorem g_callSi {X : gX} {cc : ByteArray} {own : String} {d nL : Nat} {ret : Option FieldType} {L : List Nat} (ok : gOk X cc own d nL ret L) {pc : Nat} {lv : List (Option gV)} {st stk : List gV} {M : gM} {d1 n1 nL1 idx : Nat} {y : MethodName} {cc1 : ByteArray} {ty : FieldType} {as : List gV} {Q : Int32 → gM → Prop} (hlv : lv.length = nL)
    (hC : gCi L d1 y cc1 nL1 ty as M Q) (hs : gSt y cc1 nL1 (some ty) n1) (has : as.length = n1) (hd : d1 + 1 ≤ d) (hstt : Cond.static y ∈ gT) (hst : st.length ≤ 8) (hstk : stk = as.reverse ++ st) (hl : Cond.methodLink own idx y ∈ gT) (hdg : decode cc pc = .ok (.invokestatic idx, 3))
    (kk : ∀ r M1, Q r M1 → gW X (pc + 3) lv (.inl r :: st) M1) : gW X pc lv stk M := by
  have hB := gcallB ok hs hd hl
  obtain ⟨p, l, e, R, s, m, args, below, meth, c, D, cs, ad, A, Z, L0, kc, kn⟩ := X
  obtain ⟨rfl, hx, hb, hml, hr, hlocks, hown, hts, hN, hK, hA, hn, hR1, hR2, hR3, hR4⟩ := ok
  subst hstk
  intro H locs ls a1 a2 a3 a4
  have hF := gA_free a2 a3 hA
  refine va_calli (va_runS (As := as.map (gv ad)) (rest := st.map (gv ad)) (nL := nL) ⟨hx, hb, hml, hown, hts⟩ (hC l D cs ad H.size) ⟨hB, hts _ hstt⟩ ⟨gPre_blind, fun U hU hW => ⟨rfl, by rw [hU], by rw [hU]; exact a1, va_K.moved hW.alike hK, hN.warm hW, a2.weaken (fun _ _ _ _ => trivial)⟩⟩ rfl (by rw [List.length_map]; exact has) (a4.1.trans hlv) (by show List.map (gv ad) (as.reverse ++ st) = _; rw [List.map_append, List.map_reverse]) (lv_room (by rw [gsum]; exact hst)) hdg ⟨hR3, hR4⟩) a3 (fun q _ h => hF q h) hF (fun r u t H1 locs1 ht hvm hw hB1 hz1 hk1 hS1 => ?_)
  rw [← ht] at hS1 ⊢
  exact kk r u hw t.heap locs1 ls hB1.1 (hB1.2.weaken (fun k q _ h => hF q.1 h)) hS1 a4
set_option maxHeartbeats 4000000 in
theorem g_callSv {X : gX} {cc : ByteArray} {own : String} {d nL : Nat} {ret : Option FieldType} {L : List Nat} (ok : gOk X cc own d nL ret L) {pc : Nat} {lv : List (Option gV)} {st stk : List gV} {M : gM} {d1 n1 nL1 idx : Nat} {y : MethodName} {cc1 : ByteArray} {as : List gV} {Q : gM → Prop} (hlv : lv.length = nL)
    (hC : gCv L d1 y cc1 nL1 as M Q) (hs : gSt y cc1 nL1 none n1) (has : as.length = n1) (hd : d1 + 1 ≤ d) (hstt : Cond.static y ∈ gT) (hst : st.length ≤ 8) (hstk : stk = as.reverse ++ st) (hl : Cond.methodLink own idx y ∈ gT) (hdg : decode cc pc = .ok (.invokestatic idx, 3))
    (kk : ∀ M1, Q M1 → gW X (pc + 3) lv st M1) : gW X pc lv stk M := by
  have hB := gcallB ok hs hd hl
  obtain ⟨p, l, e, R, s, m, args, below, meth, c, D, cs, ad, A, Z, L0, kc, kn⟩ := X
  obtain ⟨rfl, hx, hb, hml, hr, hlocks, hown, hts, hN, hK, hA, hn, hR1, hR2, hR3, hR4⟩ := ok
  subst hstk
  intro H locs ls a1 a2 a3 a4
  have hF := gA_free a2 a3 hA
  refine va_callv (va_runS (As := as.map (gv ad)) (rest := st.map (gv ad)) (nL := nL) ⟨hx, hb, hml, hown, hts⟩ (hC l D cs ad H.size) ⟨hB, hts _ hstt⟩ ⟨gPre_blind, fun U hU hW => ⟨rfl, by rw [hU], by rw [hU]; exact a1, va_K.moved hW.alike hK, hN.warm hW, a2.weaken (fun _ _ _ _ => trivial)⟩⟩ rfl (by rw [List.length_map]; exact has) (a4.1.trans hlv) (by show List.map (gv ad) (as.reverse ++ st) = _; rw [List.map_append, List.map_reverse]) (lv_room (by rw [gsum]; exact hst)) hdg ⟨hR3, hR4⟩) a3 (fun q _ h => hF q h) hF (fun u t H1 locs1 ht hvm hw hB1 hz1 hk1 hS1 => ?_)
  rw [← ht] at hS1 ⊢
  exact kk u hw t.heap locs1 ls hB1.1 (hB1.2.weaken (fun k q _ h => hF q.1 h)) hS1 a4
set_option maxHeartbeats 4000000 in
theorem g_callNi {X : gX} {cc : ByteArray} {own : String} {d nL : Nat} {ret : Option FieldType} {L : List Nat} (ok : gOk X cc own d nL ret L) {pc : Nat} {lv : List (Option gV)} {st stk : List gV} {M : gM} {d1 n1 nL1 idx : Nat} {y : MethodName} {cc1 : ByteArray} {ty : FieldType} {as : List gV} {Q : Int32 → gM → Prop} (hlv : lv.length = nL)
    (hC : gCi L d1 y cc1 nL1 ty as M Q) (hs : gSt y cc1 nL1 (some ty) n1) (has : as.length = n1) (hd : d1 + 1 ≤ d) (hstt : Cond.static y ∈ gT) (hst : st.length ≤ 8) (hstk : stk = as.reverse ++ st) {host : String} (hl : Cond.methodLinkNest own idx y host ∈ gNest) (hdg : decode cc pc = .ok (.invokestatic idx, 3))
    (kk : ∀ r M1, Q r M1 → gW X (pc + 3) lv (.inl r :: st) M1) : gW X pc lv stk M := by
  obtain ⟨p, l, e, R, s, m, args, below, meth, c, D, cs, ad, A, Z, L0, kc, kn⟩ := X
  obtain ⟨rfl, hx, hb, hml, hr, hlocks, hown, hts, hN, hK, hA, hn, hR1, hR2, hR3, hR4⟩ := ok
  subst hstk
  intro H locs ls a1 a2 a3 a4
  have hF := gA_free a2 a3 hA
  have hB : va_CN R s args own idx y host cc1 nL1 (some ty) (.code y cc1 nL1 (some ty) :: gT) (gRm d1) 0 0 n1 := va_cnB n1 hts (gT_in hs.1) rfl rfl rfl (hN _ hl) (hts _ hs.2.1) hs.2.2.1 ⟨Nat.le_trans hd hR1, by
    show 8 + (nL1 + 11) + 40 * d1 ≤ R.locals
    have := hs.2.2.2
    omega⟩
  refine va_calli (va_runSN (As := as.map (gv ad)) (rest := st.map (gv ad)) (nL := nL) ⟨hx, hb, hml, hown, hts⟩ (hC l D cs ad H.size) ⟨hB, hts _ hstt, trivial⟩ ⟨gPre_blind, fun U hU hW => ⟨rfl, by rw [hU], by rw [hU]; exact a1, va_K.moved hW.alike hK, hN.warm hW, a2.weaken (fun _ _ _ _ => trivial)⟩⟩ rfl (by rw [List.length_map]; exact has) (a4.1.trans hlv) (by show List.map (gv ad) (as.reverse ++ st) = _; rw [List.map_append, List.map_reverse]) (lv_room (by rw [gsum]; exact hst)) hdg ⟨hR3, hR4⟩) a3 (fun q _ h => hF q h) hF (fun r u t H1 locs1 ht hvm hw hB1 hz1 hk1 hS1 => ?_)
  rw [← ht] at hS1 ⊢
  exact kk r u hw t.heap locs1 ls hB1.1 (hB1.2.weaken (fun k q _ h => hF q.1 h)) hS1 a4
/-! one instruction -/
theorem g_iadd {X : gX} {cc : ByteArray} {own : String} {d nL : Nat} {ret : Option FieldType} {L : List Nat} (ok : gOk X cc own d nL ret L) {pc : Nat} {lv : List (Option gV)} {st : List gV} {M : gM} {x y : Int32} (hdg : decode cc pc = .ok (.iadd, 1)) (k : gW X (pc + 1) lv (.inl (x + y) :: st) M) : gW X pc lv (.inl y :: .inl x :: st) M := by
  obtain ⟨p, l, e, R, s, m, args, below, meth, c, D, cs, ad, A, Z, L0, kc, kn⟩ := X
  exact fun H locs ls a1 a2 a3 a4 => lv_iadd ok.2.1 ok.2.2.1 hdg (k H locs ls a1 a2 a3 a4)
theorem g_isub {X : gX} {cc : ByteArray} {own : String} {d nL : Nat} {ret : Option FieldType} {L : List Nat} (ok : gOk X cc own d nL ret L) {pc : Nat} {lv : List (Option gV)} {st : List gV} {M : gM} {x y : Int32} (hdg : decode cc pc = .ok (.isub, 1)) (k : gW X (pc + 1) lv (.inl (x - y) :: st) M) : gW X pc lv (.inl y :: .inl x :: st) M := by
  obtain ⟨p, l, e, R, s, m, args, below, meth, c, D, cs, ad, A, Z, L0, kc, kn⟩ := X
  exact fun H locs ls a1 a2 a3 a4 => lv_isub ok.2.1 ok.2.2.1 hdg (k H locs ls a1 a2 a3 a4)
theorem g_imul {X : gX} {cc : ByteArray} {own : String} {d nL : Nat} {ret : Option FieldType} {L : List Nat} (ok : gOk X cc own d nL ret L) {pc : Nat} {lv : List (Option gV)} {st : List gV} {M : gM} {x y : Int32} (hdg : decode cc pc = .ok (.imul, 1)) (k : gW X (pc + 1) lv (.inl (x * y) :: st) M) : gW X pc lv (.inl y :: .inl x :: st) M := by
  obtain ⟨p, l, e, R, s, m, args, below, meth, c, D, cs, ad, A, Z, L0, kc, kn⟩ := X
  exact fun H locs ls a1 a2 a3 a4 => lv_imul ok.2.1 ok.2.2.1 hdg (k H locs ls a1 a2 a3 a4)
theorem g_iand {X : gX} {cc : ByteArray} {own : String} {d nL : Nat} {ret : Option FieldType} {L : List Nat} (ok : gOk X cc own d nL ret L) {pc : Nat} {lv : List (Option gV)} {st : List gV} {M : gM} {x y : Int32} (hdg : decode cc pc = .ok (.iand, 1)) (k : gW X (pc + 1) lv (.inl (x &&& y) :: st) M) : gW X pc lv (.inl y :: .inl x :: st) M := by
  obtain ⟨p, l, e, R, s, m, args, below, meth, c, D, cs, ad, A, Z, L0, kc, kn⟩ := X
  exact fun H locs ls a1 a2 a3 a4 => lv_iand ok.2.1 ok.2.2.1 hdg (k H locs ls a1 a2 a3 a4)
theorem g_ior {X : gX} {cc : ByteArray} {own : String} {d nL : Nat} {ret : Option FieldType} {L : List Nat} (ok : gOk X cc own d nL ret L) {pc : Nat} {lv : List (Option gV)} {st : List gV} {M : gM} {x y : Int32} (hdg : decode cc pc = .ok (.ior, 1)) (k : gW X (pc + 1) lv (.inl (x ||| y) :: st) M) : gW X pc lv (.inl y :: .inl x :: st) M := by
  obtain ⟨p, l, e, R, s, m, args, below, meth, c, D, cs, ad, A, Z, L0, kc, kn⟩ := X
  exact fun H locs ls a1 a2 a3 a4 => lv_ior ok.2.1 ok.2.2.1 hdg (k H locs ls a1 a2 a3 a4)
theorem g_ixor {X : gX} {cc : ByteArray} {own : String} {d nL : Nat} {ret : Option FieldType} {L : List Nat} (ok : gOk X cc own d nL ret L) {pc : Nat} {lv : List (Option gV)} {st : List gV} {M : gM} {x y : Int32} (hdg : decode cc pc = .ok (.ixor, 1)) (k : gW X (pc + 1) lv (.inl (x ^^^ y) :: st) M) : gW X pc lv (.inl y :: .inl x :: st) M := by
  obtain ⟨p, l, e, R, s, m, args, below, meth, c, D, cs, ad, A, Z, L0, kc, kn⟩ := X
  exact fun H locs ls a1 a2 a3 a4 => lv_ixor ok.2.1 ok.2.2.1 hdg (k H locs ls a1 a2 a3 a4)
theorem g_ishl {X : gX} {cc : ByteArray} {own : String} {d nL : Nat} {ret : Option FieldType} {L : List Nat} (ok : gOk X cc own d nL ret L) {pc : Nat} {lv : List (Option gV)} {st : List gV} {M : gM} {x y : Int32} (hdg : decode cc pc = .ok (.ishl, 1)) (k : gW X (pc + 1) lv (.inl (x <<< (y &&& 31)) :: st) M) : gW X pc lv (.inl y :: .inl x :: st) M := by
  obtain ⟨p, l, e, R, s, m, args, below, meth, c, D, cs, ad, A, Z, L0, kc, kn⟩ := X
  exact fun H locs ls a1 a2 a3 a4 => lv_ishl ok.2.1 ok.2.2.1 hdg (k H locs ls a1 a2 a3 a4)
theorem g_ishr {X : gX} {cc : ByteArray} {own : String} {d nL : Nat} {ret : Option FieldType} {L : List Nat} (ok : gOk X cc own d nL ret L) {pc : Nat} {lv : List (Option gV)} {st : List gV} {M : gM} {x y : Int32} (hdg : decode cc pc = .ok (.ishr, 1)) (k : gW X (pc + 1) lv (.inl (x >>> (y &&& 31)) :: st) M) : gW X pc lv (.inl y :: .inl x :: st) M := by
  obtain ⟨p, l, e, R, s, m, args, below, meth, c, D, cs, ad, A, Z, L0, kc, kn⟩ := X
  exact fun H locs ls a1 a2 a3 a4 => lv_ishr ok.2.1 ok.2.2.1 hdg (k H locs ls a1 a2 a3 a4)
theorem g_idiv {X : gX} {cc : ByteArray} {own : String} {d nL : Nat} {ret : Option FieldType} {L : List Nat} (ok : gOk X cc own d nL ret L) {pc : Nat} {lv : List (Option gV)} {st : List gV} {M : gM} {x y : Int32} (hdg : decode cc pc = .ok (.idiv, 1)) (hne : ¬ y = 0) (k : gW X (pc + 1) lv (.inl (x / y) :: st) M) : gW X pc lv (.inl y :: .inl x :: st) M := by
  obtain ⟨p, l, e, R, s, m, args, below, meth, c, D, cs, ad, A, Z, L0, kc, kn⟩ := X
  exact fun H locs ls a1 a2 a3 a4 => lv_idiv ok.2.1 ok.2.2.1 hdg hne (k H locs ls a1 a2 a3 a4)
theorem g_irem {X : gX} {cc : ByteArray} {own : String} {d nL : Nat} {ret : Option FieldType} {L : List Nat} (ok : gOk X cc own d nL ret L) {pc : Nat} {lv : List (Option gV)} {st : List gV} {M : gM} {x y : Int32} (hdg : decode cc pc = .ok (.irem, 1)) (hne : ¬ y = 0) (k : gW X (pc + 1) lv (.inl (x - x / y * y) :: st) M) : gW X pc lv (.inl y :: .inl x :: st) M := by
  obtain ⟨p, l, e, R, s, m, args, below, meth, c, D, cs, ad, A, Z, L0, kc, kn⟩ := X
  exact fun H locs ls a1 a2 a3 a4 => lv_irem ok.2.1 ok.2.2.1 hdg hne (k H locs ls a1 a2 a3 a4)
theorem g_ineg {X : gX} {cc : ByteArray} {own : String} {d nL : Nat} {ret : Option FieldType} {L : List Nat} (ok : gOk X cc own d nL ret L) {pc : Nat} {lv : List (Option gV)} {st : List gV} {M : gM} {x : Int32} (hdg : decode cc pc = .ok (.ineg, 1)) (k : gW X (pc + 1) lv (.inl (-x) :: st) M) : gW X pc lv (.inl x :: st) M := by
  obtain ⟨p, l, e, R, s, m, args, below, meth, c, D, cs, ad, A, Z, L0, kc, kn⟩ := X
  exact fun H locs ls a1 a2 a3 a4 => lv_ineg ok.2.1 ok.2.2.1 hdg (k H locs ls a1 a2 a3 a4)
theorem g_iushr {X : gX} {cc : ByteArray} {own : String} {d nL : Nat} {ret : Option FieldType} {L : List Nat} (ok : gOk X cc own d nL ret L) {pc : Nat} {lv : List (Option gV)} {st : List gV} {M : gM} {x y : Int32} (hdg : decode cc pc = .ok (.iushr, 1)) (k : gW X (pc + 1) lv (.inl ((x.toUInt32 >>> (y.toUInt32 &&& Int32.toUInt32 31)).toInt32) :: st) M) : gW X pc lv (.inl y :: .inl x :: st) M := by
  obtain ⟨p, l, e, R, s, m, args, below, meth, c, D, cs, ad, A, Z, L0, kc, kn⟩ := X
  exact fun H locs ls a1 a2 a3 a4 => lv_iushr ok.2.1 ok.2.2.1 hdg rfl (k H locs ls a1 a2 a3 a4)
theorem g_i2c {X : gX} {cc : ByteArray} {own : String} {d nL : Nat} {ret : Option FieldType} {L : List Nat} (ok : gOk X cc own d nL ret L) {pc : Nat} {lv : List (Option gV)} {st : List gV} {M : gM} {x : Int32} (hdg : decode cc pc = .ok (.i2c, 1)) (k : gW X (pc + 1) lv (.inl ((x.toUInt32 % 65536).toInt32) :: st) M) : gW X pc lv (.inl x :: st) M := by
  obtain ⟨p, l, e, R, s, m, args, below, meth, c, D, cs, ad, A, Z, L0, kc, kn⟩ := X
  exact fun H locs ls a1 a2 a3 a4 => lv_i2c ok.2.1 ok.2.2.1 hdg rfl (k H locs ls a1 a2 a3 a4)
theorem g_iconst {X : gX} {cc : ByteArray} {own : String} {d nL : Nat} {ret : Option FieldType} {L : List Nat} (ok : gOk X cc own d nL ret L) {pc : Nat} {lv : List (Option gV)} {st : List gV} {M : gM} {n : Int} {v : Int32} (hdg : decode cc pc = .ok (.iconst n, 1)) (hv : Int32.ofInt n = v) (k : gW X (pc + 1) lv (.inl v :: st) M) : gW X pc lv (st) M := by
  obtain ⟨p, l, e, R, s, m, args, below, meth, c, D, cs, ad, A, Z, L0, kc, kn⟩ := X
  exact fun H locs ls a1 a2 a3 a4 => lv_iconst ok.2.1 ok.2.2.1 hdg hv (k H locs ls a1 a2 a3 a4)
theorem g_bipush {X : gX} {cc : ByteArray} {own : String} {d nL : Nat} {ret : Option FieldType} {L : List Nat} (ok : gOk X cc own d nL ret L) {pc : Nat} {lv : List (Option gV)} {st : List gV} {M : gM} {n : Int} {v : Int32} (hdg : decode cc pc = .ok (.bipush n, 2)) (hv : (Int8.ofInt n).toInt32 = v) (k : gW X (pc + 2) lv (.inl v :: st) M) : gW X pc lv (st) M := by
  obtain ⟨p, l, e, R, s, m, args, below, meth, c, D, cs, ad, A, Z, L0, kc, kn⟩ := X
  exact fun H locs ls a1 a2 a3 a4 => lv_bipush ok.2.1 ok.2.2.1 hdg hv (k H locs ls a1 a2 a3 a4)
theorem g_sipush {X : gX} {cc : ByteArray} {own : String} {d nL : Nat} {ret : Option FieldType} {L : List Nat} (ok : gOk X cc own d nL ret L) {pc : Nat} {lv : List (Option gV)} {st : List gV} {M : gM} {n : Int} {v : Int32} (hdg : decode cc pc = .ok (.sipush n, 3)) (hv : (Int16.ofInt n).toInt32 = v) (k : gW X (pc + 3) lv (.inl v :: st) M) : gW X pc lv (st) M := by
  obtain ⟨p, l, e, R, s, m, args, below, meth, c, D, cs, ad, A, Z, L0, kc, kn⟩ := X
  exact fun H locs ls a1 a2 a3 a4 => lv_sipush ok.2.1 ok.2.2.1 hdg hv (k H locs ls a1 a2 a3 a4)
theorem g_dup {X : gX} {cc : ByteArray} {own : String} {d nL : Nat} {ret : Option FieldType} {L : List Nat} (ok : gOk X cc own d nL ret L) {pc : Nat} {lv : List (Option gV)} {st : List gV} {M : gM} {v : gV} (hdg : decode cc pc = .ok (.dup, 1)) (k : gW X (pc + 1) lv (v :: v :: st) M) : gW X pc lv (v :: st) M := by
  obtain ⟨p, l, e, R, s, m, args, below, meth, c, D, cs, ad, A, Z, L0, kc, kn⟩ := X
  exact fun H locs ls a1 a2 a3 a4 => lv_dup ok.2.1 ok.2.2.1 hdg (gv_cat ad v) (k H locs ls a1 a2 a3 a4)
theorem g_pop {X : gX} {cc : ByteArray} {own : String} {d nL : Nat} {ret : Option FieldType} {L : List Nat} (ok : gOk X cc own d nL ret L) {pc : Nat} {lv : List (Option gV)} {st : List gV} {M : gM} {v : gV} (hdg : decode cc pc = .ok (.pop, 1)) (k : gW X (pc + 1) lv (st) M) : gW X pc lv (v :: st) M := by
  obtain ⟨p, l, e, R, s, m, args, below, meth, c, D, cs, ad, A, Z, L0, kc, kn⟩ := X
  exact fun H locs ls a1 a2 a3 a4 => lv_pop ok.2.1 ok.2.2.1 hdg (gv_cat ad v) (k H locs ls a1 a2 a3 a4)
theorem g_dup2 {X : gX} {cc : ByteArray} {own : String} {d nL : Nat} {ret : Option FieldType} {L : List Nat} (ok : gOk X cc own d nL ret L) {pc : Nat} {lv : List (Option gV)} {st : List gV} {M : gM} {v w : gV} (hdg : decode cc pc = .ok (.dup2, 1)) (k : gW X (pc + 1) lv (v :: w :: v :: w :: st) M) : gW X pc lv (v :: w :: st) M := by
  obtain ⟨p, l, e, R, s, m, args, below, meth, c, D, cs, ad, A, Z, L0, kc, kn⟩ := X
  exact fun H locs ls a1 a2 a3 a4 => lv_dup2_11 ok.2.1 ok.2.2.1 hdg (gv_cat ad v) (gv_cat ad w) (k H locs ls a1 a2 a3 a4)
theorem g_iload_n {X : gX} {cc : ByteArray} {own : String} {d nL : Nat} {ret : Option FieldType} {L : List Nat} (ok : gOk X cc own d nL ret L) {pc : Nat} {lv : List (Option gV)} {st : List gV} {M : gM} {q : Fin 4} {i : Nat} {x : Int32} (hdg : decode cc pc = .ok (.iload_n q, 1)) (hi : (q : Nat) = i) (hl : lv[i]? = some (some (.inl x))) (k : gW X (pc + 1) lv (.inl x :: st) M) : gW X pc lv (st) M := by
  obtain ⟨p, l, e, R, s, m, args, below, meth, c, D, cs, ad, A, Z, L0, kc, kn⟩ := X
  exact fun H locs ls a1 a2 a3 a4 => lv_iload_n ok.2.1 ok.2.2.1 hdg hi (gls_at a4 hl) (k H locs ls a1 a2 a3 a4)
theorem g_iload {X : gX} {cc : ByteArray} {own : String} {d nL : Nat} {ret : Option FieldType} {L : List Nat} (ok : gOk X cc own d nL ret L) {pc : Nat} {lv : List (Option gV)} {st : List gV} {M : gM} {i : Nat} {x : Int32} (hdg : decode cc pc = .ok (.iload i, 2)) (hl : lv[i]? = some (some (.inl x))) (k : gW X (pc + 2) lv (.inl x :: st) M) : gW X pc lv (st) M := by
  obtain ⟨p, l, e, R, s, m, args, below, meth, c, D, cs, ad, A, Z, L0, kc, kn⟩ := X
  exact fun H locs ls a1 a2 a3 a4 => lv_iload ok.2.1 ok.2.2.1 hdg (gls_at a4 hl) (k H locs ls a1 a2 a3 a4)
theorem g_aload_n {X : gX} {cc : ByteArray} {own : String} {d nL : Nat} {ret : Option FieldType} {L : List Nat} (ok : gOk X cc own d nL ret L) {pc : Nat} {lv : List (Option gV)} {st : List gV} {M : gM} {q : Fin 4} {i : Nat} {x : Nat} (hdg : decode cc pc = .ok (.aload_n q, 1)) (hi : (q : Nat) = i) (hl : lv[i]? = some (some (.inr x))) (k : gW X (pc + 1) lv (.inr x :: st) M) : gW X pc lv (st) M := by
  obtain ⟨p, l, e, R, s, m, args, below, meth, c, D, cs, ad, A, Z, L0, kc, kn⟩ := X
  exact fun H locs ls a1 a2 a3 a4 => lv_aload_n ok.2.1 ok.2.2.1 hdg hi (gls_at a4 hl) (k H locs ls a1 a2 a3 a4)
theorem g_aload {X : gX} {cc : ByteArray} {own : String} {d nL : Nat} {ret : Option FieldType} {L : List Nat} (ok : gOk X cc own d nL ret L) {pc : Nat} {lv : List (Option gV)} {st : List gV} {M : gM} {i : Nat} {x : Nat} (hdg : decode cc pc = .ok (.aload i, 2)) (hl : lv[i]? = some (some (.inr x))) (k : gW X (pc + 2) lv (.inr x :: st) M) : gW X pc lv (st) M := by
  obtain ⟨p, l, e, R, s, m, args, below, meth, c, D, cs, ad, A, Z, L0, kc, kn⟩ := X
  exact fun H locs ls a1 a2 a3 a4 => lv_aload ok.2.1 ok.2.2.1 hdg (gls_at a4 hl) (k H locs ls a1 a2 a3 a4)
theorem g_istore_n {X : gX} {cc : ByteArray} {own : String} {d nL : Nat} {ret : Option FieldType} {L : List Nat} (ok : gOk X cc own d nL ret L) {pc : Nat} {lv lv1 : List (Option gV)} {st : List gV} {M : gM} {q : Fin 4} {i : Nat} {x : Int32} (hdg : decode cc pc = .ok (.istore_n q, 1)) (hi : (q : Nat) = i) (hi2 : i < lv.length) (hl : lv.set i (some (.inl x)) = lv1) (k : gW X (pc + 1) lv1 st M) : gW X pc lv (.inl x :: st) M := by
  obtain ⟨p, l, e, R, s, m, args, below, meth, c, D, cs, ad, A, Z, L0, kc, kn⟩ := X
  subst hl
  exact fun H locs ls a1 a2 a3 a4 => lv_istore_n ok.2.1 ok.2.2.1 hdg hi a4 hi2 rfl (fun ls1 b4 => k H locs ls1 a1 a2 a3 (gls_set b4))
theorem g_istore {X : gX} {cc : ByteArray} {own : String} {d nL : Nat} {ret : Option FieldType} {L : List Nat} (ok : gOk X cc own d nL ret L) {pc : Nat} {lv lv1 : List (Option gV)} {st : List gV} {M : gM} {i : Nat} {x : Int32} (hdg : decode cc pc = .ok (.istore i, 2)) (hi2 : i < lv.length) (hl : lv.set i (some (.inl x)) = lv1) (k : gW X (pc + 2) lv1 st M) : gW X pc lv (.inl x :: st) M := by
  obtain ⟨p, l, e, R, s, m, args, below, meth, c, D, cs, ad, A, Z, L0, kc, kn⟩ := X
  subst hl
  exact fun H locs ls a1 a2 a3 a4 => lv_istore ok.2.1 ok.2.2.1 hdg a4 hi2 rfl (fun ls1 b4 => k H locs ls1 a1 a2 a3 (gls_set b4))
theorem g_astore_n {X : gX} {cc : ByteArray} {own : String} {d nL : Nat} {ret : Option FieldType} {L : List Nat} (ok : gOk X cc own d nL ret L) {pc : Nat} {lv lv1 : List (Option gV)} {st : List gV} {M : gM} {q : Fin 4} {i : Nat} {x : Nat} (hdg : decode cc pc = .ok (.astore_n q, 1)) (hi : (q : Nat) = i) (hi2 : i < lv.length) (hl : lv.set i (some (.inr x)) = lv1) (k : gW X (pc + 1) lv1 st M) : gW X pc lv (.inr x :: st) M := by
  obtain ⟨p, l, e, R, s, m, args, below, meth, c, D, cs, ad, A, Z, L0, kc, kn⟩ := X
  subst hl
  exact fun H locs ls a1 a2 a3 a4 => lv_astore_n ok.2.1 ok.2.2.1 hdg hi a4 hi2 rfl (fun ls1 b4 => k H locs ls1 a1 a2 a3 (gls_set b4))
theorem g_astore {X : gX} {cc : ByteArray} {own : String} {d nL : Nat} {ret : Option FieldType} {L : List Nat} (ok : gOk X cc own d nL ret L) {pc : Nat} {lv lv1 : List (Option gV)} {st : List gV} {M : gM} {i : Nat} {x : Nat} (hdg : decode cc pc = .ok (.astore i, 2)) (hi2 : i < lv.length) (hl : lv.set i (some (.inr x)) = lv1) (k : gW X (pc + 2) lv1 st M) : gW X pc lv (.inr x :: st) M := by
  obtain ⟨p, l, e, R, s, m, args, below, meth, c, D, cs, ad, A, Z, L0, kc, kn⟩ := X
  subst hl
  exact fun H locs ls a1 a2 a3 a4 => lv_astore ok.2.1 ok.2.2.1 hdg a4 hi2 rfl (fun ls1 b4 => k H locs ls1 a1 a2 a3 (gls_set b4))
theorem g_iinc {X : gX} {cc : ByteArray} {own : String} {d nL : Nat} {ret : Option FieldType} {L : List Nat} (ok : gOk X cc own d nL ret L) {pc : Nat} {lv lv1 : List (Option gV)} {st : List gV} {M : gM} {i : Nat} {n : Int} {x v : Int32} (hdg : decode cc pc = .ok (.iinc i n, 3)) (hx : lv[i]? = some (some (.inl x))) (hv : x + Int32.ofInt n = v) (hl : lv.set i (some (.inl v)) = lv1) (k : gW X (pc + 3) lv1 st M) : gW X pc lv st M := by
  obtain ⟨p, l, e, R, s, m, args, below, meth, c, D, cs, ad, A, Z, L0, kc, kn⟩ := X
  subst hl
  intro H locs ls a1 a2 a3 a4
  obtain ⟨j, hj⟩ := List.getElem?_of_mem (gls_in (ad := ad) (n := 0) hx)
  rw [Nat.zero_add] at hj
  exact lv_iinc ok.2.1 ok.2.2.1 hdg a4 hj hv (List.getElem?_eq_some_iff.mp hx).1 rfl (fun ls1 b4 => k H locs ls1 a1 a2 a3 (gls_set (v := .inl v) b4))
theorem g_if_eq {X : gX} {cc : ByteArray} {own : String} {d nL : Nat} {ret : Option FieldType} {L : List Nat} (ok : gOk X cc own d nL ret L) {pc : Nat} {lv : List (Option gV)} {st : List gV} {M : gM} {x : Int32} {off : Int} {tgt : Nat} (hdg : decode cc pc = .ok (.ifCond .eq off, 3)) (ht : (pc : Int) + off = (tgt : Int)) (kt : x = 0 → gW X tgt lv st M) (kf : ¬ x = 0 → gW X (pc + 3) lv st M) : gW X pc lv (.inl x :: st) M := by
  obtain ⟨p, l, e, R, s, m, args, below, meth, c, D, cs, ad, A, Z, L0, kc, kn⟩ := X
  exact fun H locs ls a1 a2 a3 a4 => lv_if_eq ok.2.1 ok.2.2.1 hdg ht (fun z => kt (z) H locs ls a1 a2 a3 a4) (fun z => kf (z) H locs ls a1 a2 a3 a4)
theorem g_icmp_eq {X : gX} {cc : ByteArray} {own : String} {d nL : Nat} {ret : Option FieldType} {L : List Nat} (ok : gOk X cc own d nL ret L) {pc : Nat} {lv : List (Option gV)} {st : List gV} {M : gM} {x y : Int32} {off : Int} {tgt : Nat} (hdg : decode cc pc = .ok (.if_icmp .eq off, 3)) (ht : (pc : Int) + off = (tgt : Int)) (kt : x = y → gW X tgt lv st M) (kf : ¬ x = y → gW X (pc + 3) lv st M) : gW X pc lv (.inl y :: .inl x :: st) M := by
  obtain ⟨p, l, e, R, s, m, args, below, meth, c, D, cs, ad, A, Z, L0, kc, kn⟩ := X
  exact fun H locs ls a1 a2 a3 a4 => lv_icmp_eq ok.2.1 ok.2.2.1 hdg ht (fun z => kt (z) H locs ls a1 a2 a3 a4) (fun z => kf (z) H locs ls a1 a2 a3 a4)
theorem g_if_ne {X : gX} {cc : ByteArray} {own : String} {d nL : Nat} {ret : Option FieldType} {L : List Nat} (ok : gOk X cc own d nL ret L) {pc : Nat} {lv : List (Option gV)} {st : List gV} {M : gM} {x : Int32} {off : Int} {tgt : Nat} (hdg : decode cc pc = .ok (.ifCond .ne off, 3)) (ht : (pc : Int) + off = (tgt : Int)) (kt : ¬ x = 0 → gW X tgt lv st M) (kf : x = 0 → gW X (pc + 3) lv st M) : gW X pc lv (.inl x :: st) M := by
  obtain ⟨p, l, e, R, s, m, args, below, meth, c, D, cs, ad, A, Z, L0, kc, kn⟩ := X
  exact fun H locs ls a1 a2 a3 a4 => lv_if_ne ok.2.1 ok.2.2.1 hdg ht (fun z => kt (z) H locs ls a1 a2 a3 a4) (fun z => kf (z) H locs ls a1 a2 a3 a4)
theorem g_icmp_ne {X : gX} {cc : ByteArray} {own : String} {d nL : Nat} {ret : Option FieldType} {L : List Nat} (ok : gOk X cc own d nL ret L) {pc : Nat} {lv : List (Option gV)} {st : List gV} {M : gM} {x y : Int32} {off : Int} {tgt : Nat} (hdg : decode cc pc = .ok (.if_icmp .ne off, 3)) (ht : (pc : Int) + off = (tgt : Int)) (kt : ¬ x = y → gW X tgt lv st M) (kf : x = y → gW X (pc + 3) lv st M) : gW X pc lv (.inl y :: .inl x :: st) M := by
  obtain ⟨p, l, e, R, s, m, args, below, meth, c, D, cs, ad, A, Z, L0, kc, kn⟩ := X
  exact fun H locs ls a1 a2 a3 a4 => lv_icmp_ne ok.2.1 ok.2.2.1 hdg ht (fun z => kt (z) H locs ls a1 a2 a3 a4) (fun z => kf (z) H locs ls a1 a2 a3 a4)
theorem g_if_lt {X : gX} {cc : ByteArray} {own : String} {d nL : Nat} {ret : Option FieldType} {L : List Nat} (ok : gOk X cc own d nL ret L) {pc : Nat} {lv : List (Option gV)} {st : List gV} {M : gM} {x : Int32} {off : Int} {tgt : Nat} (hdg : decode cc pc = .ok (.ifCond .lt off, 3)) (ht : (pc : Int) + off = (tgt : Int)) (kt : x < 0 → gW X tgt lv st M) (kf : ¬ x < 0 → gW X (pc + 3) lv st M) : gW X pc lv (.inl x :: st) M := by
  obtain ⟨p, l, e, R, s, m, args, below, meth, c, D, cs, ad, A, Z, L0, kc, kn⟩ := X
  exact fun H locs ls a1 a2 a3 a4 => lv_if_lt ok.2.1 ok.2.2.1 hdg ht (fun z => kt (z) H locs ls a1 a2 a3 a4) (fun z => kf (z) H locs ls a1 a2 a3 a4)
theorem g_icmp_lt {X : gX} {cc : ByteArray} {own : String} {d nL : Nat} {ret : Option FieldType} {L : List Nat} (ok : gOk X cc own d nL ret L) {pc : Nat} {lv : List (Option gV)} {st : List gV} {M : gM} {x y : Int32} {off : Int} {tgt : Nat} (hdg : decode cc pc = .ok (.if_icmp .lt off, 3)) (ht : (pc : Int) + off = (tgt : Int)) (kt : x < y → gW X tgt lv st M) (kf : ¬ x < y → gW X (pc + 3) lv st M) : gW X pc lv (.inl y :: .inl x :: st) M := by
  obtain ⟨p, l, e, R, s, m, args, below, meth, c, D, cs, ad, A, Z, L0, kc, kn⟩ := X
  exact fun H locs ls a1 a2 a3 a4 => lv_icmp_lt ok.2.1 ok.2.2.1 hdg ht (fun z => kt (z) H locs ls a1 a2 a3 a4) (fun z => kf (z) H locs ls a1 a2 a3 a4)
theorem g_if_ge {X : gX} {cc : ByteArray} {own : String} {d nL : Nat} {ret : Option FieldType} {L : List Nat} (ok : gOk X cc own d nL ret L) {pc : Nat} {lv : List (Option gV)} {st : List gV} {M : gM} {x : Int32} {off : Int} {tgt : Nat} (hdg : decode cc pc = .ok (.ifCond .ge off, 3)) (ht : (pc : Int) + off = (tgt : Int)) (kt : ¬ x < 0 → gW X tgt lv st M) (kf : x < 0 → gW X (pc + 3) lv st M) : gW X pc lv (.inl x :: st) M := by
  obtain ⟨p, l, e, R, s, m, args, below, meth, c, D, cs, ad, A, Z, L0, kc, kn⟩ := X
  exact fun H locs ls a1 a2 a3 a4 => lv_if_ge ok.2.1 ok.2.2.1 hdg ht (fun z => kt (Int32.not_lt.mpr z) H locs ls a1 a2 a3 a4) (fun z => kf (Int32.not_le.mp z) H locs ls a1 a2 a3 a4)
theorem g_icmp_ge {X : gX} {cc : ByteArray} {own : String} {d nL : Nat} {ret : Option FieldType} {L : List Nat} (ok : gOk X cc own d nL ret L) {pc : Nat} {lv : List (Option gV)} {st : List gV} {M : gM} {x y : Int32} {off : Int} {tgt : Nat} (hdg : decode cc pc = .ok (.if_icmp .ge off, 3)) (ht : (pc : Int) + off = (tgt : Int)) (kt : ¬ x < y → gW X tgt lv st M) (kf : x < y → gW X (pc + 3) lv st M) : gW X pc lv (.inl y :: .inl x :: st) M := by
  obtain ⟨p, l, e, R, s, m, args, below, meth, c, D, cs, ad, A, Z, L0, kc, kn⟩ := X
  exact fun H locs ls a1 a2 a3 a4 => lv_icmp_ge ok.2.1 ok.2.2.1 hdg ht (fun z => kt (Int32.not_lt.mpr z) H locs ls a1 a2 a3 a4) (fun z => kf (Int32.not_le.mp z) H locs ls a1 a2 a3 a4)
theorem g_if_gt {X : gX} {cc : ByteArray} {own : String} {d nL : Nat} {ret : Option FieldType} {L : List Nat} (ok : gOk X cc own d nL ret L) {pc : Nat} {lv : List (Option gV)} {st : List gV} {M : gM} {x : Int32} {off : Int} {tgt : Nat} (hdg : decode cc pc = .ok (.ifCond .gt off, 3)) (ht : (pc : Int) + off = (tgt : Int)) (kt : 0 < x → gW X tgt lv st M) (kf : ¬ 0 < x → gW X (pc + 3) lv st M) : gW X pc lv (.inl x :: st) M := by
  obtain ⟨p, l, e, R, s, m, args, below, meth, c, D, cs, ad, A, Z, L0, kc, kn⟩ := X
  exact fun H locs ls a1 a2 a3 a4 => lv_if_gt ok.2.1 ok.2.2.1 hdg ht (fun z => kt (z) H locs ls a1 a2 a3 a4) (fun z => kf (z) H locs ls a1 a2 a3 a4)
theorem g_icmp_gt {X : gX} {cc : ByteArray} {own : String} {d nL : Nat} {ret : Option FieldType} {L : List Nat} (ok : gOk X cc own d nL ret L) {pc : Nat} {lv : List (Option gV)} {st : List gV} {M : gM} {x y : Int32} {off : Int} {tgt : Nat} (hdg : decode cc pc = .ok (.if_icmp .gt off, 3)) (ht : (pc : Int) + off = (tgt : Int)) (kt : y < x → gW X tgt lv st M) (kf : ¬ y < x → gW X (pc + 3) lv st M) : gW X pc lv (.inl y :: .inl x :: st) M := by
  obtain ⟨p, l, e, R, s, m, args, below, meth, c, D, cs, ad, A, Z, L0, kc, kn⟩ := X
  exact fun H locs ls a1 a2 a3 a4 => lv_icmp_gt ok.2.1 ok.2.2.1 hdg ht (fun z => kt (z) H locs ls a1 a2 a3 a4) (fun z => kf (z) H locs ls a1 a2 a3 a4)
theorem g_if_le {X : gX} {cc : ByteArray} {own : String} {d nL : Nat} {ret : Option FieldType} {L : List Nat} (ok : gOk X cc own d nL ret L) {pc : Nat} {lv : List (Option gV)} {st : List gV} {M : gM} {x : Int32} {off : Int} {tgt : Nat} (hdg : decode cc pc = .ok (.ifCond .le off, 3)) (ht : (pc : Int) + off = (tgt : Int)) (kt : ¬ 0 < x → gW X tgt lv st M) (kf : 0 < x → gW X (pc + 3) lv st M) : gW X pc lv (.inl x :: st) M := by
  obtain ⟨p, l, e, R, s, m, args, below, meth, c, D, cs, ad, A, Z, L0, kc, kn⟩ := X
  exact fun H locs ls a1 a2 a3 a4 => lv_if_le ok.2.1 ok.2.2.1 hdg ht (fun z => kt (Int32.not_lt.mpr z) H locs ls a1 a2 a3 a4) (fun z => kf (Int32.not_le.mp z) H locs ls a1 a2 a3 a4)
theorem g_icmp_le {X : gX} {cc : ByteArray} {own : String} {d nL : Nat} {ret : Option FieldType} {L : List Nat} (ok : gOk X cc own d nL ret L) {pc : Nat} {lv : List (Option gV)} {st : List gV} {M : gM} {x y : Int32} {off : Int} {tgt : Nat} (hdg : decode cc pc = .ok (.if_icmp .le off, 3)) (ht : (pc : Int) + off = (tgt : Int)) (kt : ¬ y < x → gW X tgt lv st M) (kf : y < x → gW X (pc + 3) lv st M) : gW X pc lv (.inl y :: .inl x :: st) M := by
  obtain ⟨p, l, e, R, s, m, args, below, meth, c, D, cs, ad, A, Z, L0, kc, kn⟩ := X
  exact fun H locs ls a1 a2 a3 a4 => lv_icmp_le ok.2.1 ok.2.2.1 hdg ht (fun z => kt (Int32.not_lt.mpr z) H locs ls a1 a2 a3 a4) (fun z => kf (Int32.not_le.mp z) H locs ls a1 a2 a3 a4)
end
