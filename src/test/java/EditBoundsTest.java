/** The boundary cases of promises 1 to 10: the ranges of the arguments and each thing that is returned. */
public final class EditBoundsTest {
    private static final int NO_SUCH_VERTEX = HypergraphDualizer.NO_SUCH_VERTEX;
    private static final int NO_SUCH_EDGE = HypergraphDualizer.NO_SUCH_EDGE;
    private static final int BAD_VALUE = HypergraphDualizer.BAD_VALUE;
    private static final int NOT_NEW = HypergraphDualizer.NOT_NEW;
    private static final int FULL = HypergraphDualizer.FULL;
    private static final int NONE = HypergraphDualizer.NONE;

    private EditBoundsTest() {
    }

    public static void main(String[] args) {
        p01SixVertices();
        p01WithoutEdges();
        p01FirstCalls();
        p01EachObjectIsItsOwn();
        p02From1To14();
        p02PreviousNumber();
        p02NoEdges();
        p02AllWeightsAre1();
        p02NoEditCanBeUndoneOrRedone();
        p02TheTextStays();
        p03SetsFrom1();
        p03SetsTo2PowNMinus1();
        p03NotNew();
        p03FullWith24();
        p04NoSuchEdge();
        p04TheOnlyEdge();
        p05NoneToRemove();
        p05AllButOneRemoved();
        p06NoSuchVertex();
        p06EmptyThen();
        p06EqualToAnEarlierOneThen();
        p06AVertexWithoutEdges();
        p06TheVertexStays();
        p07NoSuchVertex();
        p07AllOrNoneRemoved();
        p08WithoutEdges();
        p08UpTo24Answers();
        p08MoreThan24Answers();
        p08InTheOrderOfTheSets();
        p09NoneToUndo();
        p09EachKindOfEdit();
        p10NoneToRedo();
        p10EachKindOfEdit();
        Check.end();
    }

    /** "Creates a hypergraph with 6 vertices ..." */
    private static void p01SixVertices() {
        HypergraphDualizer x = new HypergraphDualizer();
        Check.due("1 value(0)", x.value(0), 6);
        Check.due("1 edgesOf(5)", x.edgesOf(5), 0);
        Check.due("1 edgesOf(6)", x.edgesOf(6), NO_SUCH_VERTEX);
        Check.due("1 addEdge(64)", x.addEdge(64), BAD_VALUE);
        Check.due("1 addEdge(63)", x.addEdge(63), 0);
        Check.due("1 reset(6)", x.reset(6), 6);
    }

    /** "... and without edges." */
    private static void p01WithoutEdges() {
        HypergraphDualizer x = new HypergraphDualizer();
        Check.due("1 value(1)", x.value(1), 0);
        Check.due("1 edge(0)", x.edge(0), NO_SUCH_EDGE);
        Check.due("1 missed(0)", x.missed(0), 0);
        Check.due("1 value(3)", x.value(3), 0);
        Check.due("1 undo()", x.undo(), NONE);
        Check.due("1 redo()", x.redo(), NONE);
    }

    /** Each of these is the first call of a new object. */
    private static void p01FirstCalls() {
        Check.due("1 weightOf(63)", new HypergraphDualizer().weightOf(63), 6);
        Check.due("1 setWeight(5, 0)", new HypergraphDualizer().setWeight(5, 0), 1);
        Check.due("1 answerCount()", new HypergraphDualizer().answerCount(), 1);
        Check.due("1 answer(0)", new HypergraphDualizer().answer(0), 0);
        Check.due("1 delay(0)", new HypergraphDualizer().delay(0), 1);
        Check.due("1 visits()", new HypergraphDualizer().visits(), 1);
        Check.due("1 next(-1)", new HypergraphDualizer().next(-1), 0);
        Check.due("1 lightest(0)", new HypergraphDualizer().lightest(0), 0);
        Check.due("1 hittingSets(-1)", new HypergraphDualizer().hittingSets(-1), 64);
        Check.dueExactly("1 chance()", new HypergraphDualizer().chance(), 1f);
        Check.due("1 diagramSize(0)", new HypergraphDualizer().diagramSize(0), 0);
        Check.due("1 diagramSize(2)", new HypergraphDualizer().diagramSize(2), 6);
        Check.due("1 isSelfDual()", new HypergraphDualizer().isSelfDual(), 0);
        Check.due("1 isIntersecting()", new HypergraphDualizer().isIntersecting(), 1);
        Check.due("1 clearText()", new HypergraphDualizer().clearText(), 0);
        Check.due("1 readEdges()", new HypergraphDualizer().readEdges(), -100);
        Check.due("1 minimize()", new HypergraphDualizer().minimize(), 0);
    }

    private static void p01EachObjectIsItsOwn() {
        HypergraphDualizer x = new HypergraphDualizer();
        HypergraphDualizer y = new HypergraphDualizer();
        x.addEdge(3);
        x.setWeight(0, 50);
        x.type('1');
        Check.due("1 value(1) of another object", y.value(1), 0);
        Check.due("1 weightOf(1) of another object", y.weightOf(1), 1);
        Check.due("1 clearText() of another object", y.clearText(), 0);
        Check.due("1 undo() of another object", y.undo(), NONE);
        Check.due("1 answerCount() of this one", x.answerCount(), 2);
        Check.due("1 answerCount() of another object", y.answerCount(), 1);
    }

    /** "n, 1 to 14"; "BAD_VALUE". */
    private static void p02From1To14() {
        for (int wrong : new int[] {0, -1, -14, Integer.MIN_VALUE, 15, 16, 33, 1 << 30, Integer.MAX_VALUE}) {
            Given.refused("2 reset(" + wrong + ")", Given::inTheMidst, x -> x.reset(wrong), BAD_VALUE);
        }
        for (int n = 1; n <= 14; n++) {
            HypergraphDualizer x = new HypergraphDualizer();
            Check.due("2 reset(" + n + ")", x.reset(n), 6);
            Check.due("2 value(0) after reset(" + n + ")", x.value(0), n);
            Check.due("2 hittingSets(-1) after reset(" + n + ")", x.hittingSets(-1), 1 << n);
        }
    }

    /** "Returns the previous n". */
    private static void p02PreviousNumber() {
        HypergraphDualizer x = new HypergraphDualizer();
        Check.due("2 the first n", x.reset(14), 6);
        Check.due("2 the previous n", x.reset(1), 14);
        Check.due("2 a refused one", x.reset(15), BAD_VALUE);
        Check.due("2 the previous n, not the refused one", x.reset(1), 1);
    }

    /** "... there are no edges ..." */
    private static void p02NoEdges() {
        HypergraphDualizer x = Given.withFirstSets(24);
        Check.due("2 answerCount() before it", x.answerCount(), 1);
        x.reset(5);
        Check.due("2 value(1)", x.value(1), 0);
        Check.due("2 edge(0)", x.edge(0), NO_SUCH_EDGE);
        Check.due("2 edgesOf(0)", x.edgesOf(0), 0);
        Check.due("2 missed(0)", x.missed(0), 0);
        Check.due("2 answer(0)", x.answer(0), 0);
        Check.due("2 hittingSets(-1)", x.hittingSets(-1), 32);
        Check.due("2 diagramSize(0)", x.diagramSize(0), 0);
        Check.due("2 addEdge(1), which was an edge", x.addEdge(1), 0);
    }

    /** "... all weights are 1 ..." */
    private static void p02AllWeightsAre1() {
        HypergraphDualizer x = Given.with(14);
        for (int v = 0; v < 14; v++) {
            x.setWeight(v, 90);
        }
        x.reset(3);
        Check.due("2 weightOf(7) of 3", x.weightOf(7), 3);
        x.reset(14);
        Check.due("2 weightOf(16383) of 14", x.weightOf(16383), 14);
        x.setWeight(13, 0);
        x.reset(14);
        Check.due("2 weightOf(8192) after the same n", x.weightOf(8192), 1);
    }

    /** "... and no edit can be undone or redone." */
    private static void p02NoEditCanBeUndoneOrRedone() {
        HypergraphDualizer x = Given.inTheMidst();
        x.reset(4);
        Check.due("2 value(3)", x.value(3), 0);
        Check.due("2 redo()", x.redo(), NONE);
        Check.due("2 undo()", x.undo(), NONE);
        Check.due("2 value(1)", x.value(1), 0);
        x.addEdge(5);
        Check.due("2 undo() of an edit after it", x.undo(), 0);
        Check.due("2 value(1) after that", x.value(1), 0);
        Check.due("2 undo() of no more", x.undo(), NONE);
        Check.due("2 redo() of it", x.redo(), 0);
        Check.due("2 edge(0) after that", x.edge(0), 5);
    }

    /** "The text stays." */
    private static void p02TheTextStays() {
        HypergraphDualizer x = Given.with(14);
        Given.write(x, "13");
        x.reset(13);
        Check.due("2 readEdges() with fewer vertices", x.readEdges(), -101);
        x.reset(14);
        Check.due("2 readEdges() with more vertices", x.readEdges(), 1);
        for (int i = 2; i < 100; i++) {
            x.type('0');
        }
        x.reset(1);
        Check.due("2 type() when the text is full", x.type('0'), FULL);
        Check.due("2 clearText()", x.clearText(), 100);
    }

    /** "its vertices, 1 to ..." */
    private static void p03SetsFrom1() {
        for (int wrong : new int[] {0, -1, -16, Integer.MIN_VALUE}) {
            Given.refused("3 addEdge(" + wrong + ")", Given::inTheMidst, x -> x.addEdge(wrong), BAD_VALUE);
        }
        Check.due("3 addEdge(1)", Given.with(14).addEdge(1), 0);
    }

    /** "... 2^n - 1". */
    private static void p03SetsTo2PowNMinus1() {
        for (int n = 1; n <= 14; n++) {
            HypergraphDualizer x = Given.with(n);
            Check.due("3 addEdge(2^" + n + ")", x.addEdge(1 << n), BAD_VALUE);
            Check.due("3 addEdge(2^" + n + " + 1)", x.addEdge((1 << n) + 1), BAD_VALUE);
            Check.due("3 addEdge(2^" + n + " - 1)", x.addEdge((1 << n) - 1), 0);
            Check.due("3 edge(0)", x.edge(0), (1 << n) - 1);
        }
    }

    /** "NOT_NEW". */
    private static void p03NotNew() {
        Given.refused("3 addEdge(3), the first edge", Given::inTheMidst, x -> x.addEdge(3), NOT_NEW);
        Given.refused("3 addEdge(12), the last edge", Given::inTheMidst, x -> x.addEdge(12), NOT_NEW);
        Check.due("3 addEdge(9), an edge that is undone", Given.inTheMidst().addEdge(9), 3);
        HypergraphDualizer x = Given.with(1, 1);
        Check.due("3 addEdge(1), the only one", x.addEdge(1), NOT_NEW);
        x.removeEdge(0);
        Check.due("3 addEdge(1), an edge that is removed", x.addEdge(1), 0);
    }

    /** "FULL if there are 24 edges." */
    private static void p03FullWith24() {
        HypergraphDualizer x = Given.withFirstSets(23);
        Check.due("3 addEdge(24) with 23 edges", x.addEdge(24), 23);
        Check.due("3 addEdge(25) with 24 edges", x.addEdge(25), FULL);
        Check.due("3 value(1)", x.value(1), 24);
        Check.due("3 value(3)", x.value(3), 16);
        Check.due("3 missed(0)", x.missed(0), 0xFFFFFF);
        x.undo();
        Check.due("3 addEdge(25) with 23 edges", x.addEdge(25), 23);
    }

    /** "its number"; "NO_SUCH_EDGE". */
    private static void p04NoSuchEdge() {
        for (int wrong : new int[] {-1, 3, 4, 23, 24, 31, 32, 34, Integer.MIN_VALUE, Integer.MAX_VALUE}) {
            Given.refused("4 removeEdge(" + wrong + ")", Given::inTheMidst, x -> x.removeEdge(wrong), NO_SUCH_EDGE);
        }
        Check.due("4 removeEdge(0) without edges", Given.with(6).removeEdge(0), NO_SUCH_EDGE);
    }

    private static void p04TheOnlyEdge() {
        HypergraphDualizer x = Given.with(1, 1);
        Check.due("4 removeEdge(0)", x.removeEdge(0), 1);
        Check.due("4 value(1)", x.value(1), 0);
        Check.due("4 removeEdge(0) again", x.removeEdge(0), NO_SUCH_EDGE);
        Check.due("4 answer(0)", x.answer(0), 0);
        Check.due("4 undo()", x.undo(), 1);
        Check.due("4 answer(0) after undo", x.answer(0), 1);
    }

    /** "This is an edit, also if there are none." */
    private static void p05NoneToRemove() {
        HypergraphDualizer x = Given.inTheMidst();
        Check.due("5 minimize()", x.minimize(), 0);
        Check.due("5 value(3)", x.value(3), 4);
        Check.due("5 redo()", x.redo(), NONE);
        Check.dueText("5 edges", Given.edges(x), "3 6 12");
        HypergraphDualizer empty = Given.with(3);
        Check.due("5 minimize() without edges", empty.minimize(), 0);
        Check.due("5 value(3) without edges", empty.value(3), 1);
        Check.due("5 undo() without edges", empty.undo(), 0);
    }

    /** "Removes all edges that are not minimal." */
    private static void p05AllButOneRemoved() {
        HypergraphDualizer x = Given.with(6);
        for (int set = 63; set > 63 - 46; set -= 2) {
            x.addEdge(set);
        }
        x.addEdge(1);
        Check.due("5 value(1) before", x.value(1), 24);
        Check.due("5 minimize()", x.minimize(), 23);
        Check.dueText("5 edges", Given.edges(x), "1");
        Check.due("5 minimize() again", x.minimize(), 0);
        x.undo();
        x.undo();
        Check.due("5 value(1) after undo", x.value(1), 24);
        HypergraphDualizer y = Given.with(4, 12, 1, 13, 6, 14);
        Check.due("5 minimize() of some", y.minimize(), 2);
        Check.dueText("5 the order stays", Given.edges(y), "12 1 6");
    }

    /** "NO_SUCH_VERTEX". */
    private static void p06NoSuchVertex() {
        for (int wrong : new int[] {-1, 4, 13, 14, 32, 33, Integer.MIN_VALUE, Integer.MAX_VALUE}) {
            Given.refused("6 contract(" + wrong + ")", Given::inTheMidst, x -> x.contract(wrong), NO_SUCH_VERTEX);
        }
        HypergraphDualizer x = Given.with(14, 8192, 8193);
        Check.due("6 contract(13)", x.contract(13), 2);
        Check.dueText("6 edges", Given.edges(x), "1");
    }

    /** "... and all edges that are empty ... then." */
    private static void p06EmptyThen() {
        HypergraphDualizer x = Given.with(1, 1);
        Check.due("6 contract(0) of the only vertex", x.contract(0), 1);
        Check.due("6 value(1)", x.value(1), 0);
        Check.due("6 kindOf(0)", x.kindOf(0), 1);
        Check.due("6 undo()", x.undo(), 1);
        Check.due("6 edge(0)", x.edge(0), 1);
        HypergraphDualizer y = Given.with(3, 6, 1, 5);
        Check.due("6 contract(0) with an empty edge between", y.contract(0), 2);
        Check.dueText("6 edges", Given.edges(y), "6 4");
    }

    /** "... or equal to an earlier one then." */
    private static void p06EqualToAnEarlierOneThen() {
        HypergraphDualizer x = Given.with(4, 3, 2);
        Check.due("6 contract(0), the later one has not changed", x.contract(0), 1);
        Check.dueText("6 edges", Given.edges(x), "2");
        HypergraphDualizer y = Given.with(4, 2, 4, 3);
        Check.due("6 contract(0), the earlier one has not changed", y.contract(0), 1);
        Check.dueText("6 edges", Given.edges(y), "2 4");
        HypergraphDualizer z = Given.with(4, 3, 12, 2, 13, 8);
        Check.due("6 contract(0), two pairs", z.contract(0), 2);
        Check.dueText("6 edges", Given.edges(z), "2 12 8");
        HypergraphDualizer full = Given.withFirstSets(24);
        Check.due("6 contract(0) of 24", full.contract(0), 12);
        Check.dueText("6 edges", Given.edges(full), "2 4 6 8 10 12 14 16 18 20 22 24");
    }

    /** "Returns how many edges contained it": none, which is an edit too. */
    private static void p06AVertexWithoutEdges() {
        HypergraphDualizer x = Given.with(4, 3);
        Check.due("6 contract(3)", x.contract(3), 0);
        Check.due("6 value(3)", x.value(3), 2);
        Check.dueText("6 edges", Given.edges(x), "3");
        HypergraphDualizer empty = Given.with(4);
        Check.due("6 contract(0) without edges", empty.contract(0), 0);
        Check.due("6 value(3) without edges", empty.value(3), 1);
    }

    /** "The vertex itself stays, without an edge." */
    private static void p06TheVertexStays() {
        HypergraphDualizer x = Given.with(4, 9, 12, 15);
        x.setWeight(3, 8);
        Check.due("6 contract(3)", x.contract(3), 3);
        Check.due("6 value(0)", x.value(0), 4);
        Check.due("6 edgesOf(3)", x.edgesOf(3), 0);
        Check.due("6 weightOf(8)", x.weightOf(8), 8);
        Check.due("6 hittingSets(-1)", x.hittingSets(-1), 4);
        Check.due("6 addEdge(8)", x.addEdge(8), 3);
    }

    /** "NO_SUCH_VERTEX". */
    private static void p07NoSuchVertex() {
        for (int wrong : new int[] {-1, 4, 13, 14, 32, 33, Integer.MIN_VALUE, Integer.MAX_VALUE}) {
            Given.refused("7 delete(" + wrong + ")", Given::inTheMidst, x -> x.delete(wrong), NO_SUCH_VERTEX);
        }
        HypergraphDualizer x = Given.with(14, 8192, 4096);
        Check.due("7 delete(13)", x.delete(13), 1);
        Check.dueText("7 edges", Given.edges(x), "4096");
    }

    /** "Returns how many are removed": all, or none, which is an edit too. */
    private static void p07AllOrNoneRemoved() {
        HypergraphDualizer x = Given.with(4, 3, 1, 5);
        Check.due("7 delete(3), none", x.delete(3), 0);
        Check.due("7 value(3)", x.value(3), 4);
        Check.due("7 delete(0), all", x.delete(0), 3);
        Check.due("7 value(1)", x.value(1), 0);
        Check.due("7 value(0)", x.value(0), 4);
        Check.due("7 delete(0) without edges", x.delete(0), 0);
        Check.due("7 value(3) without edges", x.value(3), 6);
        x.undo();
        Check.due("7 undo()", x.undo(), 4);
        Check.dueText("7 edges after undo", Given.edges(x), "3 1 5");
        Check.due("7 delete(0) of 24", Given.withFirstSets(24).delete(0), 12);
    }

    /** "BAD_VALUE if there are no edges". */
    private static void p08WithoutEdges() {
        Given.refused("8 dualize() of a new object", HypergraphDualizer::new, x -> x.dualize(), BAD_VALUE);
        HypergraphDualizer x = Given.with(4, 3);
        x.undo();
        Check.due("8 dualize() when all is undone", x.dualize(), BAD_VALUE);
        Check.due("8 redo() after it", x.redo(), 0);
        Check.due("8 dualize() when it is redone", x.dualize(), 2);
    }

    /** "Returns the number of edges then": 1 to 24. */
    private static void p08UpTo24Answers() {
        HypergraphDualizer x = Given.withSingles(14);
        Check.due("8 dualize() with one answer", x.dualize(), 1);
        Check.due("8 edge(0)", x.edge(0), 16383);
        Check.due("8 dualize() back", x.dualize(), 14);
        Check.due("8 edge(13)", x.edge(13), 8192);
        HypergraphDualizer y = Given.with(9, 480, 28, 3);
        Check.due("8 dualize() with 24 answers", y.dualize(), 24);
        Check.due("8 missed(0)", y.missed(0), 0xFFFFFF);
        Check.due("8 addEdge(511)", y.addEdge(511), FULL);
        Check.due("8 undo()", y.undo(), 3);
    }

    /** "FULL if there are more than 24 answers." */
    private static void p08MoreThan24Answers() {
        Given.refused("8 dualize() with 25 answers", EditBoundsTest::with25Answers, x -> x.dualize(), FULL);
        HypergraphDualizer x = Given.with(14, 3, 12, 48, 192, 768, 3072, 12288);
        Check.due("8 dualize() with 128 answers", x.dualize(), FULL);
        Check.due("8 value(1)", x.value(1), 7);
    }

    private static HypergraphDualizer with25Answers() {
        HypergraphDualizer x = Given.with(10, 31, 992, 1);
        x.undo();
        return x;
    }

    /** "... by the answers, in the order of the sets." */
    private static void p08InTheOrderOfTheSets() {
        HypergraphDualizer x = Given.with(5, 7, 28, 10, 17, 31);
        x.setWeight(0, 50);
        Check.dueText("8 the search finds them in another order", Given.answers(x), "7 18 9 28");
        Check.due("8 dualize()", x.dualize(), 4);
        Check.dueText("8 edges", Given.edges(x), "7 9 18 28");
    }

    /** "NONE if there is none (nothing changes then)." */
    private static void p09NoneToUndo() {
        Given.refused("9 undo() of a new object", HypergraphDualizer::new, x -> x.undo(), NONE);
        HypergraphDualizer x = Given.with(4, 3, 6);
        Check.due("9 undo()", x.undo(), 1);
        Check.due("9 undo() of the last", x.undo(), 0);
        for (int i = 0; i < 3; i++) {
            Check.due("9 undo() of none", x.undo(), NONE);
        }
        Check.due("9 value(3)", x.value(3), 0);
        Check.due("9 redo()", x.redo(), 1);
        Check.dueText("9 edges after redo", Given.edges(x), "3");
    }

    private static HypergraphDualizer edited(int kind) {
        HypergraphDualizer x = Given.with(4, 3, 7, 12, 13);
        Given.write(x, "1,2;0,3");
        switch (kind) {
            case 0:
                x.addEdge(15);
                break;
            case 1:
                x.removeEdge(1);
                break;
            case 2:
                x.minimize();
                break;
            case 3:
                x.contract(0);
                break;
            case 4:
                x.delete(0);
                break;
            case 5:
                x.dualize();
                break;
            default:
                x.readEdges();
                break;
        }
        return x;
    }

    private static final String[] EDITED = {
        "3 7 12 13 15", "3 12 13", "3 12", "2 6 12", "12", "5 6 9 10", "3 7 12 13 6 9"};

    /** "Undoes the latest edit that is remembered." */
    private static void p09EachKindOfEdit() {
        for (int kind = 0; kind < EDITED.length; kind++) {
            HypergraphDualizer x = edited(kind);
            Check.dueText("9 edges after edit " + kind, Given.edges(x), EDITED[kind]);
            Check.due("9 value(3) after edit " + kind, x.value(3), 5);
            Check.due("9 undo() of edit " + kind, x.undo(), 4);
            Check.dueText("9 edges when edit " + kind + " is undone", Given.edges(x), "3 7 12 13");
            Check.due("9 edgesOf(0) when edit " + kind + " is undone", x.edgesOf(0), 11);
            Check.dueText("9 answers when edit " + kind + " is undone", Given.answers(x), "5 9 6 10");
            Check.due("9 undo() once more", x.undo(), 3);
            Check.dueText("9 edges then", Given.edges(x), "3 7 12");
        }
    }

    /** "NONE if there is none (nothing changes then)." */
    private static void p10NoneToRedo() {
        Given.refused("10 redo() of a new object", HypergraphDualizer::new, x -> x.redo(), NONE);
        Given.refused("10 redo() when nothing is undone", () -> Given.with(4, 3, 6), x -> x.redo(), NONE);
        HypergraphDualizer x = Given.with(4, 3, 6);
        x.undo();
        Check.due("10 redo() of the last", x.redo(), 0);
        Check.due("10 redo() of none", x.redo(), NONE);
        Check.due("10 value(3)", x.value(3), 2);
        Check.due("10 undo()", x.undo(), 1);
        Check.dueText("10 edges after undo", Given.edges(x), "3");
        x.minimize();
        Check.due("10 redo() after another edit", x.redo(), NONE);
    }

    /** "Redoes the latest edit that was undone." */
    private static void p10EachKindOfEdit() {
        for (int kind = 0; kind < EDITED.length; kind++) {
            HypergraphDualizer x = edited(kind);
            int answers = x.answerCount();
            x.undo();
            x.undo();
            Check.due("10 redo()", x.redo(), 1);
            Check.dueText("10 edges before edit " + kind, Given.edges(x), "3 7 12 13");
            Check.due("10 redo() of edit " + kind, x.redo(), 0);
            Check.dueText("10 edges when edit " + kind + " is redone", Given.edges(x), EDITED[kind]);
            Check.due("10 answerCount() when edit " + kind + " is redone", x.answerCount(), answers);
            Check.due("10 value(3)", x.value(3), 5);
        }
    }
}
