import java.util.function.ToIntFunction;

/** The boundary cases that "Description" names, a method for each sentence. */
public final class DescriptionBoundsTest {
    private static final int NO_SUCH_VERTEX = HypergraphDualizer.NO_SUCH_VERTEX;
    private static final int NO_SUCH_EDGE = HypergraphDualizer.NO_SUCH_EDGE;
    private static final int BAD_VALUE = HypergraphDualizer.BAD_VALUE;
    private static final int NOT_NEW = HypergraphDualizer.NOT_NEW;
    private static final int FULL = HypergraphDualizer.FULL;
    private static final int NONE = HypergraphDualizer.NONE;

    private DescriptionBoundsTest() {
    }

    public static void main(String[] args) {
        verticesAre1To14NumberedFrom0();
        setsAreFrom0To2PowNMinus1();
        bitETellsOfEdgeE();
        setsAreOrderedAsNumbers();
        edgesAreUpTo24NumberedFrom0();
        edgesAreNotEmpty();
        noTwoEdgesAreEqual();
        numbersBehindARemovedEdgeBecomeLessBy1();
        minimalIfNoOtherEdgeIsAProperSubset();
        weightsAreFrom0To99AtFirst1();
        withoutEdgesEachSetIsAHittingSet();
        minimalExactlyIfEachVertexHasAPrivateEdge();
        withoutEdgesTheOnlyAnswerIsTheEmptySet();
        searchBeginsWithAVisit();
        theFirstEdgeWithFewestCandidatesIsTaken();
        noVisitIfAVertexHasNoPrivateEdge();
        verticesArePutBackAlsoWithoutAVisit();
        theEmptyFamilyIsTheTerminal0();
        theFamilyOfTheEmptySetIsTheTerminal1();
        nodesHaveTheLowestVertexThatIsInSomeSet();
        equalFamiliesHaveTheSameDiagram();
        editsAreThoseThatSaySo();
        sixteenEditsAreKept();
        theRingOfEditsGoesRound();
        undoneEditsCanBeRedoneUntilTheNextEdit();
        redoneEditsAreInTheHistoryAgain();
        weightsAndTextAreNotChangedByUndoing();
        theTextHasUpTo100CharactersEmptyAtFirst();
        errorsAreCheckedInTheirOrder();
        noneOnlyIfNoErrorApplies();
        errorsChangeNothing();
        answersHoldThrough512Calls();
        Check.end();
    }

    /** "There are n vertices, 1 to 14, numbered from 0." */
    private static void verticesAre1To14NumberedFrom0() {
        for (int n = 1; n <= 14; n++) {
            HypergraphDualizer x = Given.with(n);
            for (int wrong : new int[] {-1, n, n + 1, 15, 31, 32, 33, Integer.MIN_VALUE, Integer.MAX_VALUE}) {
                String of = "with " + n + " vertices, of vertex " + wrong + ": ";
                Check.due(of + "contract", x.contract(wrong), NO_SUCH_VERTEX);
                Check.due(of + "delete", x.delete(wrong), NO_SUCH_VERTEX);
                Check.due(of + "edgesOf", x.edgesOf(wrong), NO_SUCH_VERTEX);
                Check.due(of + "setWeight", x.setWeight(wrong, 1), NO_SUCH_VERTEX);
                Check.due(of + "privateEdges", x.privateEdges(0, wrong), NO_SUCH_VERTEX);
                Check.due(of + "answersWith", x.answersWith(wrong), NO_SUCH_VERTEX);
                Check.due(of + "nodesAt", x.nodesAt(2, wrong), NO_SUCH_VERTEX);
            }
            for (int vertex : new int[] {0, n - 1}) {
                String of = "with " + n + " vertices, of vertex " + vertex + ": ";
                Check.due(of + "contract", x.contract(vertex), 0);
                Check.due(of + "delete", x.delete(vertex), 0);
                Check.due(of + "edgesOf", x.edgesOf(vertex), 0);
                Check.due(of + "setWeight", x.setWeight(vertex, 1), 1);
                Check.due(of + "privateEdges", x.privateEdges(0, vertex), NONE);
                Check.due(of + "privateEdges in it", x.privateEdges(1 << vertex, vertex), 0);
                Check.due(of + "answersWith", x.answersWith(vertex), 0);
                Check.due(of + "nodesAt", x.nodesAt(2, vertex), 1);
            }
        }
    }

    /** "A set of vertices is an int ...; it is from 0 to 2^n - 1." */
    private static void setsAreFrom0To2PowNMinus1() {
        for (int n = 1; n <= 14; n++) {
            HypergraphDualizer x = Given.with(n);
            int end = 1 << n;
            int[] outside = {end, end + 1, 2 * end, -1, -2, -end, end | 1 << 30, 1 << 31, 1 << 31 | 1, 1 << 16 | 1,
                Integer.MAX_VALUE};
            for (int wrong : outside) {
                String of = "with " + n + " vertices, of the set " + wrong + ": ";
                Check.due(of + "addEdge", x.addEdge(wrong), BAD_VALUE);
                Check.due(of + "missed", x.missed(wrong), BAD_VALUE);
                Check.due(of + "privateEdges", x.privateEdges(wrong, 0), BAD_VALUE);
                Check.due(of + "kindOf", x.kindOf(wrong), BAD_VALUE);
                Check.due(of + "shrink", x.shrink(wrong), BAD_VALUE);
                Check.due(of + "grow", x.grow(wrong), BAD_VALUE);
                Check.due(of + "weightOf", x.weightOf(wrong), BAD_VALUE);
                Check.due(of + "next", x.next(wrong), wrong == -1 ? 0 : BAD_VALUE);
            }
            int top = end - 1;
            String of = "with " + n + " vertices, of the set of all: ";
            Check.due(of + "missed", x.missed(top), 0);
            Check.due(of + "privateEdges", x.privateEdges(top, n - 1), 0);
            Check.due(of + "kindOf", x.kindOf(top), 2);
            Check.due(of + "shrink", x.shrink(top), 0);
            Check.due(of + "grow", x.grow(top), top);
            Check.due(of + "weightOf", x.weightOf(top), n);
            Check.due(of + "next", x.next(top), NONE);
            Check.due(of + "addEdge", x.addEdge(top), 0);
            Check.due("with " + n + " vertices, missed(0)", x.missed(0), 1);
            Check.due("with " + n + " vertices, grow(0)", x.grow(0), 1);
            Check.due("with " + n + " vertices, weightOf(0)", x.weightOf(0), 0);
        }
    }

    /** "Sets of edges are ints likewise, bit e for edge e." */
    private static void bitETellsOfEdgeE() {
        HypergraphDualizer x = Given.withFirstSets(24);
        Check.due("bits: missed(0), all of 24", x.missed(0), 0xFFFFFF);
        Check.due("bits: missed(31), none of 24", x.missed(31), 0);
        Check.due("bits: missed(16)", x.missed(16), 0x7FFF);
        Check.due("bits: missed(7), the last one not hit", x.missed(7), 1 << 7 | 1 << 15 | 1 << 23);
        Check.due("bits: edgesOf(4)", x.edgesOf(4), 0xFF8000);
        Check.due("bits: privateEdges(16, 4)", x.privateEdges(16, 4), 0xFF8000);
        Check.due("bits: privateEdges(24, 4)", x.privateEdges(24, 4), 0x7F8000);
        x.removeEdge(0);
        Check.due("bits: missed(0), all of 23", x.missed(0), 0x7FFFFF);
        HypergraphDualizer y = Given.with(14, 16383);
        Check.due("bits: edgesOf(13)", y.edgesOf(13), 1);
        Check.due("bits: privateEdges(8192, 13)", y.privateEdges(8192, 13), 1);
    }

    /** "Sets are ordered as numbers." */
    private static void setsAreOrderedAsNumbers() {
        HypergraphDualizer x = Given.with(4, 8, 3);
        Check.dueText("order: answers as they are found", Given.answers(x), "9 10");
        Check.due("order: next(8)", x.next(8), 9);
        Check.due("order: lightest(0)", x.lightest(0), 9);
        HypergraphDualizer y = Given.with(4, 12, 3);
        y.setWeight(2, 0);
        y.setWeight(3, 0);
        y.setWeight(0, 0);
        y.setWeight(1, 0);
        Check.due("order: lightest(3), a single great vertex counts more", y.lightest(3), 10);
        Check.due("order: difference(), a small set before a great one", Given.with(4, 7, 8).difference(), 7);
        y.dualize();
        Check.dueText("order: dualize()", Given.edges(y), "5 6 9 10");
    }

    /** "It has up to 24 edges, numbered from 0, each a set of vertices ..." */
    private static void edgesAreUpTo24NumberedFrom0() {
        HypergraphDualizer x = Given.with(5);
        Check.due("24 edges: edge(0) of none", x.edge(0), NO_SUCH_EDGE);
        for (int set = 1; set <= 24; set++) {
            Check.due("24 edges: addEdge(" + set + ")", x.addEdge(set), set - 1);
            Check.due("24 edges: edge behind the last", x.edge(set), NO_SUCH_EDGE);
        }
        Check.due("24 edges: one too much", x.addEdge(25), FULL);
        Check.due("24 edges: value(1)", x.value(1), 24);
        Check.due("24 edges: edge(0)", x.edge(0), 1);
        Check.due("24 edges: edge(23)", x.edge(23), 24);
        Check.due("24 edges: edge(24)", x.edge(24), NO_SUCH_EDGE);
        Check.due("24 edges: removeEdge(24)", x.removeEdge(24), NO_SUCH_EDGE);
        Check.due("24 edges: removeEdge(23)", x.removeEdge(23), 24);
        Check.due("24 edges: removeEdge(23) again", x.removeEdge(23), NO_SUCH_EDGE);
    }

    /** "... a set of vertices that is not empty ..." */
    private static void edgesAreNotEmpty() {
        HypergraphDualizer x = Given.with(3, 4);
        Check.due("not empty: addEdge(0)", x.addEdge(0), BAD_VALUE);
        Check.due("not empty: contract(2)", x.contract(2), 1);
        Check.due("not empty: value(1)", x.value(1), 0);
        Check.due("not empty: value(4)", x.value(4), 0);
    }

    /** "... no two edges are equal." */
    private static void noTwoEdgesAreEqual() {
        HypergraphDualizer x = Given.with(4, 9, 6, 14);
        Check.due("equal: the first", x.addEdge(9), NOT_NEW);
        Check.due("equal: one between", x.addEdge(6), NOT_NEW);
        Check.due("equal: the last", x.addEdge(14), NOT_NEW);
        Check.due("equal: contract(3)", x.contract(3), 2);
        Check.dueText("equal: what is left", Given.edges(x), "1 6");
        Check.due("equal: one that was shortened", x.addEdge(1), NOT_NEW);
        Check.due("equal: one that is no more", x.addEdge(9), 2);
        Given.write(x, "1,2");
        Check.due("equal: readEdges()", x.readEdges(), -103);
    }

    /** "When an edge is removed, the numbers of those behind it become less by 1." */
    private static void numbersBehindARemovedEdgeBecomeLessBy1() {
        for (int removed = 0; removed < 24; removed++) {
            HypergraphDualizer x = Given.withFirstSets(24);
            Check.due("numbers: removeEdge(" + removed + ")", x.removeEdge(removed), removed + 1);
            for (int e = 0; e < 23; e++) {
                Check.due("numbers: edge(" + e + ") after it", x.edge(e), e < removed ? e + 1 : e + 2);
            }
            Check.due("numbers: edge(23) after it", x.edge(23), NO_SUCH_EDGE);
            Check.due("numbers: missed(0) after it", x.missed(0), 0x7FFFFF);
            Check.due("numbers: addEdge(31) after it", x.addEdge(31), 23);
        }
    }

    /** "An edge is minimal if no other edge is a proper subset of it." */
    private static void minimalIfNoOtherEdgeIsAProperSubset() {
        Check.due("minimal: one edge", Given.with(5, 31).value(2), 1);
        Check.due("minimal: none", Given.with(5).value(2), 0);
        Check.due("minimal: edges with common vertices", Given.with(5, 7, 14, 28).value(2), 3);
        HypergraphDualizer up = Given.with(14);
        HypergraphDualizer down = Given.with(14);
        for (int size = 1; size <= 14; size++) {
            up.addEdge((1 << size) - 1);
            down.addEdge((1 << 15 - size) - 1);
        }
        Check.due("minimal: a chain upwards", up.value(2), 1);
        Check.due("minimal: a chain downwards", down.value(2), 1);
        Check.due("minimal: value(5) of a chain", down.value(5), 1);
        Check.due("minimal: minimize() of a chain", down.minimize(), 13);
        Check.dueText("minimal: what is left of a chain", Given.edges(down), "1");
        Check.due("minimal: all single vertices", Given.withSingles(14).value(2), 14);
    }

    /** "Each vertex has a weight from 0 to 99, at first 1." */
    private static void weightsAreFrom0To99AtFirst1() {
        HypergraphDualizer x = Given.with(14);
        for (int v = 0; v < 14; v++) {
            Check.due("weights: setWeight(" + v + ", 0), at first 1", x.setWeight(v, 0), 1);
            Check.due("weights: setWeight(" + v + ", 100)", x.setWeight(v, 100), BAD_VALUE);
            Check.due("weights: setWeight(" + v + ", -1)", x.setWeight(v, -1), BAD_VALUE);
            Check.due("weights: setWeight(" + v + ", 99)", x.setWeight(v, 99), 0);
        }
        Check.due("weights: the greatest sum", x.weightOf(16383), 14 * 99);
    }

    /** "... (without edges each set is one)." */
    private static void withoutEdgesEachSetIsAHittingSet() {
        HypergraphDualizer x = Given.with(4);
        for (int set = 0; set < 16; set++) {
            Check.due("no edges: missed(" + set + ")", x.missed(set), 0);
            Check.due("no edges: kindOf(" + set + ")", x.kindOf(set), set == 0 ? 1 : 2);
            Check.due("no edges: shrink(" + set + ")", x.shrink(set), 0);
            Check.due("no edges: grow(" + set + ")", x.grow(set), set);
        }
        Check.due("no edges: hittingSets(-1)", x.hittingSets(-1), 16);
        Check.dueExactly("no edges: chance()", x.chance(), 1f);
    }

    /** "... a hitting set is minimal exactly if each of its vertices has a private edge." */
    private static void minimalExactlyIfEachVertexHasAPrivateEdge() {
        HypergraphDualizer x = Given.with(5, 7, 28, 10, 17, 31);
        for (int set = 0; set < 32; set++) {
            boolean eachHasOne = true;
            for (int v = 0; v < 5; v++) {
                eachHasOne &= x.privateEdges(set, v) != 0;
            }
            int kind = x.missed(set) != 0 ? 0 : eachHasOne ? 1 : 2;
            Check.due("private edges: kindOf(" + set + ")", x.kindOf(set), kind);
        }
    }

    /** "(Without edges the only answer is the empty set.)" */
    private static void withoutEdgesTheOnlyAnswerIsTheEmptySet() {
        HypergraphDualizer x = Given.with(14);
        Check.due("no edges: answerCount()", x.answerCount(), 1);
        Check.due("no edges: answer(0)", x.answer(0), 0);
        Check.due("no edges: answer(1)", x.answer(1), NONE);
        Check.due("no edges: next(-1)", x.next(-1), 0);
        Check.due("no edges: next(0)", x.next(0), NONE);
        Check.due("no edges: lightest(0)", x.lightest(0), 0);
        Check.due("no edges: lightest(1)", x.lightest(1), NONE);
        Check.due("no edges: answersOfSize(0)", x.answersOfSize(0), 1);
        Check.due("no edges: answersOfSize(1)", x.answersOfSize(1), 0);
        Check.due("no edges: answersWith(0)", x.answersWith(0), 0);
        Check.due("no edges: isSelfDual()", x.isSelfDual(), 0);
        Check.due("no edges: difference()", x.difference(), 0);
    }

    /** "... begins with a visit with S empty ..."; "The visits are counted, the first one included." */
    private static void searchBeginsWithAVisit() {
        HypergraphDualizer x = Given.with(14);
        Check.due("first visit: visits()", x.visits(), 1);
        Check.due("first visit: delay(0)", x.delay(0), 1);
        x.addEdge(1 << 13);
        Check.due("first visit: visits() with one more", x.visits(), 2);
        Check.due("first visit: delay(0) with one more", x.delay(0), 2);
    }

    /** "... the one with the fewest vertices in C is taken, the first one of several ..." */
    private static void theFirstEdgeWithFewestCandidatesIsTaken() {
        Check.dueText("fewest: the first of two", Given.answers(Given.with(4, 3, 12)), "5 9 6 10");
        Check.dueText("fewest: the first of two, exchanged", Given.answers(Given.with(4, 12, 3)), "5 6 9 10");
        Check.dueText("fewest: a later one that is smaller", Given.answers(Given.with(4, 14, 3)), "5 9 2");
        // Below {0} the edge {1, 2, 4, 6} has two vertices in C and {3, 4, 5} has three, though it is smaller.
        Check.dueText("fewest: vertices in C alone count", Given.answers(Given.with(7, 7, 56, 86)),
            "17 73 97 10 18 34 12 20 36");
    }

    /** "... if in the set S with v each vertex has a private edge, there is a visit with this set ..." */
    private static void noVisitIfAVertexHasNoPrivateEdge() {
        // {1, 3} is visited last: it misses {0, 2}, and neither 0 nor 2 leaves a private edge to both 1 and 3.
        HypergraphDualizer x = Given.with(4, 3, 12, 5);
        Check.due("private: visits()", x.visits(), 7);
        Check.dueText("private: answers", Given.answers(x), "5 9 6");
        Check.due("private: delay(0)", x.delay(0), 3);
        Check.due("private: delay(1)", x.delay(1), 1);
        Check.due("private: delay(2), a visit after it counts for no answer", x.delay(2), 2);
        Check.due("private: delay(3)", x.delay(3), NONE);
    }

    /** "... after that (also if there was no such visit), v is put back into C." */
    private static void verticesArePutBackAlsoWithoutAVisit() {
        // Below {2} there is no visit with {1, 2}; with 1 in C again, {0, 1, 3} is greater than {3, 5} below {2, 4}.
        HypergraphDualizer x = Given.with(6, 6, 11, 18, 40);
        Check.dueText("put back: answers", Given.answers(x), "10 34 28 53");
        int[] delays = {3, 1, 3, 2};
        for (int k = 0; k < delays.length; k++) {
            Check.due("put back: delay(" + k + ")", x.delay(k), delays[k]);
        }
        Check.due("put back: visits()", x.visits(), 9);
    }

    /** "... the empty family is the terminal 0 ..."; "... terminals not counted." */
    private static void theEmptyFamilyIsTheTerminal0() {
        for (int n = 1; n <= 14; n++) {
            HypergraphDualizer x = Given.with(n);
            Check.due("terminal 0: diagramSize(0)", x.diagramSize(0), 0);
            Check.due("terminal 0: nodesAt(0, 0)", x.nodesAt(0, 0), 0);
            Check.due("terminal 0: nodesAt(0, " + (n - 1) + ")", x.nodesAt(0, n - 1), 0);
        }
    }

    /** "... the family that has the empty set alone is the terminal 1." */
    private static void theFamilyOfTheEmptySetIsTheTerminal1() {
        for (int n = 1; n <= 14; n++) {
            HypergraphDualizer x = Given.with(n);
            Check.due("terminal 1: diagramSize(1)", x.diagramSize(1), 0);
            Check.due("terminal 1: nodesAt(1, 0)", x.nodesAt(1, 0), 0);
            Check.due("terminal 1: nodesAt(1, " + (n - 1) + ")", x.nodesAt(1, n - 1), 0);
            Check.due("terminal 1: diagramSize(2), the empty set and others", x.diagramSize(2), n);
        }
    }

    /** "... let v be the lowest vertex that is in some of its sets ..." */
    private static void nodesHaveTheLowestVertexThatIsInSomeSet() {
        HypergraphDualizer x = Given.with(14, 1 << 13);
        Check.due("lowest: one edge with one vertex", x.diagramSize(0), 1);
        for (int v = 0; v < 13; v++) {
            Check.due("lowest: nodesAt(0, " + v + ")", x.nodesAt(0, v), 0);
        }
        Check.due("lowest: nodesAt(0, 13)", x.nodesAt(0, 13), 1);
        Check.due("lowest: one edge with all vertices", Given.with(14, 16383).diagramSize(0), 14);
        Check.due("lowest: all single vertices", Given.withSingles(14).diagramSize(0), 14);
        Check.due("lowest: their only answer", Given.withSingles(14).diagramSize(1), 14);
    }

    /** "Equal families have the same diagram; the size ... is the number of different nodes in it ..." */
    private static void equalFamiliesHaveTheSameDiagram() {
        // {0, 3}, {1, 3} and {2, 3}: the part with 3 is there once.
        HypergraphDualizer x = Given.with(4, 9, 10, 12);
        Check.due("same: diagramSize(0)", x.diagramSize(0), 4);
        Check.due("same: nodesAt(0, 3)", x.nodesAt(0, 3), 1);
        // {0, 2}, {1, 2} and {1}: {{2}} and {{}, {2}} are two families with the same vertex.
        HypergraphDualizer y = Given.with(3, 5, 6, 2);
        Check.due("different: nodesAt(0, 2)", y.nodesAt(0, 2), 2);
        Check.due("different: diagramSize(0)", y.diagramSize(0), 4);
        // {0, 2} and {1}: the parts {{2}} and {{1}} differ in their vertices alone.
        HypergraphDualizer z = Given.with(3, 5, 2);
        Check.due("different vertices: diagramSize(0)", z.diagramSize(0), 3);
        Check.due("different vertices: nodesAt(0, 1)", z.nodesAt(0, 1), 1);
        Check.due("different vertices: nodesAt(0, 2)", z.nodesAt(0, 2), 1);
    }

    private static void isEdit(String call, ToIntFunction<HypergraphDualizer> made) {
        HypergraphDualizer x = Given.inTheMidst();
        made.applyAsInt(x);
        Check.due(call + " is an edit: value(3)", x.value(3), 4);
        Check.due(call + " is an edit: redo()", x.redo(), NONE);
        Check.due(call + " is an edit: undo()", x.undo(), 3);
        Check.dueText(call + " is an edit: edges after undo", Given.edges(x), "3 6 12");
    }

    private static void isNoEdit(String call, ToIntFunction<HypergraphDualizer> made) {
        HypergraphDualizer x = Given.inTheMidst();
        made.applyAsInt(x);
        Check.due(call + " is no edit: value(3)", x.value(3), 3);
        Check.due(call + " is no edit: redo()", x.redo(), 1);
        Check.dueText(call + " is no edit: edges after redo", Given.edges(x), "3 6 12 9");
    }

    /** "The methods that say so are edits, if they report no error." */
    private static void editsAreThoseThatSaySo() {
        isEdit("addEdge(5)", x -> x.addEdge(5));
        isEdit("removeEdge(1)", x -> x.removeEdge(1));
        isEdit("minimize() of nothing", x -> x.minimize());
        isEdit("contract(1)", x -> x.contract(1));
        isEdit("delete(1)", x -> x.delete(1));
        isEdit("dualize()", x -> x.dualize());
        isEdit("readEdges()", x -> x.readEdges());
        isNoEdit("addEdge(3)", x -> x.addEdge(3));
        isNoEdit("addEdge(0)", x -> x.addEdge(0));
        isNoEdit("removeEdge(3)", x -> x.removeEdge(3));
        isNoEdit("contract(4)", x -> x.contract(4));
        isNoEdit("delete(-1)", x -> x.delete(-1));
        isNoEdit("reset(0)", x -> x.reset(0));
        isNoEdit("readEdges() with a fault", x -> x.type(';') + x.readEdges());
        isNoEdit("setWeight(1, 7)", x -> x.setWeight(1, 7));
        isNoEdit("type('0')", x -> x.type('0'));
        isNoEdit("clearText()", x -> x.clearText());
        isNoEdit("answerCount()", x -> x.answerCount());
        isNoEdit("shrink(15)", x -> x.shrink(15));
        isNoEdit("grow(0)", x -> x.grow(0));
        isNoEdit("diagramSize(2)", x -> x.diagramSize(2));
    }

    /** "A history of at most 16 edits is kept; when one more is carried out, the oldest one is dropped." */
    private static void sixteenEditsAreKept() {
        for (int edits = 14; edits <= 20; edits++) {
            HypergraphDualizer x = Given.withFirstSets(edits);
            int kept = Math.min(edits, 16);
            Check.due("16 edits: value(3) after " + edits, x.value(3), kept);
            for (int more = kept - 1; more >= 0; more--) {
                Check.due("16 edits: undo() after " + edits, x.undo(), more);
            }
            Check.due("16 edits: one undo() more after " + edits, x.undo(), NONE);
            Check.due("16 edits: value(1) when all is undone", x.value(1), edits - kept);
        }
        HypergraphDualizer y = Given.withFirstSets(16);
        y.minimize();
        Check.due("16 edits: minimize() drops one too", y.value(3), 16);
        Given.write(y, "0,1,2,3,4;2,3,4");
        y.readEdges();
        Check.due("16 edits: readEdges() drops one alone", y.value(3), 16);
        for (int i = 0; i < 16; i++) {
            y.undo();
        }
        Check.dueText("16 edits: the first two edits are dropped", Given.edges(y), "1 2");
    }

    /** The same once more, when the rows of edges have been used again and again. */
    private static void theRingOfEditsGoesRound() {
        HypergraphDualizer x = Given.with(14);
        int made = 0;
        for (int round = 0; round < 5; round++) {
            for (int i = 0; i < 7; i++) {
                made++;
                x.addEdge(made);
                x.undo();
                x.redo();
                x.removeEdge(0);
            }
        }
        Check.due("round: value(3)", x.value(3), 16);
        for (int i = 0; i < 8; i++) {
            Check.due("round: undo()", x.undo(), 15 - 2 * i);
            Check.due("round: edge(0)", x.edge(0), made - i);
            Check.due("round: value(1)", x.value(1), 1);
            Check.due("round: undo() once more", x.undo(), 14 - 2 * i);
            Check.due("round: value(1) without edges", x.value(1), 0);
        }
        Check.due("round: undo() of none", x.undo(), NONE);
        for (int more = 15; more >= 0; more--) {
            Check.due("round: redo()", x.redo(), more);
        }
        Check.due("round: redo() of none", x.redo(), NONE);
    }

    /** "... what was undone can be redone until the next edit ..." */
    private static void undoneEditsCanBeRedoneUntilTheNextEdit() {
        HypergraphDualizer x = Given.with(4, 1, 2, 4);
        x.undo();
        x.undo();
        x.setWeight(0, 4);
        x.type('7');
        x.addEdge(0);
        Check.due("until the next edit: redo()", x.redo(), 1);
        x.addEdge(8);
        Check.due("until the next edit: redo() after it", x.redo(), NONE);
        x.undo();
        x.undo();
        Check.due("until the next edit: redo() of the new one", x.redo(), 1);
        Check.due("until the next edit: redo() of the new one", x.redo(), 0);
        Check.dueText("until the next edit: edges", Given.edges(x), "1 2 8");
    }

    /** "... and is in the history again then." */
    private static void redoneEditsAreInTheHistoryAgain() {
        HypergraphDualizer x = Given.withFirstSets(16);
        for (int round = 0; round < 3; round++) {
            for (int i = 0; i < 16; i++) {
                x.undo();
            }
            Check.due("again: value(3) when all is undone", x.value(3), 0);
            Check.due("again: value(1) when all is undone", x.value(1), 0);
            for (int i = 0; i < 16; i++) {
                x.redo();
            }
            Check.due("again: value(3) when all is redone", x.value(3), 16);
            Check.due("again: value(1) when all is redone", x.value(1), 16);
        }
    }

    /** "(Weights and the text are not changed by that.)" */
    private static void weightsAndTextAreNotChangedByUndoing() {
        HypergraphDualizer x = Given.with(3, 1);
        x.setWeight(0, 9);
        x.type('1');
        x.addEdge(2);
        x.setWeight(0, 20);
        x.type(',');
        x.undo();
        Check.due("not changed: weightOf(1) after undo", x.weightOf(1), 20);
        x.redo();
        x.setWeight(1, 30);
        x.type('2');
        x.undo();
        x.undo();
        x.redo();
        Check.due("not changed: weightOf(7)", x.weightOf(7), 51);
        Check.due("not changed: readEdges()", x.readEdges(), 1);
        Check.due("not changed: edge(1)", x.edge(1), 6);
        x.undo();
        Check.due("not changed: clearText()", x.clearText(), 3);
        x.redo();
        Check.due("not changed: clearText() after redo", x.clearText(), 0);
    }

    /** "There is a text of at most 100 characters, empty at first." */
    private static void theTextHasUpTo100CharactersEmptyAtFirst() {
        HypergraphDualizer x = new HypergraphDualizer();
        Check.due("text: readEdges() at first", x.readEdges(), -100);
        Check.due("text: clearText() at first", x.clearText(), 0);
        for (int i = 1; i <= 100; i++) {
            Check.due("text: type()", x.type('1'), i);
        }
        Check.due("text: one more", x.type('1'), FULL);
        Check.due("text: clearText()", x.clearText(), 100);
    }

    /** "Where several errors can apply, the order of the @return line is the order of the checks." */
    private static void errorsAreCheckedInTheirOrder() {
        HypergraphDualizer x = Given.withFirstSets(24);
        Check.due("order: addEdge, NOT_NEW before FULL", x.addEdge(7), NOT_NEW);
        Check.due("order: addEdge, BAD_VALUE before FULL", x.addEdge(0), BAD_VALUE);
        Check.due("order: addEdge, BAD_VALUE before FULL", x.addEdge(32), BAD_VALUE);
        Check.due("order: addEdge, FULL", x.addEdge(25), FULL);
        Check.due("order: setWeight", x.setWeight(5, 100), NO_SUCH_VERTEX);
        Check.due("order: setWeight", x.setWeight(-1, -1), NO_SUCH_VERTEX);
        Check.due("order: setWeight", x.setWeight(4, 100), BAD_VALUE);
        Check.due("order: privateEdges", x.privateEdges(32, 5), BAD_VALUE);
        Check.due("order: privateEdges", x.privateEdges(-1, -1), BAD_VALUE);
        Check.due("order: privateEdges", x.privateEdges(0, 5), NO_SUCH_VERTEX);
        Check.due("order: privateEdges", x.privateEdges(0, 4), NONE);
        Check.due("order: nodesAt", x.nodesAt(3, 5), BAD_VALUE);
        Check.due("order: nodesAt", x.nodesAt(-1, -1), BAD_VALUE);
        Check.due("order: nodesAt", x.nodesAt(0, 5), NO_SUCH_VERTEX);
    }

    /** "NONE is returned only if no error applies." */
    private static void noneOnlyIfNoErrorApplies() {
        HypergraphDualizer x = Given.with(5, 3, 6);
        Check.due("no error: answer(-1)", x.answer(-1), BAD_VALUE);
        Check.due("no error: answer(2)", x.answer(2), NONE);
        Check.due("no error: delay(-1)", x.delay(-1), BAD_VALUE);
        Check.due("no error: delay(2)", x.delay(2), NONE);
        Check.due("no error: lightest(-1)", x.lightest(-1), BAD_VALUE);
        Check.due("no error: lightest(2)", x.lightest(2), NONE);
        Check.due("no error: next(32)", x.next(32), BAD_VALUE);
        Check.due("no error: next(31)", x.next(31), NONE);
        Check.due("no error: shrink(-1)", x.shrink(-1), BAD_VALUE);
        Check.due("no error: shrink(0)", x.shrink(0), NONE);
        Check.due("no error: privateEdges(32, 0)", x.privateEdges(32, 0), BAD_VALUE);
        Check.due("no error: privateEdges(2, 0)", x.privateEdges(2, 0), NONE);
    }

    /** "A call that reports an error changes nothing." */
    private static void errorsChangeNothing() {
        Given.refused("reset(0)", Given::inTheMidst, x -> x.reset(0), BAD_VALUE);
        Given.refused("reset(15)", Given::inTheMidst, x -> x.reset(15), BAD_VALUE);
        Given.refused("addEdge(0)", Given::inTheMidst, x -> x.addEdge(0), BAD_VALUE);
        Given.refused("addEdge(16)", Given::inTheMidst, x -> x.addEdge(16), BAD_VALUE);
        Given.refused("addEdge(6)", Given::inTheMidst, x -> x.addEdge(6), NOT_NEW);
        Given.refused("removeEdge(3)", Given::inTheMidst, x -> x.removeEdge(3), NO_SUCH_EDGE);
        Given.refused("removeEdge(-1)", Given::inTheMidst, x -> x.removeEdge(-1), NO_SUCH_EDGE);
        Given.refused("contract(4)", Given::inTheMidst, x -> x.contract(4), NO_SUCH_VERTEX);
        Given.refused("contract(-1)", Given::inTheMidst, x -> x.contract(-1), NO_SUCH_VERTEX);
        Given.refused("delete(4)", Given::inTheMidst, x -> x.delete(4), NO_SUCH_VERTEX);
        Given.refused("delete(-1)", Given::inTheMidst, x -> x.delete(-1), NO_SUCH_VERTEX);
        Given.refused("setWeight(4, 3)", Given::inTheMidst, x -> x.setWeight(4, 3), NO_SUCH_VERTEX);
        Given.refused("setWeight(2, 100)", Given::inTheMidst, x -> x.setWeight(2, 100), BAD_VALUE);
        Given.refused("setWeight(2, -1)", Given::inTheMidst, x -> x.setWeight(2, -1), BAD_VALUE);
        Given.refused("edge(3)", Given::inTheMidst, x -> x.edge(3), NO_SUCH_EDGE);
        Given.refused("value(6)", Given::inTheMidst, x -> x.value(6), BAD_VALUE);
        Given.refused("shrink(16)", Given::inTheMidst, x -> x.shrink(16), BAD_VALUE);
        Given.refused("grow(16)", Given::inTheMidst, x -> x.grow(16), BAD_VALUE);
        Given.refused("hittingSets(5)", Given::inTheMidst, x -> x.hittingSets(5), BAD_VALUE);
        Given.refused("diagramSize(3)", Given::inTheMidst, x -> x.diagramSize(3), BAD_VALUE);
        Given.refused("nodesAt(1, 4)", Given::inTheMidst, x -> x.nodesAt(1, 4), NO_SUCH_VERTEX);
        Given.refused("dualize() without edges", DescriptionBoundsTest::withAllUndone, x -> x.dualize(), BAD_VALUE);
        Given.refused("addEdge(25) when it is full", DescriptionBoundsTest::fullAndOneUndone, x -> x.addEdge(25), FULL);
    }

    private static HypergraphDualizer withAllUndone() {
        HypergraphDualizer x = Given.inTheMidst();
        x.undo();
        x.undo();
        x.undo();
        return x;
    }

    private static HypergraphDualizer fullAndOneUndone() {
        HypergraphDualizer x = Given.withFirstSets(24);
        x.removeEdge(3);
        x.undo();
        return x;
    }

    /** "An object is used for at most 512 calls after it has been made." */
    private static void answersHoldThrough512Calls() {
        HypergraphDualizer x = new HypergraphDualizer();
        for (int call = 0; call < 508; call += 4) {
            Check.due("512 calls: addEdge", x.addEdge(1 + call % 63), 0);
            Check.due("512 calls: hittingSets", x.hittingSets(0), 0);
            Check.due("512 calls: answerCount", x.answerCount(), Integer.bitCount(1 + call % 63));
            Check.due("512 calls: removeEdge", x.removeEdge(0), 1 + call % 63);
        }
        Check.due("512 calls: value(3)", x.value(3), 16);
        Check.due("512 calls: undo()", x.undo(), 15);
        Check.due("512 calls: visits()", x.visits(), 1 + Integer.bitCount(1 + 504 % 63));
        Check.due("512 calls: redo()", x.redo(), 0);
    }
}
