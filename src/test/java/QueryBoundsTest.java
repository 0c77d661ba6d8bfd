/** The boundary cases of promises 11 to 35: the ranges of the arguments and each thing that is returned. */
public final class QueryBoundsTest {
    private static final int NO_SUCH_VERTEX = HypergraphDualizer.NO_SUCH_VERTEX;
    private static final int NO_SUCH_EDGE = HypergraphDualizer.NO_SUCH_EDGE;
    private static final int BAD_VALUE = HypergraphDualizer.BAD_VALUE;
    private static final int NONE = HypergraphDualizer.NONE;
    private static final int MIN = Integer.MIN_VALUE;
    private static final int MAX = Integer.MAX_VALUE;
    /** Numbers of no vertex with five vertices, some of which are bits of a vertex if a shift wraps around. */
    private static final int[] NO_VERTICES = {-1, -27, 5, 6, 13, 14, 31, 32, 36, MIN, MAX};
    /** Numbers of no set with five vertices. */
    private static final int[] NO_SETS = {-1, -32, 32, 33, 63, 1 << 14, 1 << 16 | 1, MIN, MIN | 1, MAX};

    private QueryBoundsTest() {
    }

    public static void main(String[] args) {
        p11NoSuchEdge();
        p12From0To5();
        p12WithoutEdges();
        p12TheSmallestEdge();
        p12EachGreatest();
        p13NoSuchVertex();
        p13InNoneOrAll();
        p14NoSuchVertex();
        p14From0To99();
        p14PreviousWeight();
        p15ASet();
        p15AllOrNone();
        p16BadValueThenNoSuchVertex();
        p16NoneIfNotInTheSet();
        p16AllOrNoEdges();
        p17ASet();
        p17EachKind();
        p18ASet();
        p18NoneIfNoHittingSet();
        p18AscendingOrder();
        p19ASet();
        p19TheLowestOfSeveral();
        p19NothingMissed();
        p20FromOneToMany();
        p21NegativePlace();
        p21NotSoMany();
        p22NegativePlace();
        p22NotSoMany();
        p22SinceTheBeginning();
        p23TheWholeSearch();
        p24FromMinus1();
        p24GreaterThan();
        p24GoneThroughWhileEdgesChange();
        p25From0ToN();
        p26NoSuchVertex();
        p26InNoneOrAll();
        p26FewerAnswersThanBefore();
        p27NegativePlace();
        p27NotSoMany();
        p27EqualWeights();
        p28ASet();
        p28LeastAndGreatest();
        p29FromMinus1ToN();
        p29NoneOrAll();
        p30LeastAndGreatest();
        p31From0To2();
        p31LeastAndGreatest();
        p31OneFamilyAfterAnother();
        p31GreatDiagrams();
        p32BadValueThenNoSuchVertex();
        p32SumsToTheSize();
        p33OnlyMinimalEdgesCount();
        p34LeastSet();
        p34NoneIfThereIsNone();
        p35FewerThanTwoEdges();
        p35AnyTwo();
        Check.end();
    }

    private static HypergraphDualizer five() {
        return Given.with(5, 7, 28, 10, 17, 31);
    }

    /** "its number"; "NO_SUCH_EDGE". */
    private static void p11NoSuchEdge() {
        HypergraphDualizer x = five();
        for (int wrong : new int[] {-1, 5, 6, 23, 24, 32, 33, MIN, MAX}) {
            Check.due("11 edge(" + wrong + ")", x.edge(wrong), NO_SUCH_EDGE);
        }
        Check.due("11 edge(4)", x.edge(4), 31);
        x.undo();
        Check.due("11 edge(4) when it is undone", x.edge(4), NO_SUCH_EDGE);
        Check.due("11 edge(0) without edges", Given.with(5).edge(0), NO_SUCH_EDGE);
    }

    /** "0 for n, ... 5 for the set of the vertices ..."; "BAD_VALUE". */
    private static void p12From0To5() {
        HypergraphDualizer x = five();
        for (int wrong : new int[] {-1, 6, 7, 32, MIN, MAX}) {
            Check.due("12 value(" + wrong + ")", x.value(wrong), BAD_VALUE);
        }
        int[] values = {5, 5, 4, 5, 2, 31};
        for (int what = 0; what <= 5; what++) {
            Check.due("12 value(" + what + ")", x.value(what), values[what]);
        }
    }

    /** "4 for the size of the smallest edge (0 without edges)". */
    private static void p12WithoutEdges() {
        HypergraphDualizer x = Given.with(14, 16383);
        Check.due("12 value(4) of an edge with all vertices", x.value(4), 14);
        Check.due("12 value(5) of an edge with all vertices", x.value(5), 16383);
        x.addEdge(1);
        Check.due("12 value(4) of an edge with one vertex", x.value(4), 1);
        Check.due("12 value(5) of minimal edges alone", x.value(5), 1);
        x.delete(0);
        int[] values = {14, 0, 0, 3, 0, 0};
        for (int what = 0; what <= 5; what++) {
            Check.due("12 value(" + what + ") without edges", x.value(what), values[what]);
        }
    }

    /** "4 for the size of the smallest edge", wherever it stands. */
    private static void p12TheSmallestEdge() {
        Check.due("12 value(4) of the only edge", Given.with(5, 3).value(4), 2);
        Check.due("12 value(4), the first is the smallest", Given.with(5, 1, 6, 7).value(4), 1);
        Check.due("12 value(4), the last is the smallest", Given.with(5, 7, 6, 1).value(4), 1);
        Check.due("12 value(4), the last of 24 is the smallest", withSmallestLast().value(4), 1);
    }

    private static HypergraphDualizer withSmallestLast() {
        HypergraphDualizer x = Given.with(6);
        for (int set = 63; set > 63 - 46; set -= 2) {
            x.addEdge(set);
        }
        x.addEdge(1);
        return x;
    }

    /** Each of the last two of 14 vertices with each of the others: 24 edges that are minimal. */
    private static HypergraphDualizer withFan() {
        HypergraphDualizer x = Given.with(14);
        for (int i = 0; i < 24; i++) {
            x.addEdge(1 << i % 12 | 1 << 12 + i / 12);
        }
        return x;
    }

    private static void p12EachGreatest() {
        HypergraphDualizer x = withFan();
        int[] values = {14, 24, 24, 16, 2, 16383};
        for (int what = 0; what <= 5; what++) {
            Check.due("12 value(" + what + ") of 24 minimal edges", x.value(what), values[what]);
        }
    }

    /** "NO_SUCH_VERTEX". */
    private static void p13NoSuchVertex() {
        HypergraphDualizer x = five();
        for (int wrong : NO_VERTICES) {
            Check.due("13 edgesOf(" + wrong + ")", x.edgesOf(wrong), NO_SUCH_VERTEX);
        }
        Check.due("13 edgesOf(0)", x.edgesOf(0), 25);
        Check.due("13 edgesOf(4)", x.edgesOf(4), 26);
    }

    private static void p13InNoneOrAll() {
        HypergraphDualizer x = Given.with(6);
        for (int set = 1; set <= 24; set++) {
            x.addEdge(32 | set - 1);
        }
        Check.due("13 edgesOf(5), in all of 24", x.edgesOf(5), 0xFFFFFF);
        x.contract(5);
        Check.due("13 edgesOf(5), in none", x.edgesOf(5), 0);
        Check.due("13 edgesOf(4)", x.edgesOf(4), 0x7F8000);
    }

    /** "NO_SUCH_VERTEX; BAD_VALUE", in this order. */
    private static void p14NoSuchVertex() {
        HypergraphDualizer x = five();
        for (int wrong : NO_VERTICES) {
            Check.due("14 setWeight(" + wrong + ", 9)", x.setWeight(wrong, 9), NO_SUCH_VERTEX);
            Check.due("14 setWeight(" + wrong + ", 100)", x.setWeight(wrong, 100), NO_SUCH_VERTEX);
            Check.due("14 setWeight(" + wrong + ", -1)", x.setWeight(wrong, -1), NO_SUCH_VERTEX);
        }
        Check.due("14 weightOf(31)", x.weightOf(31), 5);
        x.reset(14);
        Check.due("14 setWeight(13, 9)", x.setWeight(13, 9), 1);
        Check.due("14 setWeight(14, 9)", x.setWeight(14, 9), NO_SUCH_VERTEX);
    }

    /** "0 to 99". */
    private static void p14From0To99() {
        HypergraphDualizer x = five();
        for (int wrong : new int[] {-1, 100, 101, 255, 256, MIN, MAX}) {
            Check.due("14 setWeight(4, " + wrong + ")", x.setWeight(4, wrong), BAD_VALUE);
            Check.due("14 weightOf(16) after it", x.weightOf(16), 1);
        }
        Check.due("14 setWeight(4, 0)", x.setWeight(4, 0), 1);
        Check.due("14 weightOf(16)", x.weightOf(16), 0);
        Check.due("14 setWeight(4, 99)", x.setWeight(4, 99), 0);
        Check.due("14 weightOf(16)", x.weightOf(16), 99);
    }

    /** "Returns the previous weight". */
    private static void p14PreviousWeight() {
        HypergraphDualizer x = five();
        Check.due("14 setWeight(0, 42)", x.setWeight(0, 42), 1);
        Check.due("14 setWeight(0, 42) again", x.setWeight(0, 42), 42);
        Check.due("14 setWeight(0, 100)", x.setWeight(0, 100), BAD_VALUE);
        Check.due("14 setWeight(0, 0)", x.setWeight(0, 0), 42);
        Check.due("14 setWeight(1, 0), another vertex", x.setWeight(1, 0), 1);
        Check.due("14 setWeight(3, 0)", x.setWeight(3, 0), 1);
        Check.due("14 lightest(0) with other weights at once", x.lightest(0), 9);
    }

    /** "a set"; "BAD_VALUE". */
    private static void p15ASet() {
        HypergraphDualizer x = five();
        for (int wrong : NO_SETS) {
            Check.due("15 missed(" + wrong + ")", x.missed(wrong), BAD_VALUE);
        }
    }

    private static void p15AllOrNone() {
        Check.due("15 missed(0)", five().missed(0), 31);
        Check.due("15 missed(31)", five().missed(31), 0);
        Check.due("15 missed(8)", five().missed(8), 9);
        Check.due("15 missed(0) of 24", Given.withFirstSets(24).missed(0), 0xFFFFFF);
        Check.due("15 missed(0) of none", Given.with(5).missed(0), 0);
    }

    /** "BAD_VALUE; NO_SUCH_VERTEX; NONE ...", in this order. */
    private static void p16BadValueThenNoSuchVertex() {
        HypergraphDualizer x = five();
        for (int wrong : NO_SETS) {
            Check.due("16 privateEdges(" + wrong + ", 0)", x.privateEdges(wrong, 0), BAD_VALUE);
            Check.due("16 privateEdges(" + wrong + ", 5)", x.privateEdges(wrong, 5), BAD_VALUE);
            Check.due("16 privateEdges(" + wrong + ", -1)", x.privateEdges(wrong, -1), BAD_VALUE);
        }
        for (int wrong : NO_VERTICES) {
            Check.due("16 privateEdges(0, " + wrong + ")", x.privateEdges(0, wrong), NO_SUCH_VERTEX);
            Check.due("16 privateEdges(31, " + wrong + ")", x.privateEdges(31, wrong), NO_SUCH_VERTEX);
        }
    }

    /** "NONE if the vertex is not in the set". */
    private static void p16NoneIfNotInTheSet() {
        HypergraphDualizer x = five();
        for (int v = 0; v < 5; v++) {
            Check.due("16 privateEdges(0, " + v + ")", x.privateEdges(0, v), NONE);
            Check.due("16 privateEdges of all others", x.privateEdges(31 & ~(1 << v), v), NONE);
        }
    }

    private static void p16AllOrNoEdges() {
        HypergraphDualizer x = five();
        Check.due("16 privateEdges(31, 2), in the set without a private edge", x.privateEdges(31, 2), 0);
        Check.due("16 privateEdges(1, 0), all edges of a single vertex", x.privateEdges(1, 0), 25);
        Check.due("16 privateEdges(18, 1)", x.privateEdges(18, 1), 5);
        Check.due("16 privateEdges(18, 4)", x.privateEdges(18, 4), 10);
        Check.due("16 privateEdges(16, 4) without edges", Given.with(5).privateEdges(16, 4), 0);
        HypergraphDualizer y = Given.with(3, 7);
        Check.due("16 privateEdges(7, 1), hit by three vertices", y.privateEdges(7, 1), 0);
        Check.due("16 privateEdges(6, 1), hit by two vertices", y.privateEdges(6, 1), 0);
    }

    /** "a set"; "BAD_VALUE". */
    private static void p17ASet() {
        HypergraphDualizer x = five();
        for (int wrong : NO_SETS) {
            Check.due("17 kindOf(" + wrong + ")", x.kindOf(wrong), BAD_VALUE);
        }
    }

    /** "0 if it is no hitting set; 1 if it is an answer; 2 if it is a hitting set that is not minimal". */
    private static void p17EachKind() {
        HypergraphDualizer x = five();
        int[] kinds = {0, 0, 0, 0, 0, 0, 0, 1, 0, 1, 0, 2, 0, 2, 0, 2, 0, 0, 1, 2, 0, 0, 2, 2, 0, 2, 2, 2, 1, 2, 2, 2};
        for (int set = 0; set < 32; set++) {
            Check.due("17 kindOf(" + set + ")", x.kindOf(set), kinds[set]);
        }
        HypergraphDualizer y = Given.with(14, 16383);
        Check.due("17 kindOf(8192)", y.kindOf(8192), 1);
        Check.due("17 kindOf(16383)", y.kindOf(16383), 2);
        Check.due("17 kindOf(0)", y.kindOf(0), 0);
        Check.due("17 kindOf(16383), each single vertex an edge", Given.withSingles(14).kindOf(16383), 1);
    }

    /** "a set"; "BAD_VALUE". */
    private static void p18ASet() {
        HypergraphDualizer x = five();
        for (int wrong : NO_SETS) {
            Check.due("18 shrink(" + wrong + ")", x.shrink(wrong), BAD_VALUE);
        }
    }

    /** "NONE if it is no hitting set". */
    private static void p18NoneIfNoHittingSet() {
        HypergraphDualizer x = five();
        for (int set : new int[] {0, 1, 6, 8, 10, 16, 21, 24}) {
            Check.due("18 shrink(" + set + ")", x.shrink(set), NONE);
        }
        for (int set : new int[] {7, 9, 18, 28}) {
            Check.due("18 shrink(" + set + "), an answer", x.shrink(set), set);
        }
        Check.due("18 shrink(0) without edges", Given.with(5).shrink(0), 0);
        Check.due("18 shrink(31) without edges", Given.with(5).shrink(31), 0);
    }

    /** "... its vertices are gone through in ascending order ..." */
    private static void p18AscendingOrder() {
        Check.due("18 shrink(31)", five().shrink(31), 28);
        Check.due("18 shrink(15)", five().shrink(15), 9);
        Check.due("18 shrink(27)", five().shrink(27), 18);
        Check.due("18 shrink(16383), the greatest vertex is left", Given.with(14, 16383).shrink(16383), 8192);
        Check.due("18 shrink(16383), nothing left out", Given.withSingles(14).shrink(16383), 16383);
    }

    /** "a set"; "BAD_VALUE". */
    private static void p19ASet() {
        HypergraphDualizer x = five();
        for (int wrong : NO_SETS) {
            Check.due("19 grow(" + wrong + ")", x.grow(wrong), BAD_VALUE);
        }
    }

    /** "... the vertex that is in most of the missed edges is added, the lowest one of several." */
    private static void p19TheLowestOfSeveral() {
        Check.due("19 grow(0), one edge", Given.with(14, 16383).grow(0), 1);
        Check.due("19 grow(0), the last two vertices", Given.with(14, 12288).grow(0), 4096);
        Check.due("19 grow(0), the last vertex is in most", Given.with(14, 8193, 8194).grow(0), 8192);
        Check.due("19 grow(1), missed edges alone count", Given.with(4, 3, 5, 9, 12).grow(1), 5);
        Check.due("19 grow(0), to all vertices", Given.withSingles(14).grow(0), 16383);
        Check.due("19 grow(0), all of 24", Given.withFirstSets(24).grow(0), 31);
    }

    /** "As long as it misses edges": a set that misses none stays, minimal or not. */
    private static void p19NothingMissed() {
        for (int set : new int[] {7, 9, 11, 18, 28, 31}) {
            Check.due("19 grow(" + set + ")", five().grow(set), set);
        }
        Check.due("19 grow(0) without edges", Given.with(5).grow(0), 0);
        Check.due("19 grow(21) without edges", Given.with(5).grow(21), 21);
    }

    /** "Returns the number of answers". */
    private static void p20FromOneToMany() {
        Check.due("20 answerCount() without edges", Given.with(14).answerCount(), 1);
        Check.due("20 answerCount() with one answer", Given.withSingles(14).answerCount(), 1);
        Check.due("20 answerCount() with n answers", Given.with(14, 16383).answerCount(), 14);
        Check.due("20 answerCount() of 3 * 3 * 3 * 3 * 2",
            Given.with(14, 7, 56, 448, 3584, 12288).answerCount(), 162);
    }

    /** "BAD_VALUE if k is negative". */
    private static void p21NegativePlace() {
        for (int wrong : new int[] {-1, -2, -4000, MIN}) {
            Check.due("21 answer(" + wrong + ")", five().answer(wrong), BAD_VALUE);
        }
    }

    /** "NONE if there are not so many". */
    private static void p21NotSoMany() {
        HypergraphDualizer x = five();
        x.answerCount();
        Check.due("21 answer(3), the last", x.answer(3), 28);
        for (int k : new int[] {4, 5, 24, 3999, 4000, 4001, MAX}) {
            Check.due("21 answer(" + k + ")", x.answer(k), NONE);
        }
        x.addEdge(1);
        x.addEdge(8);
        Check.due("21 answer(0), the only one", x.answer(0), 9);
        Check.due("21 answer(1) when there are fewer", x.answer(1), NONE);
        x.undo();
        x.undo();
        Check.due("21 answer(3) when there are more again", x.answer(3), 28);
    }

    /** "BAD_VALUE if k is negative". */
    private static void p22NegativePlace() {
        for (int wrong : new int[] {-1, -2, -4000, MIN}) {
            Check.due("22 delay(" + wrong + ")", five().delay(wrong), BAD_VALUE);
        }
    }

    /** "NONE if there are not so many answers". */
    private static void p22NotSoMany() {
        HypergraphDualizer x = five();
        Check.due("22 delay(3), the last", x.delay(3), 2);
        for (int k : new int[] {4, 5, 24, 3999, 4000, 4001, MAX}) {
            Check.due("22 delay(" + k + ")", x.delay(k), NONE);
        }
    }

    /** "... its own included, since the answer before it was found (or since the beginning)." */
    private static void p22SinceTheBeginning() {
        Check.due("22 delay(0) without edges", Given.with(14).delay(0), 1);
        HypergraphDualizer x = Given.with(14, 16383);
        Check.due("22 delay(0) of one edge", x.delay(0), 2);
        for (int k = 1; k < 14; k++) {
            Check.due("22 delay(" + k + ") of one edge", x.delay(k), 1);
        }
        Check.due("22 delay(0), the only answer", Given.withSingles(14).delay(0), 15);
    }

    /** "Returns the number of visits of the whole search": those after the last answer too. */
    private static void p23TheWholeSearch() {
        Check.due("23 visits() without edges", Given.with(14).visits(), 1);
        Check.due("23 visits() of one edge", Given.with(14, 16383).visits(), 15);
        Check.due("23 visits() of all single vertices", Given.withSingles(14).visits(), 15);
        Check.due("23 visits() with one after the last answer", Given.with(4, 3, 12, 5).visits(), 7);
        HypergraphDualizer x = five();
        Check.due("23 visits()", x.visits(), 9);
        Check.due("23 visits() are not added up", x.visits(), 9);
        x.undo();
        x.redo();
        Check.due("23 visits() of another search", x.visits(), 9);
    }

    /** "-1 to 2^n - 1". */
    private static void p24FromMinus1() {
        HypergraphDualizer x = five();
        for (int wrong : new int[] {-2, -3, 32, 33, 1 << 14, MIN, MAX}) {
            Check.due("24 next(" + wrong + ")", x.next(wrong), BAD_VALUE);
        }
        Check.due("24 next(-1)", x.next(-1), 7);
        Check.due("24 next(31)", x.next(31), NONE);
        HypergraphDualizer y = Given.withSingles(14);
        Check.due("24 next(16382)", y.next(16382), 16383);
        Check.due("24 next(16383)", y.next(16383), NONE);
        Check.due("24 next(16384)", y.next(16384), BAD_VALUE);
    }

    /** "... that is greater than a number"; "NONE if there is none". */
    private static void p24GreaterThan() {
        HypergraphDualizer x = five();
        int[] due = {7, 7, 7, 7, 7, 7, 7, 9, 9, 18, 18, 18, 18, 18, 18, 18, 18, 18, 28, 28, 28, 28, 28, 28, 28, 28, 28,
            28, NONE, NONE, NONE, NONE};
        for (int after = 0; after < 32; after++) {
            Check.due("24 next(" + after + ")", x.next(after), due[after]);
        }
        Check.due("24 next(-1) without edges", Given.with(5).next(-1), 0);
        Check.due("24 next(0) without edges", Given.with(5).next(0), NONE);
    }

    /** "(So all answers can be gone through while edges change.)" */
    private static void p24GoneThroughWhileEdgesChange() {
        HypergraphDualizer x = five();
        Check.due("24 next(-1)", x.next(-1), 7);
        x.addEdge(6);
        Check.due("24 next(7) after an edit", x.next(7), 11);
        x.undo();
        Check.due("24 next(7) after undo", x.next(7), 9);
    }

    /** "0 to n". */
    private static void p25From0ToN() {
        HypergraphDualizer x = five();
        for (int wrong : new int[] {-1, -2, 6, 7, 14, 15, 32, MIN, MAX}) {
            Check.due("25 answersOfSize(" + wrong + ")", x.answersOfSize(wrong), BAD_VALUE);
        }
        Check.due("25 answersOfSize(0)", x.answersOfSize(0), 0);
        Check.due("25 answersOfSize(2)", x.answersOfSize(2), 2);
        Check.due("25 answersOfSize(5)", x.answersOfSize(5), 0);
        Check.due("25 answersOfSize(0) without edges", Given.with(1).answersOfSize(0), 1);
        Check.due("25 answersOfSize(1) without edges", Given.with(1).answersOfSize(1), 0);
        Check.due("25 answersOfSize(2) with one vertex", Given.with(1).answersOfSize(2), BAD_VALUE);
        Check.due("25 answersOfSize(14)", Given.withSingles(14).answersOfSize(14), 1);
        Check.due("25 answersOfSize(15)", Given.withSingles(14).answersOfSize(15), BAD_VALUE);
    }

    /** "NO_SUCH_VERTEX". */
    private static void p26NoSuchVertex() {
        HypergraphDualizer x = five();
        for (int wrong : NO_VERTICES) {
            Check.due("26 answersWith(" + wrong + ")", x.answersWith(wrong), NO_SUCH_VERTEX);
        }
        Check.due("26 answersWith(4)", x.answersWith(4), 2);
    }

    private static void p26InNoneOrAll() {
        HypergraphDualizer x = Given.with(14, 8192, 3, 4097);
        Check.due("26 answersWith(13), in all", x.answersWith(13), 2);
        Check.due("26 answersWith(12)", x.answersWith(12), 1);
        Check.due("26 answersWith(2), in none", x.answersWith(2), 0);
        Check.due("26 answersWith(0) without edges", Given.with(14).answersWith(0), 0);
    }

    /** What an earlier search has found is not counted when there are fewer answers. */
    private static void p26FewerAnswersThanBefore() {
        HypergraphDualizer x = Given.with(14, 16383);
        Check.due("26 answersOfSize(1)", x.answersOfSize(1), 14);
        for (int v = 13; v >= 0; v--) {
            x.contract(v);
            Check.due("26 answersWith(" + v + ") when it is in no edge", x.answersWith(v), 0);
            Check.due("26 answersOfSize(1) of fewer", x.answersOfSize(1), v);
            Check.due("26 answersOfSize(0) of fewer", x.answersOfSize(0), v == 0 ? 1 : 0);
            Check.due("26 next(2^v) of fewer", x.next(v == 0 ? 0 : 1 << v - 1), NONE);
            Check.due("26 lightest() of fewer", x.lightest(Math.max(v, 1)), NONE);
        }
    }

    /** "BAD_VALUE if k is negative". */
    private static void p27NegativePlace() {
        for (int wrong : new int[] {-1, -2, -4000, MIN}) {
            Check.due("27 lightest(" + wrong + ")", five().lightest(wrong), BAD_VALUE);
        }
    }

    /** "NONE if there are not so many". */
    private static void p27NotSoMany() {
        HypergraphDualizer x = five();
        Check.due("27 lightest(3), the last", x.lightest(3), 28);
        for (int k : new int[] {4, 5, 24, 3999, 4000, 4001, MAX}) {
            Check.due("27 lightest(" + k + ")", x.lightest(k), NONE);
        }
        Check.due("27 lightest(0) without edges", Given.with(14).lightest(0), 0);
        Check.due("27 lightest(1) without edges", Given.with(14).lightest(1), NONE);
    }

    /** "... those with equal weights in the order of the sets." */
    private static void p27EqualWeights() {
        HypergraphDualizer x = Given.with(14, 16383);
        for (int v = 0; v < 14; v++) {
            x.setWeight(v, v % 2 * 99);
        }
        for (int k = 0; k < 14; k++) {
            int vertex = k < 7 ? 2 * k : 2 * (k - 7) + 1;
            Check.due("27 lightest(" + k + ")", x.lightest(k), 1 << vertex);
        }
        HypergraphDualizer heaviest = Given.withSingles(14);
        for (int v = 0; v < 14; v++) {
            heaviest.setWeight(v, 99);
        }
        Check.due("27 lightest(0), the greatest sum", heaviest.lightest(0), 16383);
        for (int v = 0; v < 14; v++) {
            heaviest.setWeight(v, 0);
        }
        Check.due("27 lightest(0), the sum 0", heaviest.lightest(0), 16383);
        // {0, 1} and {2} have the sum 2, with one more vertex {3} has it too.
        HypergraphDualizer y = Given.with(4, 13, 14);
        y.setWeight(2, 2);
        y.setWeight(3, 2);
        Check.due("27 lightest(0)", y.lightest(0), 3);
        Check.due("27 lightest(1)", y.lightest(1), 4);
        Check.due("27 lightest(2)", y.lightest(2), 8);
    }

    /** "a set"; "BAD_VALUE". */
    private static void p28ASet() {
        HypergraphDualizer x = five();
        for (int wrong : NO_SETS) {
            Check.due("28 weightOf(" + wrong + ")", x.weightOf(wrong), BAD_VALUE);
        }
    }

    private static void p28LeastAndGreatest() {
        HypergraphDualizer x = Given.with(14);
        Check.due("28 weightOf(0)", x.weightOf(0), 0);
        Check.due("28 weightOf(16383)", x.weightOf(16383), 14);
        for (int v = 0; v < 14; v++) {
            x.setWeight(v, 99);
        }
        Check.due("28 weightOf(16383), the greatest", x.weightOf(16383), 1386);
        Check.due("28 weightOf(8192)", x.weightOf(8192), 99);
        x.setWeight(13, 0);
        Check.due("28 weightOf(8192), the least", x.weightOf(8192), 0);
    }

    /** "0 to n, or -1 for any number of vertices". */
    private static void p29FromMinus1ToN() {
        HypergraphDualizer x = five();
        for (int wrong : new int[] {-2, -3, 6, 7, 14, 15, 16, MIN, MAX}) {
            Check.due("29 hittingSets(" + wrong + ")", x.hittingSets(wrong), BAD_VALUE);
        }
        int[] counts = {16, 0, 0, 2, 8, 5, 1};
        for (int size = -1; size <= 5; size++) {
            Check.due("29 hittingSets(" + size + ")", x.hittingSets(size), counts[size + 1]);
        }
        Check.due("29 hittingSets(14) with 14 vertices", Given.with(14, 1).hittingSets(14), 1);
        Check.due("29 hittingSets(15) with 14 vertices", Given.with(14, 1).hittingSets(15), BAD_VALUE);
        Check.due("29 hittingSets(1) with one vertex", Given.with(1, 1).hittingSets(1), 1);
        Check.due("29 hittingSets(2) with one vertex", Given.with(1, 1).hittingSets(2), BAD_VALUE);
    }

    private static void p29NoneOrAll() {
        HypergraphDualizer x = Given.with(14);
        int choices = 1;
        for (int size = 0; size <= 14; size++) {
            Check.due("29 hittingSets(" + size + ") without edges", x.hittingSets(size), choices);
            choices = choices * (14 - size) / (size + 1);
        }
        Check.due("29 hittingSets(-1) without edges", x.hittingSets(-1), 16384);
        x.addEdge(16383);
        choices = 14;
        for (int size = 1; size <= 14; size++) {
            Check.due("29 hittingSets(" + size + ") of one edge", x.hittingSets(size), choices);
            choices = choices * (14 - size) / (size + 1);
        }
        Check.due("29 hittingSets(0) of one edge", x.hittingSets(0), 0);
        Check.due("29 hittingSets(-1) of one edge", x.hittingSets(-1), 16383);
        x.undo();
        Check.due("29 hittingSets(0) after undo", x.hittingSets(0), 1);
        Check.due("29 hittingSets(14) after undo", x.hittingSets(14), 1);
        Check.due("29 hittingSets(-1) after undo", x.hittingSets(-1), 16384);
        Check.due("29 hittingSets(-1), one alone", Given.withSingles(14).hittingSets(-1), 1);
        Check.due("29 hittingSets(13), one alone", Given.withSingles(14).hittingSets(13), 0);
        Check.due("29 hittingSets(0) of one edge", Given.with(14, 16383).hittingSets(0), 0);
    }

    /** "(float) (number of hitting sets) / 2^n". */
    private static void p30LeastAndGreatest() {
        for (int n = 1; n <= 14; n++) {
            Check.dueExactly("30 chance() without edges", Given.with(n).chance(), 1f);
            Check.dueExactly("30 chance() of one hitting set", Given.withSingles(n).chance(), 1f / (1 << n));
            Check.dueExactly("30 chance() of all but one", Given.with(n, (1 << n) - 1).chance(),
                ((1 << n) - 1f) / (1 << n));
        }
        HypergraphDualizer x = five();
        Check.dueExactly("30 chance()", x.chance(), 0.5f);
        x.removeEdge(0);
        Check.dueExactly("30 chance() after an edit", x.chance(), 17f / 32);
    }

    /** "0 for the family of the edges, 1 for the ... answers, 2 for the ... hitting sets"; "BAD_VALUE". */
    private static void p31From0To2() {
        HypergraphDualizer x = five();
        for (int wrong : new int[] {-1, -2, 3, 4, MIN, MAX}) {
            Check.due("31 diagramSize(" + wrong + ")", x.diagramSize(wrong), BAD_VALUE);
        }
        int[] sizes = {9, 8, 14};
        for (int what : new int[] {0, 1, 2, 1, 0, 2, 0}) {
            Check.due("31 diagramSize(" + what + ")", x.diagramSize(what), sizes[what]);
        }
        x.undo();
        Check.due("31 diagramSize(0) after undo", x.diagramSize(0), 8);
    }

    private static void p31LeastAndGreatest() {
        Check.due("31 diagramSize(0) without edges", Given.with(14).diagramSize(0), 0);
        Check.due("31 diagramSize(1) without edges", Given.with(14).diagramSize(1), 0);
        Check.due("31 diagramSize(2) without edges", Given.with(14).diagramSize(2), 14);
        Check.due("31 diagramSize(2) of one vertex", Given.with(1, 1).diagramSize(2), 1);
        // Seven pairs that lie far apart: of the first seven vertices each choice leads to another node.
        HypergraphDualizer x = Given.with(14, 129, 258, 516, 1032, 2064, 4128, 8256);
        Check.due("31 diagramSize(2) of seven pairs", x.diagramSize(2), 127 + 254);
        for (int v = 0; v < 7; v++) {
            Check.due("31 nodesAt(2, " + v + ")", x.nodesAt(2, v), 1 << v);
            Check.due("31 nodesAt(2, " + (v + 7) + ")", x.nodesAt(2, v + 7), 1 << 7 - v);
        }
    }

    /** The greatest diagrams that a hunt has found, and the longest search. */
    private static void p31GreatDiagrams() {
        int[][] great = {
            {8168, 6132, 13299, 4086, 12784, 8679, 9184, 12281, 15352, 9714, 3063, 11233, 16383, 5617, 2549, 5098, 2044,
                10234, 14333, 1007, 6651, 7166, 8169, 16360},
            {2640, 14536, 9320, 3139, 1824, 12952, 6786, 8884, 11273, 4306, 10266, 12548, 5388, 5825, 6188, 5265, 10628,
                289, 285, 1555, 5158, 12325, 654, 8778},
            {9366, 6524, 5636, 14600, 11266, 12864, 11008, 13292, 13440, 7200, 3600, 6664, 3278, 4716, 8527, 9061,
                14500, 4963, 2842, 1522, 15045, 9729, 14276, 1685},
            {6416, 4513, 9600, 12329, 177, 588, 3146, 3590, 3652, 10632, 3624, 5392, 12432, 46, 3142, 610, 15, 12325,
                15393, 10628, 579, 3593, 8497, 3148}};
        int[] sizes = {159, 510, 1212};
        for (int i = 0; i < great.length; i++) {
            HypergraphDualizer x = Given.with(14, great[i]);
            ReferenceDualizer same = new ReferenceDualizer();
            same.reset(14);
            for (int edge : great[i]) {
                same.addEdge(edge);
            }
            for (int what = 0; what <= 2; what++) {
                int due = i == what ? sizes[i] : same.diagramSize(what);
                Check.due("31 diagramSize(" + what + ") of a great diagram", x.diagramSize(what), due);
            }
            Check.due("31 visits() of a long search", x.visits(), i == 3 ? 1365 : same.allVisits());
            Check.due("31 answerCount() of a long search", x.answerCount(), same.answerCount());
        }
    }

    /** The empty set, which is in one family alone, does not stay in the next diagram. */
    private static void p31OneFamilyAfterAnother() {
        HypergraphDualizer x = Given.with(4);
        Check.due("31 diagramSize(2), with the empty set", x.diagramSize(2), 4);
        Check.due("31 hittingSets(0), with the empty set", x.hittingSets(0), 1);
        x.addEdge(8);
        x.addEdge(9);
        Check.due("31 diagramSize(0), without the empty set", x.diagramSize(0), 2);
        Check.due("31 diagramSize(2), without the empty set", x.diagramSize(2), 4);
        Check.due("31 diagramSize(0) after another", x.diagramSize(0), 2);
        Check.due("31 diagramSize(1) after another", x.diagramSize(1), 1);
        x.reset(4);
        Check.due("31 diagramSize(1), the empty set alone", x.diagramSize(1), 0);
        x.addEdge(8);
        x.addEdge(9);
        Check.due("31 diagramSize(0) after the empty set alone", x.diagramSize(0), 2);
    }

    /** "BAD_VALUE; NO_SUCH_VERTEX; GIVEN_UP (1)", in this order. */
    private static void p32BadValueThenNoSuchVertex() {
        HypergraphDualizer x = five();
        for (int wrong : new int[] {-1, -2, 3, 4, MIN, MAX}) {
            Check.due("32 nodesAt(" + wrong + ", 0)", x.nodesAt(wrong, 0), BAD_VALUE);
            Check.due("32 nodesAt(" + wrong + ", 5)", x.nodesAt(wrong, 5), BAD_VALUE);
            Check.due("32 nodesAt(" + wrong + ", -1)", x.nodesAt(wrong, -1), BAD_VALUE);
        }
        for (int wrong : NO_VERTICES) {
            for (int what = 0; what <= 2; what++) {
                Check.due("32 nodesAt(" + what + ", " + wrong + ")", x.nodesAt(what, wrong), NO_SUCH_VERTEX);
            }
        }
        HypergraphDualizer y = Given.with(14, 16383);
        Check.due("32 nodesAt(0, 13)", y.nodesAt(0, 13), 1);
        Check.due("32 nodesAt(0, 14)", y.nodesAt(0, 14), NO_SUCH_VERTEX);
    }

    private static void p32SumsToTheSize() {
        HypergraphDualizer x = five();
        for (int what = 0; what <= 2; what++) {
            int sum = 0;
            for (int v = 0; v < 5; v++) {
                sum += x.nodesAt(what, v);
            }
            Check.due("32 all nodes of diagram " + what, sum, x.diagramSize(what));
        }
    }

    /** "Tests whether the minimal edges are exactly the answers." */
    private static void p33OnlyMinimalEdgesCount() {
        Check.due("33 without edges", Given.with(5).isSelfDual(), 0);
        Check.due("33 one vertex", Given.with(1, 1).isSelfDual(), 1);
        HypergraphDualizer x = Given.with(3, 3, 6, 5);
        Check.due("33 a triangle", x.isSelfDual(), 1);
        Check.due("33 addEdge(7)", x.addEdge(7), 3);
        Check.due("33 a triangle and an edge that is not minimal", x.isSelfDual(), 1);
        x.removeEdge(0);
        Check.due("33 a triangle without one edge", x.isSelfDual(), 0);
        Check.due("33 all sets of three of five",
            Given.with(5, 7, 11, 13, 14, 19, 21, 22, 25, 26, 28).isSelfDual(), 1);
        Check.due("33 24 edges", Given.withFirstSets(24).isSelfDual(), 0);
        Check.due("33 24 edges, the last alone minimal", withSmallestLast().isSelfDual(), 1);
        Check.due("33 all single vertices", Given.withSingles(14).isSelfDual(), 0);
        Check.due("33 the answers and one edge more that is minimal", Given.with(4, 1, 2).isSelfDual(), 0);
    }

    /** "... the least set that is a minimal edge, but no answer, or an answer, but no minimal edge." */
    private static void p34LeastSet() {
        Check.due("34 without edges, the empty set", Given.with(5).difference(), 0);
        Check.due("34 a minimal edge is the least", Given.withSingles(14).difference(), 1);
        Check.due("34 an answer is the least", Given.with(14, 16383).difference(), 1);
        Check.due("34 the greatest of all", Given.with(14, 8192, 16383).difference(), NONE);
        Check.due("34 24 edges", Given.withFirstSets(24).difference(), 1);
        Check.due("34 24 edges, the last alone minimal", withSmallestLast().difference(), NONE);
        Check.due("34 24 edges, an answer that is none of them", withFan().difference(), 4095);
        Check.due("34 equal sets are left out", five().difference(), 9);
        // The answers are {0, 1} and {2}; {0, 2} and {1, 2} are edges, and {0, 1, 2} is an edge that is not minimal.
        Check.due("34 an edge that is not minimal", Given.with(3, 7, 5, 6).difference(), 3);
    }

    /** "NONE if there is none." */
    private static void p34NoneIfThereIsNone() {
        Check.due("34 one vertex", Given.with(1, 1).difference(), NONE);
        Check.due("34 a triangle", Given.with(3, 3, 6, 5).difference(), NONE);
        Check.due("34 a triangle and an edge that is not minimal", Given.with(3, 7, 3, 6, 5).difference(), NONE);
    }

    /** "Returns 1 if they have (also with fewer than two edges), otherwise 0." */
    private static void p35FewerThanTwoEdges() {
        HypergraphDualizer x = Given.with(14);
        Check.due("35 without edges", x.isIntersecting(), 1);
        x.addEdge(8192);
        Check.due("35 one edge", x.isIntersecting(), 1);
        x.addEdge(1);
        Check.due("35 two edges", x.isIntersecting(), 0);
        x.undo();
        Check.due("35 one edge again", x.isIntersecting(), 1);
    }

    /** "Tests whether any two edges have a vertex in common." */
    private static void p35AnyTwo() {
        HypergraphDualizer x = Given.with(6);
        for (int set = 0; set < 23; set++) {
            x.addEdge(32 | set);
        }
        Check.due("35 23 edges with a common vertex", x.isIntersecting(), 1);
        x.addEdge(31);
        Check.due("35 the first and the last of 24", x.isIntersecting(), 0);
        x.removeEdge(0);
        Check.due("35 each two of 23", x.isIntersecting(), 1);
        Check.due("35 two that follow", Given.with(6, 7, 14, 33, 21).isIntersecting(), 0);
    }
}
