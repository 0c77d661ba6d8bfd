/** One method for each promise of the document: ordinary calls, the edges that it names, and wrong arguments. */
public final class PromisesTest {
    private static final int NO_SUCH_VERTEX = HypergraphDualizer.NO_SUCH_VERTEX;
    private static final int NO_SUCH_EDGE = HypergraphDualizer.NO_SUCH_EDGE;
    private static final int BAD_VALUE = HypergraphDualizer.BAD_VALUE;
    private static final int NOT_NEW = HypergraphDualizer.NOT_NEW;
    private static final int FULL = HypergraphDualizer.FULL;
    private static final int NONE = HypergraphDualizer.NONE;
    private static final int[] FAR = {Integer.MIN_VALUE, -100, -1, 1 << 14, 1 << 20, Integer.MAX_VALUE};

    private PromisesTest() {
    }

    public static void main(String[] args) {
        p01NewObject();
        p02Reset();
        p03AddEdge();
        p04RemoveEdge();
        p05Minimize();
        p06Contract();
        p07Delete();
        p08Dualize();
        p08DualizeFull();
        p09Undo();
        p10Redo();
        p11Edge();
        p12Value();
        p13EdgesOf();
        p14SetWeight();
        p15Missed();
        p16PrivateEdges();
        p17KindOf();
        p18Shrink();
        p19Grow();
        p20AnswerCount();
        p21Answer();
        p22Delay();
        p23Visits();
        p24Next();
        p25AnswersOfSize();
        p26AnswersWith();
        p27Lightest();
        p28WeightOf();
        p29HittingSets();
        p30Chance();
        p31DiagramSize();
        p32NodesAt();
        p33IsSelfDual();
        p34Difference();
        p35IsIntersecting();
        p36Type();
        p37ClearText();
        p38ReadEdges();
        p38ReadEdgesFaults();
        p38ReadEdgesLimits();
        Check.end();
    }

    private static HypergraphDualizer with(int vertices, int... edges) {
        HypergraphDualizer x = new HypergraphDualizer();
        x.reset(vertices);
        for (int edge : edges) {
            x.addEdge(edge);
        }
        return x;
    }

    /** n vertices and the edges 1, 2, 3, ... */
    private static HypergraphDualizer withFirstSets(int vertices, int many) {
        HypergraphDualizer x = with(vertices);
        for (int set = 1; set <= many; set++) {
            x.addEdge(set);
        }
        return x;
    }

    private static String edgesOf(HypergraphDualizer x) {
        StringBuilder all = new StringBuilder();
        for (int e = 0; e < x.value(1); e++) {
            all.append(e == 0 ? "" : " ").append(x.edge(e));
        }
        return all.toString();
    }

    private static String answersOf(HypergraphDualizer x) {
        StringBuilder all = new StringBuilder();
        for (int k = 0; k < x.answerCount(); k++) {
            all.append(k == 0 ? "" : " ").append(x.answer(k));
        }
        return all.toString();
    }

    private static void write(HypergraphDualizer x, String text) {
        x.clearText();
        for (int i = 0; i < text.length(); i++) {
            x.type(text.charAt(i));
        }
    }

    private static void p01NewObject() {
        HypergraphDualizer x = new HypergraphDualizer();
        Check.due("1 value(0)", x.value(0), 6);
        Check.due("1 value(1)", x.value(1), 0);
        Check.due("1 value(3)", x.value(3), 0);
        Check.due("1 undo()", x.undo(), NONE);
        Check.due("1 redo()", x.redo(), NONE);
        Check.due("1 edge(0)", x.edge(0), NO_SUCH_EDGE);
        Check.due("1 weightOf(63)", x.weightOf(63), 6);
        Check.due("1 edgesOf(5)", x.edgesOf(5), 0);
        Check.due("1 edgesOf(6)", x.edgesOf(6), NO_SUCH_VERTEX);
        Check.due("1 clearText()", x.clearText(), 0);
        HypergraphDualizer y = new HypergraphDualizer();
        y.addEdge(5);
        Check.due("1 another object's value(1)", x.value(1), 0);
    }

    private static void p02Reset() {
        HypergraphDualizer x = with(6, 3, 5);
        x.setWeight(2, 50);
        x.type('1');
        x.undo();
        for (int wrong : new int[] {Integer.MIN_VALUE, -1, 0, 15, 16, Integer.MAX_VALUE}) {
            Check.due("2 reset(" + wrong + ")", x.reset(wrong), BAD_VALUE);
        }
        Check.due("2 value(0) after errors", x.value(0), 6);
        Check.due("2 value(1) after errors", x.value(1), 1);
        Check.due("2 weightOf(4) after errors", x.weightOf(4), 50);
        Check.due("2 redo() after errors", x.redo(), 0);
        x.undo();
        Check.due("2 reset(14)", x.reset(14), 6);
        Check.due("2 value(0)", x.value(0), 14);
        Check.due("2 value(1)", x.value(1), 0);
        Check.due("2 value(3)", x.value(3), 0);
        Check.due("2 undo()", x.undo(), NONE);
        Check.due("2 redo()", x.redo(), NONE);
        Check.due("2 weightOf(4)", x.weightOf(4), 1);
        Check.due("2 hittingSets(-1)", x.hittingSets(-1), 1 << 14);
        Check.due("2 clearText() after reset", x.clearText(), 1);
        Check.due("2 reset(1)", x.reset(1), 14);
        Check.due("2 reset(1) again", x.reset(1), 1);
        Check.due("2 addEdge(2) with one vertex", x.addEdge(2), BAD_VALUE);
        x.setWeight(0, 7);
        Check.due("2 reset to the same number", x.reset(1), 1);
        Check.due("2 weightOf(1)", x.weightOf(1), 1);
    }

    private static void p03AddEdge() {
        HypergraphDualizer x = with(5);
        for (int wrong : new int[] {Integer.MIN_VALUE, -1, 0, 32, 33, 64, Integer.MAX_VALUE}) {
            Check.due("3 addEdge(" + wrong + ")", x.addEdge(wrong), BAD_VALUE);
        }
        Check.due("3 value(3) after errors", x.value(3), 0);
        Check.due("3 addEdge(31)", x.addEdge(31), 0);
        Check.due("3 addEdge(1)", x.addEdge(1), 1);
        Check.due("3 addEdge(31) again", x.addEdge(31), NOT_NEW);
        Check.due("3 value(3) after NOT_NEW", x.value(3), 2);
        x.undo();
        Check.due("3 addEdge(31) after undo", x.addEdge(31), NOT_NEW);
        Check.due("3 redo() after an error", x.redo(), 0);
        x = withFirstSets(5, 23);
        Check.due("3 the edge with number 23", x.addEdge(31), 23);
        Check.due("3 one edge more", x.addEdge(30), FULL);
        Check.due("3 NOT_NEW before FULL", x.addEdge(31), NOT_NEW);
        Check.due("3 BAD_VALUE before FULL", x.addEdge(32), BAD_VALUE);
        Check.due("3 value(1)", x.value(1), 24);
        Check.due("3 edge(23)", x.edge(23), 31);
        x.removeEdge(3);
        Check.due("3 addEdge(30) when there is room again", x.addEdge(30), 23);
    }

    private static void p04RemoveEdge() {
        HypergraphDualizer x = with(6, 10, 20, 30, 40);
        for (int wrong : new int[] {-1, 4, 24, 25, 31, 32, Integer.MIN_VALUE, Integer.MAX_VALUE}) {
            Check.due("4 removeEdge(" + wrong + ")", x.removeEdge(wrong), NO_SUCH_EDGE);
        }
        Check.due("4 value(3) after errors", x.value(3), 4);
        Check.due("4 removeEdge(1)", x.removeEdge(1), 20);
        Check.dueText("4 edges", edgesOf(x), "10 30 40");
        Check.due("4 removeEdge(2)", x.removeEdge(2), 40);
        Check.due("4 removeEdge(2) again", x.removeEdge(2), NO_SUCH_EDGE);
        Check.due("4 removeEdge(0)", x.removeEdge(0), 10);
        Check.dueText("4 edges", edgesOf(x), "30");
        Check.due("4 value(3)", x.value(3), 7);
        Check.due("4 undo()", x.undo(), 6);
        Check.dueText("4 edges after undo", edgesOf(x), "10 30");
        HypergraphDualizer y = withFirstSets(5, 24);
        Check.due("4 removeEdge(23)", y.removeEdge(23), 24);
        Check.due("4 removeEdge(0)", y.removeEdge(0), 1);
        Check.due("4 edge(21)", y.edge(21), 23);
    }

    private static void p05Minimize() {
        HypergraphDualizer x = with(6, 15, 3, 7, 12, 48, 1, 3);
        Check.due("5 minimize()", x.minimize(), 3);
        Check.dueText("5 edges", edgesOf(x), "12 48 1");
        Check.due("5 minimize() with nothing to remove", x.minimize(), 0);
        Check.due("5 value(3), such an edit too", x.value(3), 8);
        Check.due("5 undo()", x.undo(), 7);
        Check.due("5 undo()", x.undo(), 6);
        Check.dueText("5 edges after undo", edgesOf(x), "15 3 7 12 48 1");
        Check.due("5 redo()", x.redo(), 1);
        Check.dueText("5 edges after redo", edgesOf(x), "12 48 1");
        Check.due("5 minimize() ends redoing", x.minimize(), 0);
        Check.due("5 redo()", x.redo(), NONE);
        HypergraphDualizer empty = new HypergraphDualizer();
        Check.due("5 minimize() without edges", empty.minimize(), 0);
        Check.due("5 undo() without edges", empty.undo(), 0);
    }

    private static void p06Contract() {
        HypergraphDualizer x = with(6, 3, 2, 1, 5, 4, 12, 13);
        for (int wrong : new int[] {-1, 6, 14, 32, Integer.MIN_VALUE, Integer.MAX_VALUE}) {
            Check.due("6 contract(" + wrong + ")", x.contract(wrong), NO_SUCH_VERTEX);
        }
        Check.due("6 value(3) after errors", x.value(3), 7);
        Check.due("6 contract(0)", x.contract(0), 4);
        Check.dueText("6 edges", edgesOf(x), "2 4 12");
        Check.due("6 value(0), the vertex stays", x.value(0), 6);
        Check.due("6 edgesOf(0)", x.edgesOf(0), 0);
        Check.due("6 contract(0) again", x.contract(0), 0);
        Check.due("6 value(3), such an edit too", x.value(3), 9);
        Check.due("6 contract(1)", x.contract(1), 1);
        Check.dueText("6 edges", edgesOf(x), "4 12");
        x.undo();
        x.undo();
        x.undo();
        Check.dueText("6 edges after undo", edgesOf(x), "3 2 1 5 4 12 13");
        HypergraphDualizer y = with(6, 6, 7, 14);
        Check.due("6 contract(0), a later edge that is equal", y.contract(0), 1);
        Check.dueText("6 edges", edgesOf(y), "6 14");
        HypergraphDualizer z = with(6, 7, 6, 14);
        Check.due("6 contract(0), a later edge without the vertex", z.contract(0), 1);
        Check.dueText("6 edges", edgesOf(z), "6 14");
        Check.due("6 edgesOf(1)", z.edgesOf(1), 3);
    }

    private static void p07Delete() {
        HypergraphDualizer x = with(6, 3, 2, 1, 5, 4, 12, 13);
        for (int wrong : new int[] {-1, 6, 14, 32, Integer.MIN_VALUE, Integer.MAX_VALUE}) {
            Check.due("7 delete(" + wrong + ")", x.delete(wrong), NO_SUCH_VERTEX);
        }
        Check.due("7 value(3) after errors", x.value(3), 7);
        Check.due("7 delete(0)", x.delete(0), 4);
        Check.dueText("7 edges", edgesOf(x), "2 4 12");
        Check.due("7 delete(5)", x.delete(5), 0);
        Check.due("7 value(3), such an edit too", x.value(3), 9);
        Check.due("7 delete(2)", x.delete(2), 2);
        Check.dueText("7 edges", edgesOf(x), "2");
        Check.due("7 undo()", x.undo(), 9);
        Check.dueText("7 edges after undo", edgesOf(x), "2 4 12");
    }

    private static void p08Dualize() {
        HypergraphDualizer x = with(6, 7, 28, 10, 17, 31);
        Check.due("8 dualize()", x.dualize(), 4);
        Check.dueText("8 edges in the order of the sets", edgesOf(x), "7 9 18 28");
        Check.due("8 value(3)", x.value(3), 6);
        Check.due("8 answerCount() of the dual", x.answerCount(), 4);
        Check.due("8 dualize() of the dual", x.dualize(), 4);
        Check.dueText("8 edges, those that were minimal", edgesOf(x), "7 10 17 28");
        x.undo();
        x.undo();
        Check.dueText("8 edges after undo", edgesOf(x), "7 28 10 17 31");
        Check.due("8 dualize() without edges", with(6).dualize(), BAD_VALUE);
        HypergraphDualizer empty = with(6, 3);
        empty.removeEdge(0);
        Check.due("8 dualize() without edges again", empty.dualize(), BAD_VALUE);
        Check.due("8 value(3) after an error", empty.value(3), 2);
    }

    private static void p08DualizeFull() {
        HypergraphDualizer x = with(9, 3, 28, 480);
        Check.due("8 answerCount() of 2 * 3 * 4", x.answerCount(), 24);
        Check.due("8 dualize() with 24 answers", x.dualize(), 24);
        Check.due("8 edge(0)", x.edge(0), 37);
        Check.due("8 edge(23)", x.edge(23), 274);
        Check.due("8 dualize() back", x.dualize(), 3);
        Check.dueText("8 edges", edgesOf(x), "3 28 480");
        x = with(10, 31, 992);
        x.addEdge(1023);
        x.undo();
        Check.due("8 dualize() with 25 answers", x.dualize(), FULL);
        Check.dueText("8 edges after FULL", edgesOf(x), "31 992");
        Check.due("8 value(3) after FULL", x.value(3), 2);
        Check.due("8 redo() after FULL", x.redo(), 0);
    }

    private static void p09Undo() {
        HypergraphDualizer x = withFirstSets(5, 17);
        Check.due("9 value(3)", x.value(3), 16);
        for (int more = 15; more >= 0; more--) {
            Check.due("9 undo()", x.undo(), more);
            Check.due("9 value(1)", x.value(1), more + 1);
        }
        Check.due("9 undo() of an edit that was dropped", x.undo(), NONE);
        Check.dueText("9 edges", edgesOf(x), "1");
        Check.due("9 redo() after an undo() without effect", x.redo(), 15);
        HypergraphDualizer y = with(6, 3);
        y.setWeight(0, 9);
        y.type('x');
        Check.due("9 undo()", y.undo(), 0);
        Check.due("9 weightOf(1) stays", y.weightOf(1), 9);
        Check.due("9 answerCount() after undo", y.answerCount(), 1);
        Check.due("9 clearText() stays", y.clearText(), 1);
    }

    private static void p10Redo() {
        HypergraphDualizer x = withFirstSets(5, 20);
        Check.due("10 redo() with nothing undone", x.redo(), NONE);
        for (int i = 0; i < 16; i++) {
            x.undo();
        }
        for (int more = 15; more >= 0; more--) {
            Check.due("10 redo()", x.redo(), more);
            Check.due("10 value(1)", x.value(1), 20 - more);
            Check.due("10 value(3)", x.value(3), 16 - more);
        }
        Check.due("10 redo() when all is redone", x.redo(), NONE);
        Check.due("10 edge(19)", x.edge(19), 20);
        x.undo();
        x.undo();
        x.addEdge(31);
        Check.due("10 redo() after an edit", x.redo(), NONE);
        Check.due("10 value(3) after it", x.value(3), 15);
        Check.due("10 undo() after it", x.undo(), 14);
        Check.due("10 edge(18), no longer there", x.edge(18), NO_SUCH_EDGE);
        Check.due("10 addEdge(0), an error", x.addEdge(0), BAD_VALUE);
        Check.due("10 redo() after an error", x.redo(), 0);
        Check.due("10 edge(18)", x.edge(18), 31);
    }

    private static void p11Edge() {
        HypergraphDualizer x = with(14, 16383, 1, 8192);
        Check.due("11 edge(0)", x.edge(0), 16383);
        Check.due("11 edge(1)", x.edge(1), 1);
        Check.due("11 edge(2)", x.edge(2), 8192);
        for (int wrong : new int[] {-1, 3, 23, 24, 25, Integer.MIN_VALUE, Integer.MAX_VALUE}) {
            Check.due("11 edge(" + wrong + ")", x.edge(wrong), NO_SUCH_EDGE);
        }
        Check.due("11 edge(24) of 24", withFirstSets(5, 24).edge(24), NO_SUCH_EDGE);
    }

    private static void p12Value() {
        HypergraphDualizer x = with(7, 7, 6, 24, 30, 14);
        Check.due("12 value(0)", x.value(0), 7);
        Check.due("12 value(1)", x.value(1), 5);
        Check.due("12 value(2)", x.value(2), 2);
        Check.due("12 value(3)", x.value(3), 5);
        Check.due("12 value(4)", x.value(4), 2);
        Check.due("12 value(5)", x.value(5), 30);
        for (int wrong : new int[] {-1, 6, 7, Integer.MIN_VALUE, Integer.MAX_VALUE}) {
            Check.due("12 value(" + wrong + ")", x.value(wrong), BAD_VALUE);
        }
        x = with(7, 64, 1, 12, 6);
        Check.due("12 value(2), all minimal", x.value(2), 4);
        Check.due("12 value(4)", x.value(4), 1);
        Check.due("12 value(5)", x.value(5), 79);
        HypergraphDualizer empty = new HypergraphDualizer();
        for (int what = 1; what <= 5; what++) {
            Check.due("12 value(" + what + ") of a new object", empty.value(what), 0);
        }
        Check.due("12 value(4) of one great edge", with(14, 16383).value(4), 14);
    }

    private static void p13EdgesOf() {
        HypergraphDualizer x = with(6, 3, 6, 5);
        Check.due("13 edgesOf(0)", x.edgesOf(0), 5);
        Check.due("13 edgesOf(1)", x.edgesOf(1), 3);
        Check.due("13 edgesOf(2)", x.edgesOf(2), 6);
        Check.due("13 edgesOf(5)", x.edgesOf(5), 0);
        for (int wrong : new int[] {-1, 6, 13, 14, 31, 32, Integer.MIN_VALUE, Integer.MAX_VALUE}) {
            Check.due("13 edgesOf(" + wrong + ")", x.edgesOf(wrong), NO_SUCH_VERTEX);
        }
        x.removeEdge(0);
        Check.due("13 edgesOf(0) when edges have moved up", x.edgesOf(0), 2);
        HypergraphDualizer y = withFirstSets(14, 24);
        Check.due("13 edgesOf(0) of 24", y.edgesOf(0), 0x555555);
        Check.due("13 edgesOf(13)", y.edgesOf(13), 0);
        Check.due("13 edgesOf(14)", y.edgesOf(14), NO_SUCH_VERTEX);
    }

    private static void p14SetWeight() {
        HypergraphDualizer x = with(6, 3);
        Check.due("14 setWeight(0, 99)", x.setWeight(0, 99), 1);
        Check.due("14 setWeight(0, 0)", x.setWeight(0, 0), 99);
        Check.due("14 setWeight(0, 5)", x.setWeight(0, 5), 0);
        Check.due("14 setWeight(5, 98)", x.setWeight(5, 98), 1);
        for (int wrong : new int[] {-1, 100, Integer.MIN_VALUE, Integer.MAX_VALUE}) {
            Check.due("14 setWeight(0, " + wrong + ")", x.setWeight(0, wrong), BAD_VALUE);
            Check.due("14 setWeight(6, " + wrong + ")", x.setWeight(6, wrong), NO_SUCH_VERTEX);
        }
        for (int wrong : new int[] {-1, 6, 14, Integer.MIN_VALUE, Integer.MAX_VALUE}) {
            Check.due("14 setWeight(" + wrong + ", 3)", x.setWeight(wrong, 3), NO_SUCH_VERTEX);
        }
        Check.due("14 weightOf(63)", x.weightOf(63), 107);
        Check.due("14 value(3), no edit", x.value(3), 1);
    }

    private static void p15Missed() {
        HypergraphDualizer x = with(6, 3, 12, 48, 63);
        Check.due("15 missed(0)", x.missed(0), 15);
        Check.due("15 missed(1)", x.missed(1), 6);
        Check.due("15 missed(36)", x.missed(36), 1);
        Check.due("15 missed(63)", x.missed(63), 0);
        for (int wrong : FAR) {
            Check.due("15 missed(" + wrong + ")", x.missed(wrong), BAD_VALUE);
        }
        Check.due("15 missed(64)", x.missed(64), BAD_VALUE);
        Check.due("15 missed(0) without edges", with(3).missed(0), 0);
        Check.due("15 missed(0) of 24", withFirstSets(5, 24).missed(0), (1 << 24) - 1);
    }

    private static void p16PrivateEdges() {
        HypergraphDualizer x = with(4, 3, 6, 5, 1);
        Check.due("16 privateEdges(3, 0)", x.privateEdges(3, 0), 12);
        Check.due("16 privateEdges(3, 1)", x.privateEdges(3, 1), 2);
        Check.due("16 privateEdges(1, 0)", x.privateEdges(1, 0), 13);
        Check.due("16 privateEdges(7, 2)", x.privateEdges(7, 2), 0);
        Check.due("16 privateEdges(15, 0)", x.privateEdges(15, 0), 8);
        Check.due("16 privateEdges(8, 3)", x.privateEdges(8, 3), 0);
        Check.due("16 a vertex not in the set", x.privateEdges(3, 2), NONE);
        Check.due("16 the empty set", x.privateEdges(0, 0), NONE);
        for (int wrong : FAR) {
            Check.due("16 privateEdges(" + wrong + ", 0)", x.privateEdges(wrong, 0), BAD_VALUE);
            Check.due("16 privateEdges(" + wrong + ", 9)", x.privateEdges(wrong, 9), BAD_VALUE);
            Check.due("16 privateEdges(3, " + wrong + ")", x.privateEdges(3, wrong), NO_SUCH_VERTEX);
        }
        Check.due("16 privateEdges(16, 0)", x.privateEdges(16, 0), BAD_VALUE);
        Check.due("16 privateEdges(15, 4)", x.privateEdges(15, 4), NO_SUCH_VERTEX);
        Check.due("16 privateEdges(15, 32)", x.privateEdges(15, 32), NO_SUCH_VERTEX);
    }

    private static void p17KindOf() {
        HypergraphDualizer x = with(4, 3, 6);
        Check.due("17 kindOf(2)", x.kindOf(2), 1);
        Check.due("17 kindOf(5)", x.kindOf(5), 1);
        Check.due("17 kindOf(1)", x.kindOf(1), 0);
        Check.due("17 kindOf(0)", x.kindOf(0), 0);
        Check.due("17 kindOf(3)", x.kindOf(3), 2);
        Check.due("17 kindOf(10), with a vertex without edges", x.kindOf(10), 2);
        Check.due("17 kindOf(15)", x.kindOf(15), 2);
        for (int wrong : FAR) {
            Check.due("17 kindOf(" + wrong + ")", x.kindOf(wrong), BAD_VALUE);
        }
        Check.due("17 kindOf(16)", x.kindOf(16), BAD_VALUE);
        HypergraphDualizer empty = with(4);
        Check.due("17 kindOf(0) without edges", empty.kindOf(0), 1);
        Check.due("17 kindOf(1) without edges", empty.kindOf(1), 2);
    }

    private static void p18Shrink() {
        HypergraphDualizer x = with(5, 3, 6, 12);
        Check.due("18 shrink(31)", x.shrink(31), 10);
        Check.due("18 shrink(7)", x.shrink(7), 6);
        Check.due("18 shrink(13)", x.shrink(13), 5);
        Check.due("18 shrink(5)", x.shrink(5), 5);
        Check.due("18 shrink(9)", x.shrink(9), NONE);
        Check.due("18 shrink(0)", x.shrink(0), NONE);
        for (int wrong : FAR) {
            Check.due("18 shrink(" + wrong + ")", x.shrink(wrong), BAD_VALUE);
        }
        Check.due("18 shrink(32)", x.shrink(32), BAD_VALUE);
        Check.due("18 shrink(31) without edges", with(5).shrink(31), 0);
        Check.due("18 shrink(0) without edges", with(5).shrink(0), 0);
        Check.due("18 missed(5), nothing changed", x.missed(5), 0);
    }

    private static void p19Grow() {
        HypergraphDualizer x = with(5, 3, 6, 12, 16);
        Check.due("19 grow(0), the lowest of several", x.grow(0), 22);
        Check.due("19 grow(4)", x.grow(4), 21);
        Check.due("19 grow(8)", x.grow(8), 26);
        Check.due("19 grow(31)", x.grow(31), 31);
        Check.due("19 grow(16), a set that is not made smaller", x.grow(16), 22);
        HypergraphDualizer y = with(6, 1, 2, 6, 40, 48);
        Check.due("19 grow(0)", y.grow(0), 35);
        for (int wrong : FAR) {
            Check.due("19 grow(" + wrong + ")", x.grow(wrong), BAD_VALUE);
        }
        Check.due("19 grow(32)", x.grow(32), BAD_VALUE);
        Check.due("19 grow(9) without edges", with(5).grow(9), 9);
        int[] single = new int[14];
        for (int v = 0; v < 14; v++) {
            single[v] = 1 << v;
        }
        Check.due("19 grow(0) to all vertices", with(14, single).grow(0), 16383);
    }

    private static void p20AnswerCount() {
        Check.due("20 answerCount() without edges", with(5).answerCount(), 1);
        Check.due("20 of a triangle", with(6, 3, 6, 5).answerCount(), 3);
        Check.due("20 of seven pairs", with(14, 3, 12, 48, 192, 768, 3072, 12288).answerCount(), 128);
        Check.due("20 of all single vertices", with(3, 1, 2, 4).answerCount(), 1);
        HypergraphDualizer x = with(6, 3);
        Check.due("20 answerCount()", x.answerCount(), 2);
        x.addEdge(12);
        Check.due("20 answerCount() after an edit", x.answerCount(), 4);
        x.undo();
        Check.due("20 answerCount() after undo", x.answerCount(), 2);
        x.redo();
        Check.due("20 answerCount() after redo", x.answerCount(), 4);
        x.reset(6);
        Check.due("20 answerCount() after reset", x.answerCount(), 1);
    }

    private static void p21Answer() {
        HypergraphDualizer x = with(5, 7, 28, 10, 17, 31);
        Check.dueText("21 answers", answersOf(x), "7 18 9 28");
        Check.due("21 answer(4)", x.answer(4), NONE);
        Check.due("21 answer(4000)", x.answer(4000), NONE);
        Check.due("21 answer(4001)", x.answer(4001), NONE);
        Check.due("21 answer(MAX)", x.answer(Integer.MAX_VALUE), NONE);
        Check.due("21 answer(-1)", x.answer(-1), BAD_VALUE);
        Check.due("21 answer(MIN)", x.answer(Integer.MIN_VALUE), BAD_VALUE);
        Check.dueText("21 the first of several edges is taken", answersOf(with(4, 12, 3)), "5 6 9 10");
        Check.dueText("21 the first of several edges is taken", answersOf(with(4, 3, 12)), "5 9 6 10");
        Check.dueText("21 the smallest edge is taken", answersOf(with(4, 14, 3)), "5 9 2");
        Check.dueText("21 without edges", answersOf(with(4)), "0");
        HypergraphDualizer y = with(3, 4);
        y.removeEdge(0);
        Check.due("21 answer(0) when the edges are gone", y.answer(0), 0);
        Check.due("21 answer(1) when the edges are gone", y.answer(1), NONE);
    }

    private static void p22Delay() {
        HypergraphDualizer x = with(5, 7, 28, 10, 17, 31);
        int[] delays = {4, 1, 2, 2};
        for (int k = 0; k < delays.length; k++) {
            Check.due("22 delay(" + k + ")", x.delay(k), delays[k]);
        }
        Check.due("22 delay(4)", x.delay(4), NONE);
        Check.due("22 delay(MAX)", x.delay(Integer.MAX_VALUE), NONE);
        Check.due("22 delay(-1)", x.delay(-1), BAD_VALUE);
        Check.due("22 delay(MIN)", x.delay(Integer.MIN_VALUE), BAD_VALUE);
        Check.due("22 delay(0) without edges", with(5).delay(0), 1);
        x.reset(6);
        x.addEdge(3);
        Check.due("22 delay(0) after another search", x.delay(0), 2);
        Check.due("22 delay(1) after another search", x.delay(1), 1);
    }

    private static void p23Visits() {
        Check.due("23 visits() without edges", with(5).visits(), 1);
        Check.due("23 visits() of one edge", with(5, 31).visits(), 6);
        Check.due("23 visits() of a triangle", with(6, 3, 6, 5).visits(), 6);
        Check.due("23 visits()", with(5, 7, 28, 10, 17, 31).visits(), 9);
        Check.due("23 visits() of seven pairs", with(14, 3, 12, 48, 192, 768, 3072, 12288).visits(), 255);
        HypergraphDualizer x = with(14, 4426, 3272, 8690, 15472, 8747, 10948, 12472, 7586, 13836, 1716, 6934, 6317,
            3609, 2684, 2439, 11538, 5159, 13153, 977, 10054, 1381, 4755, 8215, 10517);
        Check.due("23 visits() of a long search", x.visits(), 1170);
        Check.due("23 visits() asked again", x.visits(), 1170);
    }

    private static void p24Next() {
        HypergraphDualizer x = with(5, 7, 28, 10, 17, 31);
        int[][] rows = {{-1, 7}, {0, 7}, {6, 7}, {7, 9}, {8, 9}, {9, 18}, {17, 18}, {18, 28}, {27, 28}};
        for (int[] row : rows) {
            Check.due("24 next(" + row[0] + ")", x.next(row[0]), row[1]);
        }
        Check.due("24 next(28)", x.next(28), NONE);
        Check.due("24 next(31)", x.next(31), NONE);
        for (int wrong : new int[] {-2, 32, 33, Integer.MIN_VALUE, Integer.MAX_VALUE}) {
            Check.due("24 next(" + wrong + ")", x.next(wrong), BAD_VALUE);
        }
        Check.due("24 next(-1) without edges", with(5).next(-1), 0);
        Check.due("24 next(0) without edges", with(5).next(0), NONE);
        x.removeEdge(0);
        Check.due("24 next(9) while edges change", x.next(9), 18);
    }

    private static void p25AnswersOfSize() {
        HypergraphDualizer x = with(5, 7, 28, 10, 17, 31);
        int[] counts = {0, 0, 2, 2, 0, 0};
        for (int size = 0; size < counts.length; size++) {
            Check.due("25 answersOfSize(" + size + ")", x.answersOfSize(size), counts[size]);
        }
        for (int wrong : new int[] {-1, 6, 14, 15, Integer.MIN_VALUE, Integer.MAX_VALUE}) {
            Check.due("25 answersOfSize(" + wrong + ")", x.answersOfSize(wrong), BAD_VALUE);
        }
        Check.due("25 answersOfSize(0) without edges", with(14).answersOfSize(0), 1);
        Check.due("25 answersOfSize(14) without edges", with(14).answersOfSize(14), 0);
    }

    private static void p26AnswersWith() {
        HypergraphDualizer x = with(6, 7, 28, 10, 17, 31);
        int[] counts = {2, 2, 2, 2, 2, 0};
        for (int vertex = 0; vertex < counts.length; vertex++) {
            Check.due("26 answersWith(" + vertex + ")", x.answersWith(vertex), counts[vertex]);
        }
        HypergraphDualizer y = with(3, 3, 5);
        Check.due("26 answersWith(0)", y.answersWith(0), 1);
        Check.due("26 answersWith(1)", y.answersWith(1), 1);
        for (int wrong : new int[] {-1, 3, 14, 32, Integer.MIN_VALUE, Integer.MAX_VALUE}) {
            Check.due("26 answersWith(" + wrong + ")", y.answersWith(wrong), NO_SUCH_VERTEX);
        }
    }

    private static void p27Lightest() {
        HypergraphDualizer x = with(5, 7, 28, 10, 17, 31);
        int[] equalWeights = {9, 18, 7, 28};
        for (int k = 0; k < 4; k++) {
            Check.due("27 lightest(" + k + ")", x.lightest(k), equalWeights[k]);
        }
        x.setWeight(0, 50);
        int[] heavyZero = {18, 28, 9, 7};
        for (int k = 0; k < 4; k++) {
            Check.due("27 lightest(" + k + ") with a heavy vertex", x.lightest(k), heavyZero[k]);
        }
        for (int v = 0; v < 5; v++) {
            x.setWeight(v, 0);
        }
        int[] bySet = {7, 9, 18, 28};
        for (int k = 0; k < 4; k++) {
            Check.due("27 lightest(" + k + ") without weights", x.lightest(k), bySet[k]);
        }
        Check.due("27 lightest(4)", x.lightest(4), NONE);
        Check.due("27 lightest(MAX)", x.lightest(Integer.MAX_VALUE), NONE);
        Check.due("27 lightest(-1)", x.lightest(-1), BAD_VALUE);
        Check.due("27 lightest(MIN)", x.lightest(Integer.MIN_VALUE), BAD_VALUE);
        HypergraphDualizer y = with(14);
        for (int v = 0; v < 14; v++) {
            y.addEdge(1 << v);
            y.setWeight(v, 99);
        }
        Check.due("27 lightest(0), the heaviest set", y.lightest(0), 16383);
        Check.due("27 lightest(0) without edges", with(4).lightest(0), 0);
    }

    private static void p28WeightOf() {
        HypergraphDualizer x = with(6);
        Check.due("28 weightOf(0)", x.weightOf(0), 0);
        Check.due("28 weightOf(63)", x.weightOf(63), 6);
        x.setWeight(1, 10);
        x.setWeight(5, 99);
        Check.due("28 weightOf(34)", x.weightOf(34), 109);
        Check.due("28 weightOf(1)", x.weightOf(1), 1);
        for (int wrong : FAR) {
            Check.due("28 weightOf(" + wrong + ")", x.weightOf(wrong), BAD_VALUE);
        }
        Check.due("28 weightOf(64)", x.weightOf(64), BAD_VALUE);
    }

    private static void p29HittingSets() {
        HypergraphDualizer x = with(5, 7, 28, 10, 17, 31);
        int[] counts = {0, 0, 2, 8, 5, 1};
        for (int size = 0; size < counts.length; size++) {
            Check.due("29 hittingSets(" + size + ")", x.hittingSets(size), counts[size]);
        }
        Check.due("29 hittingSets(-1)", x.hittingSets(-1), 16);
        for (int wrong : new int[] {-2, 6, 14, 15, Integer.MIN_VALUE, Integer.MAX_VALUE}) {
            Check.due("29 hittingSets(" + wrong + ")", x.hittingSets(wrong), BAD_VALUE);
        }
        x.removeEdge(0);
        Check.due("29 hittingSets(-1) after an edit", x.hittingSets(-1), 17);
        Check.due("29 hittingSets(-1) of a new object", new HypergraphDualizer().hittingSets(-1), 64);
        Check.due("29 hittingSets(5) after an edit", x.hittingSets(5), 1);
        x.addEdge(1);
        Check.due("29 hittingSets(0) after an edit", x.hittingSets(0), 0);
        Check.due("29 hittingSets(5) after an edit", x.hittingSets(5), 1);
        Check.due("29 hittingSets(-1) without edges", with(14).hittingSets(-1), 16384);
        Check.due("29 hittingSets(7) without edges", with(14).hittingSets(7), 3432);
        Check.due("29 hittingSets(14) without edges", with(14).hittingSets(14), 1);
    }

    private static void p30Chance() {
        Check.dueExactly("30 chance() without edges", with(6).chance(), 1f);
        Check.dueExactly("30 chance() of a triangle", with(6, 3, 6, 5).chance(), 0.5f);
        Check.dueExactly("30 chance() of a pair", with(2, 3).chance(), 0.75f);
        HypergraphDualizer x = with(14);
        for (int v = 0; v < 14; v++) {
            x.addEdge(1 << v);
        }
        Check.dueExactly("30 chance() of one set in 16384", x.chance(), 1f / 16384);
        Check.dueExactly("30 chance() of all but one", with(14, 16383).chance(), 16383f / 16384);
    }

    private static void p31DiagramSize() {
        HypergraphDualizer x = with(5, 7, 28, 10, 17, 31);
        Check.due("31 diagramSize(0)", x.diagramSize(0), 9);
        Check.due("31 diagramSize(1)", x.diagramSize(1), 8);
        Check.due("31 diagramSize(2)", x.diagramSize(2), 14);
        for (int wrong : new int[] {-1, 3, Integer.MIN_VALUE, Integer.MAX_VALUE}) {
            Check.due("31 diagramSize(" + wrong + ")", x.diagramSize(wrong), BAD_VALUE);
        }
        x.removeEdge(4);
        Check.due("31 diagramSize(0) after an edit", x.diagramSize(0), 8);
        HypergraphDualizer empty = with(14);
        Check.due("31 the empty family", empty.diagramSize(0), 0);
        Check.due("31 the family of the empty set", empty.diagramSize(1), 0);
        Check.due("31 the family of all sets", empty.diagramSize(2), 14);
        Check.due("31 nodes that stand for equal families", with(6, 33, 34, 36).diagramSize(0), 4);
        HypergraphDualizer great = with(14, 4426, 3272, 8690, 15472, 8747, 10948, 12472, 7586, 13836, 1716, 6934,
            6317, 3609, 2684, 2439, 11538, 5159, 13153, 977, 10054, 1381, 4755, 8215, 10517);
        ReferenceDualizer same = new ReferenceDualizer();
        same.reset(14);
        for (int e = 0; e < 24; e++) {
            same.addEdge(great.edge(e));
        }
        for (int what = 0; what < 3; what++) {
            Check.due("31 a great diagram", great.diagramSize(what), same.diagramSize(what));
        }
    }

    private static void p32NodesAt() {
        HypergraphDualizer x = with(6, 3, 6, 5);
        int[][] counts = {{1, 2, 1, 0, 0, 0}, {1, 2, 1, 0, 0, 0}, {1, 2, 2, 1, 1, 1}};
        for (int what = 0; what < 3; what++) {
            int sum = 0;
            for (int v = 0; v < 6; v++) {
                Check.due("32 nodesAt(" + what + ", " + v + ")", x.nodesAt(what, v), counts[what][v]);
                sum += x.nodesAt(what, v);
            }
            Check.due("32 diagramSize(" + what + ")", x.diagramSize(what), sum);
        }
        for (int wrong : new int[] {-1, 3, Integer.MIN_VALUE, Integer.MAX_VALUE}) {
            Check.due("32 nodesAt(" + wrong + ", 0)", x.nodesAt(wrong, 0), BAD_VALUE);
            Check.due("32 nodesAt(" + wrong + ", 6)", x.nodesAt(wrong, 6), BAD_VALUE);
        }
        for (int wrong : new int[] {-1, 6, 13, 14, Integer.MIN_VALUE, Integer.MAX_VALUE}) {
            Check.due("32 nodesAt(1, " + wrong + ")", x.nodesAt(1, wrong), NO_SUCH_VERTEX);
        }
        HypergraphDualizer y = with(14);
        y.nodesAt(2, 13);
        y.reset(3);
        y.addEdge(4);
        Check.due("32 nodesAt(0, 2)", y.nodesAt(0, 2), 1);
        Check.due("32 nodesAt(0, 0)", y.nodesAt(0, 0), 0);
        Check.due("32 nodesAt(2, 0)", y.nodesAt(2, 0), 1);
    }

    private static void p33IsSelfDual() {
        Check.due("33 without edges", with(6).isSelfDual(), 0);
        Check.due("33 one vertex", with(6, 8).isSelfDual(), 1);
        Check.due("33 a triangle", with(6, 3, 6, 5).isSelfDual(), 1);
        Check.due("33 a triangle and an edge that is not minimal", with(6, 3, 6, 5, 7).isSelfDual(), 1);
        Check.due("33 a pair", with(6, 3).isSelfDual(), 0);
        Check.due("33 two edges of a triangle", with(6, 3, 6).isSelfDual(), 0);
        Check.due("33 the lines of the plane with seven points",
            with(7, 7, 25, 97, 42, 82, 76, 52).isSelfDual(), 1);
        Check.due("33 as many answers as edges", with(4, 3, 12, 5, 10).isSelfDual(), 0);
        HypergraphDualizer x = with(6, 3, 6);
        x.isSelfDual();
        x.addEdge(5);
        Check.due("33 after an edit", x.isSelfDual(), 1);
    }

    private static void p34Difference() {
        Check.due("34 without edges", with(6).difference(), 0);
        Check.due("34 a triangle", with(6, 3, 6, 5).difference(), NONE);
        Check.due("34 a pair", with(6, 3).difference(), 1);
        Check.due("34 a minimal edge that is no answer", with(6, 1, 2).difference(), 1);
        Check.due("34 an answer that is no edge", with(6, 12).difference(), 4);
        Check.due("34 two edges of a triangle", with(6, 3, 6).difference(), 2);
        Check.due("34 the lower sets on both sides", with(6, 7, 25, 42, 52, 13).difference(), 12);
        Check.due("34 an edge that is not minimal does not count", with(6, 8, 9, 10).difference(), NONE);
        Check.due("34 an answer that is an edge and not minimal", with(4, 1, 2, 3).difference(), 1);
    }

    private static void p35IsIntersecting() {
        Check.due("35 without edges", with(6).isIntersecting(), 1);
        Check.due("35 one edge", with(6, 1).isIntersecting(), 1);
        Check.due("35 two that meet", with(6, 3, 6).isIntersecting(), 1);
        Check.due("35 two that do not", with(6, 3, 12).isIntersecting(), 0);
        Check.due("35 first and last do not", with(6, 3, 15, 63, 12).isIntersecting(), 0);
        Check.due("35 the last two do not", with(6, 63, 48, 15).isIntersecting(), 0);
        Check.due("35 a triangle", with(6, 3, 6, 5).isIntersecting(), 1);
    }

    private static void p36Type() {
        HypergraphDualizer x = new HypergraphDualizer();
        char[] some = {'0', ';', 0, 255, 256, 0xffff, 0xd800, '\n'};
        for (int i = 0; i < 100; i++) {
            Check.due("36 type()", x.type(some[i % some.length]), i + 1);
        }
        Check.due("36 type() when it is full", x.type('0'), FULL);
        Check.due("36 type() when it is full, again", x.type('0'), FULL);
        Check.due("36 clearText()", x.clearText(), 100);
        Check.due("36 type() when it is empty", x.type('1'), 1);
        Check.due("36 readEdges()", x.readEdges(), 1);
        Check.due("36 edge(0)", x.edge(0), 2);
        x.clearText();
        x.type((char) (256 + '1'));
        Check.due("36 a great character stays great", x.readEdges(), -100);
    }

    private static void p37ClearText() {
        HypergraphDualizer x = new HypergraphDualizer();
        Check.due("37 clearText() of none", x.clearText(), 0);
        write(x, "1,2");
        Check.due("37 clearText()", x.clearText(), 3);
        Check.due("37 clearText() again", x.clearText(), 0);
        Check.due("37 readEdges() of none", x.readEdges(), -100);
        Check.due("37 value(3), no edit", x.value(3), 0);
    }

    private static void p38ReadEdges() {
        HypergraphDualizer x = with(14, 1);
        write(x, "0,1;13,12,2;7");
        Check.due("38 readEdges()", x.readEdges(), 3);
        Check.dueText("38 edges", edgesOf(x), "1 3 12292 128");
        Check.due("38 value(3), one edit", x.value(3), 2);
        Check.due("38 answerCount() after it", x.answerCount(), 3);
        Check.due("38 readEdges() again, the text stays", x.readEdges(), -103);
        Check.due("38 undo()", x.undo(), 1);
        Check.dueText("38 edges after undo", edgesOf(x), "1");
        write(x, "5;6;");
        Check.due("38 readEdges() with a fault", x.readEdges(), -104);
        Check.dueText("38 edges after a fault", edgesOf(x), "1");
        Check.due("38 edgesOf(5) after a fault", x.edgesOf(5), 0);
        Check.due("38 redo() after a fault", x.redo(), 0);
        Check.dueText("38 edges after redo", edgesOf(x), "1 3 12292 128");
        Check.due("38 clearText()", x.clearText(), 4);
    }

    private static void reads(int n, String text, int due) {
        HypergraphDualizer x = with(n);
        write(x, text);
        Check.due("38 with " + n + " vertices, reading " + text, x.readEdges(), due);
        Check.due("38 value(1) after reading " + text, x.value(1), Math.max(due, 0));
        Check.due("38 value(3) after reading " + text, x.value(3), due > 0 ? 1 : 0);
    }

    private static void p38ReadEdgesFaults() {
        reads(14, "", -100);
        reads(14, ";", -100);
        reads(14, ",", -100);
        reads(14, " 1", -100);
        reads(14, "1 ", -101);
        reads(14, "1,", -102);
        reads(14, "1;", -102);
        reads(14, "1;;2", -102);
        reads(14, "1,,2", -102);
        reads(14, "1,;2", -102);
        reads(14, "1-2", -101);
        reads(14, "x", -100);
        reads(14, "/", -100);
        reads(14, ":", -100);
        reads(14, "13", 1);
        reads(14, "14", -101);
        reads(14, "130", -102);
        reads(14, "20", -101);
        reads(14, "9", 1);
        reads(14, "99", -101);
        reads(14, "0", 1);
        reads(14, "00", -101);
        reads(14, "01", -101);
        reads(14, "1,01", -103);
        reads(10, "10", -101);
        reads(11, "10", 1);
        reads(6, "5", 1);
        reads(6, "6", -100);
        reads(6, "66", -100);
        reads(6, "12", -101);
        reads(6, "1,6", -102);
        reads(1, "0", 1);
        reads(1, "1", -100);
        reads(1, "0,0", -102);
        reads(14, "1,1", -102);
        reads(14, "1,1x", -102);
        reads(14, "1,1,x", -102);
        reads(14, "14,x", -101);
        reads(14, "1,2,1;3", -104);
        reads(14, "12,3,12", -105);
        reads(14, "1,10,11,0", 1);
        reads(14, "12,1,2", 1);
        reads(14, "1,15", -103);
        reads(14, "0,01", -102);
        reads(14, "2;2", -103);
        reads(14, "2;2x", -103);
        reads(14, "2;2,", -104);
        reads(14, "2;2,3", 2);
        reads(14, "1,2;2,1", -107);
        reads(14, "1,2;2,1;3", -107);
        reads(14, "1,2;12", 2);
        reads(14, "3;1,2;3;4", -107);
        reads(14, "\u0661", -100);
    }

    private static void p38ReadEdgesLimits() {
        HypergraphDualizer x = withFirstSets(5, 23);
        write(x, "3,4");
        Check.due("38 the edge with number 23", x.readEdges(), 1);
        Check.due("38 edge(23)", x.edge(23), 24);
        write(x, "");
        Check.due("38 no text when it is full", x.readEdges(), -100);
        write(x, "1,x");
        Check.due("38 one edge too much", x.readEdges(), -100);
        x.undo();
        write(x, "3,4;0,3,4;1");
        Check.due("38 the second edge is too much", x.readEdges(), -104);
        Check.due("38 value(1) after it", x.value(1), 23);
        Check.due("38 redo() after it", x.redo(), 0);
        x.undo();
        write(x, "0");
        Check.due("38 an edge of the hypergraph", x.readEdges(), -101);
        write(x, "3,4;");
        Check.due("38 ends too early", x.readEdges(), -104);
        HypergraphDualizer y = with(14);
        write(y, "0;1;2;3;4;5;6;7;8;9;10;11;12;13;0,1;0,2;0,3;0,4;0,5;0,6;0,7;0,8;0,9;1,2");
        Check.due("38 24 edges", y.readEdges(), 24);
        Check.due("38 edge(23) of 24", y.edge(23), 6);
        y.reset(14);
        write(y, "0;1;2;3;4;5;6;7;8;9;10;11;12;13;0,1;0,2;0,3;0,4;0,5;0,6;0,7;0,8;0,9;1,2;1,3");
        Check.due("38 25 edges", y.readEdges(), -172);
        String longest = "0,1,2,3,4,5,6,7,8,9,10,11,12,13;12,11,10,9,8,7,6,5,4,3,2,1,0;"
            + "1,2,3,4,5,6,7,8,9,10,11,12;13,12,11,9,0";
        write(y, longest);
        Check.due("38 clearText() of the longest text", y.clearText(), 100);
        write(y, longest);
        Check.due("38 the longest text", y.readEdges(), 4);
    }
}
