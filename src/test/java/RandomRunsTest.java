/**
 * Long runs of calls, drawn by a fixed rule, on an object of the class and on the reference; each answer of the one
 * is compared with that of the other.
 */
public final class RandomRunsTest {
    private static final int CALLS = 512;
    private static final int METHODS = 37;

    private final HypergraphDualizer tested = new HypergraphDualizer();
    private final ReferenceDualizer reference = new ReferenceDualizer();
    private final int most;
    private long state;
    private int n = 6;

    private RandomRunsTest(long seed, int mostVertices) {
        state = seed * 0x9E3779B97F4A7C15L + 12345;
        most = mostVertices;
    }

    public static void main(String[] args) {
        for (int run = 0; run < 400 && Check.wrong() < 20; run++) {
            new RandomRunsTest(run, 7).go("run " + run);
        }
        for (int run = 400; run < 440 && Check.wrong() < 20; run++) {
            new RandomRunsTest(run, 14).go("run " + run);
        }
        Check.end();
    }

    private int draw(int bound) {
        state = state * 6364136223846793005L + 1442695040888963407L;
        return (int) ((state >>> 33) % bound);
    }

    private void go(String run) {
        startWithEdges(run);
        for (int call = 0; call < CALLS - 30 && Check.wrong() < 20; call++) {
            int method = draw(100) < 45 ? draw(10) : draw(METHODS);
            if (method == 0 && draw(12) != 0) {
                method = 1;
            }
            callBoth(run + ", call " + call + ", ", method);
        }
    }

    /** Half of the runs begin with so many edges that the limit of 24 is near. */
    private void startWithEdges(String run) {
        n = 3 + draw(most - 2);
        due(run + " reset", tested.reset(n), reference.reset(n));
        int edges = draw(2) * draw(26);
        int density = 1 + draw(3);
        for (int e = 0; e < edges; e++) {
            int set = draw(1 << n);
            for (int i = 1; i < density; i++) {
                set &= draw(1 << n);
            }
            due(run + " addEdge " + set, tested.addEdge(set), reference.addEdge(set));
        }
    }

    private static void due(String call, int got, int want) {
        Check.due(call, got, want);
    }

    /** A number from a little below 0 to a little above the bound, seldom one far outside. */
    private int near(int bound) {
        if (draw(40) == 0) {
            int[] far = {Integer.MIN_VALUE, Integer.MAX_VALUE, -1, bound, 1 << 30, -bound, 32, 33, 100, 1 << 14};
            return far[draw(far.length)];
        }
        return draw(bound + 3) - 1;
    }

    private int set() {
        return draw(30) == 0 ? near(1 << n) : draw(3) == 0 ? draw(1 << n) | draw(1 << n) : draw(1 << n);
    }

    private int sparseSet() {
        return draw(3) == 0 ? set() : set() & draw(1 << n);
    }

    private void callBoth(String at, int method) {
        switch (method) {
            case 0:
                int vertices = near(most);
                due(at + "reset(" + vertices + ")", tested.reset(vertices), reference.reset(vertices));
                n = reference.value(0);
                break;
            case 1:
            case 2:
                int added = sparseSet();
                due(at + "addEdge(" + added + ")", tested.addEdge(added), reference.addEdge(added));
                break;
            case 3:
                int removed = near(reference.value(1));
                due(at + "removeEdge(" + removed + ")", tested.removeEdge(removed), reference.removeEdge(removed));
                break;
            case 4:
                int many = draw(4);
                for (int i = 0; i <= many; i++) {
                    due(at + "undo()", tested.undo(), reference.undo());
                }
                break;
            case 5:
                due(at + "redo()", tested.redo(), reference.redo());
                break;
            case 6:
                editBoth(at);
                break;
            case 7:
                typeBoth(at);
                break;
            case 8:
                due(at + "readEdges()", tested.readEdges(), reference.readEdges());
                break;
            default:
                askBoth(at, method);
                break;
        }
    }

    private void editBoth(String at) {
        int vertex = near(n);
        switch (draw(4)) {
            case 0:
                due(at + "minimize()", tested.minimize(), reference.minimize());
                break;
            case 1:
                due(at + "contract(" + vertex + ")", tested.contract(vertex), reference.contract(vertex));
                break;
            case 2:
                due(at + "delete(" + vertex + ")", tested.delete(vertex), reference.delete(vertex));
                break;
            default:
                due(at + "dualize()", tested.dualize(), reference.dualize());
                break;
        }
    }

    private void typeBoth(String at) {
        if (draw(3) == 0) {
            due(at + "clearText()", tested.clearText(), reference.clearText());
        }
        String signs = "0123456789,;,;,;,;0123101";
        int many = draw(12);
        for (int i = 0; i < many; i++) {
            char sign = draw(60) == 0 ? (char) draw(65536) : signs.charAt(draw(signs.length()));
            due(at + "type(" + (int) sign + ")", tested.type(sign), reference.type(sign));
        }
    }

    private void askBoth(String at, int method) {
        int vertex = near(n);
        int set = set();
        int k = draw(20) == 0 ? near(4000) : near(12);
        int what = near(6);
        switch (method) {
            case 9:
                int weight = near(99);
                due(at + "setWeight(" + vertex + ", " + weight + ")",
                    tested.setWeight(vertex, weight), reference.setWeight(vertex, weight));
                break;
            case 10:
                due(at + "edge(" + k + ")", tested.edge(k), reference.edge(k));
                break;
            case 11:
            case 12:
                due(at + "value(" + what + ")", tested.value(what), reference.value(what));
                break;
            case 13:
                due(at + "edgesOf(" + vertex + ")", tested.edgesOf(vertex), reference.edgesOf(vertex));
                break;
            case 14:
                due(at + "missed(" + set + ")", tested.missed(set), reference.missed(set));
                break;
            case 15:
                due(at + "privateEdges(" + set + ", " + vertex + ")",
                    tested.privateEdges(set, vertex), reference.privateEdges(set, vertex));
                break;
            case 16:
                due(at + "kindOf(" + set + ")", tested.kindOf(set), reference.kindOf(set));
                break;
            case 17:
                due(at + "shrink(" + set + ")", tested.shrink(set), reference.shrink(set));
                break;
            case 18:
                due(at + "grow(" + set + ")", tested.grow(set), reference.grow(set));
                break;
            case 19:
                due(at + "weightOf(" + set + ")", tested.weightOf(set), reference.weightOf(set));
                break;
            case 20:
                due(at + "isIntersecting()", tested.isIntersecting(), reference.isIntersecting());
                break;
            default:
                askBothForAnswers(at, method, vertex, k);
                break;
        }
    }

    private void askBothForAnswers(String at, int method, int vertex, int k) {
        switch (method) {
            case 21:
                due(at + "answerCount()", tested.answerCount(), reference.answerCount());
                break;
            case 22:
                due(at + "answer(" + k + ")", tested.answer(k), reference.answer(k));
                break;
            case 23:
                due(at + "delay(" + k + ")", tested.delay(k), reference.delay(k));
                break;
            case 24:
                due(at + "visits()", tested.visits(), reference.visits());
                break;
            case 25:
                int after = set();
                due(at + "next(" + after + ")", tested.next(after), reference.next(after));
                break;
            case 26:
                int size = near(n);
                due(at + "answersOfSize(" + size + ")", tested.answersOfSize(size), reference.answersOfSize(size));
                break;
            case 27:
                due(at + "answersWith(" + vertex + ")", tested.answersWith(vertex), reference.answersWith(vertex));
                break;
            case 28:
            case 29:
                due(at + "lightest(" + k + ")", tested.lightest(k), reference.lightest(k));
                break;
            default:
                askBothForFamilies(at, method, vertex);
                break;
        }
    }

    private void askBothForFamilies(String at, int method, int vertex) {
        int what = near(2);
        switch (method) {
            case 30:
                int size = near(n);
                due(at + "hittingSets(" + size + ")", tested.hittingSets(size), reference.hittingSets(size));
                break;
            case 31:
                Check.dueExactly(at + "chance()", tested.chance(), reference.chance());
                break;
            case 32:
            case 33:
                due(at + "diagramSize(" + what + ")", tested.diagramSize(what), reference.diagramSize(what));
                break;
            case 34:
                due(at + "nodesAt(" + what + ", " + vertex + ")",
                    tested.nodesAt(what, vertex), reference.nodesAt(what, vertex));
                break;
            case 35:
                due(at + "isSelfDual()", tested.isSelfDual(), reference.isSelfDual());
                break;
            default:
                due(at + "difference()", tested.difference(), reference.difference());
                break;
        }
    }
}
