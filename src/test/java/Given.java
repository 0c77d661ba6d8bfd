import java.util.function.Supplier;
import java.util.function.ToIntFunction;

/** Objects to begin a test with, and what can be seen of one. */
final class Given {
    private static final int NONE = HypergraphDualizer.NONE;

    private Given() {
    }

    static HypergraphDualizer with(int vertices, int... edges) {
        HypergraphDualizer x = new HypergraphDualizer();
        x.reset(vertices);
        for (int edge : edges) {
            x.addEdge(edge);
        }
        return x;
    }

    /** Five vertices and the edges 1, 2, 3, ... */
    static HypergraphDualizer withFirstSets(int many) {
        HypergraphDualizer x = with(5);
        for (int set = 1; set <= many; set++) {
            x.addEdge(set);
        }
        return x;
    }

    static HypergraphDualizer withSingles(int vertices) {
        HypergraphDualizer x = with(vertices);
        for (int v = 0; v < vertices; v++) {
            x.addEdge(1 << v);
        }
        return x;
    }

    /** Three edits that can be undone and two that can be redone, weights and a text. */
    static HypergraphDualizer inTheMidst() {
        HypergraphDualizer x = with(4, 3, 6, 12, 9, 15);
        x.setWeight(2, 50);
        write(x, "1,3;0");
        x.undo();
        x.undo();
        return x;
    }

    static void write(HypergraphDualizer x, String text) {
        x.clearText();
        for (int i = 0; i < text.length(); i++) {
            x.type(text.charAt(i));
        }
    }

    static String edges(HypergraphDualizer x) {
        StringBuilder all = new StringBuilder();
        for (int e = 0; e < x.value(1); e++) {
            all.append(e == 0 ? "" : " ").append(x.edge(e));
        }
        return all.toString();
    }

    static String answers(HypergraphDualizer x) {
        StringBuilder all = new StringBuilder();
        for (int k = 0; k < x.answerCount(); k++) {
            all.append(k == 0 ? "" : " ").append(x.answer(k));
        }
        return all.toString();
    }

    /** All that an object holds: seeing it takes the object through its history and empties its text. */
    static String whole(HypergraphDualizer x) {
        StringBuilder seen = new StringBuilder();
        appendEdges(x, seen.append("now"));
        seen.append(" answers ").append(x.answerCount()).append(" visits ").append(x.visits());
        for (int v = 0; v < x.value(0); v++) {
            seen.append(" weight ").append(x.weightOf(1 << v));
        }
        for (int left = x.redo(); left != NONE; left = x.redo()) {
            appendEdges(x, seen.append("\n redo ").append(left));
        }
        for (int left = x.undo(); left != NONE; left = x.undo()) {
            appendEdges(x, seen.append("\n undo ").append(left));
        }
        appendEdges(x, seen.append("\n read ").append(x.readEdges()));
        return seen.append(" text ").append(x.clearText()).toString();
    }

    private static void appendEdges(HypergraphDualizer x, StringBuilder seen) {
        seen.append(" n ").append(x.value(0)).append(" edges ").append(x.value(1)).append(" at");
        for (int v = 0; v < x.value(0); v++) {
            seen.append(' ').append(x.edgesOf(v));
        }
        seen.append(" undoable ").append(x.value(3));
    }

    /** Makes the call on such an object, which must answer so and leave the object as if it had not been made. */
    static void refused(String call, Supplier<HypergraphDualizer> made, ToIntFunction<HypergraphDualizer> answer,
            int want) {
        HypergraphDualizer x = made.get();
        Check.due(call, answer.applyAsInt(x), want);
        Check.dueText("what " + call + " leaves", whole(x), whole(made.get()));
    }
}
