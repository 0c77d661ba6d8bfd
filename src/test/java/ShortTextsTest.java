/**
 * Promise 38 with all texts of up to five of seven characters, each read by an object of the class and by the
 * reference; with few vertices and many, and with hypergraphs that have room for all edges, for some or for none.
 */
public final class ShortTextsTest {
    private static final String SIGNS = "0129,;x";
    private static final int LONGEST = 5;
    /** So many texts that an object has fewer than 512 calls. */
    private static final int TEXTS_OF_AN_OBJECT = 40;

    private final int vertices;
    private final int edges;
    private HypergraphDualizer tested;
    private ReferenceDualizer reference;
    private int texts;

    private ShortTextsTest(int n, int many) {
        vertices = n;
        edges = many;
    }

    public static void main(String[] args) {
        int[][] given = {{1, 0}, {2, 1}, {6, 0}, {10, 3}, {11, 0}, {12, 2}, {14, 5},
            {12, 21}, {12, 22}, {12, 23}, {12, 24}};
        for (int[] some : given) {
            new ShortTextsTest(some[0], some[1]).readAll(new char[LONGEST], 0);
        }
        Check.end();
    }

    private void readAll(char[] text, int length) {
        read(text, length);
        if (length < LONGEST && Check.wrong() < 20) {
            for (int i = 0; i < SIGNS.length(); i++) {
                text[length] = SIGNS.charAt(i);
                readAll(text, length + 1);
            }
        }
    }

    private void read(char[] text, int length) {
        if (texts % TEXTS_OF_AN_OBJECT == 0) {
            startAnew();
        }
        texts++;
        tested.clearText();
        reference.clearText();
        for (int i = 0; i < length; i++) {
            tested.type(text[i]);
            reference.type(text[i]);
        }
        String call = vertices + " vertices, " + edges + " edges, readEdges() of " + new String(text, 0, length);
        int added = reference.readEdges();
        Check.due(call, tested.readEdges(), added);
        Check.due(call + ", then missed(1)", tested.missed(1), reference.missed(1));
        if (added > 0) {
            Check.due(call + ", then undo()", tested.undo(), reference.undo());
        }
    }

    private void startAnew() {
        tested = new HypergraphDualizer();
        reference = new ReferenceDualizer();
        tested.reset(vertices);
        reference.reset(vertices);
        for (int set = 1; set <= edges; set++) {
            tested.addEdge(set);
            reference.addEdge(set);
        }
    }
}
