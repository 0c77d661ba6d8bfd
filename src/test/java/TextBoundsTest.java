/** The boundary cases of promises 36 to 38: the length of the text, its grammar and its faults. */
public final class TextBoundsTest {
    private static final int FULL = HypergraphDualizer.FULL;
    private static final int NONE = HypergraphDualizer.NONE;
    private static final String FIRST_13 = "0,1,2,3,4,5,6,7,8,9,10,11,12";
    private static final String ALL_14 = FIRST_13 + ",13";

    private TextBoundsTest() {
    }

    public static void main(String[] args) {
        p36UpTo100Characters();
        p36FullChangesNothing();
        p36AnyCharacter();
        p37FromEmptyToFull();
        p38WithoutBlanks();
        p38EdgesAndTheirSeparators();
        p38VerticesAndTheirSeparators();
        p38VerticesOfOneOrTwoDigits();
        p38EndsTooEarly();
        p38EndsTooEarlyBehind100Characters();
        p38AVertexMustBeLessThanN();
        p38TheSecondDigitMakesItTooGreat();
        p38NoSecondDigitBehind0();
        p38AVertexOccursBeforeInItsEdge();
        p38AnEdgeOfTheHypergraph();
        p38AnEarlierEdgeOfTheText();
        p38NoMoreThan24Edges();
        p38TheTextStays();
        p38EdgesInTheirOrder();
        p38OneEdit();
        p38AFaultChangesNothing();
        Check.end();
    }

    private static HypergraphDualizer reading(HypergraphDualizer x, String text, int due) {
        Given.write(x, text);
        int before = x.value(1);
        int edits = x.value(3);
        Check.due("38 reading " + text, x.readEdges(), due);
        Check.due("38 value(1) after " + text, x.value(1), before + Math.max(due, 0));
        Check.due("38 value(3) after " + text, x.value(3), due > 0 ? Math.min(edits + 1, 16) : edits);
        return x;
    }

    private static void reads(int n, String text, int due) {
        reading(Given.with(n), text, due);
    }

    /** The fault of the text is the index. */
    private static void faulty(int n, String text, int fault) {
        reading(Given.with(n), text, -100 - fault);
    }

    /** "Returns the length of the text then; FULL if it has 100 characters." */
    private static void p36UpTo100Characters() {
        HypergraphDualizer x = new HypergraphDualizer();
        for (int length = 1; length <= 100; length++) {
            Check.due("36 type()", x.type(';'), length);
        }
        Check.due("36 type() of one more", x.type(';'), FULL);
        Check.due("36 type() of one more again", x.type('0'), FULL);
        x.clearText();
        Check.due("36 type() when there is room again", x.type(';'), 1);
    }

    private static void p36FullChangesNothing() {
        HypergraphDualizer x = Given.with(14);
        Given.write(x, ALL_14 + ";" + FIRST_13 + ";0,1,2,3,4,5,6,7,8,9,10,11;0,1,2,3,4,5,6");
        Check.due("36 type() of a fault in a full text", x.type(','), FULL);
        Check.due("36 readEdges() of the full text", x.readEdges(), 4);
        Check.due("36 edge(3)", x.edge(3), 127);
        Check.due("36 clearText()", x.clearText(), 100);
    }

    /** "any character". */
    private static void p36AnyCharacter() {
        char[] some = {0, 1, '\t', '\n', ' ', '/', ':', 127, 128, 255, 256, 0x0661, 0xD800, 0xFFFF,
            256 + '1', 512 + '1'};
        for (char character : some) {
            HypergraphDualizer x = new HypergraphDualizer();
            Check.due("36 type(" + (int) character + ")", x.type(character), 1);
            Check.due("36 readEdges() of " + (int) character, x.readEdges(), -100);
            Check.due("36 clearText() of " + (int) character, x.clearText(), 1);
            x.type('1');
            Check.due("36 type(" + (int) character + ") behind", x.type(character), 2);
            Check.due("36 readEdges() of it behind", x.readEdges(), -101);
        }
    }

    /** "Returns the length that it had." */
    private static void p37FromEmptyToFull() {
        HypergraphDualizer x = new HypergraphDualizer();
        Check.due("37 clearText() of a new object", x.clearText(), 0);
        for (int length : new int[] {1, 2, 99, 100}) {
            for (int i = 0; i < length; i++) {
                x.type('0');
            }
            Check.due("37 clearText()", x.clearText(), length);
            Check.due("37 clearText() of the empty text", x.clearText(), 0);
        }
        Given.write(x, "1,2,3");
        Given.write(x, "4");
        Check.due("37 readEdges() of a shorter text", x.readEdges(), 1);
        Check.due("37 edge(0)", x.edge(0), 16);
        Check.due("37 value(3)", x.value(3), 1);
    }

    /** "... has this grammar, without blanks". */
    private static void p38WithoutBlanks() {
        faulty(14, " ", 0);
        faulty(14, " 1", 0);
        faulty(14, "1 ", 1);
        faulty(14, "1, 2", 2);
        faulty(14, "1 ,2", 1);
        faulty(14, "1; 2", 2);
        faulty(14, "1\n", 1);
        faulty(14, "1 2", 1);
    }

    /** "edges = edge { ";" edge }". */
    private static void p38EdgesAndTheirSeparators() {
        reads(14, "1", 1);
        reads(14, "1;2", 2);
        reads(14, "1;2;3", 3);
        faulty(14, ";", 0);
        faulty(14, ";1", 0);
        faulty(14, "1;;2", 2);
        faulty(14, "1:2", 1);
        faulty(14, "1.2", 1);
    }

    /** "edge = vertex { "," vertex }". */
    private static void p38VerticesAndTheirSeparators() {
        reads(14, "1,2", 1);
        reads(14, ALL_14, 1);
        faulty(14, ",", 0);
        faulty(14, ",1", 0);
        faulty(14, "1,,2", 2);
        faulty(14, "1,;2", 2);
        faulty(14, "1;,2", 2);
        faulty(14, "1-2", 1);
    }

    /** "vertex = digit [ digit ]". */
    private static void p38VerticesOfOneOrTwoDigits() {
        reads(14, "10", 1);
        reads(14, "13", 1);
        faulty(14, "100", 2);
        faulty(14, "111", 2);
        faulty(14, "1,111", 4);
        faulty(14, "x", 0);
        faulty(14, "1x", 1);
        faulty(14, "10x", 2);
        faulty(14, "-1", 0);
        faulty(14, "+1", 0);
        faulty(14, "/", 0);
        faulty(14, ":", 0);
        faulty(14, "1/", 1);
        faulty(14, "1:", 1);
    }

    /** "... or its length if it ends too early." */
    private static void p38EndsTooEarly() {
        faulty(14, "", 0);
        faulty(14, "1,", 2);
        faulty(14, "1;", 2);
        faulty(14, "13,", 3);
        faulty(14, "1;2,3;", 6);
        faulty(14, "1,2;3,", 6);
    }

    private static void p38EndsTooEarlyBehind100Characters() {
        String start = ALL_14 + ";" + FIRST_13 + ";0,1,2,3,4,5,6,7,8,9,10,11;";
        faulty(14, start + "0,1,2,3,4,10,", 100);
        faulty(14, start + "0,1,2,3,4,10;", 100);
        faulty(14, start + "0,1,2,3,4,5,x", 99);
        faulty(14, start + "0,1,2,3,4,5,5", 99);
        faulty(14, start + "0,1,2,3,4,14,", 98);
        reads(14, start + "0,1,2,3,4,5,6", 4);
        String equal = "0,1,2,3,4,5,6;" + ALL_14 + ";" + FIRST_13 + ";0,1,2,3,4,5;6,5,4,3,2,1,0";
        Check.due("38 the length of the text with an equal edge at its end", equal.length(), 100);
        faulty(14, equal, 100);
    }

    /** "A vertex must be less than n". */
    private static void p38AVertexMustBeLessThanN() {
        for (int n = 1; n <= 14; n++) {
            reads(n, Integer.toString(n - 1), 1);
            faulty(n, Integer.toString(n), n < 10 ? 0 : 1);
            faulty(n, "0;" + n, n < 10 ? 2 : 3);
            faulty(n, "99", n < 10 ? 0 : 1);
        }
        faulty(6, "66", 0);
        faulty(6, "6x", 0);
        faulty(1, "1,0", 0);
    }

    /** "... (if its second digit makes it too great, that digit is the fault ..." */
    private static void p38TheSecondDigitMakesItTooGreat() {
        faulty(14, "14", 1);
        faulty(14, "19", 1);
        faulty(14, "20", 1);
        faulty(14, "139", 2);
        faulty(2, "10", 1);
        faulty(2, "11", 1);
        faulty(6, "50", 1);
        faulty(10, "10", 1);
        faulty(10, "90", 1);
        faulty(11, "11", 1);
        reads(11, "10", 1);
        faulty(14, "3,14", 3);
        faulty(14, "1,14", 3);
        faulty(14, "14,x", 1);
    }

    /** "... if its first digit is 0, there is no second one)". */
    private static void p38NoSecondDigitBehind0() {
        reads(1, "0", 1);
        reads(14, "0,1", 1);
        faulty(14, "00", 1);
        faulty(14, "01", 1);
        faulty(14, "09", 1);
        faulty(14, "1,01", 3);
        faulty(14, "5;05", 3);
        faulty(14, "00,1", 1);
        faulty(1, "00", 1);
    }

    /** "... and must not occur before in its edge; if it does, the fault is its first character." */
    private static void p38AVertexOccursBeforeInItsEdge() {
        faulty(14, "1,1", 2);
        faulty(14, "0,0", 2);
        faulty(1, "0,0", 2);
        faulty(14, "13,13", 3);
        faulty(14, "12,3,12", 5);
        faulty(14, "1,2,3,1", 6);
        faulty(14, "1,1,x", 2);
        faulty(14, "1,1x", 2);
        faulty(14, "2;3,3", 4);
        reads(14, "1;1,2;2,1,3", 3);
        reads(14, "1,11,10,0", 1);
        reads(14, "11,1", 1);
    }

    /** "An edge must not be equal to an edge of the hypergraph ...; if it is, the fault is the index behind ..." */
    private static void p38AnEdgeOfTheHypergraph() {
        reading(Given.with(14, 2), "1", -101);
        reading(Given.with(14, 2, 8192), "13", -102);
        reading(Given.with(14, 6), "2,1", -103);
        reading(Given.with(14, 6), "2,1;3", -103);
        reading(Given.with(14, 6), "5;1,2;x", -105);
        reading(Given.with(14, 6), "1,2,3;1;2", 3);
        reading(Given.with(14, 6), "1,2x", -103);
        reading(Given.with(14, 6), "1,2,", -104);
        reading(Given.with(14, 2), "12", 1);
        HypergraphDualizer x = Given.with(14, 2);
        x.undo();
        reading(x, "1", 1);
    }

    /** "... or to an earlier one of the text". */
    private static void p38AnEarlierEdgeOfTheText() {
        faulty(14, "1;1", 3);
        faulty(14, "13;13", 5);
        faulty(14, "1,2;2,1", 7);
        faulty(14, "3;1,2;3;4", 7);
        faulty(14, "3;4;3;3", 5);
        faulty(14, "1;1;x", 3);
        faulty(14, "0;00", 3);
        reads(14, "1;11", 2);
        reads(14, "1;1,2", 2);
    }

    /** "There may not be more than 24 edges altogether; if there are, the fault is the first character ..." */
    private static void p38NoMoreThan24Edges() {
        reading(Given.withFirstSets(23), "3,4", 1);
        reading(Given.withFirstSets(23), "3,4;0,3,4", -104);
        reading(Given.withFirstSets(23), "3,4;0,3,4;1,3,4", -104);
        reading(Given.withFirstSets(23), "0,1,2,3,4;0,3,4", -110);
        reading(Given.withFirstSets(23), "3,4;", -104);
        reading(Given.withFirstSets(23), "3,4;;0,3,4", -104);
        reading(Given.withFirstSets(23), "3,4;x", -104);
        reading(Given.withFirstSets(23), "3,4x", -103);
        reading(Given.withFirstSets(24), "0,3,4", -100);
        reading(Given.withFirstSets(24), "", -100);
        reading(Given.withFirstSets(24), ";", -100);
        reading(Given.withFirstSets(22), "3,4;0,3,4", 2);
        reading(Given.withFirstSets(22), "3,4;0,3,4;1,3,4", -110);
        StringBuilder many = new StringBuilder("0");
        for (int v = 1; v < 14; v++) {
            many.append(';').append(v);
        }
        for (int v = 1; v < 10; v++) {
            many.append(";0,").append(v);
        }
        reads(14, many + ";1,2", 24);
        faulty(14, many + ";1,2;1,3", 72);
        HypergraphDualizer x = Given.withFirstSets(24);
        x.removeEdge(23);
        reading(x, "0,1,2,3,4", 1);
    }

    /** "Reads edges from the text, which stays". */
    private static void p38TheTextStays() {
        HypergraphDualizer x = Given.with(6);
        Given.write(x, "1,2;3");
        Check.due("38 readEdges()", x.readEdges(), 2);
        x.undo();
        Check.due("38 readEdges() once more", x.readEdges(), 2);
        Check.due("38 readEdges() when they are there", x.readEdges(), -103);
        x.type(';');
        x.undo();
        Check.due("38 readEdges() with a fault", x.readEdges(), -106);
        Check.due("38 type() behind it", x.type('4'), 7);
        Check.due("38 readEdges() without the fault", x.readEdges(), 3);
        Check.due("38 clearText()", x.clearText(), 7);
    }

    /** "... and adds them in their order." */
    private static void p38EdgesInTheirOrder() {
        HypergraphDualizer x = Given.with(14, 3);
        Given.write(x, "13;0;5,4;1,2");
        Check.due("38 readEdges()", x.readEdges(), 4);
        Check.dueText("38 edges", Given.edges(x), "3 8192 1 48 6");
        Check.due("38 edgesOf(0)", x.edgesOf(0), 5);
        Check.due("38 answerCount()", x.answerCount(), 4);
    }

    /** "This is one edit." */
    private static void p38OneEdit() {
        HypergraphDualizer x = Given.with(6, 3, 5);
        x.undo();
        Given.write(x, "1;2;3;4");
        Check.due("38 readEdges()", x.readEdges(), 4);
        Check.due("38 value(3)", x.value(3), 2);
        Check.due("38 redo()", x.redo(), NONE);
        Check.due("38 undo()", x.undo(), 1);
        Check.dueText("38 edges after undo", Given.edges(x), "3");
        Check.due("38 redo()", x.redo(), 0);
        Check.dueText("38 edges after redo", Given.edges(x), "3 2 4 8 16");
    }

    /** "-100 minus the fault if there is one", and then "a call that reports an error changes nothing". */
    private static void p38AFaultChangesNothing() {
        String[] texts = {"", "0;1,3;", "0;x", "0;1,1", "0;1,2", "0;4", "0;1,3;3,1", "0,2;0,2"};
        int[] faults = {0, 6, 2, 4, 5, 2, 9, 7};
        for (int i = 0; i < texts.length; i++) {
            String text = texts[i];
            Given.refused("38 readEdges() of " + text, () -> withText(text), x -> x.readEdges(), -100 - faults[i]);
        }
        HypergraphDualizer full = Given.withFirstSets(23);
        full.addEdge(31);
        full.undo();
        reading(full, "3,4;0,3,4", -104);
        Check.due("38 missed(0) after a fault", full.missed(0), 0x7FFFFF);
        Check.due("38 redo() after a fault", full.redo(), 0);
        Check.due("38 edge(23)", full.edge(23), 31);
    }

    private static HypergraphDualizer withText(String text) {
        HypergraphDualizer x = Given.inTheMidst();
        Given.write(x, text);
        return x;
    }
}
