/** The four examples of the document, each on a new object. */
public final class ExamplesTest {
    private ExamplesTest() {
    }

    public static void main(String[] args) {
        triangle();
        editsThatAreUndone();
        edgesFromAText();
        withoutEdges();
        Check.end();
    }

    private static void triangle() {
        HypergraphDualizer x = new HypergraphDualizer();
        Check.due("1 addEdge(3)", x.addEdge(3), 0);
        Check.due("1 addEdge(6)", x.addEdge(6), 1);
        Check.due("1 addEdge(5)", x.addEdge(5), 2);
        Check.due("1 answerCount()", x.answerCount(), 3);
        Check.due("1 answer(0)", x.answer(0), 5);
        Check.due("1 answer(2)", x.answer(2), 6);
        Check.due("1 delay(0)", x.delay(0), 3);
        Check.due("1 visits()", x.visits(), 6);
        Check.due("1 isSelfDual()", x.isSelfDual(), 1);
        Check.due("1 diagramSize(1)", x.diagramSize(1), 4);
        Check.due("1 hittingSets(2)", x.hittingSets(2), 3);
        Check.due("1 hittingSets(-1)", x.hittingSets(-1), 32);
        Check.due("1 privateEdges(3, 0)", x.privateEdges(3, 0), 4);
        Check.due("1 shrink(7)", x.shrink(7), 6);
        Check.due("1 next(3)", x.next(3), 5);
        Check.dueExactly("1 chance()", x.chance(), 0.5f);
    }

    private static void editsThatAreUndone() {
        HypergraphDualizer x = new HypergraphDualizer();
        Check.due("2 reset(4)", x.reset(4), 6);
        Check.due("2 addEdge(1)", x.addEdge(1), 0);
        Check.due("2 addEdge(3)", x.addEdge(3), 1);
        Check.due("2 addEdge(12)", x.addEdge(12), 2);
        Check.due("2 minimize()", x.minimize(), 1);
        Check.due("2 undo()", x.undo(), 3);
        Check.due("2 value(2)", x.value(2), 2);
        Check.due("2 dualize()", x.dualize(), 2);
        Check.due("2 edge(0)", x.edge(0), 5);
        Check.due("2 redo()", x.redo(), -7);
        Check.due("2 undo()", x.undo(), 3);
        Check.due("2 contract(0)", x.contract(0), 2);
        Check.due("2 edge(0)", x.edge(0), 2);
        Check.due("2 delete(2)", x.delete(2), 1);
        Check.due("2 lightest(0)", x.lightest(0), 2);
        Check.due("2 kindOf(0)", x.kindOf(0), 0);
    }

    private static void edgesFromAText() {
        HypergraphDualizer x = new HypergraphDualizer();
        Check.due("3 type('0')", x.type('0'), 1);
        Check.due("3 type(',')", x.type(','), 2);
        Check.due("3 type('1')", x.type('1'), 3);
        Check.due("3 type(';')", x.type(';'), 4);
        Check.due("3 type('5')", x.type('5'), 5);
        Check.due("3 readEdges()", x.readEdges(), 2);
        Check.due("3 readEdges()", x.readEdges(), -103);
        Check.due("3 grow(0)", x.grow(0), 33);
        Check.due("3 missed(1)", x.missed(1), 2);
        Check.due("3 answersWith(5)", x.answersWith(5), 2);
        Check.due("3 answersOfSize(2)", x.answersOfSize(2), 2);
        Check.due("3 nodesAt(0, 0)", x.nodesAt(0, 0), 1);
        Check.due("3 difference()", x.difference(), 3);
        Check.due("3 type('1')", x.type('1'), 6);
        Check.due("3 readEdges()", x.readEdges(), -103);
        Check.due("3 clearText()", x.clearText(), 6);
    }

    private static void withoutEdges() {
        HypergraphDualizer x = new HypergraphDualizer();
        Check.due("4 answerCount()", x.answerCount(), 1);
        Check.due("4 answer(0)", x.answer(0), 0);
        Check.due("4 dualize()", x.dualize(), -3);
        Check.due("4 kindOf(0)", x.kindOf(0), 1);
        Check.due("4 diagramSize(0)", x.diagramSize(0), 0);
        Check.due("4 diagramSize(2)", x.diagramSize(2), 6);
        Check.due("4 isIntersecting()", x.isIntersecting(), 1);
        Check.due("4 value(4)", x.value(4), 0);
        Check.due("4 addEdge(0)", x.addEdge(0), -3);
        Check.due("4 addEdge(64)", x.addEdge(64), -3);
        Check.due("4 removeEdge(0)", x.removeEdge(0), -2);
        Check.due("4 undo()", x.undo(), -7);
        Check.due("4 next(-1)", x.next(-1), 0);
        Check.due("4 weightOf(5)", x.weightOf(5), 2);
        Check.due("4 setWeight(0, 9)", x.setWeight(0, 9), 1);
        Check.due("4 weightOf(5)", x.weightOf(5), 10);
    }
}
