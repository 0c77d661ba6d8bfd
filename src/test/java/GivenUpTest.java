import java.io.IOException;
import java.lang.reflect.InvocationTargetException;
import java.lang.reflect.Method;
import java.net.URL;
import java.net.URLClassLoader;
import java.nio.charset.StandardCharsets;
import java.nio.file.Files;
import java.nio.file.Path;
import javax.tools.ToolProvider;

/**
 * What is answered when the search is given up. No hypergraph is known whose search has more than 4000 visits (the
 * longest that a hunt found has 1365), so the class is compiled here once more, with a lower limit in its place.
 */
public final class GivenUpTest {
    private static final String LIMIT = "MOST_VISITS = 4000;";
    private static final int GIVEN_UP = HypergraphDualizer.GIVEN_UP;

    private final Class<?> type;
    private final Object object;

    private GivenUpTest(Class<?> compiled) throws ReflectiveOperationException {
        type = compiled;
        object = compiled.getConstructor().newInstance();
    }

    public static void main(String[] args) throws IOException, ReflectiveOperationException {
        Class<?> sixVisits = compiledWithLimit(6);
        Class<?> fiveVisits = compiledWithLimit(5);
        Class<?> oneVisit = compiledWithLimit(1);
        justEnoughVisits(new GivenUpTest(sixVisits));
        oneVisitTooMuch(new GivenUpTest(fiveVisits));
        errorsBeforeGivenUp(new GivenUpTest(fiveVisits));
        nothingIsChanged(new GivenUpTest(fiveVisits));
        oneVisitTooMuchAfterTheLastAnswer(new GivenUpTest(sixVisits));
        theFirstVisitCounts(new GivenUpTest(oneVisit));
        givenUpBeforeFull(new GivenUpTest(sixVisits));
        Check.end();
    }

    private static Class<?> compiledWithLimit(int limit) throws IOException, ReflectiveOperationException {
        String source = Files.readString(Path.of("src/main/java/HypergraphDualizer.java"));
        Check.due("occurrences of " + LIMIT, source.split(LIMIT, -1).length - 1, 1);
        Path directory = Files.createTempDirectory("given-up");
        Path file = directory.resolve("HypergraphDualizer.java");
        Files.writeString(file, source.replace(LIMIT, "MOST_VISITS = " + limit + ";"), StandardCharsets.UTF_8);
        int result = ToolProvider.getSystemJavaCompiler()
            .run(null, null, null, "-d", directory.toString(), file.toString());
        Check.due("compiling with another limit", result, 0);
        URL[] places = {directory.toUri().toURL()};
        Class<?> compiled;
        try (URLClassLoader loader = new URLClassLoader(places, ClassLoader.getPlatformClassLoader())) {
            compiled = loader.loadClass("HypergraphDualizer");
            for (Class<?> inside : compiled.getDeclaredClasses()) {
                Class.forName(inside.getName(), true, loader);
            }
        }
        try (var files = Files.list(directory)) {
            for (Path made : files.toList()) {
                Files.delete(made);
            }
        }
        Files.delete(directory);
        return compiled;
    }

    private int call(String name, int... arguments) throws ReflectiveOperationException {
        Class<?>[] types = new Class<?>[arguments.length];
        Object[] values = new Object[arguments.length];
        for (int i = 0; i < arguments.length; i++) {
            types[i] = int.class;
            values[i] = arguments[i];
        }
        Method method = type.getMethod(name, types);
        try {
            return ((Number) method.invoke(object, values)).intValue();
        } catch (InvocationTargetException thrown) {
            throw new AssertionError(name, thrown.getCause());
        }
    }

    private void due(String name, int want, int... arguments) throws ReflectiveOperationException {
        Check.due("given up: " + name + "(" + java.util.Arrays.toString(arguments) + ")", call(name, arguments), want);
    }

    private void addTriangle() throws ReflectiveOperationException {
        due("addEdge", 0, 3);
        due("addEdge", 1, 6);
        due("addEdge", 2, 5);
    }

    /** The search in a triangle has six visits. */
    private static void justEnoughVisits(GivenUpTest x) throws ReflectiveOperationException {
        x.addTriangle();
        x.due("visits", 6);
        x.due("answerCount", 3);
        x.due("answer", 6, 2);
        x.due("isSelfDual", 1);
    }

    private static void oneVisitTooMuch(GivenUpTest x) throws ReflectiveOperationException {
        x.addTriangle();
        x.due("dualize", GIVEN_UP);
        x.due("answerCount", GIVEN_UP);
        x.due("answer", GIVEN_UP, 0);
        x.due("answer", GIVEN_UP, 100);
        x.due("delay", GIVEN_UP, 0);
        x.due("delay", GIVEN_UP, 100);
        x.due("visits", GIVEN_UP);
        x.due("next", GIVEN_UP, -1);
        x.due("next", GIVEN_UP, 63);
        x.due("answersOfSize", GIVEN_UP, 2);
        x.due("answersWith", GIVEN_UP, 0);
        x.due("lightest", GIVEN_UP, 0);
        x.due("lightest", GIVEN_UP, 100);
        x.due("diagramSize", GIVEN_UP, 1);
        x.due("nodesAt", GIVEN_UP, 1, 0);
        x.due("isSelfDual", GIVEN_UP);
        x.due("difference", GIVEN_UP);
    }

    private static void errorsBeforeGivenUp(GivenUpTest x) throws ReflectiveOperationException {
        x.due("dualize", HypergraphDualizer.BAD_VALUE);
        x.addTriangle();
        x.due("answer", HypergraphDualizer.BAD_VALUE, -1);
        x.due("delay", HypergraphDualizer.BAD_VALUE, -1);
        x.due("next", HypergraphDualizer.BAD_VALUE, 64);
        x.due("next", HypergraphDualizer.BAD_VALUE, -2);
        x.due("answersOfSize", HypergraphDualizer.BAD_VALUE, 7);
        x.due("answersWith", HypergraphDualizer.NO_SUCH_VERTEX, 6);
        x.due("lightest", HypergraphDualizer.BAD_VALUE, -1);
        x.due("diagramSize", HypergraphDualizer.BAD_VALUE, 3);
        x.due("nodesAt", HypergraphDualizer.BAD_VALUE, 3, 0);
        x.due("nodesAt", HypergraphDualizer.NO_SUCH_VERTEX, 1, 6);
    }

    private static void nothingIsChanged(GivenUpTest x) throws ReflectiveOperationException {
        x.addTriangle();
        x.due("addEdge", 3, 8);
        x.due("undo", 3);
        x.due("dualize", GIVEN_UP);
        x.due("redo", 0);
        x.due("undo", 3);
        x.due("value", 3, 1);
        x.due("hittingSets", 32, -1);
        x.due("diagramSize", 4, 0);
        x.due("diagramSize", 8, 2);
        x.due("nodesAt", 1, 2, 0);
        x.due("kindOf", 1, 3);
        x.due("undo", 2);
        x.due("answerCount", 2);
        x.due("answer", 2, 1);
    }

    /** Here the sixth visit finds the last answer, and there is a seventh. */
    private static void oneVisitTooMuchAfterTheLastAnswer(GivenUpTest x) throws ReflectiveOperationException {
        x.due("addEdge", 0, 3);
        x.due("addEdge", 1, 12);
        x.due("addEdge", 2, 5);
        x.due("visits", GIVEN_UP);
        x.due("answerCount", GIVEN_UP);
        x.due("answer", GIVEN_UP, 0);
        x.due("difference", GIVEN_UP);
    }

    private static void theFirstVisitCounts(GivenUpTest x) throws ReflectiveOperationException {
        x.due("visits", 1);
        x.due("answer", 0, 0);
        x.due("addEdge", 0, 1);
        x.due("visits", GIVEN_UP);
        x.due("undo", 0);
        x.due("visits", 1);
    }

    private static void givenUpBeforeFull(GivenUpTest x) throws ReflectiveOperationException {
        x.due("reset", 6, 10);
        x.due("addEdge", 0, 31);
        x.due("addEdge", 1, 992);
        x.due("dualize", GIVEN_UP);
        x.due("value", 2, 3);
        x.due("edge", 992, 1);
    }
}
