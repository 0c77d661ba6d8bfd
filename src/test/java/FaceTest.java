import java.io.IOException;
import java.lang.reflect.Constructor;
import java.lang.reflect.Field;
import java.lang.reflect.Method;
import java.lang.reflect.Modifier;
import java.nio.file.Files;
import java.nio.file.Path;
import java.util.Set;
import java.util.TreeSet;
import java.util.regex.Matcher;
import java.util.regex.Pattern;

/** The members that the class shows are those of the document and no others, and its source keeps to LANGUAGE.md. */
public final class FaceTest {
    private static final String[] METHODS = {
        "int reset(int)", "int addEdge(int)", "int removeEdge(int)", "int minimize()", "int contract(int)",
        "int delete(int)", "int dualize()", "int undo()", "int redo()", "int edge(int)", "int value(int)",
        "int edgesOf(int)", "int setWeight(int,int)", "int missed(int)", "int privateEdges(int,int)",
        "int kindOf(int)", "int shrink(int)", "int grow(int)", "int answerCount()", "int answer(int)",
        "int delay(int)", "int visits()", "int next(int)", "int answersOfSize(int)", "int answersWith(int)",
        "int lightest(int)", "int weightOf(int)", "int hittingSets(int)", "float chance()", "int diagramSize(int)",
        "int nodesAt(int,int)", "int isSelfDual()", "int difference()", "int isIntersecting()", "int type(char)",
        "int clearText()", "int readEdges()"};
    private static final String[] CONSTANTS = {
        "NO_SUCH_VERTEX=-1", "NO_SUCH_EDGE=-2", "BAD_VALUE=-3", "NOT_NEW=-4", "FULL=-5", "GIVEN_UP=-6", "NONE=-7"};
    private static final String[] LEFT_OUT = {
        "\\bimport\\b", "\\bpackage\\b", "\\bthrow\\b", "\\btry\\b", "\\bcatch\\b", "\\bfinally\\b", "\\bassert\\b",
        "\\bsynchronized\\b", "->", "::", "\\bdouble\\b", "\\bwhile\\b", "Exact\\b", "\"", "\\bSystem\\.(?!arraycopy)",
        "[^\\x00-\\x7f]"};
    private static final int MOST_LINES = 60;

    private FaceTest() {
    }

    public static void main(String[] args) throws IOException, ReflectiveOperationException {
        Class<?> face = HypergraphDualizer.class;
        Check.due("public and final", face.getModifiers(), Modifier.PUBLIC | Modifier.FINAL);
        Check.dueText("methods", shownMethods(face).toString(), new TreeSet<>(Set.of(METHODS)).toString());
        Check.dueText("constants", shownConstants(face).toString(), new TreeSet<>(Set.of(CONSTANTS)).toString());
        Constructor<?>[] constructors = face.getDeclaredConstructors();
        Check.due("constructors", constructors.length, 1);
        Check.due("the constructor is public", constructors[0].getModifiers(), Modifier.PUBLIC);
        Check.due("the constructor's parameters", constructors[0].getParameterCount(), 0);
        privateNames(face);
        for (Class<?> inside : face.getDeclaredClasses()) {
            Check.due(inside + " is private, static and final", inside.getModifiers(),
                Modifier.PRIVATE | Modifier.STATIC | Modifier.FINAL);
            privateNames(inside);
            Check.due("fields of " + inside + " below 20", Math.max(20, inside.getDeclaredFields().length), 20);
        }
        Check.due("at most 12 classes", Math.max(12, 1 + face.getDeclaredClasses().length), 12);
        String source = Files.readString(Path.of("src/main/java/HypergraphDualizer.java"));
        whatIsLeftOut(source);
        methodsAreShort(source);
        Check.end();
    }

    private static TreeSet<String> shownMethods(Class<?> face) {
        TreeSet<String> shown = new TreeSet<>();
        for (Method method : face.getDeclaredMethods()) {
            if (!Modifier.isPrivate(method.getModifiers())) {
                StringBuilder types = new StringBuilder();
                for (Class<?> type : method.getParameterTypes()) {
                    types.append(types.length() == 0 ? "" : ",").append(type.getName());
                }
                Check.due(method + " is public alone", method.getModifiers(), Modifier.PUBLIC);
                shown.add(method.getReturnType() + " " + method.getName() + "(" + types + ")");
            }
        }
        return shown;
    }

    private static TreeSet<String> shownConstants(Class<?> face) throws ReflectiveOperationException {
        TreeSet<String> shown = new TreeSet<>();
        for (Field field : face.getDeclaredFields()) {
            if (!Modifier.isPrivate(field.getModifiers())) {
                Check.due(field + " is a public constant", field.getModifiers(),
                    Modifier.PUBLIC | Modifier.STATIC | Modifier.FINAL);
                shown.add(field.getName() + "=" + field.getInt(null));
            } else {
                Check.due(field + " is final", field.getModifiers() & Modifier.FINAL, Modifier.FINAL);
            }
        }
        return shown;
    }

    /** No method inside bears the name of one of the face. */
    private static void privateNames(Class<?> inside) {
        for (Method method : inside.getDeclaredMethods()) {
            if (!Modifier.isPublic(method.getModifiers())) {
                for (String shown : METHODS) {
                    String name = shown.substring(shown.indexOf(' ') + 1, shown.indexOf('('));
                    Check.due(method + " is not called " + name, method.getName().equals(name) ? 1 : 0, 0);
                }
            }
        }
        for (Field field : inside.getDeclaredFields()) {
            if (Modifier.isStatic(field.getModifiers())) {
                Check.due(field + " is final", field.getModifiers() & Modifier.FINAL, Modifier.FINAL);
            }
        }
    }

    private static void whatIsLeftOut(String source) {
        String code = source.replaceAll("(?s)/\\*.*?\\*/", "").replaceAll("//[^\n]*", "");
        for (String pattern : LEFT_OUT) {
            Matcher matcher = Pattern.compile(pattern).matcher(code);
            Check.dueText("what matches " + pattern, matcher.find() ? matcher.group() : "", "");
        }
    }

    private static void methodsAreShort(String source) {
        int length = 0;
        for (String line : source.split("\n")) {
            if (line.matches(" {4,8}[a-zA-Z].*\\) \\{")) {
                length = 0;
            }
            length++;
            if (line.matches(" {4,8}\\}") && length > MOST_LINES) {
                Check.due("lines of the method that ends with " + line, length, MOST_LINES);
            }
        }
    }
}
