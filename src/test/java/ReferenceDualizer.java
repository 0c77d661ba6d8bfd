import java.util.ArrayList;
import java.util.Arrays;
import java.util.Comparator;
import java.util.HashMap;
import java.util.HashSet;
import java.util.List;
import java.util.Map;
import java.util.Set;
import java.util.TreeSet;

/**
 * What the document says, written down as plainly and as slowly as it stands there, with the Java library and
 * without any thought of the class under test, which is compared with it.
 */
final class ReferenceDualizer {
    static final int NO_SUCH_VERTEX = -1;
    static final int NO_SUCH_EDGE = -2;
    static final int BAD_VALUE = -3;
    static final int NOT_NEW = -4;
    static final int FULL = -5;
    static final int GIVEN_UP = -6;
    static final int NONE = -7;

    private int n = 6;
    private List<Integer> edges = new ArrayList<>();
    private final int[] weights = new int[14];
    private final List<List<Integer>> past = new ArrayList<>();
    private final List<List<Integer>> future = new ArrayList<>();
    private final StringBuilder text = new StringBuilder();

    private List<Integer> answers = new ArrayList<>();
    private List<Integer> visitsAtAnswers = new ArrayList<>();
    private Set<Integer> candidates = new TreeSet<>();
    private int visits;
    private boolean searched;

    ReferenceDualizer() {
        Arrays.fill(weights, 1);
    }

    private boolean noVertex(int vertex) {
        return vertex < 0 || vertex > n - 1;
    }

    private boolean noSet(int set) {
        return set < 0 || set > (1 << n) - 1;
    }

    private static boolean in(int vertex, int set) {
        return ((set / (1 << vertex)) % 2) == 1;
    }

    private static int sizeOf(int set) {
        return members(set).size();
    }

    private static List<Integer> members(int set) {
        List<Integer> found = new ArrayList<>();
        for (int v = 0; v < 24; v++) {
            if (in(v, set)) {
                found.add(v);
            }
        }
        return found;
    }

    private static boolean meet(int one, int other) {
        for (int v : members(one)) {
            if (in(v, other)) {
                return true;
            }
        }
        return false;
    }

    private static boolean properSubset(int inner, int outer) {
        return inner != outer && members(outer).containsAll(members(inner));
    }

    private void edit(List<Integer> newEdges) {
        past.add(edges);
        if (past.size() > 16) {
            past.remove(0);
        }
        future.clear();
        change(newEdges);
    }

    private void change(List<Integer> newEdges) {
        edges = newEdges;
        searched = false;
    }

    int reset(int vertices) {
        if (vertices < 1 || vertices > 14) {
            return BAD_VALUE;
        }
        int old = n;
        n = vertices;
        change(new ArrayList<>());
        past.clear();
        future.clear();
        Arrays.fill(weights, 1);
        return old;
    }

    int addEdge(int set) {
        if (set < 1 || noSet(set)) {
            return BAD_VALUE;
        }
        if (edges.contains(set)) {
            return NOT_NEW;
        }
        if (edges.size() == 24) {
            return FULL;
        }
        List<Integer> more = new ArrayList<>(edges);
        more.add(set);
        edit(more);
        return edges.size() - 1;
    }

    int removeEdge(int edge) {
        if (edge < 0 || edge >= edges.size()) {
            return NO_SUCH_EDGE;
        }
        List<Integer> fewer = new ArrayList<>(edges);
        int set = fewer.remove(edge);
        edit(fewer);
        return set;
    }

    private List<Integer> minimalEdges() {
        List<Integer> minimal = new ArrayList<>();
        for (int edge : edges) {
            boolean good = true;
            for (int other : edges) {
                good &= !properSubset(other, edge);
            }
            if (good) {
                minimal.add(edge);
            }
        }
        return minimal;
    }

    int minimize() {
        int before = edges.size();
        edit(minimalEdges());
        return before - edges.size();
    }

    int contract(int vertex) {
        if (noVertex(vertex)) {
            return NO_SUCH_VERTEX;
        }
        int containing = 0;
        List<Integer> rest = new ArrayList<>();
        for (int edge : edges) {
            int shorter = edge;
            if (in(vertex, edge)) {
                containing++;
                shorter = edge - (1 << vertex);
            }
            if (shorter != 0 && !rest.contains(shorter)) {
                rest.add(shorter);
            }
        }
        edit(rest);
        return containing;
    }

    int delete(int vertex) {
        if (noVertex(vertex)) {
            return NO_SUCH_VERTEX;
        }
        int before = edges.size();
        List<Integer> rest = new ArrayList<>(edges);
        rest.removeIf(edge -> in(vertex, edge));
        edit(rest);
        return before - edges.size();
    }

    int dualize() {
        if (edges.isEmpty()) {
            return BAD_VALUE;
        }
        if (!search()) {
            return GIVEN_UP;
        }
        if (answers.size() > 24) {
            return FULL;
        }
        edit(new ArrayList<>(new TreeSet<>(answers)));
        return edges.size();
    }

    int undo() {
        if (past.isEmpty()) {
            return NONE;
        }
        future.add(edges);
        change(past.remove(past.size() - 1));
        return past.size();
    }

    int redo() {
        if (future.isEmpty()) {
            return NONE;
        }
        past.add(edges);
        change(future.remove(future.size() - 1));
        return future.size();
    }

    int edge(int edge) {
        return edge < 0 || edge >= edges.size() ? NO_SUCH_EDGE : edges.get(edge);
    }

    int value(int what) {
        if (what == 0) {
            return n;
        }
        if (what == 1) {
            return edges.size();
        }
        if (what == 2) {
            return minimalEdges().size();
        }
        if (what == 3) {
            return past.size();
        }
        if (what == 4) {
            return edges.stream().mapToInt(ReferenceDualizer::sizeOf).min().orElse(0);
        }
        if (what == 5) {
            return minimalEdges().stream().reduce(0, (a, b) -> a | b);
        }
        return BAD_VALUE;
    }

    int edgesOf(int vertex) {
        if (noVertex(vertex)) {
            return NO_SUCH_VERTEX;
        }
        int set = 0;
        for (int e = 0; e < edges.size(); e++) {
            set += in(vertex, edges.get(e)) ? 1 << e : 0;
        }
        return set;
    }

    int setWeight(int vertex, int weight) {
        if (noVertex(vertex)) {
            return NO_SUCH_VERTEX;
        }
        if (weight < 0 || weight > 99) {
            return BAD_VALUE;
        }
        int old = weights[vertex];
        weights[vertex] = weight;
        return old;
    }

    int missed(int set) {
        if (noSet(set)) {
            return BAD_VALUE;
        }
        int found = 0;
        for (int e = 0; e < edges.size(); e++) {
            found += meet(set, edges.get(e)) ? 0 : 1 << e;
        }
        return found;
    }

    int privateEdges(int set, int vertex) {
        if (noSet(set)) {
            return BAD_VALUE;
        }
        if (noVertex(vertex)) {
            return NO_SUCH_VERTEX;
        }
        if (!in(vertex, set)) {
            return NONE;
        }
        int found = 0;
        for (int e = 0; e < edges.size(); e++) {
            List<Integer> common = members(edges.get(e));
            common.retainAll(members(set));
            found += common.equals(List.of(vertex)) ? 1 << e : 0;
        }
        return found;
    }

    int kindOf(int set) {
        if (noSet(set)) {
            return BAD_VALUE;
        }
        if (missed(set) != 0) {
            return 0;
        }
        for (int v : members(set)) {
            if (missed(set - (1 << v)) == 0) {
                return 2;
            }
        }
        return 1;
    }

    int shrink(int set) {
        if (noSet(set)) {
            return BAD_VALUE;
        }
        if (missed(set) != 0) {
            return NONE;
        }
        int left = set;
        for (int v : members(set)) {
            if (missed(left - (1 << v)) == 0) {
                left -= 1 << v;
            }
        }
        return left;
    }

    int grow(int set) {
        if (noSet(set)) {
            return BAD_VALUE;
        }
        int grown = set;
        while (missed(grown) != 0) {
            Map<Integer, Integer> degrees = new HashMap<>();
            for (int e : members(missed(grown))) {
                for (int v : members(edges.get(e))) {
                    degrees.merge(v, 1, Integer::sum);
                }
            }
            int most = degrees.values().stream().max(Comparator.naturalOrder()).get();
            int best = degrees.keySet().stream().filter(v -> degrees.get(v) == most).sorted().findFirst().get();
            grown |= 1 << best;
        }
        return grown;
    }

    /** The search without its end at 4000 visits, so that this end can be compared too; false if it is given up. */
    private boolean search() {
        if (!searched) {
            searched = true;
            answers = new ArrayList<>();
            visitsAtAnswers = new ArrayList<>();
            visits = 0;
            candidates = new TreeSet<>();
            for (int v = 0; v < n; v++) {
                candidates.add(v);
            }
            visit(0);
        }
        return visits <= 4000;
    }

    /** How many visits the whole search has, were it never given up. */
    int allVisits() {
        search();
        return visits;
    }

    private void visit(int set) {
        visits++;
        List<Integer> missed = members(missed(set));
        if (missed.isEmpty()) {
            answers.add(set);
            visitsAtAnswers.add(visits);
            return;
        }
        List<Integer> taken = null;
        for (int e : missed) {
            List<Integer> free = members(edges.get(e));
            free.retainAll(candidates);
            if (taken == null || free.size() < taken.size()) {
                taken = free;
            }
        }
        candidates.removeAll(taken);
        for (int v : taken) {
            int larger = set + (1 << v);
            boolean allPrivate = true;
            for (int u : members(larger)) {
                allPrivate &= privateEdges(larger, u) != 0;
            }
            if (allPrivate) {
                visit(larger);
            }
            candidates.add(v);
        }
    }

    int answerCount() {
        return search() ? answers.size() : GIVEN_UP;
    }

    int answer(int k) {
        if (k < 0) {
            return BAD_VALUE;
        }
        if (!search()) {
            return GIVEN_UP;
        }
        return k < answers.size() ? answers.get(k) : NONE;
    }

    int delay(int k) {
        if (k < 0) {
            return BAD_VALUE;
        }
        if (!search()) {
            return GIVEN_UP;
        }
        if (k >= answers.size()) {
            return NONE;
        }
        return visitsAtAnswers.get(k) - (k == 0 ? 0 : visitsAtAnswers.get(k - 1));
    }

    int visits() {
        return search() ? visits : GIVEN_UP;
    }

    int next(int after) {
        if (after < -1 || after > (1 << n) - 1) {
            return BAD_VALUE;
        }
        if (!search()) {
            return GIVEN_UP;
        }
        Integer above = new TreeSet<>(answers).higher(after);
        return above == null ? NONE : above;
    }

    int answersOfSize(int size) {
        if (size < 0 || size > n) {
            return BAD_VALUE;
        }
        return search() ? (int) answers.stream().filter(a -> sizeOf(a) == size).count() : GIVEN_UP;
    }

    int answersWith(int vertex) {
        if (noVertex(vertex)) {
            return NO_SUCH_VERTEX;
        }
        return search() ? (int) answers.stream().filter(a -> in(vertex, a)).count() : GIVEN_UP;
    }

    int lightest(int k) {
        if (k < 0) {
            return BAD_VALUE;
        }
        if (!search()) {
            return GIVEN_UP;
        }
        List<Integer> ordered = new ArrayList<>(answers);
        ordered.sort(Comparator.comparing((Integer a) -> weightOf(a)).thenComparing(a -> a));
        return k < ordered.size() ? ordered.get(k) : NONE;
    }

    int weightOf(int set) {
        if (noSet(set)) {
            return BAD_VALUE;
        }
        return members(set).stream().mapToInt(v -> weights[v]).sum();
    }

    private Set<Integer> hittingFamily() {
        Set<Integer> family = new HashSet<>();
        for (int set = 0; set < 1 << n; set++) {
            boolean hitsAll = true;
            for (int edge : edges) {
                hitsAll &= (edge & set) != 0;
            }
            if (hitsAll) {
                family.add(set);
            }
        }
        return family;
    }

    int hittingSets(int size) {
        if (size < -1 || size > n) {
            return BAD_VALUE;
        }
        return (int) hittingFamily().stream().filter(s -> size == -1 || sizeOf(s) == size).count();
    }

    float chance() {
        return (float) hittingFamily().size() / (1 << n);
    }

    /** Each node of a diagram is told by its family; the lowest vertex of the family is the node's. */
    private void collectNodes(Set<Integer> family, Map<Set<Integer>, Integer> nodes) {
        int union = family.stream().reduce(0, (a, b) -> a | b);
        if (union == 0 || nodes.containsKey(family)) {
            return;
        }
        int lowest = members(union).get(0);
        Set<Integer> low = new HashSet<>();
        Set<Integer> high = new HashSet<>();
        for (int set : family) {
            if (in(lowest, set)) {
                high.add(set - (1 << lowest));
            } else {
                low.add(set);
            }
        }
        nodes.put(family, lowest);
        collectNodes(low, nodes);
        collectNodes(high, nodes);
    }

    private Map<Set<Integer>, Integer> diagram(int what) {
        Set<Integer> family = what == 0 ? new HashSet<>(edges)
            : what == 1 ? new HashSet<>(answers) : hittingFamily();
        Map<Set<Integer>, Integer> nodes = new HashMap<>();
        collectNodes(family, nodes);
        return nodes;
    }

    int diagramSize(int what) {
        if (what < 0 || what > 2) {
            return BAD_VALUE;
        }
        if (what == 1 && !search()) {
            return GIVEN_UP;
        }
        return diagram(what).size();
    }

    int nodesAt(int what, int vertex) {
        if (what < 0 || what > 2) {
            return BAD_VALUE;
        }
        if (noVertex(vertex)) {
            return NO_SUCH_VERTEX;
        }
        if (what == 1 && !search()) {
            return GIVEN_UP;
        }
        return (int) diagram(what).values().stream().filter(v -> v == vertex).count();
    }

    int isSelfDual() {
        if (!search()) {
            return GIVEN_UP;
        }
        return new HashSet<>(minimalEdges()).equals(new HashSet<>(answers)) ? 1 : 0;
    }

    int difference() {
        if (!search()) {
            return GIVEN_UP;
        }
        TreeSet<Integer> either = new TreeSet<>(minimalEdges());
        either.addAll(answers);
        either.removeIf(s -> minimalEdges().contains(s) && answers.contains(s));
        return either.isEmpty() ? NONE : either.first();
    }

    int isIntersecting() {
        for (int one : edges) {
            for (int other : edges) {
                if (!meet(one, other)) {
                    return 0;
                }
            }
        }
        return 1;
    }

    int type(char character) {
        if (text.length() == 100) {
            return FULL;
        }
        text.append(character);
        return text.length();
    }

    int clearText() {
        int old = text.length();
        text.setLength(0);
        return old;
    }

    int readEdges() {
        List<Integer> read = new ArrayList<>();
        int fault = faultOf(read);
        if (fault >= 0) {
            return -100 - fault;
        }
        List<Integer> more = new ArrayList<>(edges);
        more.addAll(read);
        edit(more);
        return read.size();
    }

    /**
     * Cuts the text at its semicolons and commas; a fault of a part is the first character with which the part is
     * no longer the beginning of a good one.
     */
    private int faultOf(List<Integer> read) {
        int start = 0;
        for (String edgeText : text.toString().split(";", -1)) {
            if (edges.size() + read.size() >= 24) {
                return start;
            }
            int set = 0;
            int at = start;
            String[] parts = edgeText.split(",", -1);
            for (int i = 0; i < parts.length; i++) {
                String part = parts[i];
                int good = goodLength(part);
                if (good == 0) {
                    return at;
                }
                int vertex = Integer.parseInt(part.substring(0, good));
                boolean tooGreat = good == 1 && good < part.length() && part.charAt(0) != '0'
                    && digit(part.charAt(good));
                if (tooGreat) {
                    return at + 1;
                }
                if (in(vertex, set)) {
                    return at;
                }
                if (good < part.length()) {
                    return at + good;
                }
                set += 1 << vertex;
                at += part.length() + 1;
            }
            int end = start + edgeText.length();
            if (edges.contains(set) || read.contains(set)) {
                return end;
            }
            read.add(set);
            start = end + 1;
        }
        return -1;
    }

    private static boolean digit(char character) {
        return "0123456789".indexOf(character) >= 0;
    }

    /** How many characters of the part are a vertex: 2, 1 or 0. */
    private int goodLength(String part) {
        int good = 0;
        for (int v = 0; v < n; v++) {
            if (part.startsWith(Integer.toString(v))) {
                good = Math.max(good, Integer.toString(v).length());
            }
        }
        return good;
    }
}
