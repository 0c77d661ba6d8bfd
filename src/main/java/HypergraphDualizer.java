/** A dualizer for hypergraphs. The document ../shared/DOC.md says what each member promises. */
public final class HypergraphDualizer {
    public static final int NO_SUCH_VERTEX = -1;
    public static final int NO_SUCH_EDGE = -2;
    public static final int BAD_VALUE = -3;
    public static final int NOT_NEW = -4;
    public static final int FULL = -5;
    public static final int GIVEN_UP = -6;
    public static final int NONE = -7;

    private static final int FIRST_VERTICES = 6;
    private static final int MOST_VERTICES = 14;
    private static final int MOST_SETS = 1 << MOST_VERTICES;
    private static final int MOST_EDGES = 24;
    private static final int MOST_EDITS = 16;
    private static final int MOST_VISITS = 4000;
    private static final int MOST_WEIGHT = 99;
    private static final int MOST_CHARACTERS = 100;
    private static final int FAULT_BASE = -100;

    private static final int OF_EDGES = 0;
    private static final int OF_ANSWERS = 1;
    private static final int OF_HITTING_SETS = 2;

    private final Hypergraph graph;
    private final Weights weights;
    private final Search search;
    private final HittingCounts hittingCounts;
    private final Diagram diagram;
    private final EdgeText text;

    public HypergraphDualizer() {
        graph = new Hypergraph();
        weights = new Weights();
        weights.startAnew();
        search = new Search(graph);
        Family family = new Family(graph, search);
        hittingCounts = new HittingCounts(graph, family);
        diagram = new Diagram(graph, family);
        text = new EdgeText();
    }

    // ---- hypergraph

    public int reset(int vertices) {
        if (vertices < 1 || vertices > MOST_VERTICES) {
            return BAD_VALUE;
        }
        int previous = graph.vertices;
        graph.startAnew(vertices);
        weights.startAnew();
        return previous;
    }

    public int addEdge(int set) {
        if (set == 0 || !graph.isSet(set)) {
            return BAD_VALUE;
        }
        if (graph.contains(set)) {
            return NOT_NEW;
        }
        if (graph.isFull()) {
            return FULL;
        }
        graph.append(set);
        graph.endEdit();
        return graph.count - 1;
    }

    public int removeEdge(int edge) {
        if (!graph.isEdge(edge)) {
            return NO_SUCH_EDGE;
        }
        int set = graph.edges[edge];
        graph.keepOnly(graph.allEdges() & ~(1 << edge));
        graph.endEdit();
        return set;
    }

    public int minimize() {
        int before = graph.count;
        graph.keepOnly(graph.minimalEdges());
        graph.endEdit();
        return before - graph.count;
    }

    public int contract(int vertex) {
        if (!graph.isVertex(vertex)) {
            return NO_SUCH_VERTEX;
        }
        int containing = Integer.bitCount(graph.edgesAt[vertex]);
        graph.takeOut(vertex);
        graph.endEdit();
        return containing;
    }

    public int delete(int vertex) {
        if (!graph.isVertex(vertex)) {
            return NO_SUCH_VERTEX;
        }
        int before = graph.count;
        graph.keepOnly(graph.allEdges() & ~graph.edgesAt[vertex]);
        graph.endEdit();
        return before - graph.count;
    }

    public int dualize() {
        if (graph.count == 0) {
            return BAD_VALUE;
        }
        if (!search.succeeds()) {
            return GIVEN_UP;
        }
        if (search.found > MOST_EDGES) {
            return FULL;
        }
        graph.keepOnly(0);
        int last = -1;
        for (int i = 0; i < search.found; i++) {
            last = search.leastAbove(last);
            graph.append(last);
        }
        graph.endEdit();
        return graph.count;
    }

    public int undo() {
        return graph.stepBack() ? graph.history.undoable : NONE;
    }

    public int redo() {
        return graph.stepForward() ? graph.history.redoable : NONE;
    }

    public int edge(int edge) {
        return graph.isEdge(edge) ? graph.edges[edge] : NO_SUCH_EDGE;
    }

    public int value(int what) {
        switch (what) {
            case 0:
                return graph.vertices;
            case 1:
                return graph.count;
            case 2:
                return Integer.bitCount(graph.minimalEdges());
            case 3:
                return graph.history.undoable;
            case 4:
                return graph.smallestSize();
            case 5:
                return graph.unionOf(graph.minimalEdges());
            default:
                return BAD_VALUE;
        }
    }

    public int edgesOf(int vertex) {
        return graph.isVertex(vertex) ? graph.edgesAt[vertex] : NO_SUCH_VERTEX;
    }

    public int setWeight(int vertex, int weight) {
        if (!graph.isVertex(vertex)) {
            return NO_SUCH_VERTEX;
        }
        if (weight < 0 || weight > MOST_WEIGHT) {
            return BAD_VALUE;
        }
        int previous = weights.ofVertex[vertex];
        weights.ofVertex[vertex] = weight;
        return previous;
    }

    // ---- sets

    public int missed(int set) {
        return graph.isSet(set) ? graph.missedBy(set) : BAD_VALUE;
    }

    public int privateEdges(int set, int vertex) {
        if (!graph.isSet(set)) {
            return BAD_VALUE;
        }
        if (!graph.isVertex(vertex)) {
            return NO_SUCH_VERTEX;
        }
        if (!has(set, vertex)) {
            return NONE;
        }
        return graph.hitOnceBy(set) & graph.edgesAt[vertex];
    }

    public int kindOf(int set) {
        if (!graph.isSet(set)) {
            return BAD_VALUE;
        }
        if (graph.missedBy(set) != 0) {
            return 0;
        }
        return graph.isAnswer(set) ? 1 : 2;
    }

    public int shrink(int set) {
        if (!graph.isSet(set)) {
            return BAD_VALUE;
        }
        if (graph.missedBy(set) != 0) {
            return NONE;
        }
        int left = set;
        for (int v = 0; v < graph.vertices; v++) {
            int without = left & ~(1 << v);
            if (graph.missedBy(without) == 0) {
                left = without;
            }
        }
        return left;
    }

    public int grow(int set) {
        if (!graph.isSet(set)) {
            return BAD_VALUE;
        }
        int grown = set;
        for (int i = 0; i < graph.vertices; i++) {
            int missed = graph.missedBy(grown);
            if (missed == 0) {
                break;
            }
            grown |= 1 << graph.busiestVertex(missed);
        }
        return grown;
    }

    // ---- answers

    public int answerCount() {
        return search.succeeds() ? search.found : GIVEN_UP;
    }

    public int answer(int k) {
        int problem = problemWithPlace(k);
        return problem != 0 ? problem : search.answers[k];
    }

    public int delay(int k) {
        int problem = problemWithPlace(k);
        return problem != 0 ? problem : search.delays[k];
    }

    public int visits() {
        return search.succeeds() ? search.visited : GIVEN_UP;
    }

    public int next(int after) {
        if (after != -1 && !graph.isSet(after)) {
            return BAD_VALUE;
        }
        if (!search.succeeds()) {
            return GIVEN_UP;
        }
        return search.leastAbove(after);
    }

    public int answersOfSize(int size) {
        if (size < 0 || size > graph.vertices) {
            return BAD_VALUE;
        }
        return search.succeeds() ? search.countOfSize(size) : GIVEN_UP;
    }

    public int answersWith(int vertex) {
        if (!graph.isVertex(vertex)) {
            return NO_SUCH_VERTEX;
        }
        return search.succeeds() ? search.countWith(vertex) : GIVEN_UP;
    }

    public int lightest(int k) {
        int problem = problemWithPlace(k);
        return problem != 0 ? problem : weights.lightestOf(search, k);
    }

    public int weightOf(int set) {
        return graph.isSet(set) ? weights.sumOf(set) : BAD_VALUE;
    }

    /** What a call for the answer at place k has to report, or 0 if there is such an answer. */
    private int problemWithPlace(int k) {
        if (k < 0) {
            return BAD_VALUE;
        }
        if (!search.succeeds()) {
            return GIVEN_UP;
        }
        return k < search.found ? 0 : NONE;
    }

    // ---- all hitting sets

    public int hittingSets(int size) {
        if (size < -1 || size > graph.vertices) {
            return BAD_VALUE;
        }
        return size == -1 ? hittingCounts.countOfAll() : hittingCounts.countOfSize(size);
    }

    public float chance() {
        return (float) hittingCounts.countOfAll() / (1 << graph.vertices);
    }

    // ---- diagrams

    public int diagramSize(int what) {
        if (!isFamily(what)) {
            return BAD_VALUE;
        }
        return canBeDrawn(what) ? diagram.sizeOf(what) : GIVEN_UP;
    }

    public int nodesAt(int what, int vertex) {
        if (!isFamily(what)) {
            return BAD_VALUE;
        }
        if (!graph.isVertex(vertex)) {
            return NO_SUCH_VERTEX;
        }
        return canBeDrawn(what) ? diagram.countAt(what, vertex) : GIVEN_UP;
    }

    private static boolean isFamily(int what) {
        return what == OF_EDGES || what == OF_ANSWERS || what == OF_HITTING_SETS;
    }

    private boolean canBeDrawn(int what) {
        return what != OF_ANSWERS || search.succeeds();
    }

    // ---- duality

    public int isSelfDual() {
        if (!search.succeeds()) {
            return GIVEN_UP;
        }
        return search.leastDifference() == NONE ? 1 : 0;
    }

    public int difference() {
        return search.succeeds() ? search.leastDifference() : GIVEN_UP;
    }

    public int isIntersecting() {
        return graph.eachTwoMeet() ? 1 : 0;
    }

    // ---- text

    public int type(char character) {
        return text.append(character) ? text.length : FULL;
    }

    public int clearText() {
        int previous = text.length;
        text.length = 0;
        return previous;
    }

    public int readEdges() {
        int before = graph.count;
        int fault = text.readInto(graph);
        if (fault != EdgeText.NO_FAULT) {
            graph.count = before;
            return FAULT_BASE - fault;
        }
        graph.endEdit();
        return graph.count - before;
    }

    private static boolean has(int set, int member) {
        return (set >> member & 1) != 0;
    }

    private static boolean isWithin(int inner, int outer) {
        return (inner & ~outer) == 0;
    }

    /** The vertices, the edges as they are now, and what can be told from these alone. */
    private static final class Hypergraph {
        int vertices;
        int count;
        final int[] edges;
        /** The set of the edges of each vertex; in step with the edges whenever no edit is under way. */
        final int[] edgesAt;
        final History history;
        /** Another number after each change, by which others see that what they found is out of date. */
        int version;

        Hypergraph() {
            vertices = FIRST_VERTICES;
            edges = new int[MOST_EDGES];
            edgesAt = new int[MOST_VERTICES];
            history = new History();
        }

        void startAnew(int newVertices) {
            vertices = newVertices;
            count = 0;
            history.forget();
            followChange();
        }

        boolean isVertex(int vertex) {
            return vertex >= 0 && vertex < vertices;
        }

        boolean isEdge(int edge) {
            return edge >= 0 && edge < count;
        }

        boolean isSet(int set) {
            return set >= 0 && set < 1 << vertices;
        }

        boolean isFull() {
            return count >= MOST_EDGES;
        }

        int allEdges() {
            return (1 << count) - 1;
        }

        boolean contains(int set) {
            for (int e = 0; e < count; e++) {
                if (edges[e] == set) {
                    return true;
                }
            }
            return false;
        }

        void append(int set) {
            if (!isFull()) {
                edges[count] = set;
                count++;
            }
        }

        void keepOnly(int wanted) {
            int before = count;
            count = 0;
            for (int e = 0; e < before; e++) {
                if (has(wanted, e)) {
                    append(edges[e]);
                }
            }
        }

        void takeOut(int vertex) {
            int before = count;
            count = 0;
            for (int e = 0; e < before; e++) {
                int rest = edges[e] & ~(1 << vertex);
                if (rest != 0 && !contains(rest)) {
                    append(rest);
                }
            }
        }

        void endEdit() {
            history.add(edges, count);
            followChange();
        }

        boolean stepBack() {
            if (!history.moveBack()) {
                return false;
            }
            takePast();
            return true;
        }

        boolean stepForward() {
            if (!history.moveForward()) {
                return false;
            }
            takePast();
            return true;
        }

        private void takePast() {
            count = history.copyTo(edges);
            followChange();
        }

        private void followChange() {
            version++;
            for (int v = 0; v < MOST_VERTICES; v++) {
                int found = 0;
                for (int e = 0; e < count; e++) {
                    if (has(edges[e], v)) {
                        found |= 1 << e;
                    }
                }
                edgesAt[v] = found;
            }
        }

        int minimalEdges() {
            int minimal = 0;
            for (int e = 0; e < count; e++) {
                if (isMinimal(e)) {
                    minimal |= 1 << e;
                }
            }
            return minimal;
        }

        private boolean isMinimal(int place) {
            for (int e = 0; e < count; e++) {
                if (e != place && isWithin(edges[e], edges[place])) {
                    return false;
                }
            }
            return true;
        }

        int unionOf(int wanted) {
            int union = 0;
            for (int e = 0; e < count; e++) {
                if (has(wanted, e)) {
                    union |= edges[e];
                }
            }
            return union;
        }

        int smallestSize() {
            if (count == 0) {
                return 0;
            }
            int smallest = MOST_VERTICES;
            for (int e = 0; e < count; e++) {
                smallest = Math.min(smallest, Integer.bitCount(edges[e]));
            }
            return smallest;
        }

        boolean eachTwoMeet() {
            for (int e = 0; e < count; e++) {
                for (int f = 0; f < e; f++) {
                    if ((edges[e] & edges[f]) == 0) {
                        return false;
                    }
                }
            }
            return true;
        }

        int missedBy(int set) {
            int hit = 0;
            for (int v = 0; v < vertices; v++) {
                if (has(set, v)) {
                    hit |= edgesAt[v];
                }
            }
            return allEdges() & ~hit;
        }

        int hitOnceBy(int set) {
            int hit = 0;
            int hitAgain = 0;
            for (int v = 0; v < vertices; v++) {
                if (has(set, v)) {
                    hitAgain |= hit & edgesAt[v];
                    hit |= edgesAt[v];
                }
            }
            return hit & ~hitAgain;
        }

        /** Whether each vertex of a set is in one of the edges that the set hits once. */
        boolean eachHasPrivate(int set, int hitOnce) {
            for (int v = 0; v < vertices; v++) {
                if (has(set, v) && (edgesAt[v] & hitOnce) == 0) {
                    return false;
                }
            }
            return true;
        }

        boolean isAnswer(int set) {
            return missedBy(set) == 0 && eachHasPrivate(set, hitOnceBy(set));
        }

        int busiestVertex(int wanted) {
            int busiest = 0;
            int most = -1;
            for (int v = 0; v < vertices; v++) {
                int here = Integer.bitCount(edgesAt[v] & wanted);
                if (here > most) {
                    most = here;
                    busiest = v;
                }
            }
            return busiest;
        }

        /** The candidates in the first of the wanted edges with the fewest of them. */
        int fewestCandidates(int wanted, int candidates) {
            int chosen = 0;
            int fewest = MOST_VERTICES + 1;
            for (int e = 0; e < count; e++) {
                if (has(wanted, e)) {
                    int inEdge = edges[e] & candidates;
                    int size = Integer.bitCount(inEdge);
                    if (size < fewest) {
                        fewest = size;
                        chosen = inEdge;
                    }
                }
            }
            return chosen;
        }
    }

    /** The edges before and after each edit that is remembered, in a ring of one row more than edits. */
    private static final class History {
        private static final int ROWS = MOST_EDITS + 1;

        int undoable;
        int redoable;
        private final int[][] rows;
        private final int[] counts;
        private int now;

        History() {
            rows = new int[ROWS][MOST_EDGES];
            counts = new int[ROWS];
        }

        void forget() {
            undoable = 0;
            redoable = 0;
            counts[now] = 0;
        }

        void add(int[] edges, int count) {
            now = (now + 1) % ROWS;
            System.arraycopy(edges, 0, rows[now], 0, MOST_EDGES);
            counts[now] = count;
            undoable = Math.min(undoable + 1, MOST_EDITS);
            redoable = 0;
        }

        boolean moveBack() {
            if (undoable == 0) {
                return false;
            }
            undoable--;
            redoable++;
            now = (now + ROWS - 1) % ROWS;
            return true;
        }

        boolean moveForward() {
            if (redoable == 0) {
                return false;
            }
            redoable--;
            undoable++;
            now = (now + 1) % ROWS;
            return true;
        }

        int copyTo(int[] edges) {
            System.arraycopy(rows[now], 0, edges, 0, MOST_EDGES);
            return counts[now];
        }
    }

    /** The search for all answers; what it found is kept until the edges change. */
    private static final class Search {
        final int[] answers;
        final int[] delays;
        int found;
        int visited;
        private final Hypergraph graph;
        private int visitedBefore;
        private boolean givenUp;
        private int version;

        Search(Hypergraph searched) {
            graph = searched;
            answers = new int[MOST_VISITS];
            delays = new int[MOST_VISITS];
            version = -1;
        }

        /** Searches if that is not done yet; false if the search is given up. */
        boolean succeeds() {
            if (version != graph.version) {
                version = graph.version;
                found = 0;
                visited = 0;
                visitedBefore = 0;
                givenUp = false;
                explore(this, 0, (1 << graph.vertices) - 1, 0, 0, 0);
            }
            return !givenUp;
        }

        /** One visit: the set, the candidates, the edges that the set hits once, and those that it hits. */
        private static void explore(Search run, int set, int candidates, int hitOnce, int hit, int depth) {
            if (depth > MOST_VERTICES || run.visited >= MOST_VISITS) {
                run.givenUp = true;
                return;
            }
            run.visited++;
            Hypergraph graph = run.graph;
            int missed = graph.allEdges() & ~hit;
            if (missed == 0) {
                run.keep(set);
                return;
            }
            int branches = graph.fewestCandidates(missed, candidates);
            int left = candidates & ~branches;
            for (int v = 0; v < graph.vertices && !run.givenUp; v++) {
                if (has(branches, v)) {
                    int larger = set | 1 << v;
                    int edges = graph.edgesAt[v];
                    int once = hitOnce & ~edges | edges & ~hit;
                    if (graph.eachHasPrivate(larger, once)) {
                        explore(run, larger, left, once, hit | edges, depth + 1);
                    }
                    left |= 1 << v;
                }
            }
        }

        private void keep(int set) {
            if (found < MOST_VISITS) {
                answers[found] = set;
                delays[found] = visited - visitedBefore;
                visitedBefore = visited;
                found++;
            }
        }

        int leastAbove(int bound) {
            int least = NONE;
            for (int i = 0; i < found; i++) {
                if (answers[i] > bound && (least == NONE || answers[i] < least)) {
                    least = answers[i];
                }
            }
            return least;
        }

        int countOfSize(int size) {
            int counted = 0;
            for (int i = 0; i < found; i++) {
                if (Integer.bitCount(answers[i]) == size) {
                    counted++;
                }
            }
            return counted;
        }

        int countWith(int vertex) {
            int counted = 0;
            for (int i = 0; i < found; i++) {
                if (has(answers[i], vertex)) {
                    counted++;
                }
            }
            return counted;
        }

        /** The least set that is either a minimal edge or an answer, but not both, or NONE. */
        int leastDifference() {
            int minimal = graph.minimalEdges();
            int least = MOST_SETS;
            for (int e = 0; e < graph.count; e++) {
                int set = graph.edges[e];
                if (has(minimal, e) && set < least && !graph.isAnswer(set)) {
                    least = set;
                }
            }
            for (int i = 0; i < found; i++) {
                if (answers[i] < least && !isMinimalEdge(answers[i], minimal)) {
                    least = answers[i];
                }
            }
            return least < MOST_SETS ? least : NONE;
        }

        private boolean isMinimalEdge(int set, int minimal) {
            for (int e = 0; e < graph.count; e++) {
                if (graph.edges[e] == set) {
                    return has(minimal, e);
                }
            }
            return false;
        }
    }

    /** The weights of the vertices, and the answers in their order. */
    private static final class Weights {
        private static final int MOST_KEYS = (MOST_WEIGHT * MOST_VERTICES + 1) * MOST_SETS;
        private static final int HALVINGS = 32;

        final int[] ofVertex;
        private final int[] keys;

        Weights() {
            ofVertex = new int[MOST_VERTICES];
            keys = new int[MOST_VISITS];
        }

        void startAnew() {
            for (int v = 0; v < MOST_VERTICES; v++) {
                ofVertex[v] = 1;
            }
        }

        int sumOf(int set) {
            int sum = 0;
            for (int v = 0; v < MOST_VERTICES; v++) {
                if (has(set, v)) {
                    sum += ofVertex[v];
                }
            }
            return sum;
        }

        /** The answer with the key that k keys are less than; halving finds it without putting them in order. */
        int lightestOf(Search search, int k) {
            for (int i = 0; i < search.found; i++) {
                keys[i] = sumOf(search.answers[i]) * MOST_SETS + search.answers[i];
            }
            int low = 0;
            int high = MOST_KEYS;
            for (int i = 0; i < HALVINGS && low < high; i++) {
                int middle = low + (high - low) / 2;
                if (keysUpTo(middle, search.found) > k) {
                    high = middle;
                } else {
                    low = middle + 1;
                }
            }
            return low & MOST_SETS - 1;
        }

        private int keysUpTo(int bound, int found) {
            int counted = 0;
            for (int i = 0; i < found; i++) {
                if (keys[i] <= bound) {
                    counted++;
                }
            }
            return counted;
        }
    }

    /** A family of sets as a table, with 1 for each set that is in it; whoever asks for it uses the table up. */
    private static final class Family {
        final int[] cells;
        private final Hypergraph graph;
        private final Search search;

        Family(Hypergraph shown, Search done) {
            cells = new int[MOST_SETS];
            graph = shown;
            search = done;
        }

        void fill(int what) {
            switch (what) {
                case OF_EDGES:
                    mark(graph.edges, graph.count);
                    break;
                case OF_ANSWERS:
                    mark(search.answers, search.found);
                    break;
                default:
                    markHittingSets();
                    break;
            }
        }

        private void mark(int[] sets, int count) {
            int end = 1 << graph.vertices;
            for (int s = 0; s < end; s++) {
                cells[s] = 0;
            }
            for (int i = 0; i < count; i++) {
                if (sets[i] >= 0 && sets[i] < end) {
                    cells[sets[i]] = 1;
                }
            }
        }

        private void markHittingSets() {
            cells[0] = 0;
            for (int v = 0; v < graph.vertices; v++) {
                int half = 1 << v;
                for (int s = 0; s < half; s++) {
                    cells[half + s] = cells[s] | graph.edgesAt[v];
                }
            }
            int all = graph.allEdges();
            int end = 1 << graph.vertices;
            for (int s = 0; s < end; s++) {
                cells[s] = cells[s] == all ? 1 : 0;
            }
        }
    }

    /** How many hitting sets there are of each size, counted once for the same edges. */
    private static final class HittingCounts {
        private final Hypergraph graph;
        private final Family family;
        private final int[] counts;
        private int total;
        private int version;

        HittingCounts(Hypergraph counted, Family table) {
            graph = counted;
            family = table;
            counts = new int[MOST_VERTICES + 1];
            version = -1;
        }

        int countOfAll() {
            bringUpToDate();
            return total;
        }

        int countOfSize(int size) {
            bringUpToDate();
            return counts[size];
        }

        private void bringUpToDate() {
            if (version == graph.version) {
                return;
            }
            version = graph.version;
            total = 0;
            for (int size = 0; size <= MOST_VERTICES; size++) {
                counts[size] = 0;
            }
            family.fill(OF_HITTING_SETS);
            int end = 1 << graph.vertices;
            for (int s = 0; s < end; s++) {
                if (family.cells[s] != 0) {
                    counts[Integer.bitCount(s)]++;
                    total++;
                }
            }
        }
    }

    /** The decision diagram of a family, drawn once for the same family and edges. */
    private static final class Diagram {
        private static final int TERMINALS = 2;
        /**
         * At vertex v there are at most 2^v nodes, and at most as many as there are families over the vertices
         * from v on that have a set with v: at the last three of 14 vertices 240, 12 and 2, so 2301 in all.
         */
        private static final int MOST_NODES = 2301 + TERMINALS;
        private static final int BUCKETS = 1024;
        private static final int SPREAD = 421;

        private final Hypergraph graph;
        private final Family family;
        private final int[] counts;
        private final int[] lows;
        private final int[] highs;
        /** The node drawn before in the same bucket, for each node; a smaller number, 0 at the end. */
        private final int[] olders;
        private final int[] newest;
        private int nodes;
        private int drawn;
        private int version;

        Diagram(Hypergraph shown, Family table) {
            graph = shown;
            family = table;
            counts = new int[MOST_VERTICES];
            lows = new int[MOST_NODES];
            highs = new int[MOST_NODES];
            olders = new int[MOST_NODES];
            newest = new int[BUCKETS];
            version = -1;
        }

        int sizeOf(int what) {
            draw(what);
            return nodes - TERMINALS;
        }

        int countAt(int what, int vertex) {
            draw(what);
            return counts[vertex];
        }

        private void draw(int what) {
            if (version == graph.version && drawn == what) {
                return;
            }
            version = graph.version;
            drawn = what;
            nodes = TERMINALS;
            for (int b = 0; b < BUCKETS; b++) {
                newest[b] = 0;
            }
            family.fill(what);
            for (int v = graph.vertices - 1; v >= 0; v--) {
                drawNodesAt(v);
            }
        }

        /** Puts the parts with and without the vertex together; the table is half as long then. */
        private void drawNodesAt(int vertex) {
            int[] cells = family.cells;
            int first = nodes;
            int half = 1 << vertex;
            for (int s = 0; s < half; s++) {
                int high = cells[half + s];
                if (high != 0) {
                    cells[s] = nodeWith(cells[s], high, first);
                }
            }
            counts[vertex] = nodes - first;
        }

        /** The node with these parts; those from first on have the same vertex. */
        private int nodeWith(int low, int high, int first) {
            int bucket = low * SPREAD + high & BUCKETS - 1;
            int node = newest[bucket];
            for (int i = 0; i < MOST_NODES && node >= first; i++) {
                if (lows[node] == low && highs[node] == high) {
                    return node;
                }
                node = olders[node];
            }
            if (nodes >= MOST_NODES) {
                return 0;
            }
            lows[nodes] = low;
            highs[nodes] = high;
            olders[nodes] = newest[bucket];
            newest[bucket] = nodes;
            nodes++;
            return nodes - 1;
        }
    }

    /** The text, and the reading of edges from it. */
    private static final class EdgeText {
        static final int NO_FAULT = -1;
        private static final int NO_VERTEX = -1;
        private static final int NO_DIGIT = -1;

        int length;
        /** An array, because a text may hold any character. */
        private final char[] characters;
        private int at;
        private int fault;

        EdgeText() {
            characters = new char[MOST_CHARACTERS];
        }

        boolean append(char character) {
            if (length >= MOST_CHARACTERS) {
                return false;
            }
            characters[length] = character;
            length++;
            return true;
        }

        /** Appends the edges up to the fault, if there is one, which the caller has to take back then. */
        int readInto(Hypergraph graph) {
            at = 0;
            fault = NO_FAULT;
            boolean more = true;
            for (int i = 0; i <= MOST_CHARACTERS && more; i++) {
                readEdge(graph);
                more = fault == NO_FAULT && skips(';');
            }
            if (fault == NO_FAULT && at < length) {
                fault = at;
            }
            return fault;
        }

        private void readEdge(Hypergraph graph) {
            if (graph.isFull()) {
                fault = at;
                return;
            }
            int set = 0;
            boolean more = true;
            for (int i = 0; i <= MOST_CHARACTERS && more; i++) {
                int vertex = readVertex(graph.vertices, set);
                if (vertex == NO_VERTEX) {
                    return;
                }
                set |= 1 << vertex;
                more = skips(',');
            }
            if (graph.contains(set)) {
                fault = at;
                return;
            }
            graph.append(set);
        }

        private int readVertex(int vertices, int before) {
            int start = at;
            int vertex = digit();
            if (vertex == NO_DIGIT || vertex >= vertices) {
                fault = at;
                return NO_VERTEX;
            }
            at++;
            int second = digit();
            if (vertex != 0 && second != NO_DIGIT) {
                vertex = 10 * vertex + second;
                if (vertex >= vertices) {
                    fault = at;
                    return NO_VERTEX;
                }
                at++;
            }
            if (has(before, vertex)) {
                fault = start;
                return NO_VERTEX;
            }
            return vertex;
        }

        private int digit() {
            if (at >= length || characters[at] < '0' || characters[at] > '9') {
                return NO_DIGIT;
            }
            return characters[at] - '0';
        }

        private boolean skips(char wanted) {
            if (at >= length || characters[at] != wanted) {
                return false;
            }
            at++;
            return true;
        }
    }
}
