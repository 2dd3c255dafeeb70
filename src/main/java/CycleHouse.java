import java.util.Arrays;
import java.util.NoSuchElementException;

/** A house for cycles: see README.md. Sets of edges are numbers, bit e for edge e. */
public final class CycleHouse {
    private static final int MOST_VERTICES = 16;
    private static final int MOST_EDGES = 40;
    private static final int MOST_WEIGHT = 1000000000;
    private static final int MOST_DIMENSION = 14;
    private static final int MOST_SETS = 64;
    private static final int NONE = -1;

    private final Graph graph;
    private final SetList list;

    // Rows that the calls share and write anew: no call makes memory of its own.
    private final Groups groups;
    private final Ways ways;
    private final LightBasis lightBasis;
    private final ForestCount forestCount;
    private final CycleCount cycleCount;
    private final long[] rings;

    public CycleHouse() {
        graph = new Graph();
        list = new SetList();
        groups = new Groups();
        ways = new Ways();
        lightBasis = new LightBasis();
        forestCount = new ForestCount();
        cycleCount = new CycleCount();
        rings = new long[MOST_DIMENSION];
    }

    public int reset(int n) throws IllegalArgumentException {
        if (n < 1 || n > MOST_VERTICES) {
            throw new IllegalArgumentException("vertices are 1 .. 16");
        }
        int had = graph.edges;
        graph.begin(n);
        return had;
    }

    public int edge(int a, int b, int weight) throws IllegalArgumentException, IllegalStateException {
        if (!graph.hasVertex(a) || !graph.hasVertex(b)) {
            throw new IllegalArgumentException("no such vertex");
        }
        if (weight < 0 || weight > MOST_WEIGHT) {
            throw new IllegalArgumentException("a weight is 0 .. 1000000000");
        }
        if (graph.edges >= MOST_EDGES) {
            throw new IllegalStateException("there are 40 edges");
        }
        // Only an edge inside a group closes a new cycle.
        if (joinWhole() >= MOST_DIMENSION && groups.together(a, b)) {
            throw new IllegalStateException("the dimension is 14");
        }
        return graph.append(a, b, weight);
    }

    public int drop() throws IllegalStateException {
        if (graph.edges == 0) {
            throw new IllegalStateException("there is no edge");
        }
        return graph.removeLast();
    }

    public long forests(long set) throws IllegalArgumentException {
        checkEdges(set);
        if (joinSet(set) != 0) {
            return 0;
        }
        return forestCount.count(graph, groups);
    }

    public long lightest(long set) throws IllegalArgumentException {
        checkEdges(set);
        if (joinSet(set) != 0) {
            return -1;
        }
        return graph.weigh(set) + weightOfLightestJoins();
    }

    public int isCycle(long set) throws IllegalArgumentException {
        checkEdges(set);
        if (!graph.isEven(set)) {
            return 0;
        }
        // A cycle is simple if its own edges close just one cycle: itself.
        return joinSet(set) == 1 ? 2 : 1;
    }

    public long through(int e) throws NoSuchElementException {
        if (e < 0 || e >= graph.edges) {
            throw new NoSuchElementException("no such edge");
        }
        ways.seek(graph, graph.from[e], e);
        int end = graph.to[e];
        return ways.reaches(end) ? ways.length[end] + graph.weight[e] : -1;
    }

    public long basis(int i) throws NoSuchElementException {
        if (i < 0 || i >= joinWhole()) {
            throw new NoSuchElementException("a basis has not so many cycles");
        }
        lightBasis.find(graph, ways);
        return lightBasis.weight[i];
    }

    public boolean belongs(long set) throws IllegalArgumentException {
        checkEdges(set);
        if (!graph.isEven(set)) {
            return false;
        }
        // A cycle can be exchanged into a lightest basis just if lighter ones do not make it;
        // the empty one is the sum of none.
        lightBasis.find(graph, ways);
        return !lightBasis.isSumOfLighter(set, graph.weigh(set));
    }

    public int cycles() {
        return cycleCount.count(graph);
    }

    public int light(long w) {
        int all = 1 << fillRings();
        long set = 0;
        long weight = 0;
        int count = weight <= w ? 1 : 0;
        // Gray's order: from one cycle to the next a single ring comes or goes.
        for (int k = 1; k < all; k++) {
            long ring = rings[Integer.numberOfTrailingZeros(k)];
            set ^= ring;
            weight += graph.gain(ring, set);
            if (weight <= w) {
                count++;
            }
        }
        return count;
    }

    public int add(long set) throws IllegalArgumentException, IllegalStateException {
        checkListed(set);
        if (list.sets >= MOST_SETS) {
            throw new IllegalStateException("the list has 64 sets");
        }
        return list.append(set);
    }

    public int clear() {
        int had = list.sets;
        list.empty();
        return had;
    }

    public boolean spans(long set) throws IllegalArgumentException {
        checkListed(set);
        return list.rest(set) == 0;
    }

    public int look(int what) throws IllegalArgumentException {
        switch (what) {
            case 0: return graph.vertices;
            case 1: return graph.edges;
            case 2: return countGroups();
            case 3: return joinWhole();
            case 4: return countEdgesInNoCycle();
            case 5: return hasOddCycle() ? 0 : 1;
            case 6: return list.sets;
            case 7: return list.rank;
            case 8: return countCuttingVertices();
            default: throw new IllegalArgumentException("what is 0 .. 8");
        }
    }

    private void checkEdges(long set) {
        if (set >>> graph.edges != 0) {
            throw new IllegalArgumentException("the set has an edge that is not there");
        }
    }

    private void checkListed(long set) {
        if (set >>> MOST_EDGES != 0) {
            throw new IllegalArgumentException("the set has bits from 40 on");
        }
    }

    private static boolean has(long set, int e) {
        return (set >>> e & 1L) != 0;
    }

    /** Groups by the edges of a set: the dimension of the cycles within it. */
    private int joinSet(long set) {
        groups.part(graph.vertices);
        int closing = 0;
        for (int e = 0; e < graph.edges; e++) {
            if (has(set, e) && groups.join(graph, e) != 0) {
                closing++;
            }
        }
        return closing;
    }

    /** Groups by all edges: the dimension. */
    private int joinWhole() {
        return joinSet((1L << graph.edges) - 1);
    }

    /** A basis, though seldom a lightest one, into the rings: the dimension. */
    private int fillRings() {
        groups.part(graph.vertices);
        int filled = 0;
        for (int e = 0; e < graph.edges; e++) {
            long ring = groups.join(graph, e);
            if (ring != 0 && filled < MOST_DIMENSION) {
                rings[filled] = ring;
                filled++;
            }
        }
        return filled;
    }

    /** Goes on from the groups as they are, always with the lightest edge that still joins two. */
    private long weightOfLightestJoins() {
        long weight = 0;
        for (int round = 1; round < graph.vertices; round++) {
            int e = lightestJoin();
            if (e == NONE) {
                return weight;
            }
            groups.join(graph, e);
            weight += graph.weight[e];
        }
        return weight;
    }

    private int lightestJoin() {
        int best = NONE;
        for (int e = 0; e < graph.edges; e++) {
            if (!groups.together(graph.from[e], graph.to[e])
                    && (best == NONE || graph.weight[e] < graph.weight[best])) {
                best = e;
            }
        }
        return best;
    }

    private int countGroups() {
        joinWhole();
        return groups.count;
    }

    private int countEdgesInNoCycle() {
        int dimension = fillRings();
        long inSome = 0;
        for (int i = 0; i < dimension; i++) {
            inSome |= rings[i];
        }
        return graph.edges - Long.bitCount(inSome);
    }

    /** Sums of cycles with even numbers of edges have even numbers too: a basis tells of all. */
    private boolean hasOddCycle() {
        int dimension = fillRings();
        for (int i = 0; i < dimension; i++) {
            if (Long.bitCount(rings[i]) % 2 != 0) {
                return true;
            }
        }
        return false;
    }

    private int countCuttingVertices() {
        int whole = countGroups();
        int cutting = 0;
        for (int v = 0; v < graph.vertices; v++) {
            joinSet(graph.edgesApartFrom(v));
            // The vertex itself is left as a group of its own, which is none of the other ones'.
            if (groups.count - 1 > whole) {
                cutting++;
            }
        }
        return cutting;
    }

    /** Vertices and edges. Who calls has looked at numbers of vertices and edges. */
    private static final class Graph {
        private int vertices;
        private int edges;
        private final int[] from;
        private final int[] to;
        private final int[] weight;

        Graph() {
            vertices = 1;
            from = new int[MOST_EDGES];
            to = new int[MOST_EDGES];
            weight = new int[MOST_EDGES];
        }

        void begin(int n) {
            vertices = n;
            edges = 0;
        }

        boolean hasVertex(int v) {
            return v >= 0 && v < vertices;
        }

        int append(int a, int b, int w) {
            int e = edges;
            from[e] = a;
            to[e] = b;
            weight[e] = w;
            edges++;
            return e;
        }

        int removeLast() {
            edges--;
            return edges;
        }

        boolean isEven(long set) {
            int odd = 0;
            for (int e = 0; e < edges; e++) {
                if (has(set, e)) {
                    odd ^= 1 << from[e];
                    odd ^= 1 << to[e];
                }
            }
            return odd == 0;
        }

        long weigh(long set) {
            return gain(set, set);
        }

        /** How much heavier a set has become by the edges that changed in it. */
        long gain(long changed, long set) {
            long gain = 0;
            long left = changed;
            for (int k = Long.bitCount(changed); k > 0; k--) {
                int e = Long.numberOfTrailingZeros(left);
                gain += has(set, e) ? weight[e] : -weight[e];
                left &= left - 1;
            }
            return gain;
        }

        long edgesApartFrom(int v) {
            long set = 0;
            for (int e = 0; e < edges; e++) {
                if (from[e] != v && to[e] != v) {
                    set |= 1L << e;
                }
            }
            return set;
        }
    }

    /**
     * Vertices in groups that hang together by the edges joined so far. The edges that joined two
     * groups make a tree of each, and each vertex knows its way there to one vertex of its group.
     */
    private static final class Groups {
        private int vertices;
        private int count;
        private final int[] name;
        private final long[] way;

        Groups() {
            name = new int[MOST_VERTICES];
            way = new long[MOST_VERTICES];
        }

        void part(int n) {
            vertices = n;
            count = n;
            for (int v = 0; v < n; v++) {
                name[v] = v;
                way[v] = 0;
            }
        }

        boolean together(int a, int b) {
            return name[a] == name[b];
        }

        /** The cycle that the edge closes with the tree; 0 if it joins two groups. */
        long join(Graph graph, int e) {
            int a = graph.from[e];
            int b = graph.to[e];
            long between = way[a] ^ way[b] ^ 1L << e;
            if (together(a, b)) {
                return between;
            }
            merge(name[a], name[b], between);
            return 0;
        }

        private void merge(int kept, int gone, long between) {
            for (int v = 0; v < vertices; v++) {
                if (name[v] == gone) {
                    name[v] = kept;
                    way[v] ^= between;
                }
            }
            count--;
        }
    }

    /** Shortest ways from one vertex: their lengths and their edges. */
    private static final class Ways {
        // Above every length, and far enough from the end of long for one weight more.
        private static final long FAR = 1L << 60;

        private final long[] length;
        private final long[] way;

        Ways() {
            length = new long[MOST_VERTICES];
            way = new long[MOST_VERTICES];
        }

        void seek(Graph graph, int start, int without) {
            for (int v = 0; v < graph.vertices; v++) {
                length[v] = FAR;
                way[v] = 0;
            }
            length[start] = 0;
            boolean shorter = true;
            for (int round = 1; round < graph.vertices && shorter; round++) {
                shorter = shortenAll(graph, without);
            }
        }

        boolean reaches(int v) {
            return length[v] < FAR;
        }

        private boolean shortenAll(Graph graph, int without) {
            boolean shorter = false;
            for (int e = 0; e < graph.edges; e++) {
                if (e != without) {
                    int a = graph.from[e];
                    int b = graph.to[e];
                    shorter |= shorten(a, b, e, graph.weight[e]);
                    shorter |= shorten(b, a, e, graph.weight[e]);
                }
            }
            return shorter;
        }

        private boolean shorten(int a, int b, int e, int weight) {
            if (length[a] + weight >= length[b]) {
                return false;
            }
            length[b] = length[a] + weight;
            way[b] = way[a] ^ 1L << e;
            return true;
        }
    }

    /**
     * A lightest basis, its cycles by weight. It is picked from few candidates: of each vertex and
     * each edge, the edge with shortest ways from the vertex to its ends. They suffice, for a
     * simple cycle is the sum of its edges' candidates of any vertex on it, none of which is
     * heavier than the cycle.
     */
    private static final class LightBasis {
        private int size;
        private final long[] ring;
        private final long[] weight;
        private int candidates;
        private final long[] left;
        private final long[] leftWeight;

        LightBasis() {
            ring = new long[MOST_DIMENSION];
            weight = new long[MOST_DIMENSION];
            left = new long[MOST_VERTICES * MOST_EDGES];
            leftWeight = new long[MOST_VERTICES * MOST_EDGES];
        }

        void find(Graph graph, Ways ways) {
            gatherAll(graph, ways);
            for (size = 0; size < MOST_DIMENSION; size++) {
                int best = lightestLeft();
                if (best == NONE) {
                    return;
                }
                ring[size] = left[best];
                weight[size] = leftWeight[best];
                strike(left[best]);
            }
        }

        boolean isSumOfLighter(long set, long limit) {
            long rest = set;
            for (int i = 0; i < size; i++) {
                if (weight[i] < limit && (rest & mark(ring[i])) != 0) {
                    rest ^= ring[i];
                }
            }
            return rest == 0;
        }

        private void gatherAll(Graph graph, Ways ways) {
            candidates = 0;
            for (int v = 0; v < graph.vertices; v++) {
                ways.seek(graph, v, NONE);
                for (int e = 0; e < graph.edges; e++) {
                    gather(graph, ways, e);
                }
            }
        }

        /**
         * An edge of both ways is weighed twice though the ring lacks it. That does no harm: a ring
         * so weighed too heavy is struck out by candidates as light as it is before its turn comes.
         */
        private void gather(Graph graph, Ways ways, int e) {
            int a = graph.from[e];
            int b = graph.to[e];
            long closed = ways.way[a] ^ ways.way[b] ^ 1L << e;
            if (ways.reaches(a) && closed != 0) {
                left[candidates] = closed;
                leftWeight[candidates] = ways.length[a] + ways.length[b] + graph.weight[e];
                candidates++;
            }
        }

        private int lightestLeft() {
            int best = NONE;
            for (int i = 0; i < candidates; i++) {
                if (left[i] != 0 && (best == NONE || leftWeight[i] < leftWeight[best])) {
                    best = i;
                }
            }
            return best;
        }

        /** Leaves of each candidate what the picked rings do not make: nothing, if they make it. */
        private void strike(long picked) {
            for (int i = 0; i < candidates; i++) {
                if ((left[i] & mark(picked)) != 0) {
                    left[i] ^= picked;
                }
            }
        }

        /** An edge that the ring has and that no ring picked later has. */
        private static long mark(long ring) {
            return ring & -ring;
        }
    }

    /** Counts forests by the determinant of the graph whose vertices are the groups (Kirchhoff). */
    private static final class ForestCount {
        private final long[][] table;

        ForestCount() {
            table = new long[MOST_VERTICES][MOST_VERTICES];
        }

        long count(Graph graph, Groups groups) {
            for (int v = 0; v < graph.vertices; v++) {
                Arrays.fill(table[v], 0L);
            }
            for (int e = 0; e < graph.edges; e++) {
                int a = groups.name[graph.from[e]];
                int b = groups.name[graph.to[e]];
                if (a != b) {
                    table[a][a]++;
                    table[b][b]++;
                    table[a][b]--;
                    table[b][a]--;
                }
            }
            return determinant(graph.vertices);
        }

        /**
         * Bareiss' elimination: each division is without rest, each entry at most the number of
         * ways to choose 15 of 29 edges, so that a product is far inside long. A pivot is 0 where a
         * vertex is the last one of those that hang together, or no group's name: its row is then
         * all 0 and is to be left out.
         */
        private long determinant(int n) {
            long last = 1;
            for (int k = 0; k < n; k++) {
                long pivot = table[k][k];
                if (pivot != 0) {
                    eliminate(k, n, last);
                    last = pivot;
                }
            }
            return last;
        }

        private void eliminate(int k, int n, long last) {
            if (last == 0) {
                return;
            }
            for (int i = k + 1; i < n; i++) {
                for (int j = k + 1; j < n; j++) {
                    table[i][j] = (table[i][j] * table[k][k] - table[i][k] * table[k][j]) / last;
                }
            }
        }
    }

    /** Counts each simple cycle at its last edge, by the paths of earlier edges between its ends. */
    private static final class CycleCount {
        private final int[][] between;

        CycleCount() {
            between = new int[MOST_VERTICES][MOST_VERTICES];
        }

        int count(Graph graph) {
            for (int v = 0; v < MOST_VERTICES; v++) {
                Arrays.fill(between[v], 0);
            }
            int sum = 0;
            for (int e = 0; e < graph.edges; e++) {
                int a = graph.from[e];
                int b = graph.to[e];
                sum += paths(between, a, b, 1 << a, 1);
                between[a][b]++;
                if (a != b) {
                    between[b][a]++;
                }
            }
            return sum;
        }

        private static int paths(int[][] between, int at, int end, int seen, int depth) {
            if (at == end) {
                return 1;
            }
            if (depth >= MOST_VERTICES) {
                return 0;
            }
            int sum = 0;
            for (int v = 0; v < MOST_VERTICES; v++) {
                if (between[at][v] != 0 && (seen >> v & 1) == 0) {
                    sum += between[at][v] * paths(between, v, end, seen | 1 << v, depth + 1);
                }
            }
            return sum;
        }
    }

    /** The list: of its sets nothing is asked but their number and their span. */
    private static final class SetList {
        private int sets;
        private int rank;
        // Row e is 0, or a set of the span whose lowest edge is e.
        private final long[] row;

        SetList() {
            row = new long[MOST_EDGES];
        }

        int append(long set) {
            long rest = rest(set);
            if (rest != 0) {
                row[Long.numberOfTrailingZeros(rest)] = rest;
                rank++;
            }
            sets++;
            return sets;
        }

        void empty() {
            sets = 0;
            rank = 0;
            Arrays.fill(row, 0L);
        }

        /** What is left of a set without the rows: nothing, if it is in the span. */
        long rest(long set) {
            long rest = set;
            for (int e = 0; e < MOST_EDGES; e++) {
                if (has(rest, e)) {
                    rest ^= row[e];
                }
            }
            return rest;
        }
    }
}
