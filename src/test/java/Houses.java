import java.util.Arrays;

/** Graphs that several tests use, as rows {a, b, weight}, and what can be seen of an object. */
final class Houses {
    static final int HEAVIEST = 1000000000;

    private Houses() {
    }

    static CycleHouse of(int n, int[]... edges) {
        CycleHouse house = new CycleHouse();
        fill(house, n, edges);
        return house;
    }

    static void fill(CycleHouse house, int n, int[]... edges) {
        house.reset(n);
        for (int[] e : edges) {
            house.edge(e[0], e[1], e[2]);
        }
    }

    static int[][] complete(int n) {
        int[][] edges = new int[n * (n - 1) / 2][];
        int m = 0;
        for (int a = 0; a < n; a++) {
            for (int b = a + 1; b < n; b++) {
                edges[m++] = new int[] {a, b, 1};
            }
        }
        return edges;
    }

    /** Vertices 0 .. n - 1 in a row. */
    static int[][] path(int n, int weight) {
        int[][] edges = new int[n - 1][];
        for (int v = 0; v < n - 1; v++) {
            edges[v] = new int[] {v, v + 1, weight};
        }
        return edges;
    }

    /** Vertices 0 .. n - 1 in a row that closes; of one vertex a loop. */
    static int[][] ring(int n, int weight) {
        return both(path(n, weight), new int[][] {{n - 1, 0, weight}});
    }

    static int[][] loops(int v, int count, int weight) {
        return same(count, v, v, weight);
    }

    /** The same edge several times. */
    static int[][] same(int count, int a, int b, int weight) {
        int[][] edges = new int[count][];
        Arrays.fill(edges, new int[] {a, b, weight});
        return edges;
    }

    static int[][] both(int[][] first, int[][] second) {
        int[][] edges = Arrays.copyOf(first, first.length + second.length);
        System.arraycopy(second, 0, edges, first.length, second.length);
        return edges;
    }

    /** The first m edges of the greatest graph, for 16 vertices: a row, then chords of it. */
    static int[][] firstOf29(int m) {
        int[][] edges = new int[29][];
        for (int e = 0; e < 29; e++) {
            edges[e] = e < 15 ? new int[] {e, e + 1, e} : new int[] {e - 15, e - 13, e};
        }
        return Arrays.copyOf(edges, m);
    }

    /** Vertex 0 joined with each of a ring of that many others. */
    static int[][] wheel(int rim) {
        int[][] edges = new int[2 * rim][];
        for (int i = 0; i < rim; i++) {
            edges[2 * i] = new int[] {0, 1 + i, 1};
            edges[2 * i + 1] = new int[] {1 + i, 1 + (i + 1) % rim, 1};
        }
        return edges;
    }

    static int[][] petersen() {
        int[][] edges = new int[15][];
        for (int i = 0; i < 5; i++) {
            edges[i] = new int[] {i, (i + 1) % 5, 1};
            edges[5 + i] = new int[] {i, 5 + i, 1};
            edges[10 + i] = new int[] {5 + i, 5 + (i + 2) % 5, 1};
        }
        return edges;
    }

    /** Two triangles that share vertex 2, a pair beside, and a loop on vertex 0. */
    static CycleHouse bowTie() {
        return of(7, new int[][] {{0, 1, 1}, {1, 2, 2}, {2, 0, 3}, {2, 3, 4}, {3, 4, 5}, {4, 2, 6},
            {5, 6, 7}, {6, 5, 8}, {0, 0, 9}});
    }

    /** Two edges in a row, after a call looked at a third one, which closed them and is gone. */
    static CycleHouse openedTriangle() {
        CycleHouse house = of(3, new int[][] {{0, 1, 1}, {0, 2, 1}, {1, 2, 1}});
        house.forests(0b100);
        house.drop();
        return house;
    }

    /** All that can be seen of the state in some 170 calls, as one text. */
    static String seen(CycleHouse house) {
        StringBuilder text = new StringBuilder();
        for (int what = 0; what <= 8; what++) {
            text.append(house.look(what)).append(' ');
        }
        text.append(house.forests(0)).append(' ').append(house.lightest(0)).append(' ');
        text.append(house.cycles()).append(' ').append(house.light(1000)).append(' ');
        int edges = house.look(1);
        for (int e = 0; e < edges; e++) {
            text.append(house.through(e)).append(' ').append(house.lightest(1L << e)).append(' ');
        }
        int dimension = house.look(3);
        for (int i = 0; i < dimension; i++) {
            text.append(house.basis(i)).append(' ');
        }
        for (int bit = 0; bit < 40; bit++) {
            text.append(house.spans(1L << bit) ? 1 : 0);
        }
        return text.toString();
    }
}
