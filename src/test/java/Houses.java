/** Graphs that several tests use, and what can be seen of an object. */
final class Houses {
    private Houses() {
    }

    /** A graph of rows {a, b, weight}. */
    static CycleHouse of(int n, int[][] edges) {
        CycleHouse house = new CycleHouse();
        fill(house, n, edges);
        return house;
    }

    static void fill(CycleHouse house, int n, int[][] edges) {
        house.reset(n);
        for (int[] e : edges) {
            house.edge(e[0], e[1], e[2]);
        }
    }

    static int[][] complete(int n) {
        int[][] edges = new int[n * (n - 1) / 2][];
        int m = 0;
        for (int a = 0; a < n; a++) {
            for (int b = a + 1; b < n; b++) {
                edges[m++] = new int[] {a, b, 1};
            }
        }
        return edges;
    }

    /** Vertex 0 joined with each of a ring of that many others. */
    static int[][] wheel(int rim) {
        int[][] edges = new int[2 * rim][];
        for (int i = 0; i < rim; i++) {
            edges[2 * i] = new int[] {0, 1 + i, 1};
            edges[2 * i + 1] = new int[] {1 + i, 1 + (i + 1) % rim, 1};
        }
        return edges;
    }

    static int[][] petersen() {
        int[][] edges = new int[15][];
        for (int i = 0; i < 5; i++) {
            edges[i] = new int[] {i, (i + 1) % 5, 1};
            edges[5 + i] = new int[] {i, 5 + i, 1};
            edges[10 + i] = new int[] {5 + i, 5 + (i + 2) % 5, 1};
        }
        return edges;
    }

    /** Every answer that needs no argument beyond the state, as one text. */
    static String seen(CycleHouse house) {
        StringBuilder text = new StringBuilder();
        for (int what = 0; what <= 8; what++) {
            text.append(house.look(what)).append(' ');
        }
        text.append(house.forests(0)).append(' ').append(house.lightest(0)).append(' ');
        text.append(house.cycles()).append(' ').append(house.light(1000)).append(' ');
        for (int e = 0; e < house.look(1); e++) {
            text.append(house.through(e)).append(' ').append(house.lightest(1L << e)).append(' ');
        }
        for (int i = 0; i < house.look(3); i++) {
            text.append(house.basis(i)).append(' ');
        }
        for (int bit = 0; bit < 40; bit++) {
            text.append(house.spans(1L << bit) ? 1 : 0);
        }
        return text.toString();
    }
}
