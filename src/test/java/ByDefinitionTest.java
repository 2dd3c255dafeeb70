import java.util.Random;

/** Promises 5 to 12 and 16 on many small graphs, against the document's terms taken literally. */
public final class ByDefinitionTest {
    private static final Due due = new Due();
    private static final int GRAPHS = 400;
    private static final int MOST_EDGES = 9;
    private static final int MOST_DIMENSION = 4;

    public static void main(String[] args) {
        // The seed is fixed: each run sees the same graphs.
        Random random = new Random(20261115);
        for (int k = 0; k < GRAPHS; k++) {
            int n = 1 + random.nextInt(7);
            int[][] edges = someEdges(random, n);
            compare("graph " + k, new FreshHouse(n, edges), new Oracle(n, edges), edges.length);
        }
        due.finish();
    }

    /** Few different weights, so that many cycles weigh the same; often none at all. */
    private static int[][] someEdges(Random random, int n) {
        int weights = new int[] {1, 2, 3, 10}[random.nextInt(4)];
        int[][] edges = new int[random.nextInt(MOST_EDGES + 1)][];
        CycleHouse measure = new CycleHouse();
        measure.reset(n);
        for (int e = 0; e < edges.length; e++) {
            int[] edge = null;
            for (int k = 0; k < 100 && edge == null; k++) {
                edge = new int[] {random.nextInt(n), random.nextInt(n), random.nextInt(weights)};
                measure.edge(edge[0], edge[1], edge[2]);
                if (measure.look(3) > MOST_DIMENSION) {
                    measure.drop();
                    edge = null;
                }
            }
            if (edge == null) {
                return java.util.Arrays.copyOf(edges, e);
            }
            edges[e] = edge;
        }
        return edges;
    }

    private static void compare(String name, FreshHouse house, Oracle oracle, int m) {
        for (int set = 0; set < 1 << m; set++) {
            String of = "(" + set + ") of " + name;
            due.same("forests" + of, house.get().forests(set), oracle.forests(set));
            due.same("lightest" + of, house.get().lightest(set), oracle.lightest(set));
            due.same("isCycle" + of, house.get().isCycle(set), oracle.isCycle(set));
            due.same("belongs" + of, house.get().belongs(set) ? 1 : 0, oracle.belongs(set) ? 1 : 0);
        }
        for (int e = 0; e < m; e++) {
            due.same("through(" + e + ") of " + name, house.get().through(e), oracle.through(e));
        }
        long[] weights = oracle.basisWeights();
        for (int i = 0; i < weights.length; i++) {
            due.same("basis(" + i + ") of " + name, house.get().basis(i), weights[i]);
        }
        due.same("cycles() of " + name, house.get().cycles(), oracle.simpleCycles());
        for (long w = -1; w < 40; w++) {
            due.same("light(" + w + ") of " + name, house.get().light(w), oracle.light(w));
        }
        due.same("look(2) of " + name, house.get().look(2), oracle.groups(-1));
        due.same("look(3) of " + name, house.get().look(3), oracle.dimension);
        due.same("look(4) of " + name, house.get().look(4), oracle.edgesInNoCycle());
        due.same("look(5) of " + name, house.get().look(5), oracle.noOddCycle());
        due.same("look(8) of " + name, house.get().look(8), oracle.cuttingVertices());
    }
}
