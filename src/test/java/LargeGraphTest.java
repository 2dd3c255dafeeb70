import java.util.ArrayList;
import java.util.Arrays;
import java.util.Comparator;
import java.util.List;
import java.util.Random;

/**
 * Promises 5 to 12 on graphs near the limits, against all their cycles (16384 at most), listed by
 * solving for even ends, and against forests counted by leaving out and drawing together edges.
 */
public final class LargeGraphTest {
    private static final Due due = new Due();
    private static final int GRAPHS = 24;

    public static void main(String[] args) {
        Random random = new Random(1115);
        for (int k = 0; k < GRAPHS; k++) {
            int n = 8 + random.nextInt(9);
            int weights = new int[] {1, 3, 50, 1000000001}[k % 4];
            int[][] edges = fullGraph(random, n, weights);
            compare("graph " + k, random, new FreshHouse(n, edges), n, edges);
        }
        due.finish();
    }

    /** Edges at random until the dimension is 14 (mostly) and nothing hangs alone. */
    private static int[][] fullGraph(Random random, int n, int weights) {
        List<int[]> edges = new ArrayList<>();
        CycleHouse house = new CycleHouse();
        house.reset(n);
        for (int k = 0; k < 400; k++) {
            int a = random.nextInt(n);
            int b = random.nextInt(10) == 0 ? a : random.nextInt(n);
            int[] edge = {a, b, random.nextInt(weights)};
            try {
                house.edge(edge[0], edge[1], edge[2]);
                edges.add(edge);
            } catch (IllegalStateException e) {
                continue;
            }
        }
        return edges.toArray(new int[0][]);
    }

    private static void compare(String name, Random random, FreshHouse house, int n,
            int[][] edges) {
        long[] cycles = allCycles(n, edges);
        long[] weights = new long[cycles.length];
        for (int k = 0; k < cycles.length; k++) {
            weights[k] = weight(edges, cycles[k]);
        }
        due.same("2 to the dimension of " + name, 1L << house.get().look(3), cycles.length);
        compareSimple(name, house, edges, cycles);
        compareLight(name, house, weights);
        compareThrough(name, house, edges, cycles, weights);
        compareBasis(name, random, house, cycles, weights);
        compareForests(name, random, house, n, edges);
    }

    /** Elimination over the ends of edges: sets whose ends cancel out are a basis, its sums all. */
    private static long[] allCycles(int n, int[][] edges) {
        List<Long> basis = new ArrayList<>();
        long[] rowEnds = new long[n];
        long[] rowEdges = new long[n];
        for (int e = 0; e < edges.length; e++) {
            long ends = 1L << edges[e][0] ^ 1L << edges[e][1];
            long sum = 1L << e;
            for (int v = 0; v < n; v++) {
                if ((ends >> v & 1) != 0) {
                    if (rowEnds[v] == 0) {
                        rowEnds[v] = ends;
                        rowEdges[v] = sum;
                        sum = 0;
                        break;
                    }
                    ends ^= rowEnds[v];
                    sum ^= rowEdges[v];
                }
            }
            if (sum != 0) {
                basis.add(sum);
            }
        }
        long[] cycles = new long[1 << basis.size()];
        for (int k = 1; k < cycles.length; k++) {
            int low = Integer.numberOfTrailingZeros(k);
            cycles[k] = cycles[k & k - 1] ^ basis.get(low);
        }
        return cycles;
    }

    private static long weight(int[][] edges, long set) {
        long sum = 0;
        for (int e = 0; e < edges.length; e++) {
            sum += (set >> e & 1) != 0 ? edges[e][2] : 0;
        }
        return sum;
    }

    /** Simple: two ends at each vertex, and a walk along the edges meets all of them. */
    private static boolean isSimple(int[][] edges, long set) {
        int[] ends = new int[16];
        int first = -1;
        for (int e = 0; e < edges.length; e++) {
            if ((set >> e & 1) != 0) {
                ends[edges[e][0]]++;
                ends[edges[e][1]]++;
                first = first < 0 ? e : first;
            }
        }
        for (int count : ends) {
            if (count > 2) {
                return false;
            }
        }
        if (first < 0) {
            return false;
        }
        long left = set & ~(1L << first);
        int at = edges[first][1];
        for (int step = 0; step < edges.length; step++) {
            for (int e = 0; e < edges.length; e++) {
                if ((left >> e & 1) != 0 && (edges[e][0] == at || edges[e][1] == at)) {
                    left &= ~(1L << e);
                    at = edges[e][0] == at ? edges[e][1] : edges[e][0];
                    break;
                }
            }
        }
        return left == 0;
    }

    private static void compareSimple(String name, FreshHouse house, int[][] edges, long[] cycles) {
        int simple = 0;
        for (long cycle : cycles) {
            boolean is = isSimple(edges, cycle);
            simple += is ? 1 : 0;
            if (is || simple % 8 == 0) {
                due.same("isCycle(" + cycle + ") of " + name, house.get().isCycle(cycle),
                    is ? 2 : 1);
            }
            if (is && edges[0][0] != edges[0][1]) {
                long open = cycle ^ 1;
                due.same("isCycle(" + open + ") of " + name, house.get().isCycle(open), 0);
            }
        }
        due.same("cycles() of " + name, house.get().cycles(), simple);
    }

    private static void compareLight(String name, FreshHouse house, long[] weights) {
        long[] sorted = weights.clone();
        Arrays.sort(sorted);
        for (int k = 0; k < sorted.length; k += 997) {
            long w = sorted[k];
            int within = 0;
            int below = 0;
            for (long weight : sorted) {
                within += weight <= w ? 1 : 0;
                below += weight < w ? 1 : 0;
            }
            due.same("light(" + w + ") of " + name, house.get().light(w), within);
            due.same("light(" + (w - 1) + ") of " + name, house.get().light(w - 1), below);
        }
    }

    private static void compareThrough(String name, FreshHouse house, int[][] edges, long[] cycles,
            long[] weights) {
        int inNone = 0;
        for (int e = 0; e < edges.length; e++) {
            long best = -1;
            for (int k = 0; k < cycles.length; k++) {
                if ((cycles[k] >> e & 1) != 0 && (best < 0 || weights[k] < best)) {
                    best = weights[k];
                }
            }
            inNone += best < 0 ? 1 : 0;
            due.same("through(" + e + ") of " + name, house.get().through(e), best);
        }
        due.same("look(4) of " + name, house.get().look(4), inNone);
    }

    /** The greedy choice over all cycles; a cycle belongs if all lighter ones do not make it. */
    private static void compareBasis(String name, Random random, FreshHouse house, long[] cycles,
            long[] weights) {
        Integer[] order = new Integer[cycles.length];
        for (int k = 0; k < order.length; k++) {
            order[k] = k;
        }
        Arrays.sort(order, Comparator.comparingLong(k -> weights[k]));
        long[] lighter = new long[64];
        int size = 0;
        int start = 0;
        while (start < order.length) {
            int end = start;
            while (end < order.length && weights[order[end]] == weights[order[start]]) {
                end++;
            }
            for (int k = start; k < end; k++) {
                // All of the lightest ones, and some of the many that mostly do not belong.
                if (k < 300 || random.nextInt(100) == 0) {
                    long cycle = cycles[order[k]];
                    due.same("belongs(" + cycle + ") of " + name,
                        house.get().belongs(cycle) ? 1 : 0, rest(lighter, cycle) != 0 ? 1 : 0);
                }
            }
            for (int k = start; k < end; k++) {
                long rest = rest(lighter, cycles[order[k]]);
                if (rest != 0) {
                    lighter[63 - Long.numberOfLeadingZeros(rest)] = rest;
                    due.same("basis(" + size + ") of " + name, house.get().basis(size),
                        weights[order[k]]);
                    size++;
                }
            }
            start = end;
        }
        due.same("a basis of " + name, size, house.get().look(3));
    }

    private static long rest(long[] rows, long set) {
        for (int bit = 63; bit >= 0; bit--) {
            if ((set >> bit & 1) != 0 && rows[bit] != 0) {
                set ^= rows[bit];
            }
        }
        return set;
    }

    private static void compareForests(String name, Random random, FreshHouse house, int n,
            int[][] edges) {
        compareForests(name, house, 0, Forests.decide(n, edges, 0));
        for (int k = 0; k < 4; k++) {
            long set = random.nextLong() & random.nextLong() & random.nextLong()
                & (1L << edges.length) - 1;
            compareForests(name, house, set, Forests.decide(n, edges, set));
        }
    }

    private static void compareForests(String name, FreshHouse house, long set, long[] want) {
        due.same("forests(" + set + ") of " + name, house.get().forests(set), want[0]);
        due.same("lightest(" + set + ") of " + name, house.get().lightest(set), want[1]);
    }
}
