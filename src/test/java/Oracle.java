import java.util.ArrayList;
import java.util.List;

/**
 * Answers for small graphs straight from the document's terms, by looking at every set of edges;
 * shares no way of reckoning with the class.
 */
final class Oracle {
    private final int n;
    private final int[][] edges;
    private final int all;
    private final List<Integer> cycles = new ArrayList<>();
    private final List<Integer> forests = new ArrayList<>();
    private final List<long[]> lightestBases = new ArrayList<>();
    final int dimension;

    Oracle(int n, int[][] edges) {
        this.n = n;
        this.edges = edges;
        this.all = 1 << edges.length;
        for (int set = 0; set < all; set++) {
            if (isEven(set)) {
                cycles.add(set);
            }
        }
        for (int set = 0; set < all; set++) {
            if (isForest(set)) {
                forests.add(set);
            }
        }
        dimension = Integer.numberOfTrailingZeros(cycles.size());
        findBases(new int[dimension], 0, 1);
    }

    private boolean isEven(int set) {
        int[] ends = new int[n];
        for (int e = 0; e < edges.length; e++) {
            if ((set >> e & 1) != 0) {
                ends[edges[e][0]]++;
                ends[edges[e][1]]++;
            }
        }
        for (int count : ends) {
            if (count % 2 != 0) {
                return false;
            }
        }
        return true;
    }

    private boolean holdsCycle(int set) {
        for (int cycle : cycles) {
            if (cycle != 0 && (cycle & ~set) == 0) {
                return true;
            }
        }
        return false;
    }

    private boolean isForest(int set) {
        if (holdsCycle(set)) {
            return false;
        }
        for (int e = 0; e < edges.length; e++) {
            if ((set >> e & 1) == 0 && !holdsCycle(set | 1 << e)) {
                return false;
            }
        }
        return true;
    }

    long weight(int set) {
        long sum = 0;
        for (int e = 0; e < edges.length; e++) {
            sum += (set >> e & 1) != 0 ? edges[e][2] : 0;
        }
        return sum;
    }

    private void findBases(int[] chosen, int size, int next) {
        if (size == dimension) {
            keepIfLightest(chosen);
            return;
        }
        for (int k = next; k < cycles.size(); k++) {
            chosen[size] = cycles.get(k);
            if (!hasEmptySum(chosen, size + 1)) {
                findBases(chosen, size + 1, k + 1);
            }
        }
    }

    private static boolean hasEmptySum(int[] chosen, int size) {
        for (int some = 1; some < 1 << size; some++) {
            int sum = 0;
            for (int i = 0; i < size; i++) {
                sum ^= (some >> i & 1) != 0 ? chosen[i] : 0;
            }
            if (sum == 0) {
                return true;
            }
        }
        return false;
    }

    private void keepIfLightest(int[] chosen) {
        long[] basis = new long[dimension];
        for (int i = 0; i < dimension; i++) {
            basis[i] = chosen[i];
        }
        if (!lightestBases.isEmpty()) {
            long best = total(lightestBases.get(0));
            if (total(basis) > best) {
                return;
            }
            if (total(basis) < best) {
                lightestBases.clear();
            }
        }
        lightestBases.add(basis);
    }

    private long total(long[] basis) {
        long sum = 0;
        for (long set : basis) {
            sum += weight((int) set);
        }
        return sum;
    }

    long forests(int set) {
        long count = 0;
        for (int forest : forests) {
            count += (set & ~forest) == 0 ? 1 : 0;
        }
        return count;
    }

    long lightest(int set) {
        long best = -1;
        for (int forest : forests) {
            if ((set & ~forest) == 0 && (best < 0 || weight(forest) < best)) {
                best = weight(forest);
            }
        }
        return best;
    }

    int isCycle(int set) {
        if (!cycles.contains(set)) {
            return 0;
        }
        for (int cycle : cycles) {
            if (cycle != 0 && cycle != set && (cycle & ~set) == 0) {
                return 1;
            }
        }
        return set == 0 ? 1 : 2;
    }

    long through(int e) {
        long best = -1;
        for (int cycle : cycles) {
            if ((cycle >> e & 1) != 0 && (best < 0 || weight(cycle) < best)) {
                best = weight(cycle);
            }
        }
        return best;
    }

    long[] basisWeights() {
        long[] weights = lightestBases.get(0).clone();
        for (int i = 0; i < weights.length; i++) {
            weights[i] = weight((int) weights[i]);
        }
        java.util.Arrays.sort(weights);
        return weights;
    }

    boolean belongs(int set) {
        for (long[] basis : lightestBases) {
            for (long cycle : basis) {
                if (cycle == set) {
                    return true;
                }
            }
        }
        return false;
    }

    int simpleCycles() {
        int count = 0;
        for (int cycle : cycles) {
            count += isCycle(cycle) == 2 ? 1 : 0;
        }
        return count;
    }

    int light(long w) {
        int count = 0;
        for (int cycle : cycles) {
            count += weight(cycle) <= w ? 1 : 0;
        }
        return count;
    }

    int edgesInNoCycle() {
        int count = 0;
        for (int e = 0; e < edges.length; e++) {
            count += through(e) < 0 ? 1 : 0;
        }
        return count;
    }

    int noOddCycle() {
        for (int cycle : cycles) {
            if (Integer.bitCount(cycle) % 2 != 0) {
                return 0;
            }
        }
        return 1;
    }

    /** How many sets hang together among the vertices but one (none left out: -1). */
    int groups(int without) {
        boolean[] seen = new boolean[n];
        int count = 0;
        for (int v = 0; v < n; v++) {
            if (v != without && !seen[v]) {
                count++;
                visit(v, without, seen);
            }
        }
        return count;
    }

    private void visit(int v, int without, boolean[] seen) {
        seen[v] = true;
        for (int[] e : edges) {
            for (int side = 0; side < 2; side++) {
                int other = e[1 - side];
                if (e[side] == v && other != without && !seen[other]) {
                    visit(other, without, seen);
                }
            }
        }
    }

    int cuttingVertices() {
        int count = 0;
        for (int v = 0; v < n; v++) {
            count += groups(v) > groups(-1) ? 1 : 0;
        }
        return count;
    }
}
