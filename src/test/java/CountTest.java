/** Promises 11 and 12: cycles, light. A method for each sentence's edge cases. */
public final class CountTest {
    private static final Due due = new Due();

    public static void main(String[] args) {
        knownCounts();
        noSimpleCycle();
        countsOfLoopsAndPairs();
        countsAfterChanges();
        lightOnes();
        lightBelowNothing();
        lightOfTheEmptyOne();
        lightNotAbove();
        lightOfAll();
        lightBeyondInt();
        lightAfterChanges();
        due.finish();
    }

    private static void knownCounts() {
        due.sentence("cycles: How many simple cycles there are");
        due.same("bow tie", Houses.bowTie().cycles(), 4);
        due.same("complete graph of 6", Houses.of(6, Houses.complete(6)).cycles(), 197);
        due.same("Petersen's graph", Houses.of(10, Houses.petersen()).cycles(), 57);
        // Of a wheel with n spokes: n * n - n + 1.
        due.same("wheel of 14", Houses.of(15, Houses.wheel(14)).cycles(), 183);
        for (int n = 1; n <= 16; n++) {
            due.same("ring of " + n, Houses.of(n, Houses.ring(n, 0)).cycles(), 1);
        }
    }

    private static void noSimpleCycle() {
        due.sentence("cycles: (none, for the empty one is not simple)");
        due.same("no edge", new CycleHouse().cycles(), 0);
        due.same("16 vertices without edges", Houses.of(16).cycles(), 0);
        due.same("a tree", Houses.of(16, Houses.path(16, 0)).cycles(), 0);
    }

    private static void countsOfLoopsAndPairs() {
        due.sentence("cycles: (maybe the same one, maybe as another one)");
        for (int k = 1; k <= 14; k++) {
            due.same(k + " loops", Houses.of(2, Houses.loops(1, k, 0)).cycles(), k);
            due.same(k + 1 + " beside", Houses.of(2, Houses.same(k + 1, 1, 0, 0)).cycles(),
                k * (k + 1) / 2);
        }
        due.same("a triangle of pairs",
            Houses.of(3, Houses.both(Houses.ring(3, 1), Houses.ring(3, 1))).cycles(), 11);
        // 13 pairs in a ring: each pair, and one edge of each.
        due.same("a ring of 13 pairs",
            Houses.of(13, Houses.both(Houses.ring(13, 1), Houses.ring(13, 1))).cycles(), 13 + 8192);
    }

    private static void countsAfterChanges() {
        due.sentence("cycles: (of the graph as it is now)");
        CycleHouse house = Houses.bowTie();
        house.drop();
        due.same("after drop", house.cycles(), 3);
        house.edge(0, 3, 1);
        // The two triangles, the pair, and two ways times two ways that the new edge closes.
        due.same("after edge", house.cycles(), 3 + 4);
        house.reset(7);
        due.same("after reset", house.cycles(), 0);
    }

    private static void lightOnes() {
        due.sentence("light: How many cycles have a weight not above w");
        CycleHouse house = Houses.bowTie();
        long[][] rows = {{5, 1}, {6, 2}, {8, 2}, {9, 3}, {14, 3}, {15, 6}, {20, 6}, {21, 8},
            {23, 8}, {24, 10}, {44, 15}, {45, 16}};
        for (long[] row : rows) {
            due.same("light(" + row[0] + ")", house.light(row[0]), row[1]);
        }
    }

    private static void lightBelowNothing() {
        due.sentence("light: (w below 0: none)");
        CycleHouse loops = Houses.of(1, Houses.loops(0, 14, 0));
        for (long w : new long[] {-1, -1L << 32, Integer.MIN_VALUE, Long.MIN_VALUE}) {
            due.same("no edge: light(" + w + ")", new CycleHouse().light(w), 0);
            due.same("bow tie: light(" + w + ")", Houses.bowTie().light(w), 0);
            due.same("without weight: light(" + w + ")", loops.light(w), 0);
        }
    }

    private static void lightOfTheEmptyOne() {
        due.sentence("light: (the empty one, too)");
        due.same("no edge", new CycleHouse().light(0), 1);
        due.same("no edge, any w", new CycleHouse().light(Long.MAX_VALUE), 1);
        due.same("a tree", Houses.of(16, Houses.path(16, 0)).light(0), 1);
        due.same("a bow tie", Houses.bowTie().light(0), 1);
        due.same("a ring of weight 1", Houses.of(1, Houses.loops(0, 1, 1)).light(0), 1);
        due.same("a ring of weight 0", Houses.of(1, Houses.loops(0, 1, 0)).light(0), 2);
    }

    private static void lightNotAbove() {
        due.sentence("light: not above w (w itself, too)");
        for (int d = 1; d <= 14; d++) {
            CycleHouse house = Houses.of(1, Houses.loops(0, d, 3));
            due.same("one loop of " + d, house.light(3), 1 + d);
            due.same("just below one loop of " + d, house.light(2), 1);
            due.same("all of " + d, house.light(3L * d), 1 << d);
            due.same("just below all of " + d, house.light(3L * d - 1), (1 << d) - 1);
        }
    }

    private static void lightOfAll() {
        due.sentence("its DIMENSION d is 14 at most (16384 cycles)");
        int[][][] graphs = {Houses.loops(0, 14, 0), Houses.same(15, 0, 1, 1000000000),
            Houses.firstOf29(29), Houses.wheel(14)};
        for (int[][] graph : graphs) {
            due.same("of " + graph.length + " edges",
                Houses.of(16, graph).light(Long.MAX_VALUE), 1 << 14);
        }
    }

    private static void lightBeyondInt() {
        due.sentence("light: (weights beyond int)");
        CycleHouse house = Houses.of(16, Houses.both(Houses.ring(16, Houses.HEAVIEST),
            Houses.loops(7, 13, Houses.HEAVIEST)));
        due.same("two loops", house.light(2000000000L), 1 + 13 + 78);
        due.same("three loops", house.light(3000000000L), 1 + 13 + 78 + 286);
        due.same("just below the ring", house.light(15999999999L), 1 << 13);
        due.same("the ring", house.light(16000000000L), (1 << 13) + 1);
        due.same("all but the heaviest", house.light(28999999999L), (1 << 14) - 1);
        due.same("all", house.light(29000000000L), 1 << 14);
    }

    private static void lightAfterChanges() {
        due.sentence("light: (of the graph as it is now)");
        due.same("a triangle after drop", Houses.openedTriangle().light(Long.MAX_VALUE), 1);
        CycleHouse house = Houses.bowTie();
        house.drop();
        due.same("a bow tie after drop", house.light(45), 8);
        house.edge(0, 3, 1);
        due.same("after edge", house.light(Long.MAX_VALUE), 16);
        house.reset(7);
        due.same("after reset", house.light(Long.MAX_VALUE), 1);
    }
}
