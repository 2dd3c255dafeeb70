import java.util.NoSuchElementException;

/** Promises 7 to 12: isCycle, through, basis, belongs, cycles, light. */
public final class CycleTest {
    private static final Due due = new Due();

    public static void main(String[] args) {
        kindsOfSets();
        throughEdges();
        bases();
        belonging();
        belongingWithoutWeight();
        counts();
        lightOnes();
        greatestWeights();
        wrongArguments();
        due.finish();
    }

    /** Two triangles that share vertex 2, a pair beside, and a loop on vertex 0. */
    private static CycleHouse bowTie() {
        return Houses.of(7, new int[][] {{0, 1, 1}, {1, 2, 2}, {2, 0, 3}, {2, 3, 4}, {3, 4, 5},
            {4, 2, 6}, {5, 6, 7}, {6, 5, 8}, {0, 0, 9}});
    }

    private static void kindsOfSets() {
        CycleHouse house = bowTie();
        due.same("empty", house.isCycle(0), 1);
        due.same("triangle", house.isCycle(0b111), 2);
        due.same("both triangles, a vertex in common", house.isCycle(0b111111), 1);
        due.same("path", house.isCycle(0b11), 0);
        due.same("one edge", house.isCycle(0b1), 0);
        due.same("pair", house.isCycle(0b011000000), 2);
        due.same("pair and triangle apart", house.isCycle(0b011000111), 1);
        due.same("loop", house.isCycle(0b100000000), 2);
        due.same("loop and triangle", house.isCycle(0b100000111), 1);
        due.same("loop and one edge", house.isCycle(0b100000001), 0);
        due.same("all", house.isCycle(0b111111111), 1);
        due.same("empty without edges", new CycleHouse().isCycle(0), 1);
    }

    private static void throughEdges() {
        CycleHouse house = bowTie();
        long[] want = {6, 6, 6, 15, 15, 15, 15, 15, 9};
        for (int e = 0; e < want.length; e++) {
            due.same("through(" + e + ")", house.through(e), want[e]);
        }
        house.drop();
        house.drop();
        due.same("through of a bridge", house.through(6), -1);
        house.edge(0, 3, 0);
        due.same("through of a weightless chord", house.through(7), 7);
        due.same("through(4)", house.through(4), 14);
    }

    private static void bases() {
        CycleHouse house = bowTie();
        long[] want = {6, 9, 15, 15};
        for (int i = 0; i < want.length; i++) {
            due.same("basis(" + i + ")", house.basis(i), want[i]);
        }
        due.refuses("basis(4)", NoSuchElementException.class, () -> house.basis(4));
        CycleHouse complete = Houses.of(6, Houses.complete(6));
        due.same("complete: basis(0)", complete.basis(0), 3);
        due.same("complete: basis(9)", complete.basis(9), 3);
        due.refuses("complete: basis(10)", NoSuchElementException.class, () -> complete.basis(10));
        CycleHouse petersen = Houses.of(10, Houses.petersen());
        due.same("Petersen: basis(5)", petersen.basis(5), 5);
        CycleHouse weightless = Houses.of(1, new int[][] {{0, 0, 0}, {0, 0, 3}, {0, 0, 0}});
        due.same("loops: basis(0)", weightless.basis(0), 0);
        due.same("loops: basis(1)", weightless.basis(1), 0);
        due.same("loops: basis(2)", weightless.basis(2), 3);
    }

    private static void belonging() {
        CycleHouse house = bowTie();
        due.yes("triangle", house.belongs(0b111));
        due.yes("loop", house.belongs(0b100000000));
        due.no("loop and triangle", house.belongs(0b100000111));
        due.no("empty", house.belongs(0));
        due.no("no cycle", house.belongs(0b1));
        due.no("both triangles", house.belongs(0b111111));
        due.no("nothing without edges", new CycleHouse().belongs(0));
        // A square with both chords: of equal weight all triangles belong, no square does.
        CycleHouse square = Houses.of(4, Houses.complete(4));
        int triangles = 0;
        int others = 0;
        for (long set = 0; set < 64; set++) {
            if (square.belongs(set) && Long.bitCount(set) == 3) {
                triangles++;
            } else if (square.belongs(set)) {
                others++;
            }
        }
        due.same("triangles that belong", triangles, 4);
        due.same("others that belong", others, 0);
    }

    /** With rings of weight 0 a cycle that is not simple can be in a lightest basis. */
    private static void belongingWithoutWeight() {
        CycleHouse house = Houses.of(2, new int[][] {{0, 0, 0}, {1, 1, 5}, {1, 1, 0}});
        due.yes("weightless", house.belongs(0b001));
        due.yes("both weightless", house.belongs(0b101));
        due.yes("weight 5", house.belongs(0b010));
        due.yes("weight 5 and a weightless", house.belongs(0b011));
        due.yes("all three", house.belongs(0b111));
        due.no("empty", house.belongs(0));
        house.edge(0, 0, 5);
        due.no("twice 5", house.belongs(0b1010));
    }

    private static void counts() {
        due.same("bow tie", bowTie().cycles(), 4);
        due.same("complete graph of 6", Houses.of(6, Houses.complete(6)).cycles(), 197);
        due.same("Petersen's graph", Houses.of(10, Houses.petersen()).cycles(), 57);
        // Of a wheel with n spokes: n * n - n + 1.
        due.same("wheel of 14", Houses.of(15, Houses.wheel(14)).cycles(), 183);
        due.same("no edge", new CycleHouse().cycles(), 0);
        CycleHouse beside = new CycleHouse();
        beside.reset(2);
        for (int e = 0; e < 15; e++) {
            beside.edge(e % 2, 1 - e % 2, e);
        }
        due.same("fifteen beside", beside.cycles(), 105);
        CycleHouse loops = new CycleHouse();
        for (int e = 0; e < 14; e++) {
            loops.edge(0, 0, e);
        }
        due.same("fourteen loops", loops.cycles(), 14);
        due.same("a triangle of pairs", Houses.of(3, new int[][] {{0, 1, 1}, {1, 2, 1}, {2, 0, 1},
            {0, 1, 1}, {1, 2, 1}, {2, 0, 1}}).cycles(), 11);
    }

    private static void lightOnes() {
        CycleHouse house = bowTie();
        long[][] rows = {{Long.MIN_VALUE, 0}, {-1, 0}, {0, 1}, {5, 1}, {6, 2}, {8, 2}, {9, 3},
            {14, 3}, {15, 6}, {44, 15}, {45, 16}, {Long.MAX_VALUE, 16}};
        for (long[] row : rows) {
            due.same("light(" + row[0] + ")", house.light(row[0]), row[1]);
        }
        CycleHouse loops = new CycleHouse();
        for (int e = 0; e < 14; e++) {
            loops.edge(0, 0, 0);
        }
        due.same("weightless: light(0)", loops.light(0), 1 << 14);
        due.same("weightless: light(-1)", loops.light(-1), 0);
        due.same("no edge: light(0)", new CycleHouse().light(0), 1);
    }

    private static void greatestWeights() {
        int[][] ring = new int[29][];
        for (int i = 0; i < 29; i++) {
            ring[i] = i < 16 ? new int[] {i, (i + 1) % 16, 1000000000}
                : new int[] {i - 16, i - 16, 1000000000};
        }
        CycleHouse house = Houses.of(16, ring);
        due.same("through(0)", house.through(0), 16000000000L);
        due.same("basis(12)", house.basis(12), 1000000000L);
        due.same("basis(13)", house.basis(13), 16000000000L);
        due.same("all but the heaviest", house.light(28999999999L), (1 << 14) - 1);
        due.same("all", house.light(29000000000L), 1 << 14);
        due.yes("the ring belongs", house.belongs((1L << 16) - 1));
        due.no("the ring with a loop does not", house.belongs((1L << 17) - 1));
    }

    private static void wrongArguments() {
        CycleHouse house = bowTie();
        for (long set : new long[] {1L << 9, 0b1000000111, 1L << 40, Long.MIN_VALUE, -1}) {
            due.refuses("isCycle(" + set + ")", IllegalArgumentException.class,
                () -> house.isCycle(set));
            due.refuses("belongs(" + set + ")", IllegalArgumentException.class,
                () -> house.belongs(set));
        }
        for (int e : new int[] {-1, 9, 40, Integer.MIN_VALUE, Integer.MAX_VALUE}) {
            due.refuses("through(" + e + ")", NoSuchElementException.class, () -> house.through(e));
            due.refuses("basis(" + e + ")", NoSuchElementException.class, () -> house.basis(e));
        }
        CycleHouse path = Houses.of(2, new int[][] {{0, 1, 1}});
        due.refuses("basis(0) of no cycle", NoSuchElementException.class, () -> path.basis(0));
    }
}
