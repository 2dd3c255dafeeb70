/** Promise 16: look. A method for each sentence's edge cases. */
public final class LookTest {
    private static final Due due = new Due();

    public static void main(String[] args) {
        knownGraphs();
        vertices();
        edges();
        groups();
        dimension();
        edgesInNoCycle();
        oddCycles();
        sets();
        rank();
        cuttingVertices();
        refuses();
        due.finish();
    }

    private static void knownGraphs() {
        due.sentence("look");
        looks("one vertex", Houses.of(1), 1, 0, 1, 0, 0, 1, 0);
        looks("vertices alone", Houses.of(16), 16, 0, 16, 0, 0, 1, 0);
        looks("two triangles and a bridge", Houses.of(7, new int[][] {{0, 1, 1}, {1, 2, 1},
            {2, 0, 1}, {2, 3, 1}, {3, 4, 1}, {4, 5, 1}, {5, 3, 1}}), 7, 7, 2, 2, 1, 0, 2);
        looks("a star with a loop in it", Houses.of(5, new int[][] {{4, 0, 1}, {4, 1, 1},
            {2, 4, 1}, {4, 4, 1}}), 5, 4, 2, 1, 3, 0, 1);
        looks("two squares of six", Houses.of(6, new int[][] {{0, 1, 1}, {1, 2, 1}, {2, 3, 1},
            {3, 0, 1}, {2, 4, 1}, {4, 5, 1}, {5, 3, 1}}), 6, 7, 1, 2, 0, 1, 0);
        looks("Petersen", Houses.of(10, Houses.petersen()), 10, 15, 1, 6, 0, 0, 0);
        looks("a wheel", Houses.of(16, Houses.wheel(14)), 16, 28, 2, 14, 0, 0, 0);
        looks("the greatest", Houses.of(16, Houses.firstOf29(29)), 16, 29, 1, 14, 0, 0, 0);
    }

    /** The answers to 0, 1, 2, 3, 4, 5 and 8. */
    private static void looks(String name, CycleHouse house, int... want) {
        int[] whats = {0, 1, 2, 3, 4, 5, 8};
        for (int i = 0; i < whats.length; i++) {
            due.same(name + ": look(" + whats[i] + ")", house.look(whats[i]), want[i]);
        }
    }

    private static void vertices() {
        due.sentence("look: 0 vertices");
        due.same("of a new object", new CycleHouse().look(0), 1);
        for (int n = 1; n <= 16; n++) {
            due.same("of " + n, Houses.of(n).look(0), n);
        }
    }

    private static void edges() {
        due.sentence("look: 1 edges");
        for (int m = 0; m <= 29; m++) {
            due.same("of " + m, Houses.of(16, Houses.firstOf29(m)).look(1), m);
        }
    }

    private static void groups() {
        due.sentence("look: 2 sets of vertices that hang together by edges (one alone, too)");
        for (int n = 1; n <= 16; n++) {
            due.same(n + " alone", Houses.of(n).look(2), n);
            due.same(n + " with loops", Houses.of(n, Houses.loops(n - 1, 3, 1)).look(2), n);
            due.same("a row of " + n, Houses.of(n, Houses.path(n, 1)).look(2), 1);
            due.same("a row of " + n + " in 16", Houses.of(16, Houses.path(n, 1)).look(2), 17 - n);
        }
        int[][] byOthers = {{0, 1, 1}, {2, 3, 1}, {1, 2, 1}};
        due.same("by others", Houses.of(4, byOthers).look(2), 1);
        CycleHouse house = Houses.of(4, new int[][] {{0, 1, 1}, {2, 3, 1}});
        due.same("two pairs", house.look(2), 2);
        house.edge(3, 2, 1);
        due.same("an edge beside another joins nothing", house.look(2), 2);
        house.edge(3, 0, 1);
        due.same("one that joins", house.look(2), 1);
        house.drop();
        due.same("without it again", house.look(2), 2);
    }

    private static void dimension() {
        due.sentence("look: 3 the dimension");
        due.same("of no edges", Houses.of(16).look(3), 0);
        due.same("of a tree", Houses.of(16, Houses.path(16, 1)).look(3), 0);
        for (int d = 1; d <= 14; d++) {
            due.same(d + " loops", Houses.of(1, Houses.loops(0, d, 1)).look(3), d);
            due.same(d + " beside one", Houses.of(2, Houses.same(d + 1, 0, 1, 1)).look(3), d);
            due.same(d + " chords", Houses.of(16, Houses.firstOf29(15 + d)).look(3), d);
        }
        due.same("in several groups", Houses.bowTie().look(3), 4);
    }

    private static void edgesInNoCycle() {
        due.sentence("look: 4 edges that are in no cycle");
        due.same("of no edges", new CycleHouse().look(4), 0);
        for (int n = 1; n <= 16; n++) {
            due.same("a row of " + n, Houses.of(n, Houses.path(n, 0)).look(4), n - 1);
            due.same("a ring of " + n, Houses.of(n, Houses.ring(n, 0)).look(4), 0);
        }
        due.same("a triangle after drop", Houses.openedTriangle().look(4), 2);
        due.same("loops", Houses.of(1, Houses.loops(0, 14, 1)).look(4), 0);
        due.same("a pair", Houses.of(2, Houses.same(2, 0, 1, 0)).look(4), 0);
        due.same("an edge to a loop", Houses.of(2, new int[][] {{0, 1, 1}, {1, 1, 1}}).look(4), 1);
        int[][] row = Houses.path(16, 1);
        due.same("a row with 14 loops",
            Houses.of(16, Houses.both(row, Houses.loops(3, 14, 1))).look(4), 15);
        due.same("a row that half closes",
            Houses.of(16, Houses.both(row, new int[][] {{3, 10, 1}})).look(4), 8);
        // Pairs first, then pairs of pairs: groups of several vertices come together.
        due.same("a ring out of pieces", Houses.of(8, new int[][] {{0, 1, 1}, {2, 3, 1}, {4, 5, 1},
            {6, 7, 1}, {2, 1, 1}, {5, 6, 1}, {3, 4, 1}, {7, 0, 1}}).look(4), 0);
    }

    private static void oddCycles() {
        due.sentence("look: 5 whether no cycle has an odd number of edges (1, 0)");
        due.same("of no edges", new CycleHouse().look(5), 1);
        due.same("a tree", Houses.of(16, Houses.path(16, 1)).look(5), 1);
        for (int n = 1; n <= 16; n++) {
            due.same("a ring of " + n, Houses.of(n, Houses.ring(n, 1)).look(5), n % 2 == 0 ? 1 : 0);
        }
        due.same("a triangle after drop", Houses.openedTriangle().look(5), 1);
        due.same("fifteen beside", Houses.of(2, Houses.same(15, 0, 1, 1)).look(5), 1);
        CycleHouse far = Houses.of(16, Houses.both(Houses.ring(14, 1), new int[][] {{15, 15, 0}}));
        due.same("a loop apart", far.look(5), 0);
        far.drop();
        due.same("without it", far.look(5), 1);
        int[][] triangles = {{0, 1, 1}, {1, 2, 1}, {2, 0, 1}, {2, 3, 1}, {3, 1, 1}};
        due.same("two triangles, a square of both", Houses.of(4, triangles).look(5), 0);
    }

    private static void sets() {
        due.sentence("look: 6 sets of the list");
        CycleHouse house = new CycleHouse();
        for (int k = 0; k < 64; k++) {
            due.same("of " + k, house.look(6), k);
            house.add(k % 2);
        }
        due.same("of a full list", house.look(6), 64);
        house.clear();
        due.same("after clear", house.look(6), 0);
    }

    private static void rank() {
        due.sentence("look: 7 its rank");
        CycleHouse house = new CycleHouse();
        due.same("of none", house.look(7), 0);
        house.add(0);
        due.same("of the empty set", house.look(7), 0);
        house.add(5);
        house.add(5);
        due.same("of the same one twice", house.look(7), 1);
        house.add(6);
        house.add(3);
        due.same("of two and their sum", house.look(7), 2);
        house.clear();
        due.same("after clear", house.look(7), 0);
        for (int k = 39; k >= 0; k--) {
            house.add(1L << k);
        }
        due.same("of all bits", house.look(7), 40);
        house.add(Sets.below(40));
        due.same("it is 40 at most", house.look(7), 40);
    }

    private static void cuttingVertices() {
        due.sentence("look: 8 vertices without which (and without their edges) the other ones make"
            + " more such sets than all made with them");
        for (int n = 1; n <= 16; n++) {
            due.same(n + " alone", Houses.of(n).look(8), 0);
            due.same("a row of " + n, Houses.of(n, Houses.path(n, 1)).look(8), Math.max(n - 2, 0));
            due.same("a ring of " + n, Houses.of(n, Houses.ring(n, 1)).look(8), 0);
            due.same("a ring of " + n + " in 16", Houses.of(16, Houses.ring(n, 1)).look(8), 0);
        }
        due.same("a loop alone", Houses.of(1, Houses.loops(0, 14, 1)).look(8), 0);
        due.same("a pair", Houses.of(2, Houses.same(2, 0, 1, 1)).look(8), 0);
        due.same("a bow tie", Houses.bowTie().look(8), 1);
        due.same("a row with loops at its ends", Houses.of(3, new int[][] {{0, 1, 1}, {1, 2, 1},
            {0, 0, 1}, {2, 2, 1}}).look(8), 1);
        for (int middle = 0; middle < 16; middle++) {
            int[][] star = new int[15][];
            for (int i = 1; i < 16; i++) {
                star[i - 1] = new int[] {middle, (middle + i) % 16, 1};
            }
            due.same("a star around " + middle, Houses.of(16, star).look(8), 1);
        }
    }

    private static void refuses() {
        due.sentence("look: Throws IllegalArgumentException for another what");
        CycleHouse house = new CycleHouse();
        for (int what = 0; what <= 8; what++) {
            int told = what;
            due.accepts("look(" + what + ")", () -> house.look(told));
        }
        for (int what : new int[] {-1, -8, 9, 10, 16, 1 << 8, 1 << 16, Integer.MIN_VALUE,
            Integer.MAX_VALUE}) {
            due.refuses("look(" + what + ")", IllegalArgumentException.class,
                () -> house.look(what));
        }
    }
}
