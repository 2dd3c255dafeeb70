import java.util.NoSuchElementException;

/** Promises 1 to 4: a new object, reset, edge, drop. A method for each sentence's edge cases. */
public final class GraphTest {
    private static final Due due = new Due();
    private static final Class<IllegalArgumentException> ARGUMENT = IllegalArgumentException.class;
    private static final Class<IllegalStateException> STATE = IllegalStateException.class;
    private static final Class<NoSuchElementException> ELEMENT = NoSuchElementException.class;
    private static final int LEAST = Integer.MIN_VALUE;
    private static final int GREATEST = Integer.MAX_VALUE;

    public static void main(String[] args) {
        newVertex();
        newWithoutEdges();
        newList();
        newBesideAnother();
        resetTells();
        resetLeavesNoEdge();
        resetLeavesTheList();
        resetRefuses();
        edgeTells();
        edgeRefusesVertices();
        edgeRefusesWeights();
        edgeNeverReaches40();
        edgeRefusesDimension();
        edgeThatClosesNothing();
        dropTells();
        dropTakesTheLast();
        dropRefuses();
        due.finish();
    }

    private static void newVertex() {
        due.sentence("CycleHouse(): One vertex");
        CycleHouse house = new CycleHouse();
        due.same("look(0)", house.look(0), 1);
        due.same("look(2)", house.look(2), 1);
        due.same("look(8)", house.look(8), 0);
        due.refuses("edge(0, 1, 0)", ARGUMENT, () -> house.edge(0, 1, 0));
        due.refuses("edge(1, 0, 0)", ARGUMENT, () -> house.edge(1, 0, 0));
        due.same("edge(0, 0, 0)", house.edge(0, 0, 0), 0);
    }

    private static void newWithoutEdges() {
        due.sentence("CycleHouse(): no edges");
        CycleHouse house = new CycleHouse();
        due.same("look(1)", house.look(1), 0);
        due.same("look(3)", house.look(3), 0);
        due.same("look(4)", house.look(4), 0);
        due.same("look(5)", house.look(5), 1);
        due.same("forests(0)", house.forests(0), 1);
        due.same("lightest(0)", house.lightest(0), 0);
        due.same("isCycle(0)", house.isCycle(0), 1);
        due.no("belongs(0)", house.belongs(0));
        due.same("cycles()", house.cycles(), 0);
        due.same("light(0)", house.light(0), 1);
        due.same("light(-1)", house.light(-1), 0);
        due.refuses("drop()", STATE, house::drop);
        due.refuses("through(0)", ELEMENT, () -> house.through(0));
        due.refuses("basis(0)", ELEMENT, () -> house.basis(0));
        due.refuses("isCycle(1)", ARGUMENT, () -> house.isCycle(1));
        due.same("reset(1)", house.reset(1), 0);
    }

    private static void newList() {
        due.sentence("CycleHouse(): an empty list");
        CycleHouse house = new CycleHouse();
        due.same("look(6)", house.look(6), 0);
        due.same("look(7)", house.look(7), 0);
        due.yes("spans(0)", house.spans(0));
        for (int bit = 0; bit < 40; bit++) {
            due.no("spans of bit " + bit, house.spans(1L << bit));
        }
        due.same("clear()", house.clear(), 0);
        due.same("add(0)", house.add(0), 1);
    }

    private static void newBesideAnother() {
        due.sentence("CycleHouse(): One vertex, no edges, an empty list (beside a full one)");
        CycleHouse full = Houses.of(16, Houses.firstOf29(29));
        for (int k = 0; k < 64; k++) {
            full.add(1L << k % 40);
        }
        String untouched = Houses.seen(full);
        CycleHouse house = new CycleHouse();
        due.yes("a new one is new", Houses.seen(house).equals(Houses.seen(new CycleHouse())));
        house.add(7);
        house.clear();
        house.reset(2);
        house.edge(0, 1, 5);
        due.yes("the full one is as before", untouched.equals(Houses.seen(full)));
    }

    private static void resetTells() {
        due.sentence("reset: how many the old one had");
        CycleHouse house = new CycleHouse();
        due.same("of a new object", house.reset(16), 0);
        due.same("of a graph without edges", house.reset(16), 0);
        for (int m = 0; m <= 29; m++) {
            due.same("of " + m, Houses.of(16, Houses.firstOf29(m)).reset(1), m);
        }
        Houses.fill(house, 16, Houses.firstOf29(29));
        house.drop();
        due.same("after a drop", house.reset(3), 28);
        due.same("at once again", house.reset(3), 0);
    }

    private static void resetLeavesNoEdge() {
        due.sentence("reset: A new graph without edges");
        CycleHouse house = Houses.of(16, Houses.firstOf29(29));
        house.reset(5);
        int[] looks = {5, 0, 5, 0, 0, 1, 0, 0, 0};
        for (int what = 0; what < looks.length; what++) {
            due.same("look(" + what + ")", house.look(what), looks[what]);
        }
        due.same("cycles()", house.cycles(), 0);
        due.same("forests(0)", house.forests(0), 1);
        due.same("light", house.light(Long.MAX_VALUE), 1);
        due.refuses("drop()", STATE, house::drop);
        due.refuses("a vertex of the old graph", ARGUMENT, () -> house.edge(5, 0, 1));
        due.same("the first edge", house.edge(4, 4, 3), 0);
        due.same("its cycle", house.through(0), 3);
        due.same("look(2) with it", house.look(2), 5);
        house.reset(5);
        for (int e = 0; e < 14; e++) {
            due.same("room for edge " + e, house.edge(0, 0, 1), e);
        }
    }

    private static void resetLeavesTheList() {
        due.sentence("reset: (The list stays.)");
        CycleHouse house = Houses.of(16, Houses.firstOf29(29));
        for (int k = 0; k < 64; k++) {
            house.add(3L << k % 39);
        }
        house.reset(1);
        due.same("look(6)", house.look(6), 64);
        due.same("look(7)", house.look(7), 39);
        due.yes("spans of two", house.spans(1L << 39 | 1));
        due.no("spans of one", house.spans(1));
        due.refuses("it is still full", STATE, () -> house.add(0));
        due.same("clear()", house.clear(), 64);
    }

    private static void resetRefuses() {
        due.sentence("reset: Throws IllegalArgumentException when n is not 1 .. 16");
        CycleHouse house = new CycleHouse();
        for (int n = 1; n <= 16; n++) {
            int vertices = n;
            due.accepts("reset(" + n + ")", () -> house.reset(vertices));
            due.same("look(0) after reset(" + n + ")", house.look(0), n);
            due.same("its last vertex", house.edge(n - 1, n - 1, 1), 0);
            due.refuses("none behind it", ARGUMENT, () -> house.edge(vertices, vertices, 1));
        }
        for (int n : new int[] {0, -1, -16, LEAST, 17, 18, 32, 1 << 16 | 1, GREATEST}) {
            due.refuses("reset(" + n + ")", ARGUMENT, () -> house.reset(n));
        }
        due.same("look(0) after all that", house.look(0), 16);
        due.same("look(1) after all that", house.look(1), 1);
    }

    private static void edgeTells() {
        due.sentence("edge: One edge more: its number");
        CycleHouse house = new CycleHouse();
        house.reset(16);
        int[][] edges = Houses.firstOf29(29);
        for (int e = 0; e < 29; e++) {
            due.same("edge " + e, house.edge(edges[e][0], edges[e][1], edges[e][2]), e);
            due.same("look(1) with it", house.look(1), e + 1);
        }
        house.drop();
        house.drop();
        due.same("after two drops", house.edge(0, 1, 1), 27);
        house.reset(2);
        due.same("after reset", house.edge(1, 0, 1), 0);
        due.same("the same again", house.edge(1, 0, 1), 1);
        due.same("a loop", house.edge(1, 1, 1), 2);
    }

    private static void edgeRefusesVertices() {
        due.sentence("edge: Throws IllegalArgumentException when there is no such vertex");
        for (int n = 1; n <= 16; n++) {
            CycleHouse house = Houses.of(n);
            for (int wrong : new int[] {n, n + 1, 16, 17, 32, -1, -n, LEAST, GREATEST}) {
                due.refuses("edge(" + wrong + ", 0) of " + n, ARGUMENT,
                    () -> house.edge(wrong, 0, 1));
                due.refuses("edge(0, " + wrong + ") of " + n, ARGUMENT,
                    () -> house.edge(0, wrong, 1));
                due.refuses("edge(" + wrong + ", " + wrong + ") of " + n, ARGUMENT,
                    () -> house.edge(wrong, wrong, 1));
            }
            due.same("look(1) after those", house.look(1), 0);
            due.same("the outermost ones are there", house.edge(0, n - 1, 1), 0);
            due.same("and the other way round", house.edge(n - 1, 0, 1), 1);
        }
    }

    private static void edgeRefusesWeights() {
        due.sentence("edge: Throws IllegalArgumentException when the weight is not as told"
            + " (0 .. 1000000000)");
        CycleHouse house = Houses.of(2);
        for (int w : new int[] {-1, -1000000000, LEAST, 1000000001, GREATEST}) {
            due.refuses("weight " + w, ARGUMENT, () -> house.edge(0, 1, w));
        }
        due.same("weight 0", house.edge(0, 1, 0), 0);
        due.same("weight 1", house.edge(0, 1, 1), 1);
        due.same("weight 999999999", house.edge(0, 1, 999999999), 2);
        due.same("weight 1000000000", house.edge(0, 1, 1000000000), 3);
        due.same("the heaviest with the lightest", house.through(3), 1000000000L);
    }

    /** The document says itself that 40 edges cannot be: the dimension ends it at 29 and before. */
    private static void edgeNeverReaches40() {
        due.sentence("edge: IllegalStateException when there are 40 (no more than 29 can be)");
        for (int n = 1; n <= 16; n++) {
            CycleHouse house = Houses.of(n, Houses.both(Houses.path(n, 1), Houses.loops(0, 14, 1)));
            due.same("look(1) of " + n + " vertices", house.look(1), n + 13);
            for (int a = 0; a < n; a++) {
                for (int b = 0; b < n; b++) {
                    int from = a;
                    int to = b;
                    due.refuses("edge(" + a + ", " + b + ") more", STATE,
                        () -> house.edge(from, to, 1));
                }
            }
            due.same("look(1) after those", house.look(1), n + 13);
        }
    }

    private static void edgeRefusesDimension() {
        due.sentence("edge: IllegalStateException when the dimension would be above 14");
        int[][] thirteen = Houses.loops(3, 13, 1);
        CycleHouse house = Houses.of(6, Houses.both(thirteen,
            new int[][] {{0, 1, 1}, {1, 2, 1}, {4, 5, 1}}));
        due.same("look(3)", house.look(3), 13);
        due.same("the fourteenth", house.edge(5, 4, 1), 16);
        due.same("look(3) with it", house.look(3), 14);
        due.refuses("a loop where loops are", STATE, () -> house.edge(3, 3, 1));
        due.refuses("a loop elsewhere", STATE, () -> house.edge(0, 0, 1));
        due.refuses("one beside another", STATE, () -> house.edge(1, 0, 1));
        due.refuses("a third beside two", STATE, () -> house.edge(4, 5, 1));
        due.refuses("one that closes three", STATE, () -> house.edge(2, 0, 1));
        due.same("look(3) after those", house.look(3), 14);
        due.same("look(1) after those", house.look(1), 17);
        house.drop();
        due.same("there is room after drop", house.edge(2, 0, 1), 16);
        due.refuses("and none again", STATE, () -> house.edge(2, 0, 1));
    }

    private static void edgeThatClosesNothing() {
        due.sentence("edge: (not above 14: an edge that closes no cycle)");
        CycleHouse house = Houses.of(16, Houses.loops(15, 14, 1));
        for (int v = 0; v < 15; v++) {
            due.same("edge to " + v, house.edge(v + 1, v, 1), 14 + v);
            due.same("look(3) with it", house.look(3), 14);
        }
        due.same("look(2)", house.look(2), 1);
    }

    private static void dropTells() {
        due.sentence("drop: The last edge goes: its number");
        CycleHouse house = Houses.of(16, Houses.firstOf29(29));
        for (int e = 28; e >= 0; e--) {
            due.same("drop() of " + e, house.drop(), e);
            due.same("look(1) then", house.look(1), e);
            due.same("look(3) then", house.look(3), e < 15 ? 0 : e - 15);
        }
        due.same("look(0) stays", house.look(0), 16);
        due.same("edge in its place", house.edge(2, 2, 9), 0);
        due.same("through(0)", house.through(0), 9);
        due.same("drop() again", house.drop(), 0);
    }

    private static void dropTakesTheLast() {
        due.sentence("drop: The last edge goes (and no other one)");
        CycleHouse house = Houses.of(3, new int[][] {{0, 1, 5}, {1, 2, 6}, {2, 0, 7}});
        house.drop();
        due.same("lightest(0)", house.lightest(0), 11);
        due.same("look(2)", house.look(2), 1);
        due.refuses("its bit is gone", ARGUMENT, () -> house.isCycle(4));
        due.refuses("its number is gone", ELEMENT, () -> house.through(2));
        house.drop();
        due.same("lightest(0) of the first", house.lightest(0), 5);
        due.same("look(2) of the first", house.look(2), 2);
    }

    private static void dropRefuses() {
        due.sentence("drop: Throws IllegalStateException when there is none");
        CycleHouse house = new CycleHouse();
        due.refuses("of a new object", STATE, house::drop);
        house.edge(0, 0, 1);
        due.accepts("of one edge", house::drop);
        due.refuses("of none left", STATE, house::drop);
        due.refuses("once more", STATE, house::drop);
        due.same("look(1)", house.look(1), 0);
        due.same("the first edge is 0 still", house.edge(0, 0, 1), 0);
        house.reset(16);
        due.refuses("after reset", STATE, house::drop);
    }
}
