/** Promises 1 to 4: a new object, reset, edge, drop. */
public final class GraphTest {
    private static final Due due = new Due();
    private static final Class<IllegalArgumentException> ARGUMENT = IllegalArgumentException.class;
    private static final Class<IllegalStateException> STATE = IllegalStateException.class;

    public static void main(String[] args) {
        newObject();
        resets();
        edges();
        weights();
        dimension();
        mostEdges();
        drops();
        throwsChangeNothing();
        due.finish();
    }

    private static void newObject() {
        CycleHouse house = new CycleHouse();
        int[] looks = {1, 0, 1, 0, 0, 1, 0, 0, 0};
        for (int what = 0; what < looks.length; what++) {
            due.same("new: look(" + what + ")", house.look(what), looks[what]);
        }
        due.same("new: clear()", house.clear(), 0);
        due.same("new: cycles()", house.cycles(), 0);
        due.same("new: forests(0)", house.forests(0), 1);
        due.yes("new: spans(0)", house.spans(0));
        due.refuses("new: drop()", STATE, house::drop);
        due.refuses("new: edge(0, 1, 0)", ARGUMENT, () -> house.edge(0, 1, 0));
        due.same("new: edge(0, 0, 0)", house.edge(0, 0, 0), 0);
    }

    private static void resets() {
        CycleHouse house = new CycleHouse();
        due.same("first reset(16)", house.reset(16), 0);
        due.same("look(0) after reset(16)", house.look(0), 16);
        house.edge(0, 15, 1);
        house.edge(15, 0, 1);
        house.add(5);
        due.same("reset(1) of two edges", house.reset(1), 2);
        due.same("look(0) after reset(1)", house.look(0), 1);
        due.same("look(1) after reset(1)", house.look(1), 0);
        due.same("the list stays", house.look(6), 1);
        due.yes("the span stays", house.spans(5));
        due.same("reset(1) again", house.reset(1), 0);
        for (int n : new int[] {0, 17, -1, Integer.MIN_VALUE, Integer.MAX_VALUE}) {
            due.refuses("reset(" + n + ")", ARGUMENT, () -> house.reset(n));
        }
    }

    private static void edges() {
        CycleHouse house = new CycleHouse();
        house.reset(3);
        due.same("edge(0, 2, 1)", house.edge(0, 2, 1), 0);
        due.same("edge(2, 0, 1)", house.edge(2, 0, 1), 1);
        due.same("edge(1, 1, 1)", house.edge(1, 1, 1), 2);
        due.same("look(1)", house.look(1), 3);
        int[][] wrong = {{3, 0}, {0, 3}, {-1, 0}, {0, -1}, {16, 16}, {Integer.MAX_VALUE, 0},
            {0, Integer.MIN_VALUE}};
        for (int[] w : wrong) {
            due.refuses("edge(" + w[0] + ", " + w[1] + ", 1)", ARGUMENT,
                () -> house.edge(w[0], w[1], 1));
        }
        due.same("look(1) after wrong edges", house.look(1), 3);
        house.reset(2);
        due.same("the first one after reset", house.edge(0, 1, 1), 0);
    }

    private static void weights() {
        CycleHouse house = new CycleHouse();
        house.reset(2);
        due.same("edge of weight 0", house.edge(0, 1, 0), 0);
        due.same("edge of the greatest weight", house.edge(0, 1, 1000000000), 1);
        due.same("through(0)", house.through(0), 1000000000L);
        for (int w : new int[] {-1, 1000000001, Integer.MIN_VALUE, Integer.MAX_VALUE}) {
            due.refuses("edge(0, 1, " + w + ")", ARGUMENT, () -> house.edge(0, 1, w));
        }
    }

    private static void dimension() {
        CycleHouse house = new CycleHouse();
        house.reset(4);
        for (int e = 0; e < 14; e++) {
            due.same("loop " + e, house.edge(3, 3, e), e);
        }
        due.same("look(3) of 14 loops", house.look(3), 14);
        due.refuses("a loop more", STATE, () -> house.edge(0, 0, 1));
        due.refuses("no such vertex comes first", ARGUMENT, () -> house.edge(4, 4, 1));
        due.refuses("the weight comes first", ARGUMENT, () -> house.edge(0, 0, -1));
        due.same("an edge that closes nothing", house.edge(0, 1, 1), 14);
        due.refuses("one beside it", STATE, () -> house.edge(1, 0, 1));
        due.same("one that joins on", house.edge(2, 1, 1), 15);
        due.refuses("one that closes three", STATE, () -> house.edge(0, 2, 1));
        due.same("look(3)", house.look(3), 14);
        due.same("look(1)", house.look(1), 16);
        house.drop();
        house.drop();
        house.drop();
        due.same("there is room after drop", house.edge(1, 1, 1), 13);
    }

    private static void mostEdges() {
        CycleHouse house = new CycleHouse();
        house.reset(16);
        for (int e = 0; e < 15; e++) {
            house.edge(e, e + 1, 1);
        }
        for (int e = 0; e < 14; e++) {
            due.same("edge " + (15 + e), house.edge(e, e + 2, 1), 15 + e);
        }
        for (int a = 0; a < 16; a++) {
            int v = a;
            due.refuses("no edge fits", STATE, () -> house.edge(v, 15 - v, 1));
        }
        due.same("look(1) of the greatest graph", house.look(1), 29);
    }

    private static void drops() {
        CycleHouse house = Houses.of(3, new int[][] {{0, 1, 5}, {1, 2, 6}, {2, 0, 7}});
        due.same("drop()", house.drop(), 2);
        due.same("look(3) after drop", house.look(3), 0);
        due.refuses("its bit is gone", ARGUMENT, () -> house.isCycle(4));
        due.same("edge in its place", house.edge(2, 2, 9), 2);
        due.same("through(2)", house.through(2), 9);
        due.same("drop() again", house.drop(), 2);
        due.same("drop() of 1", house.drop(), 1);
        due.same("drop() of 0", house.drop(), 0);
        due.same("look(0) stays", house.look(0), 3);
        due.refuses("drop() without edges", STATE, house::drop);
        due.same("look(1)", house.look(1), 0);
    }

    private static void throwsChangeNothing() {
        CycleHouse house = Houses.of(15, Houses.wheel(14));
        for (int k = 0; k < 64; k++) {
            house.add(3L << k % 39);
        }
        String before = Houses.seen(house);
        long beyond = 1L << 28;
        due.refuses("reset(17)", ARGUMENT, () -> house.reset(17));
        due.refuses("edge(15, 0, 1)", ARGUMENT, () -> house.edge(15, 0, 1));
        due.refuses("edge(0, 0, 1)", STATE, () -> house.edge(0, 0, 1));
        due.refuses("forests", ARGUMENT, () -> house.forests(beyond));
        due.refuses("lightest", ARGUMENT, () -> house.lightest(beyond));
        due.refuses("isCycle", ARGUMENT, () -> house.isCycle(beyond));
        due.refuses("belongs", ARGUMENT, () -> house.belongs(beyond));
        due.refuses("add(-1)", ARGUMENT, () -> house.add(-1));
        due.refuses("add(1)", STATE, () -> house.add(1));
        due.refuses("spans(-1)", ARGUMENT, () -> house.spans(-1));
        due.refuses("look(9)", ARGUMENT, () -> house.look(9));
        due.yes("nothing has changed", before.equals(Houses.seen(house)));
        due.yes("nor did looking", before.equals(Houses.seen(house)));
    }
}
