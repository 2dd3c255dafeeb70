import java.util.NoSuchElementException;

/** Promises 7 and 8: isCycle, through. A method for each sentence's edge cases. */
public final class CycleTest {
    private static final Due due = new Due();

    public static void main(String[] args) {
        noCycles();
        emptyCycle();
        cyclesThatAreNotSimple();
        simpleCycles();
        loopsHaveTwoEnds();
        isCycleRefuses();
        throughEdges();
        throughWithoutOne();
        throughOfNoWeight();
        throughBeyondInt();
        throughRefuses();
        due.finish();
    }

    private static void noCycles() {
        due.sentence("isCycle: 0 a set is no cycle");
        CycleHouse house = Houses.bowTie();
        due.same("one edge", house.isCycle(0b1), 0);
        due.same("path", house.isCycle(0b11), 0);
        due.same("triangle with an edge more", house.isCycle(0b1111), 0);
        due.same("triangle and an edge apart", house.isCycle(0b001000111), 0);
        due.same("loop and one edge", house.isCycle(0b100000001), 0);
        CycleHouse thick = Houses.of(2, Houses.same(15, 1, 0, 1));
        due.same("fifteen beside", thick.isCycle(Sets.below(15)), 0);
        due.same("three beside", thick.isCycle(0b111), 0);
        CycleHouse greatest = Houses.of(16, Houses.firstOf29(29));
        due.same("all of the greatest", greatest.isCycle(Sets.below(29)), 0);
        for (int e = 0; e < 29; e++) {
            due.same("edge " + e + " of the greatest", greatest.isCycle(1L << e), 0);
        }
    }

    private static void emptyCycle() {
        due.sentence("the EMPTY set is one; SIMPLE if it is not empty");
        due.same("without edges", new CycleHouse().isCycle(0), 1);
        due.same("of 16 vertices without edges", Houses.of(16).isCycle(0), 1);
        due.same("of a tree", Houses.of(16, Houses.path(16, 1)).isCycle(0), 1);
        due.same("of a bow tie", Houses.bowTie().isCycle(0), 1);
    }

    private static void cyclesThatAreNotSimple() {
        due.sentence("isCycle: 1 it is one");
        CycleHouse house = Houses.bowTie();
        due.same("both triangles, a vertex in common", house.isCycle(0b111111), 1);
        due.same("pair and triangle apart", house.isCycle(0b011000111), 1);
        due.same("loop and triangle", house.isCycle(0b100000111), 1);
        due.same("all", house.isCycle(0b111111111), 1);
        CycleHouse thick = Houses.of(2, Houses.same(4, 0, 1, 1));
        due.same("four beside", thick.isCycle(0b1111), 1);
        due.same("two loops", Houses.of(1, Houses.loops(0, 2, 0)).isCycle(0b11), 1);
    }

    private static void simpleCycles() {
        due.sentence("isCycle: 2 a simple one");
        CycleHouse house = Houses.bowTie();
        due.same("triangle", house.isCycle(0b111), 2);
        due.same("the other triangle", house.isCycle(0b111000), 2);
        due.same("pair", house.isCycle(0b011000000), 2);
        due.same("loop", house.isCycle(0b100000000), 2);
        for (int n = 1; n <= 16; n++) {
            CycleHouse ring = Houses.of(n, Houses.ring(n, 0));
            due.same("a ring of " + n, ring.isCycle(Sets.below(n)), 2);
        }
        // A chord does not lie within the ring, so that the ring stays simple.
        CycleHouse chord = Houses.of(4, Houses.both(Houses.ring(4, 9), new int[][] {{0, 2, 0}}));
        due.same("a ring with a chord", chord.isCycle(0b1111), 2);
    }

    private static void loopsHaveTwoEnds() {
        due.sentence("an edge from a vertex to itself has two there");
        for (int v = 0; v < 16; v++) {
            CycleHouse house = Houses.of(16, new int[] {v, v, 1}, new int[] {v, (v + 1) % 16, 1});
            due.same("a loop on " + v, house.isCycle(0b01), 2);
            due.same("with an edge there", house.isCycle(0b11), 0);
            due.same("look(3)", house.look(3), 1);
        }
    }

    private static void isCycleRefuses() {
        due.sentence("isCycle: Throws IllegalArgumentException when it has bits from m on");
        Sets.holdFromMOn(due, "isCycle", CycleHouse::isCycle);
    }

    private static void throughEdges() {
        due.sentence("through: The least weight of a cycle that has an edge");
        CycleHouse house = Houses.bowTie();
        long[] want = {6, 6, 6, 15, 15, 15, 15, 15, 9};
        for (int e = 0; e < want.length; e++) {
            due.same("through(" + e + ")", house.through(e), want[e]);
        }
        house.edge(0, 3, 0);
        due.same("through a weightless chord", house.through(9), 7);
        due.same("through(4)", house.through(4), 14);
        CycleHouse pair = Houses.of(2, new int[][] {{0, 1, 3}, {1, 0, 4}, {1, 1, 8}});
        due.same("one of a pair", pair.through(0), 7);
        due.same("the other one", pair.through(1), 7);
        due.same("a loop alone", pair.through(2), 8);
    }

    private static void throughWithoutOne() {
        due.sentence("through: -1 without one");
        CycleHouse path = Houses.of(16, Houses.path(16, 0));
        for (int e = 0; e < 15; e++) {
            due.same("edge " + e + " of a row", path.through(e), -1);
        }
        CycleHouse bridge = Houses.of(6, new int[][] {{0, 1, 1}, {1, 2, 1}, {2, 0, 1}, {2, 3, 0},
            {3, 4, 1}, {4, 5, 1}, {5, 3, 1}});
        due.same("a bridge between rings", bridge.through(3), -1);
        due.same("an edge of a ring", bridge.through(2), 3);
        CycleHouse hook = Houses.of(2, new int[][] {{0, 1, 5}, {1, 1, 2}});
        due.same("an edge to a loop", hook.through(0), -1);
    }

    private static void throughOfNoWeight() {
        due.sentence("through: -1 without one (and 0, not -1, with one that weighs nothing)");
        due.same("a loop", Houses.of(1, Houses.loops(0, 1, 0)).through(0), 0);
        CycleHouse ring = Houses.of(16, Houses.ring(16, 0));
        for (int e = 0; e < 16; e++) {
            due.same("edge " + e + " of a ring", ring.through(e), 0);
        }
    }

    private static void throughBeyondInt() {
        due.sentence("its WEIGHT is that of its edges together (of a cycle, beyond int)");
        CycleHouse three = Houses.of(3, Houses.ring(3, Houses.HEAVIEST));
        due.same("a ring of 3", three.through(0), 3000000000L);
        CycleHouse ring = Houses.of(16, Houses.ring(16, Houses.HEAVIEST));
        for (int e = 0; e < 16; e++) {
            due.same("edge " + e + " of a ring of 16", ring.through(e), 16000000000L);
        }
    }

    private static void throughRefuses() {
        due.sentence("through: Throws NoSuchElementException when there is no such edge");
        for (int m = 0; m <= 29; m++) {
            CycleHouse house = Houses.of(16, Houses.firstOf29(m));
            for (int e = 0; e < m; e++) {
                int there = e;
                due.accepts("through(" + e + ") of " + m, () -> house.through(there));
            }
            for (int e : new int[] {m, m + 1, 29, 40, 64, 64 + m - 1, -1, -64, Integer.MIN_VALUE,
                Integer.MAX_VALUE}) {
                due.refuses("through(" + e + ") of " + m, NoSuchElementException.class,
                    () -> house.through(e));
            }
        }
        CycleHouse house = Houses.bowTie();
        house.drop();
        due.refuses("a dropped one", NoSuchElementException.class, () -> house.through(8));
        due.same("the last one left", house.through(7), 15);
        house.reset(7);
        due.refuses("one before reset", NoSuchElementException.class, () -> house.through(0));
    }
}
