import java.util.NoSuchElementException;

/** Promises 9 and 10: basis, belongs. A method for each sentence's edge cases. */
public final class BasisTest {
    private static final Due due = new Due();

    public static void main(String[] args) {
        bases();
        greatestBases();
        basisRefuses();
        belonging();
        emptySetBelongsNever();
        setsThatAreNoCycles();
        equalWeights();
        cyclesWithoutWeight();
        belongingBeyondInt();
        belongsRefuses();
        due.finish();
    }

    private static void bases() {
        due.sentence("basis: The i-th least weight of the cycles of a lightest basis, i from 0 on");
        CycleHouse house = Houses.bowTie();
        long[] want = {6, 9, 15, 15};
        for (int i = 0; i < want.length; i++) {
            due.same("bow tie: basis(" + i + ")", house.basis(i), want[i]);
        }
        CycleHouse complete = Houses.of(6, Houses.complete(6));
        CycleHouse petersen = Houses.of(10, Houses.petersen());
        for (int i = 0; i < 10; i++) {
            due.same("complete: basis(" + i + ")", complete.basis(i), 3);
        }
        for (int i = 0; i < 6; i++) {
            due.same("Petersen: basis(" + i + ")", petersen.basis(i), 5);
        }
        CycleHouse loops = Houses.of(1, new int[][] {{0, 0, 0}, {0, 0, 3}, {0, 0, 0}});
        due.same("loops: basis(0)", loops.basis(0), 0);
        due.same("loops: basis(1)", loops.basis(1), 0);
        due.same("loops: basis(2)", loops.basis(2), 3);
    }

    private static void greatestBases() {
        due.sentence("basis: (of dimension 14, of weights beyond int)");
        CycleHouse house = greatestRing();
        for (int i = 0; i < 13; i++) {
            due.same("basis(" + i + ")", house.basis(i), 1000000000L);
        }
        due.same("basis(13)", house.basis(13), 16000000000L);
        CycleHouse light = Houses.of(16, Houses.both(Houses.ring(16, 0), Houses.loops(7, 13, 0)));
        for (int i = 0; i < 14; i++) {
            due.same("without weight: basis(" + i + ")", light.basis(i), 0);
        }
    }

    /** A ring of 16 and 13 loops, each edge of the greatest weight. */
    private static CycleHouse greatestRing() {
        return Houses.of(16, Houses.both(Houses.ring(16, Houses.HEAVIEST),
            Houses.loops(7, 13, Houses.HEAVIEST)));
    }

    private static void basisRefuses() {
        due.sentence("basis: Throws NoSuchElementException when it is not 0 .. d - 1");
        for (int d = 0; d <= 14; d++) {
            CycleHouse house = Houses.of(16, Houses.firstOf29(15 + d));
            for (int i = 0; i < d; i++) {
                int there = i;
                due.accepts("basis(" + i + ") of " + d, () -> house.basis(there));
            }
            for (int i : new int[] {d, d + 1, 14, 15, 40, -1, -d - 1, Integer.MIN_VALUE,
                Integer.MAX_VALUE}) {
                due.refuses("basis(" + i + ") of " + d, NoSuchElementException.class,
                    () -> house.basis(i));
            }
        }
        CycleHouse house = Houses.bowTie();
        house.drop();
        due.refuses("basis(3) after drop", NoSuchElementException.class, () -> house.basis(3));
        due.same("basis(2) after drop", house.basis(2), 15);
        house.reset(7);
        due.refuses("basis(0) after reset", NoSuchElementException.class, () -> house.basis(0));
        CycleHouse path = Houses.of(2, new int[] {0, 1, 1});
        due.refuses("basis(0) of a tree", NoSuchElementException.class, () -> path.basis(0));
    }

    private static void belonging() {
        due.sentence("belongs: Whether a set is a cycle that is in some lightest basis");
        CycleHouse house = Houses.bowTie();
        due.yes("triangle", house.belongs(0b111));
        due.yes("the other triangle", house.belongs(0b111000));
        due.yes("pair", house.belongs(0b011000000));
        due.yes("loop", house.belongs(0b100000000));
        due.no("both triangles", house.belongs(0b111111));
        due.no("all", house.belongs(0b111111111));
        // As heavy as the pair, which belongs, but made of lighter ones.
        due.no("loop and triangle", house.belongs(0b100000111));
    }

    private static void emptySetBelongsNever() {
        due.sentence("A BASIS: d cycles of which no sum (of one or more) is empty");
        due.no("without edges", new CycleHouse().belongs(0));
        due.no("of a tree", Houses.of(16, Houses.path(16, 0)).belongs(0));
        due.no("of a bow tie", Houses.bowTie().belongs(0));
        due.no("without weight", Houses.of(3, Houses.ring(3, 0)).belongs(0));
        due.no("of dimension 14", Houses.of(1, Houses.loops(0, 14, 0)).belongs(0));
    }

    private static void setsThatAreNoCycles() {
        due.sentence("belongs: Whether a set is a cycle (a set that is none)");
        CycleHouse house = Houses.bowTie();
        due.no("one edge", house.belongs(0b1));
        due.no("a triangle but one edge", house.belongs(0b110));
        due.no("a triangle and an edge more", house.belongs(0b1111));
        due.no("a bridge", Houses.of(2, new int[] {0, 1, 0}).belongs(1));
    }

    private static void equalWeights() {
        due.sentence("It is LIGHTEST if no other one's weights together are less"
            + " (of equal weight all belong)");
        CycleHouse square = Houses.of(4, Houses.complete(4));
        for (long set = 0; set < 64; set++) {
            boolean triangle = Long.bitCount(set) == 3 && square.isCycle(set) == 2;
            due.same("belongs(" + set + ")", square.belongs(set) ? 1 : 0, triangle ? 1 : 0);
        }
        CycleHouse thick = Houses.of(2, Houses.same(15, 0, 1, 4));
        due.yes("a pair", thick.belongs(1L << 14 | 1));
        due.no("two pairs", thick.belongs(0b1111));
        // A square that weighs as much as each triangle beside it.
        CycleHouse tie = Houses.of(4, new int[][] {{0, 1, 1}, {1, 2, 1}, {2, 3, 1}, {3, 0, 1},
            {0, 2, 2}});
        due.yes("square", tie.belongs(0b01111));
        due.yes("triangle", tie.belongs(0b10011));
        due.yes("the other triangle", tie.belongs(0b11100));
        tie.drop();
        tie.edge(0, 2, 1);
        due.no("a heavier square", tie.belongs(0b01111));
    }

    /** With rings of weight 0 a cycle that is not simple can be in a lightest basis. */
    private static void cyclesWithoutWeight() {
        due.sentence("It is LIGHTEST (with cycles that weigh nothing)");
        CycleHouse house = Houses.of(2, new int[][] {{0, 0, 0}, {1, 1, 5}, {1, 1, 0}});
        due.yes("weightless", house.belongs(0b001));
        due.yes("both weightless", house.belongs(0b101));
        due.yes("weight 5", house.belongs(0b010));
        due.yes("weight 5 and a weightless", house.belongs(0b011));
        due.yes("all three", house.belongs(0b111));
        due.no("empty", house.belongs(0));
        house.edge(0, 0, 5);
        due.no("twice 5", house.belongs(0b1010));
        CycleHouse full = Houses.of(1, Houses.loops(0, 14, 0));
        due.yes("all of fourteen", full.belongs(Sets.below(14)));
    }

    private static void belongingBeyondInt() {
        due.sentence("belongs: (of dimension 14, of weights beyond int)");
        CycleHouse house = greatestRing();
        due.yes("the ring belongs", house.belongs(Sets.below(16)));
        due.no("the ring with a loop does not", house.belongs(Sets.below(17)));
        due.yes("the last loop", house.belongs(1L << 28));
        due.no("two loops", house.belongs(3L << 27));
        // Sums that differ by 2 to the 32nd: cut down to int the ring would be the lighter one.
        CycleHouse wrap = Houses.of(6, new int[][] {{0, 1, 1000000000}, {1, 2, 1000000000},
            {2, 3, 1000000000}, {3, 4, 1000000000}, {4, 5, 294967296}, {5, 0, 0}, {0, 5, 7}});
        due.same("basis(0)", wrap.basis(0), 7);
        due.same("basis(1)", wrap.basis(1), 4294967296L);
        due.yes("the ring", wrap.belongs(0b0111111));
        due.no("the ring by the heavier edge", wrap.belongs(0b1011111));
    }

    private static void belongsRefuses() {
        due.sentence("belongs: Throws IllegalArgumentException when it has bits from m on");
        Sets.holdFromMOn(due, "belongs", CycleHouse::belongs);
    }
}
