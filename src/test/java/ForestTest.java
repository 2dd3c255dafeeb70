/** Promises 5 and 6: forests, lightest. A method for each sentence's edge cases. */
public final class ForestTest {
    private static final Due due = new Due();

    public static void main(String[] args) {
        knownCounts();
        countsWithSets();
        countsWithoutEdges();
        countsOfSetsThatHoldCycles();
        severalGroups();
        forestsRefuses();
        lightestOnes();
        lightestWithoutOne();
        lightestOfNoWeight();
        lightestBeyondInt();
        lightestRefuses();
        due.finish();
    }

    private static void knownCounts() {
        due.sentence("forests: of the empty set: how many there are");
        due.same("complete graph of 6", Houses.of(6, Houses.complete(6)).forests(0), 1296);
        due.same("Petersen's graph", Houses.of(10, Houses.petersen()).forests(0), 2000);
        // Of a wheel: Lucas' number 28, less 2.
        due.same("wheel of 14", Houses.of(15, Houses.wheel(14)).forests(0), 710645);
        due.same("ring of 16", Houses.of(16, Houses.ring(16, 1)).forests(0), 16);
        due.same("fifteen beside", Houses.of(2, Houses.same(15, 0, 1, 1)).forests(0), 15);
        int[][] pairs = Houses.both(Houses.path(15, 1), Houses.path(15, 2));
        due.same("14 pairs in a row", Houses.of(16, pairs).forests(0), 1 << 14);
    }

    private static void countsWithSets() {
        due.sentence("forests: How many forests have all edges of a set");
        CycleHouse house = Houses.of(4, Houses.complete(4));
        long sum = 0;
        for (int e = 0; e < 6; e++) {
            sum += house.forests(1L << e);
        }
        due.same("each of 16 forests has 3 edges", sum, 48);
        due.same("a forest itself", house.forests(0b000111), 1);
        due.same("two edges apart", house.forests(0b100001), 4);
        CycleHouse tree = Houses.of(16, Houses.path(16, 1));
        due.same("all edges of the only one", tree.forests(Sets.below(15)), 1);
        due.same("one edge of the only one", tree.forests(1L << 14), 1);
    }

    private static void countsWithoutEdges() {
        due.sentence("A FOREST (the empty one, where no edge can be added)");
        for (int n = 1; n <= 16; n++) {
            due.same("forests(0) of " + n + " alone", Houses.of(n).forests(0), 1);
            due.same("lightest(0) of " + n + " alone", Houses.of(n).lightest(0), 0);
            CycleHouse loops = Houses.of(n, Houses.loops(n - 1, 14, 7));
            due.same("forests(0) of loops", loops.forests(0), 1);
            due.same("lightest(0) of loops", loops.lightest(0), 0);
        }
    }

    private static void countsOfSetsThatHoldCycles() {
        due.sentence("A FOREST: a set of edges within which no cycle but the empty one lies");
        CycleHouse house = Houses.of(4, Houses.complete(4));
        due.same("three that close", house.forests(0b001011), 0);
        due.same("all edges", house.forests(0b111111), 0);
        house.edge(2, 2, 1);
        due.same("a loop is in none", house.forests(1L << 6), 0);
        due.same("nor does it count", house.forests(0), 16);
        CycleHouse pair = Houses.of(2, Houses.same(2, 0, 1, 1));
        due.same("a pair", pair.forests(0b11), 0);
        due.same("one of a pair", pair.forests(0b10), 1);
        CycleHouse greatest = Houses.of(16, Houses.firstOf29(29));
        due.same("all of the greatest", greatest.forests(Sets.below(29)), 0);
    }

    private static void severalGroups() {
        due.sentence("A FOREST: to which no further edge can be added (in several groups)");
        CycleHouse house = Houses.of(8, new int[][] {{7, 5, 3}, {5, 3, 4}, {3, 7, 5}, {0, 6, 1},
            {6, 0, 2}, {2, 2, 9}});
        due.same("forests(0)", house.forests(0), 6);
        due.same("forests with edge 4", house.forests(1L << 4), 3);
        due.same("lightest(0)", house.lightest(0), 8);
        due.same("lightest with edge 4", house.lightest(1L << 4), 9);
        due.same("lightest with edges 1 and 2", house.lightest(0b110), 10);
    }

    private static void forestsRefuses() {
        due.sentence("forests: Throws IllegalArgumentException when it has bits from m on");
        Sets.holdFromMOn(due, "forests", CycleHouse::forests);
    }

    private static void lightestOnes() {
        due.sentence("lightest: The weight of a lightest forest that has all edges of a set");
        CycleHouse house = Houses.of(4, new int[][] {{0, 1, 1}, {1, 2, 2}, {2, 3, 3}, {3, 0, 4},
            {0, 2, 5}, {1, 3, 6}});
        due.same("lightest(0)", house.lightest(0), 6);
        due.same("with the heaviest", house.lightest(32), 9);
        due.same("with both chords", house.lightest(48), 12);
        due.same("a given one", house.lightest(0b111000), 15);
        house = Houses.of(2, new int[][] {{0, 1, 7}, {1, 0, 0}});
        due.same("of two beside", house.lightest(0), 0);
        due.same("the heavier one of them", house.lightest(1), 7);
    }

    private static void lightestWithoutOne() {
        due.sentence("lightest: -1 without one");
        CycleHouse house = Houses.of(4, Houses.complete(4));
        due.same("a ring of three", house.lightest(0b001011), -1);
        due.same("all edges", house.lightest(0b111111), -1);
        house.edge(2, 2, 0);
        due.same("a loop", house.lightest(1L << 6), -1);
        due.same("a loop and an edge", house.lightest(1L << 6 | 1), -1);
        CycleHouse pair = Houses.of(2, Houses.same(2, 0, 1, 0));
        due.same("a pair without weight", pair.lightest(0b11), -1);
        CycleHouse ring = Houses.of(16, Houses.ring(16, 1));
        due.same("a whole ring", ring.lightest(Sets.below(16)), -1);
        due.same("a ring but one edge", ring.lightest(Sets.below(15)), 15);
    }

    private static void lightestOfNoWeight() {
        due.sentence("lightest: -1 without one (and 0, not -1, with one that weighs nothing)");
        due.same("no edge", new CycleHouse().lightest(0), 0);
        CycleHouse ring = Houses.of(16, Houses.ring(16, 0));
        due.same("a ring without weight", ring.lightest(0), 0);
        due.same("with 15 edges of it", ring.lightest(Sets.below(15)), 0);
    }

    private static void lightestBeyondInt() {
        due.sentence("its WEIGHT is that of its edges together (of a forest, beyond int)");
        CycleHouse three = Houses.of(4, Houses.path(4, Houses.HEAVIEST));
        due.same("three of the heaviest", three.lightest(0), 3000000000L);
        CycleHouse house = Houses.of(16, Houses.path(16, Houses.HEAVIEST));
        due.same("15 of the heaviest", house.lightest(0), 15000000000L);
        due.same("with all of them", house.lightest(Sets.below(15)), 15000000000L);
        due.same("with the last of them", house.lightest(1L << 14), 15000000000L);
    }

    private static void lightestRefuses() {
        due.sentence("lightest: Throws IllegalArgumentException when it has bits from m on");
        Sets.holdFromMOn(due, "lightest", CycleHouse::lightest);
    }
}
