/** Promises 5 and 6: forests, lightest. */
public final class ForestTest {
    private static final Due due = new Due();

    public static void main(String[] args) {
        knownCounts();
        countsWithSets();
        severalGroups();
        lightestOnes();
        greatestWeights();
        wrongSets();
        due.finish();
    }

    private static void knownCounts() {
        due.same("complete graph of 6", Houses.of(6, Houses.complete(6)).forests(0), 1296);
        due.same("Petersen's graph", Houses.of(10, Houses.petersen()).forests(0), 2000);
        // Of a wheel: Lucas' number 28, less 2.
        due.same("wheel of 14", Houses.of(15, Houses.wheel(14)).forests(0), 710645);
        int[][] ring = new int[16][];
        for (int i = 0; i < 16; i++) {
            ring[i] = new int[] {i, (i + 1) % 16, 1};
        }
        due.same("ring of 16", Houses.of(16, ring).forests(0), 16);
        int[][] thick = new int[28][];
        for (int i = 0; i < 28; i++) {
            thick[i] = new int[] {i / 2, i / 2 + 1, 1};
        }
        due.same("14 pairs in a row", Houses.of(16, thick).forests(0), 1 << 14);
    }

    private static void countsWithSets() {
        CycleHouse house = Houses.of(4, Houses.complete(4));
        long sum = 0;
        for (int e = 0; e < 6; e++) {
            sum += house.forests(1L << e);
        }
        due.same("each of 16 forests has 3 edges", sum, 48);
        due.same("a forest itself", house.forests(0b000111), 1);
        due.same("two edges apart", house.forests(0b100001), 4);
        due.same("three that close", house.forests(0b001011), 0);
        due.same("all edges", house.forests(0b111111), 0);
        house.edge(2, 2, 1);
        due.same("a loop is in none", house.forests(1L << 6), 0);
        due.same("nor does it count", house.forests(0), 16);
        due.same("lightest with a loop", house.lightest(1L << 6), -1);
    }

    private static void severalGroups() {
        CycleHouse house = Houses.of(8, new int[][] {{7, 5, 3}, {5, 3, 4}, {3, 7, 5}, {0, 6, 1},
            {6, 0, 2}, {2, 2, 9}});
        due.same("forests(0)", house.forests(0), 6);
        due.same("forests with edge 4", house.forests(1L << 4), 3);
        due.same("lightest(0)", house.lightest(0), 8);
        due.same("lightest with edge 4", house.lightest(1L << 4), 9);
        due.same("lightest with edges 1 and 2", house.lightest(0b110), 10);
        due.same("lightest with a ring", house.lightest(0b111), -1);
        house.reset(5);
        due.same("forests without edges", house.forests(0), 1);
        due.same("lightest without edges", house.lightest(0), 0);
    }

    private static void lightestOnes() {
        CycleHouse house = Houses.of(4, new int[][] {{0, 1, 1}, {1, 2, 2}, {2, 3, 3}, {3, 0, 4},
            {0, 2, 5}, {1, 3, 6}});
        due.same("lightest(0)", house.lightest(0), 6);
        due.same("lightest with the heaviest", house.lightest(32), 9);
        due.same("lightest with both chords", house.lightest(48), 12);
        due.same("lightest that is a given one", house.lightest(0b111000), 15);
        due.same("lightest with a ring", house.lightest(15), -1);
        house = Houses.of(2, new int[][] {{0, 1, 7}, {1, 0, 0}});
        due.same("lightest of two beside", house.lightest(0), 0);
        due.same("the heavier one of them", house.lightest(1), 7);
        due.same("both of them", house.lightest(3), -1);
    }

    private static void greatestWeights() {
        int[][] path = new int[15][];
        for (int i = 0; i < 15; i++) {
            path[i] = new int[] {i, i + 1, 1000000000};
        }
        CycleHouse house = Houses.of(16, path);
        due.same("lightest of 15 of the heaviest", house.lightest(0), 15000000000L);
        due.same("with all of them", house.lightest((1L << 15) - 1), 15000000000L);
    }

    private static void wrongSets() {
        CycleHouse house = Houses.of(3, new int[][] {{0, 1, 1}, {1, 2, 1}});
        for (long set : new long[] {4, 7, 1L << 40, 1L << 62, Long.MIN_VALUE, -1}) {
            due.refuses("forests(" + set + ")", IllegalArgumentException.class,
                () -> house.forests(set));
            due.refuses("lightest(" + set + ")", IllegalArgumentException.class,
                () -> house.lightest(set));
        }
        due.same("forests(3)", house.forests(3), 1);
        CycleHouse empty = new CycleHouse();
        due.refuses("forests(1) without edges", IllegalArgumentException.class,
            () -> empty.forests(1));
        due.refuses("lightest(1) without edges", IllegalArgumentException.class,
            () -> empty.lightest(1));
    }
}
