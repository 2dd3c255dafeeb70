/** Promises 13 to 15: add, clear, spans. A method for each sentence's edge cases. */
public final class ListTest {
    private static final Due due = new Due();
    private static final Class<IllegalArgumentException> ARGUMENT = IllegalArgumentException.class;
    private static final Class<IllegalStateException> STATE = IllegalStateException.class;

    public static void main(String[] args) {
        addTells();
        addRefusesSets();
        addRefusesA65th();
        addTakesSetsOfNoEdges();
        clearTells();
        clearLeavesNothing();
        clearLeavesTheGraph();
        spanOfFew();
        spanOfNone();
        spanHasTheEmptySet();
        sumsAreOfOddNumbers();
        spanOfAll();
        spansRefuses();
        due.finish();
    }

    private static void addTells() {
        due.sentence("add: A set comes behind the list: how many it has");
        CycleHouse house = new CycleHouse();
        for (int k = 1; k <= 64; k++) {
            due.same("add " + k, house.add(k % 3), k);
            due.same("look(6) then", house.look(6), k);
        }
        CycleHouse same = new CycleHouse();
        due.same("the empty set", same.add(0), 1);
        due.same("the empty set again", same.add(0), 2);
        due.same("another one", same.add(6), 3);
        due.same("the same one", same.add(6), 4);
    }

    private static void addRefusesSets() {
        due.sentence("add: Throws IllegalArgumentException when it has bits from 40 on");
        CycleHouse house = new CycleHouse();
        for (long set : Sets.beyond(40)) {
            due.refuses("add(" + set + ")", ARGUMENT, () -> house.add(set));
        }
        due.same("look(6) after those", house.look(6), 0);
        due.same("look(7) after those", house.look(7), 0);
        for (int bit = 0; bit < 40; bit++) {
            due.same("add of bit " + bit, house.add(1L << bit), bit + 1);
        }
        due.same("add of bits 0 to 39", house.add(Sets.below(40)), 41);
    }

    private static void addRefusesA65th() {
        due.sentence("add: IllegalStateException when the list has 64");
        CycleHouse house = new CycleHouse();
        for (int k = 0; k < 63; k++) {
            house.add(1L << k % 39);
        }
        due.same("the 64th", house.add(3), 64);
        for (long set : new long[] {0, 1, 3, 1L << 39, Sets.below(40)}) {
            due.refuses("a 65th: " + set, STATE, () -> house.add(set));
        }
        due.same("look(6) of a full list", house.look(6), 64);
        due.same("look(7) of a full list", house.look(7), 39);
        due.no("what was refused is not in the span", house.spans(1L << 39));
        house.reset(16);
        due.refuses("reset makes no room", STATE, () -> house.add(1));
        house.clear();
        due.same("clear does", house.add(1L << 39), 1);
    }

    private static void addTakesSetsOfNoEdges() {
        due.sentence("add: (bits from m on, below 40)");
        CycleHouse house = new CycleHouse();
        due.same("without edges", house.add(1L << 39 | 1), 1);
        due.no("half of it", house.spans(1));
        house.edge(0, 0, 1);
        due.yes("with an edge", house.spans(1L << 39 | 1));
        house.drop();
        due.yes("after drop", house.spans(1L << 39 | 1));
        due.same("look(6) after drop", house.look(6), 1);
    }

    private static void clearTells() {
        due.sentence("clear: how many it had");
        CycleHouse house = new CycleHouse();
        due.same("none", house.clear(), 0);
        due.same("none again", house.clear(), 0);
        house.add(0);
        due.same("the empty set alone", house.clear(), 1);
        due.same("and none then", house.clear(), 0);
        for (int k = 0; k < 64; k++) {
            house.add(5);
        }
        due.same("64", house.clear(), 64);
        due.same("and none after those", house.clear(), 0);
    }

    private static void clearLeavesNothing() {
        due.sentence("clear: The list is empty");
        CycleHouse house = new CycleHouse();
        for (int k = 0; k < 64; k++) {
            house.add(1L << k % 40);
        }
        house.clear();
        due.same("look(6)", house.look(6), 0);
        due.same("look(7)", house.look(7), 0);
        due.yes("spans(0)", house.spans(0));
        for (int bit = 0; bit < 40; bit++) {
            due.no("spans of bit " + bit, house.spans(1L << bit));
        }
        for (int k = 1; k <= 64; k++) {
            due.same("room for " + k, house.add(k), k);
        }
    }

    private static void clearLeavesTheGraph() {
        due.sentence("clear: (the list alone)");
        CycleHouse house = Houses.bowTie();
        house.add(3);
        house.clear();
        due.yes("the graph", Houses.seen(house).equals(Houses.seen(Houses.bowTie())));
    }

    /** Every set of seven bits against all sums, in several orders. */
    private static void spanOfFew() {
        due.sentence("Its SPAN: all sums of sets of it; its RANK: the fewest sets of which all"
            + " those are sums");
        long[][] lists = {{}, {0}, {1}, {6, 5, 3}, {64, 96, 33, 1}, {7, 56, 63, 21},
            {127, 126, 124, 120, 112, 96, 64}, {3, 12, 48, 67, 79}, {0, 5, 0, 5, 0}};
        for (long[] sets : lists) {
            CycleHouse house = new CycleHouse();
            for (long set : sets) {
                house.add(set);
            }
            int within = 0;
            for (long set = 0; set < 128; set++) {
                boolean want = isSum(set, sets);
                due.same("spans(" + set + ")", house.spans(set) ? 1 : 0, want ? 1 : 0);
                within += want ? 1 : 0;
            }
            due.same("2 to the rank", 1L << house.look(7), within);
        }
    }

    private static boolean isSum(long set, long[] sets) {
        for (int chosen = 0; chosen < 1 << sets.length; chosen++) {
            long sum = 0;
            for (int i = 0; i < sets.length; i++) {
                sum ^= (chosen >> i & 1) != 0 ? sets[i] : 0;
            }
            if (sum == set) {
                return true;
            }
        }
        return false;
    }

    private static void spanOfNone() {
        due.sentence("spans: (of an empty list, and of one with the empty set alone)");
        CycleHouse house = new CycleHouse();
        for (int round = 0; round < 2; round++) {
            due.yes("spans(0)", house.spans(0));
            due.same("look(7)", house.look(7), 0);
            for (int bit = 0; bit < 40; bit++) {
                due.no("spans of bit " + bit, house.spans(1L << bit));
            }
            due.no("spans of all bits", house.spans(Sets.below(40)));
            house.add(0);
        }
    }

    private static void spanHasTheEmptySet() {
        due.sentence("Its SPAN: all sums of sets of it (the empty set, too)");
        CycleHouse house = new CycleHouse();
        for (int k = 0; k < 64; k++) {
            due.yes("of " + k + " sets", house.spans(0));
            house.add(1L << 39 | k);
        }
        due.yes("of a full list", house.spans(0));
    }

    private static void sumsAreOfOddNumbers() {
        due.sentence("The SUM of sets: the edges that are in an odd number of them");
        CycleHouse house = new CycleHouse();
        house.add(0b0011);
        house.add(0b0110);
        house.add(0b1100);
        due.yes("two of them", house.spans(0b0101));
        due.yes("all of them", house.spans(0b1001));
        due.no("what the first two cover", house.spans(0b0111));
        due.no("one edge", house.spans(0b0001));
        due.yes("the outer two", house.spans(0b1111));
        due.same("look(7)", house.look(7), 3);
        house.add(0b1001);
        due.same("look(7) with a sum", house.look(7), 3);
        house.add(0b1000);
        due.same("look(7) with one edge", house.look(7), 4);
        due.yes("what they cover then", house.spans(0b0111));
    }

    private static void spanOfAll() {
        due.sentence("spans: Whether a set is in the list's span (of rank 40)");
        CycleHouse house = new CycleHouse();
        for (int k = 0; k < 40; k++) {
            due.no("bit " + k + " before its set", house.spans(1L << k));
            house.add(Sets.below(k + 1));
            due.same("rank " + k, house.look(7), k + 1);
            due.yes("bit " + k + " with its set", house.spans(1L << k));
        }
        for (int k = 40; k < 64; k++) {
            house.add(k);
            due.same("rank " + k, house.look(7), 40);
        }
        due.yes("all bits", house.spans(Sets.below(40)));
        due.yes("no bits", house.spans(0));
    }

    private static void spansRefuses() {
        due.sentence("spans: Throws IllegalArgumentException when it has bits from 40 on");
        CycleHouse house = new CycleHouse();
        for (int k = 0; k < 40; k++) {
            house.add(1L << k);
        }
        for (CycleHouse list : new CycleHouse[] {house, new CycleHouse()}) {
            for (long set : Sets.beyond(40)) {
                due.refuses("spans(" + set + ")", ARGUMENT, () -> list.spans(set));
            }
            for (int bit = 0; bit < 40; bit++) {
                long set = 1L << bit;
                due.accepts("spans of bit " + bit, () -> list.spans(set));
            }
            due.accepts("spans of bits 0 to 39", () -> list.spans(Sets.below(40)));
        }
    }
}
