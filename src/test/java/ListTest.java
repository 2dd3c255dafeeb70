/** Promises 13 to 15: add, clear, spans; and what look tells of the list. */
public final class ListTest {
    private static final Due due = new Due();
    private static final Class<IllegalArgumentException> ARGUMENT = IllegalArgumentException.class;

    public static void main(String[] args) {
        additions();
        spanOfFew();
        fullList();
        edgesMatterNot();
        wrongSets();
        due.finish();
    }

    private static void additions() {
        CycleHouse house = new CycleHouse();
        due.same("clear() of none", house.clear(), 0);
        due.same("add(0)", house.add(0), 1);
        due.same("rank of the empty set", house.look(7), 0);
        due.same("add(3)", house.add(3), 2);
        due.same("add(3) again", house.add(3), 3);
        due.same("look(6)", house.look(6), 3);
        due.same("look(7)", house.look(7), 1);
        due.same("clear()", house.clear(), 3);
        due.same("clear() again", house.clear(), 0);
        due.same("look(6) after clear", house.look(6), 0);
        due.same("look(7) after clear", house.look(7), 0);
        due.yes("spans(0) after clear", house.spans(0));
        due.no("spans(3) after clear", house.spans(3));
        due.same("add after clear", house.add(1), 1);
    }

    /** Every set of seven bits against all sums, in several orders. */
    private static void spanOfFew() {
        long[][] lists = {{}, {0}, {1}, {6, 5, 3}, {64, 96, 33, 1}, {7, 56, 63, 21},
            {127, 126, 124, 120, 112, 96, 64}, {3, 12, 48, 67, 79}};
        for (long[] sets : lists) {
            CycleHouse house = new CycleHouse();
            for (long set : sets) {
                house.add(set);
            }
            int within = 0;
            for (long set = 0; set < 128; set++) {
                boolean want = isSum(set, sets);
                due.same("spans(" + set + ")", house.spans(set) ? 1 : 0, want ? 1 : 0);
                within += want ? 1 : 0;
            }
            due.same("rank", 1L << house.look(7), within);
        }
    }

    private static boolean isSum(long set, long[] sets) {
        for (int chosen = 0; chosen < 1 << sets.length; chosen++) {
            long sum = 0;
            for (int i = 0; i < sets.length; i++) {
                sum ^= (chosen >> i & 1) != 0 ? sets[i] : 0;
            }
            if (sum == set) {
                return true;
            }
        }
        return false;
    }

    private static void fullList() {
        CycleHouse house = new CycleHouse();
        for (int k = 0; k < 40; k++) {
            due.same("add " + k, house.add((1L << k + 1) - 1), k + 1);
            due.same("rank " + k, house.look(7), k + 1);
        }
        for (int k = 40; k < 64; k++) {
            due.same("add " + k, house.add(k), k + 1);
        }
        due.same("full: look(6)", house.look(6), 64);
        due.same("full: look(7)", house.look(7), 40);
        due.yes("full: all bits", house.spans((1L << 40) - 1));
        due.yes("full: the highest bit", house.spans(1L << 39));
        due.refuses("add to a full list", IllegalStateException.class, () -> house.add(0));
        due.refuses("a wrong set comes first", ARGUMENT, () -> house.add(1L << 40));
        due.same("clear() of a full list", house.clear(), 64);
        due.same("add after that", house.add(1L << 39), 1);
    }

    private static void edgesMatterNot() {
        CycleHouse house = new CycleHouse();
        due.same("a set of edges that are not there", house.add(1L << 39 | 1), 1);
        due.no("half of it", house.spans(1));
        house.edge(0, 0, 1);
        house.drop();
        house.reset(5);
        due.yes("it stays in the span", house.spans(1L << 39 | 1));
        house.clear();
        due.same("clear leaves the graph", house.look(0), 5);
    }

    private static void wrongSets() {
        CycleHouse house = new CycleHouse();
        house.add(1);
        for (long set : new long[] {1L << 40, 1L << 40 | 1, 1L << 62, Long.MIN_VALUE, -1}) {
            due.refuses("add(" + set + ")", ARGUMENT, () -> house.add(set));
            due.refuses("spans(" + set + ")", ARGUMENT, () -> house.spans(set));
        }
        due.same("look(6) after wrong sets", house.look(6), 1);
    }
}
