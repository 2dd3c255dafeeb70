import java.util.function.BiConsumer;

/** Sets of edges at the limits of what a call takes. */
final class Sets {
    private Sets() {
    }

    /** The bits 0 .. m - 1. */
    static long below(int m) {
        return (1L << m) - 1;
    }

    /** Each bit from m to 63, alone and with all bits below m: the last ones are below 0. */
    static long[] beyond(int m) {
        long[] sets = new long[2 * (64 - m) + 1];
        for (int bit = m; bit < 64; bit++) {
            sets[2 * (bit - m)] = 1L << bit;
            sets[2 * (bit - m) + 1] = 1L << bit | below(m);
        }
        sets[sets.length - 1] = -1;
        return sets;
    }

    /** Of graphs with 0 to 29 edges: a call takes every bit below m, and none from m on. */
    static void holdFromMOn(Due due, String name, BiConsumer<CycleHouse, Long> call) {
        for (int m = 0; m <= 29; m++) {
            CycleHouse house = Houses.of(16, Houses.firstOf29(m));
            String of = " of " + m + " edges";
            due.accepts(name + " of none" + of, () -> call.accept(house, 0L));
            long all = below(m);
            due.accepts(name + " of all" + of, () -> call.accept(house, all));
            for (int bit = 0; bit < m; bit++) {
                long set = 1L << bit;
                due.accepts(name + " of bit " + bit + of, () -> call.accept(house, set));
            }
            for (long set : beyond(m)) {
                due.refuses(name + " of " + set + of, IllegalArgumentException.class,
                    () -> call.accept(house, set));
            }
        }
        goneEdges(due, name, call);
    }

    private static void goneEdges(Due due, String name, BiConsumer<CycleHouse, Long> call) {
        CycleHouse house = Houses.of(16, Houses.firstOf29(20));
        house.drop();
        due.refuses(name + " of a dropped edge", IllegalArgumentException.class,
            () -> call.accept(house, 1L << 19));
        due.accepts(name + " of the last one left", () -> call.accept(house, 1L << 18));
        house.reset(16);
        due.refuses(name + " of an edge before reset", IllegalArgumentException.class,
            () -> call.accept(house, 1L));
        due.accepts(name + " of none after reset", () -> call.accept(house, 0L));
    }
}
