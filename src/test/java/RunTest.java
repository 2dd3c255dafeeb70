import java.util.ArrayList;
import java.util.List;
import java.util.Random;
import java.util.function.ToLongFunction;

/**
 * Runs of 512 mixed calls, some of them wrong: each is answered as by an object that has been
 * brought to the same graph and list straight away, and has answered nothing before.
 */
public final class RunTest {
    private static final Due due = new Due();
    private static final int RUNS = 40;
    private static final int CALLS = 512;

    private final Random random;
    private final CycleHouse house = new CycleHouse();
    private int vertices = 1;
    private final List<int[]> edges = new ArrayList<>();
    private final List<Long> sets = new ArrayList<>();

    private RunTest(Random random) {
        this.random = random;
    }

    public static void main(String[] args) {
        due.sentence("Nothing is promised beyond the answers and state changes described");
        Random random = new Random(20261116);
        for (int run = 0; run < RUNS; run++) {
            RunTest test = new RunTest(random);
            for (int call = 0; call < CALLS; call++) {
                test.oneCall("run " + run + ", call " + call);
            }
        }
        due.finish();
    }

    /** An edge is the commonest call, for without edges there is little to ask. */
    private void oneCall(String name) {
        switch (random.nextInt(24)) {
            case 0: reset(name); break;
            case 1: case 2: case 3: drop(name); break;
            case 4: case 5: add(name); break;
            case 6: clear(name); break;
            case 7: case 8: case 9: case 10: case 11: case 12: case 13: case 14: edge(name); break;
            default: ask(name);
        }
    }

    private void reset(String name) {
        // Mostly refused, so that graphs have time to grow.
        int n = random.nextInt(3) == 0 ? 1 + random.nextInt(16) : 17 * random.nextInt(2);
        if (agree(name + ": reset(" + n + ")", h -> h.reset(n))) {
            vertices = n;
            edges.clear();
        }
    }

    private void edge(String name) {
        int a = random.nextInt(vertices);
        int b = random.nextInt(random.nextInt(20) == 0 ? vertices + 1 : vertices);
        int weight = random.nextInt(4) - (random.nextInt(20) == 0 ? 1 : 0);
        String call = name + ": edge(" + a + ", " + b + ", " + weight + ")";
        if (agree(call, h -> h.edge(a, b, weight))) {
            edges.add(new int[] {a, b, weight});
        }
    }

    private void drop(String name) {
        if (agree(name + ": drop()", CycleHouse::drop)) {
            edges.remove(edges.size() - 1);
        }
    }

    private void add(String name) {
        long set = someSet(random.nextInt(20) == 0 ? 41 : 40);
        if (agree(name + ": add(" + set + ")", h -> h.add(set))) {
            sets.add(set);
        }
    }

    private void clear(String name) {
        if (random.nextInt(4) == 0 && agree(name + ": clear()", CycleHouse::clear)) {
            sets.clear();
        }
    }

    private void ask(String name) {
        long some = someSet(edges.size() + (random.nextInt(20) == 0 ? 1 : 0));
        long few = some & someSet(40) & someSet(40);
        int number = random.nextInt(edges.size() + 2) - (random.nextInt(20) == 0 ? 1 : 0);
        int what = random.nextInt(10);
        long listed = random.nextBoolean() ? someSet(40) : someSum();
        switch (random.nextInt(10)) {
            case 0: agree(name + ": forests(" + few + ")", h -> h.forests(few)); break;
            case 1: agree(name + ": lightest(" + few + ")", h -> h.lightest(few)); break;
            case 2: agree(name + ": isCycle(" + some + ")", h -> h.isCycle(some)); break;
            case 3: agree(name + ": through(" + number + ")", h -> h.through(number)); break;
            case 4: agree(name + ": basis(" + number + ")", h -> h.basis(number)); break;
            case 5: agree(name + ": belongs(" + few + ")", h -> h.belongs(few) ? 1 : 0); break;
            case 6: agree(name + ": cycles()", CycleHouse::cycles); break;
            case 7: agree(name + ": light(" + number + ")", h -> h.light(number)); break;
            case 8: agree(name + ": spans(" + listed + ")", h -> h.spans(listed) ? 1 : 0); break;
            default: agree(name + ": look(" + what + ")", h -> h.look(what));
        }
    }

    private long someSet(int bits) {
        return random.nextLong() & Sets.below(bits);
    }

    private long someSum() {
        long sum = 0;
        for (long set : sets) {
            sum ^= random.nextBoolean() ? set : 0;
        }
        return sum;
    }

    /** Whether the call threw nothing. */
    private boolean agree(String call, ToLongFunction<CycleHouse> made) {
        String got = answer(house, made);
        String want = answer(straightAway(), made);
        due.yes(call + ": " + got + " is " + want, got.equals(want));
        return !got.startsWith("java");
    }

    private CycleHouse straightAway() {
        CycleHouse other = Houses.of(vertices, edges.toArray(new int[0][]));
        for (long set : sets) {
            other.add(set);
        }
        return other;
    }

    private static String answer(CycleHouse house, ToLongFunction<CycleHouse> made) {
        try {
            return Long.toString(made.applyAsLong(house));
        } catch (RuntimeException e) {
            return e.getClass().getName();
        }
    }
}
