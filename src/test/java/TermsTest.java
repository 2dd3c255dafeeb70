import java.util.LinkedHashMap;
import java.util.Map;
import java.util.NoSuchElementException;
import java.util.function.Consumer;
import java.util.function.Supplier;

/**
 * The sentences of 'What it is' and 'Terms' that bind all calls: 512 calls, which exception comes
 * first, and that a call that throws changes nothing.
 */
public final class TermsTest {
    private static final Due due = new Due();
    private static final Class<IllegalArgumentException> ARGUMENT = IllegalArgumentException.class;
    private static final Class<IllegalStateException> STATE = IllegalStateException.class;

    public static void main(String[] args) {
        callsOfOneObject();
        refusedCallsOfOneObject();
        edgesMayBeAlike();
        sumsOfCyclesAreCycles();
        firstExceptionOfEdge();
        firstExceptionOfAdd();
        throwsChangeNothing();
        due.finish();
    }

    private static void callsOfOneObject() {
        due.sentence("An object is used for at most 512 calls after it has been made");
        CycleHouse house = new CycleHouse();
        Houses.fill(house, 16, Houses.firstOf29(29));
        // Those were 30 calls.
        for (int call = 31; call < 511; call += 2) {
            due.same("drop() as call " + call, house.drop(), 28);
            due.same("edge as the next", house.edge(13, 15, 28), 28);
        }
        due.same("forests as call 511", house.forests(Sets.below(15)), 1);
        due.same("light as call 512", house.light(Long.MAX_VALUE), 1 << 14);
    }

    private static void refusedCallsOfOneObject() {
        due.sentence("at most 512 calls (refused ones among them)");
        CycleHouse house = new CycleHouse();
        for (int call = 1; call < 512; call++) {
            due.refuses("drop() as call " + call, STATE, house::drop);
        }
        due.same("edge as call 512", house.edge(0, 0, 1), 0);
    }

    private static void edgesMayBeAlike() {
        due.sentence("each between two vertices (maybe the same one, maybe as another one)");
        CycleHouse house = Houses.of(16);
        for (int v = 0; v < 7; v++) {
            due.same("a loop on " + v, house.edge(v, v, 0), 2 * v);
            due.same("the same again", house.edge(v, v, 0), 2 * v + 1);
        }
        due.same("simple cycles", house.cycles(), 14);
        CycleHouse pairs = Houses.of(2, new int[][] {{0, 1, 4}, {1, 0, 4}, {0, 1, 4}});
        due.same("three alike: cycles()", pairs.cycles(), 3);
        due.same("three alike: look(3)", pairs.look(3), 2);
    }

    private static void sumsOfCyclesAreCycles() {
        due.sentence("Cycles are a space: sums of cycles are cycles");
        CycleHouse house = Houses.of(4, Houses.complete(4));
        for (long a = 0; a < 64; a++) {
            if (house.isCycle(a) != 0) {
                for (long b = 0; b < 8; b++) {
                    boolean cycle = house.isCycle(b) != 0;
                    due.same(a + " and " + b, house.isCycle(a ^ b) != 0 ? 1 : 0, cycle ? 1 : 0);
                }
            }
        }
    }

    private static void firstExceptionOfEdge() {
        due.sentence("Of several exceptions that hold the one listed first is thrown (edge)");
        CycleHouse house = Houses.of(4, Houses.loops(3, 14, 1));
        due.refuses("no room alone", STATE, () -> house.edge(0, 0, 1));
        due.refuses("no vertex b, no room", ARGUMENT, () -> house.edge(0, 4, 1));
        due.refuses("no vertex a, no room", ARGUMENT, () -> house.edge(-1, 0, 1));
        due.refuses("no vertices, no room", ARGUMENT, () -> house.edge(4, 4, 1));
        due.refuses("weight too small, no room", ARGUMENT, () -> house.edge(0, 0, -1));
        due.refuses("weight too great, no room", ARGUMENT, () -> house.edge(0, 0, 1000000001));
        due.refuses("all of it", ARGUMENT, () -> house.edge(4, -1, -1));
        due.refuses("no vertex, wrong weight", ARGUMENT, () -> new CycleHouse().edge(1, 0, -1));
    }

    private static void firstExceptionOfAdd() {
        due.sentence("Of several exceptions that hold the one listed first is thrown (add)");
        CycleHouse house = new CycleHouse();
        for (int k = 0; k < 64; k++) {
            house.add(k);
        }
        due.refuses("no room alone", STATE, () -> house.add(1));
        for (long set : Sets.beyond(40)) {
            due.refuses(set + ", no room", ARGUMENT, () -> house.add(set));
        }
    }

    /** Each refused call alone, on an object of its own, against another one that never had it. */
    private static void throwsChangeNothing() {
        due.sentence("a call that throws changes nothing");
        Map<String, Consumer<CycleHouse>> wrong = wrongCalls();
        compareAfter("a new object", CycleHouse::new, wrong);
        compareAfter("a bow tie", TermsTest::bowTieWithList, wrong);
        wrong.put("edge(2, 2, 1)", house -> house.edge(2, 2, 1));
        wrong.put("edge(0, 1, 7)", house -> house.edge(0, 1, 7));
        wrong.put("add(1L << 39)", house -> house.add(1L << 39));
        compareAfter("a full object", TermsTest::full, wrong);
        Map<String, Consumer<CycleHouse>> empty = new LinkedHashMap<>();
        empty.put("drop()", CycleHouse::drop);
        empty.put("through(0)", house -> house.through(0));
        empty.put("basis(0)", house -> house.basis(0));
        compareAfter("a new object", CycleHouse::new, empty);
        compareAfter("a graph without edges", TermsTest::listAlone, empty);
    }

    private static CycleHouse bowTieWithList() {
        CycleHouse house = Houses.bowTie();
        house.add(0b1010);
        house.add(0b0110);
        return house;
    }

    private static CycleHouse full() {
        CycleHouse house = Houses.of(15, Houses.wheel(14));
        for (int k = 0; k < 64; k++) {
            house.add(3L << k % 38);
        }
        return house;
    }

    private static CycleHouse listAlone() {
        CycleHouse house = Houses.of(9);
        house.add(0b1010);
        return house;
    }

    /** Calls that are refused in every state. */
    private static Map<String, Consumer<CycleHouse>> wrongCalls() {
        Map<String, Consumer<CycleHouse>> calls = new LinkedHashMap<>();
        calls.put("reset(0)", house -> house.reset(0));
        calls.put("reset(17)", house -> house.reset(17));
        calls.put("edge(16, 0, 1)", house -> house.edge(16, 0, 1));
        calls.put("edge(0, -1, 1)", house -> house.edge(0, -1, 1));
        calls.put("edge(0, 0, -1)", house -> house.edge(0, 0, -1));
        calls.put("edge(0, 0, 1000000001)", house -> house.edge(0, 0, 1000000001));
        calls.put("forests", house -> house.forests(1L << 29));
        calls.put("lightest", house -> house.lightest(1L << 29));
        calls.put("isCycle", house -> house.isCycle(1L << 29));
        calls.put("through", house -> house.through(29));
        calls.put("basis", house -> house.basis(14));
        calls.put("belongs", house -> house.belongs(1L << 29));
        calls.put("add", house -> house.add(1L << 40 | 1));
        calls.put("spans", house -> house.spans(1L << 40 | 1));
        calls.put("look", house -> house.look(9));
        return calls;
    }

    private static void compareAfter(String name, Supplier<CycleHouse> make,
            Map<String, Consumer<CycleHouse>> calls) {
        String untouched = Houses.seen(make.get());
        for (Map.Entry<String, Consumer<CycleHouse>> call : calls.entrySet()) {
            CycleHouse house = make.get();
            due.yes(call.getKey() + " throws, of " + name, isRefused(house, call.getValue()));
            due.yes(call.getKey() + " changes nothing, of " + name,
                untouched.equals(Houses.seen(house)));
        }
    }

    private static boolean isRefused(CycleHouse house, Consumer<CycleHouse> call) {
        try {
            call.accept(house);
            return false;
        } catch (IllegalArgumentException | IllegalStateException | NoSuchElementException e) {
            return true;
        }
    }
}
