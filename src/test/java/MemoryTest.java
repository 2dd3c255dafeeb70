import com.sun.management.ThreadMXBean;
import java.lang.management.ManagementFactory;

/** All memory is made once: an object is small, and the dearest calls make nothing. */
public final class MemoryTest {
    private static final Due due = new Due();
    private static final ThreadMXBean THREAD = (ThreadMXBean) ManagementFactory.getThreadMXBean();
    private static final long MOST_BYTES_OF_AN_OBJECT = 40000;
    // What measuring itself may make; one row made in each call would be far more.
    private static final long MOST_BYTES_OF_ALL_CALLS = 4000;

    public static void main(String[] args) {
        due.sentence("All memory is the class's own, made once");
        CycleHouse warm = Houses.of(15, Houses.wheel(14));
        useMuch(warm, 1);
        long before = THREAD.getCurrentThreadAllocatedBytes();
        CycleHouse house = new CycleHouse();
        long made = THREAD.getCurrentThreadAllocatedBytes() - before;
        due.yes(made + " bytes of an object", made < MOST_BYTES_OF_AN_OBJECT);

        Houses.fill(house, 15, Houses.wheel(14));
        before = THREAD.getCurrentThreadAllocatedBytes();
        useMuch(house, 25);
        long used = THREAD.getCurrentThreadAllocatedBytes() - before;
        due.yes(used + " bytes of all calls", used < MOST_BYTES_OF_ALL_CALLS);
        due.finish();
    }

    private static void useMuch(CycleHouse house, int rounds) {
        for (int k = 0; k < rounds; k++) {
            house.drop();
            house.edge(14, 1, k);
            house.forests(5);
            house.lightest(5);
            house.isCycle(0b111);
            house.through(k);
            house.basis(13);
            house.belongs(0b111);
            house.cycles();
            house.light(20);
            house.add(k);
            house.spans(k);
            house.clear();
            for (int what = 2; what <= 8; what += 2) {
                house.look(what);
            }
        }
    }
}
