/**
 * A graph in an object that is made anew before its 512 calls are used up. Every second object has
 * held another graph before, so that nothing left over from that one goes unseen.
 */
final class FreshHouse {
    private static final int MOST_CALLS = 512;
    private final int n;
    private final int[][] edges;
    private CycleHouse house;
    private int calls;
    private int made;

    FreshHouse(int n, int[][] edges) {
        this.n = n;
        this.edges = edges;
        this.calls = MOST_CALLS;
    }

    /** For one call. */
    CycleHouse get() {
        if (calls >= MOST_CALLS) {
            make();
        }
        calls++;
        return house;
    }

    private void make() {
        house = new CycleHouse();
        calls = 0;
        if (made++ % 2 == 1) {
            useBefore();
        }
        Houses.fill(house, n, edges);
        calls += 1 + edges.length;
    }

    private void useBefore() {
        int[][] other = Houses.wheel(14);
        Houses.fill(house, 16, other);
        house.forests(1);
        house.cycles();
        house.light(7);
        house.belongs(0b111);
        house.basis(13);
        house.look(8);
        calls += 1 + other.length + 6;
    }
}
