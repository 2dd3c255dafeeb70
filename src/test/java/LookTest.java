/** Promise 16: look. */
public final class LookTest {
    private static final Due due = new Due();

    public static void main(String[] args) {
        looks("one vertex", 1, new int[][] {}, 1, 0, 1, 0, 0, 1, 0);
        looks("vertices alone", 16, new int[][] {}, 16, 0, 16, 0, 0, 1, 0);
        looks("a loop", 1, new int[][] {{0, 0, 1}}, 1, 1, 1, 1, 0, 0, 0);
        looks("an edge", 2, new int[][] {{0, 1, 1}}, 2, 1, 1, 0, 1, 1, 0);
        looks("a pair", 2, new int[][] {{0, 1, 1}, {1, 0, 1}}, 2, 2, 1, 1, 0, 1, 0);
        looks("a path", 4, new int[][] {{0, 1, 1}, {1, 2, 1}, {2, 3, 1}}, 4, 3, 1, 0, 3, 1, 2);
        looks("a triangle", 3, Houses.complete(3), 3, 3, 1, 1, 0, 0, 0);
        looks("a square", 4, new int[][] {{0, 1, 1}, {1, 2, 1}, {2, 3, 1}, {3, 0, 1}},
            4, 4, 1, 1, 0, 1, 0);
        looks("two triangles at a vertex", 5, new int[][] {{0, 1, 1}, {1, 2, 1}, {2, 0, 1},
            {2, 3, 1}, {3, 4, 1}, {4, 2, 1}}, 5, 6, 1, 2, 0, 0, 1);
        looks("two triangles and a bridge", 7, new int[][] {{0, 1, 1}, {1, 2, 1}, {2, 0, 1},
            {2, 3, 1}, {3, 4, 1}, {4, 5, 1}, {5, 3, 1}}, 7, 7, 2, 2, 1, 0, 2);
        looks("a star with a loop in it", 5, new int[][] {{4, 0, 1}, {4, 1, 1}, {2, 4, 1},
            {4, 4, 1}}, 5, 4, 2, 1, 3, 0, 1);
        looks("two squares of six", 6, new int[][] {{0, 1, 1}, {1, 2, 1}, {2, 3, 1}, {3, 0, 1},
            {2, 4, 1}, {4, 5, 1}, {5, 3, 1}}, 6, 7, 1, 2, 0, 1, 0);
        looks("Petersen", 10, Houses.petersen(), 10, 15, 1, 6, 0, 0, 0);
        looks("a wheel", 16, Houses.wheel(14), 16, 28, 2, 14, 0, 0, 0);
        wrong();
        due.finish();
    }

    /** The answers to 0, 1, 2, 3, 4, 5 and 8. */
    private static void looks(String name, int n, int[][] edges, int... want) {
        CycleHouse house = Houses.of(n, edges);
        int[] whats = {0, 1, 2, 3, 4, 5, 8};
        for (int i = 0; i < whats.length; i++) {
            due.same(name + ": look(" + whats[i] + ")", house.look(whats[i]), want[i]);
        }
        due.same(name + ": look(6)", house.look(6), 0);
        house.add(5);
        house.add(5);
        due.same(name + ": look(6)", house.look(6), 2);
        due.same(name + ": look(7)", house.look(7), 1);
    }

    private static void wrong() {
        CycleHouse house = new CycleHouse();
        for (int what : new int[] {-1, 9, 10, Integer.MIN_VALUE, Integer.MAX_VALUE}) {
            due.refuses("look(" + what + ")", IllegalArgumentException.class,
                () -> house.look(what));
        }
    }
}
