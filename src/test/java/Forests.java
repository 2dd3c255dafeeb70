import java.util.HashMap;
import java.util.Map;

/** Forests by deciding edge after edge, with the partition of the vertices as all that matters. */
final class Forests {
    private Forests() {
    }

    /** The number of the forests with a set, and the least weight (-1 without one). */
    static long[] decide(int n, int[][] edges, long set) {
        Map<String, long[]> states = new HashMap<>();
        char[] apart = new char[n];
        for (int v = 0; v < n; v++) {
            apart[v] = (char) ('a' + v);
        }
        states.put(new String(apart), new long[] {1, 0});
        String whole = new String(apart);
        for (int e = 0; e < edges.length; e++) {
            Map<String, long[]> next = new HashMap<>();
            boolean must = (set >> e & 1) != 0;
            for (Map.Entry<String, long[]> state : states.entrySet()) {
                String joined = join(state.getKey(), edges[e][0], edges[e][1]);
                if (!must) {
                    put(next, state.getKey(), state.getValue(), 0);
                }
                if (!joined.equals(state.getKey())) {
                    put(next, joined, state.getValue(), edges[e][2]);
                }
            }
            states = next;
            whole = join(whole, edges[e][0], edges[e][1]);
        }
        return states.getOrDefault(whole, new long[] {0, -1});
    }

    private static void put(Map<String, long[]> states, String key, long[] from, long weight) {
        long[] to = states.get(key);
        if (to == null) {
            states.put(key, new long[] {from[0], from[1] + weight});
            return;
        }
        to[0] += from[0];
        to[1] = Math.min(to[1], from[1] + weight);
    }

    /** Each group is called by its least vertex, so that a partition has one text only. */
    private static String join(String partition, int a, int b) {
        char low = (char) Math.min(partition.charAt(a), partition.charAt(b));
        char high = (char) Math.max(partition.charAt(a), partition.charAt(b));
        return partition.replace(high, low);
    }
}
