import java.util.ArrayList;
import java.util.List;

/** Numbers to call with. */
final class Numbers {
    // Those beside a limit, those that narrower types or shifts would wrap round, and the farthest.
    private static final int[] EDGES = {
        Integer.MIN_VALUE, Integer.MIN_VALUE + 1, -(1 << 30), -65536, -256, -255, -64, -32, -31, -24, -12, -3, -2, -1,
        0, 1, 2, 3, 4, 5, 6, 7, 8, 11, 12, 13, 22, 23, 24, 25, 31, 32, 33, 63, 64, 65, 127, 128, 255, 256, 257,
        65535, 65536, 65537, 1 << 30, Integer.MAX_VALUE - 1, Integer.MAX_VALUE
    };

    private Numbers() {
    }

    /** Numbers that are not 0 .. last, the nearest ones among them. */
    static List<Integer> beyond(int last) {
        List<Integer> all = new ArrayList<>(List.of(last + 1));
        for (int edge : EDGES) {
            if (edge < 0 || edge > last) {
                all.add(edge);
            }
        }
        return all;
    }
}
