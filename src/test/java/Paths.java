/** Paths of steps that are written down one by one. */
final class Paths {
    static final int CHILD = 1;
    static final int BELOW = 2;
    static final int BEHIND = 3;
    static final int ANY = 6;
    static final int ANY_TOO = 7;

    private Paths() {
    }

    static int step(int axis, int label) {
        return axis | label << 2;
    }

    static int of(int... steps) {
        int path = 0;
        for (int i = 0; i < steps.length; i++) {
            path |= steps[i] << 5 * i;
        }
        return path;
    }

    /** All nodes that a path finds, by their numbers. */
    static String found(GroveMerge g, int... steps) {
        return foundBy(g, of(steps));
    }

    static String foundBy(GroveMerge g, int path) {
        StringBuilder text = new StringBuilder();
        int count = g.count(path);
        for (int k = 0; k < count; k++) {
            text.append(k == 0 ? "" : " ").append(g.find(path, k));
        }
        return text.toString();
    }
}
