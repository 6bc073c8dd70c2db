/** Long runs of calls, drawn by a fixed rule, each answer compared with that of the model. */
public final class RandomRunsTest {
    private static final int RUNS = 3000;
    // What later calls answer is free.
    private static final int MOST_CALLS = 512;

    private static final int ALL_BELOW = 2 | 6 << 2;
    private static final int INSERT = 0;
    private static final int COMMIT = 4;
    private static final int ASK = 7;
    // How often: insert, delete, move, relabel, commit, checkout, merge, and the questions.
    private static final int[][] WEIGHTS = {
        {6, 2, 5, 4, 3, 3, 8, 12}, {3, 1, 3, 2, 3, 6, 10, 6}, {20, 3, 10, 5, 2, 2, 3, 20}, {2, 1, 2, 1, 4, 5, 9, 4}
    };
    private static final int[] EDITS = {2, 1, 6, 3, 0, 0, 0, 0};

    private long seed;
    private final GroveMerge g = new GroveMerge();
    private final Model m = new Model();
    private final int run;
    private int calls = 0;

    private RandomRunsTest(int run) {
        this.run = run;
        this.seed = run * 7919L + 17;
    }

    public static void main(String[] args) {
        int[] kinds = new int[6];
        int severalBases = 0;
        int cleanMerges = 0;
        for (int run = 0; run < RUNS; run++) {
            RandomRunsTest test = new RandomRunsTest(run);
            test.all();
            for (int kind = 1; kind <= 5; kind++) {
                kinds[kind] += test.m.kinds.getOrDefault(kind, 0);
            }
            severalBases += test.m.severalBases;
            cleanMerges += test.m.cleanMerges;
        }
        for (int kind = 1; kind <= 5; kind++) {
            System.out.println("conflicts of kind " + kind + ": " + kinds[kind]);
            Check.same("the runs come to kind " + kind, kinds[kind] > 100 ? 1 : 0, 1);
        }
        System.out.println("several bases: " + severalBases + ", merges without conflicts: " + cleanMerges);
        Check.same("the runs come to several bases", severalBases > 100 ? 1 : 0, 1);
        Check.same("the runs come to merges", cleanMerges > 1000 ? 1 : 0, 1);
        Check.end();
    }

    private int draw(int bound) {
        seed = seed * 6364136223846793005L + 1442695040888963407L;
        return (int) ((seed >>> 33) % bound);
    }

    /** A number from 0 up to a bound, seldom one outside. */
    private int about(int bound) {
        int rare = draw(60);
        if (rare == 0) {
            return -1 - draw(3);
        }
        if (rare == 1) {
            return bound + draw(30);
        }
        if (rare == 2) {
            return draw(2) == 0 ? Integer.MIN_VALUE : Integer.MAX_VALUE;
        }
        return draw(Math.max(1, bound));
    }

    private int anyNode() {
        int k = draw(m.nodes(false));
        return draw(15) == 0 ? about(m.nodes(true)) : k == 0 ? 0 : m.find(ALL_BELOW, k - 1);
    }

    private int commit() {
        return about(m.state(0));
    }

    private int place(int parent) {
        String children = Check.outcome(() -> m.about(parent, 2));
        return children.matches("\\d+") ? about(Integer.parseInt(children) + 1) : about(4);
    }

    private int path() {
        int path = 0;
        int steps = draw(8);
        for (int i = 0; i < steps && i < 6; i++) {
            int axis = draw(20) == 0 ? 0 : 1 + draw(3);
            int label = draw(2) == 0 ? 6 + draw(2) : draw(6);
            path |= (axis | label << 2) << 5 * i;
        }
        return steps == 7 ? path | draw(4) << 30 : path;
    }

    private void all() {
        if (run % 2 == 0) {
            lines();
        } else {
            free();
        }
    }

    private void free() {
        while (calls < MOST_CALLS) {
            one(drawWhat(WEIGHTS[run / 2 % WEIGHTS.length]));
            lookAround();
        }
    }

    /** Several lines from a tree that is large enough to be changed in many ways, then merges of all. */
    private void lines() {
        for (int i = 0; i < 12; i++) {
            one(INSERT);
        }
        one(COMMIT);
        while (m.state(0) < 12 && calls < MOST_CALLS) {
            int from = draw(m.state(0));
            checkout(draw(3) == 0 ? from : Math.min(from, 1));
            for (int i = draw(6); i >= 0; i--) {
                one(drawWhat(EDITS));
            }
            one(COMMIT);
            for (int i = draw(3); i > 0; i--) {
                merge(draw(m.state(0)));
                lookAround();
                if (draw(2) == 0) {
                    one(COMMIT);
                }
            }
        }
        for (int i = 0; i < 40; i++) {
            checkout(draw(12));
            merge(draw(12));
            lookAround();
            one(ASK);
        }
    }

    private int drawWhat(int[] weights) {
        int sum = 0;
        for (int weight : weights) {
            sum += weight;
        }
        int at = draw(sum);
        int what = 0;
        while (at >= weights[what]) {
            at -= weights[what];
            what++;
        }
        return what;
    }

    /** The labels, parents and numbers in the order tell all of a tree. */
    private void lookAround() {
        if (draw(15) == 0) {
            both("nodes", () -> g.nodes(false), () -> m.nodes(false));
            lookAt(0);
            for (int k = 0; k < m.count(ALL_BELOW); k++) {
                lookAt(m.find(ALL_BELOW, k));
            }
        }
    }

    private void lookAt(int node) {
        for (int part : new int[] {0, 1, 3}) {
            both("about", () -> g.about(node, part), () -> m.about(node, part));
        }
    }

    private void one(int what) {
        int a = anyNode();
        int b = anyNode();
        int place = place(b);
        int label = about(3) * (draw(3) == 0 ? 2 : 1);
        int commit = commit();
        switch (what) {
            case INSERT -> both("insert", () -> g.insert(b, place, label), () -> m.insert(b, place, label));
            case 1 -> both("delete", () -> g.delete(a), () -> m.delete(a));
            case 2 -> both("move", () -> {
                g.move(a, b, place);
                return 0;
            }, () -> {
                m.move(a, b, place);
                return 0;
            });
            case 3 -> both("relabel", () -> {
                g.relabel(a, label);
                return 0;
            }, () -> {
                m.relabel(a, label);
                return 0;
            });
            case COMMIT -> both("commit", g::commit, m::commit);
            case 5 -> checkout(commit);
            case 6 -> merge(commit);
            default -> ask(a, b);
        }
    }

    private void checkout(int commit) {
        both("checkout", () -> {
            g.checkout(commit);
            return 0;
        }, () -> {
            m.checkout(commit);
            return 0;
        });
    }

    private void merge(int commit) {
        if (draw(2) == 0) {
            checkout(commit());
        }
        both("merge", () -> g.merge(commit), () -> m.merge(commit));
        boolean named = true;
        for (int k = 0; k < 25 && named; k++) {
            int at = k;
            both("conflict", () -> g.conflict(at), () -> m.conflict(at));
            named = !Check.outcome(() -> m.conflict(at)).endsWith("Exception");
        }
        int any = about(25);
        both("conflict", () -> g.conflict(any), () -> m.conflict(any));
    }

    private void ask(int a, int b) {
        int x = commit();
        int y = commit();
        int path = path();
        int k = about(4);
        switch (draw(9)) {
            case 0 -> both("base", () -> g.base(x, y), () -> m.base(x, y));
            case 1 -> both("about", () -> g.about(a, k), () -> m.about(a, k));
            case 2 -> both("child", () -> g.child(a, k), () -> m.child(a, k));
            case 3 -> both("made", () -> g.nodes(true), () -> m.nodes(true));
            case 4 -> both("count", () -> g.count(path), () -> m.count(path));
            case 5 -> both("find", () -> g.find(path, k), () -> m.find(path, k));
            case 6 -> both("alike", () -> g.alike(b), () -> m.alike(b));
            case 7 -> both("state", () -> g.state(k), () -> m.state(k));
            default -> askRarer(x, y, k);
        }
    }

    private void askRarer(int x, int y, int k) {
        if (draw(3) == 0) {
            both("distance", () -> g.distance(x, y), () -> m.distance(x, y));
        } else {
            both("above", () -> g.above(x, k / 2), () -> m.above(x, k / 2));
        }
    }

    private void both(String what, Check.IntCall ours, Check.IntCall due) {
        if (calls < MOST_CALLS) {
            calls++;
            Check.same("run " + run + ", call " + calls + ", " + what, Check.outcome(ours), Check.outcome(due));
        }
    }
}
