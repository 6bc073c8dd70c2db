import java.util.function.ToIntFunction;

/** How long an object is used. */
final class LifeSentences {
    private static final int MOST_CALLS = 512;
    // Those that it takes to make the small tree and to commit it.
    private static final int FIRST_CALLS = 5;

    private LifeSentences() {
    }

    static void addTo(Sentences all) {
        all.below("What it is");
        all.say("An object is used for at most 512 calls after it has been made", LifeSentences::lastCall);
    }

    private static void lastCall() {
        last("insert", g -> g.insert(0, 0, 5), "5");
        last("insert, refused", g -> g.insert(0, 3, 5), "IndexOutOfBoundsException");
        last("delete", g -> g.delete(1), "3");
        last("commit", GroveMerge::commit, "2");
        last("base", g -> g.base(1, 0), "0");
        last("merge", g -> g.merge(0), "0");
        last("conflict, refused", g -> g.conflict(0), "NoSuchElementException");
        last("about", g -> g.about(2, 3), "4");
        last("child", g -> g.child(1, 1), "4");
        last("nodes", g -> g.nodes(false), "5");
        last("count", g -> g.count(2 | 1 << 2), "2");
        last("find", g -> g.find(2 | 7 << 2, 3), "2");
        last("alike", g -> g.alike(4), "4");
        last("distance", g -> g.distance(0, 1), "4");
        last("state", g -> g.state(1), "1");
        last("above", g -> g.above(1, 0), "0");
    }

    private static void last(String name, ToIntFunction<GroveMerge> call, String due) {
        GroveMerge g = Situation.committed();
        for (int calls = FIRST_CALLS + 1; calls < MOST_CALLS; calls++) {
            use(g, calls);
        }
        Check.same("the last call: " + name, Check.outcome(() -> call.applyAsInt(g)), due);
    }

    /** The last two of six calls leave the object as it was before them. */
    private static void use(GroveMerge g, int calls) {
        switch ((MOST_CALLS - calls) % 6) {
            case 0 -> g.merge(0);
            case 5 -> g.relabel(3, 4);
            case 4 -> g.distance(0, 1);
            case 3 -> Check.outcome(() -> g.insert(9, 0, 0));
            default -> g.checkout(1);
        }
    }
}
