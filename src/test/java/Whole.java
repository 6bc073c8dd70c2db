import java.util.function.Supplier;

/**
 * All that an object can be asked. Each question that changes it, or may, is put to an object of its own,
 * made in the same way; so none comes near to its 512th call.
 */
final class Whole {
    private Whole() {
    }

    static String show(Supplier<GroveMerge> make) {
        StringBuilder text = new StringBuilder(Trees.show(make.get()));
        GroveMerge g = make.get();
        int commits = g.state(0);
        text.append(" nodes ").append(g.nodes(false)).append(' ').append(g.nodes(true));
        text.append(" state ").append(commits).append(' ').append(g.state(1)).append(' ').append(g.state(2));
        text.append(" conflicts");
        for (int k = 0; k <= 24; k++) {
            int at = k;
            text.append(' ').append(Check.outcome(() -> g.conflict(at)));
        }
        showGraph(make.get(), commits, text);
        for (int commit = 0; commit < commits; commit++) {
            GroveMerge other = make.get();
            other.checkout(commit);
            text.append(" tree ").append(commit).append(' ').append(Trees.show(other));
        }
        showWhatComesNext(make, text);
        return text.toString();
    }

    private static void showGraph(GroveMerge g, int commits, StringBuilder text) {
        text.append(" graph");
        for (int a = 0; a < commits; a++) {
            text.append(' ').append(g.above(a, 0)).append('/').append(g.above(a, 1)).append(" bases");
            for (int b = 0; b < commits; b++) {
                text.append(' ').append(g.base(a, b));
            }
        }
    }

    private static void showWhatComesNext(Supplier<GroveMerge> make, StringBuilder text) {
        GroveMerge toInsert = make.get();
        text.append(" insert ").append(Check.outcome(() -> toInsert.insert(0, 0, 0)));
        GroveMerge toMerge = make.get();
        text.append(" merge ").append(Check.outcome(() -> toMerge.merge(0)));
        GroveMerge toCommit = make.get();
        text.append(" commit ").append(Check.outcome(toCommit::commit));
        int head = toCommit.state(1);
        text.append(" above it ").append(toCommit.above(head, 0)).append(' ').append(toCommit.above(head, 1));
    }
}
