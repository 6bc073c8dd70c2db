import java.util.NoSuchElementException;
import java.util.function.Consumer;
import java.util.function.ObjIntConsumer;
import java.util.function.Supplier;

/** Calls that are refused: each with the exception that is due, and as if it had not been made. */
final class Refusal {
    static final Class<NoSuchElementException> NO_SUCH = NoSuchElementException.class;
    static final Class<IndexOutOfBoundsException> OUT = IndexOutOfBoundsException.class;
    static final Class<IllegalArgumentException> ILLEGAL = IllegalArgumentException.class;
    static final Class<UnsupportedOperationException> UNSUPPORTED = UnsupportedOperationException.class;
    static final Class<IllegalStateException> STATE = IllegalStateException.class;

    private Refusal() {
    }

    static void of(String what, Supplier<GroveMerge> make, Class<? extends RuntimeException> due, Consumer<GroveMerge> call) {
        GroveMerge g = make.get();
        Check.same(what, Check.outcomeOf(() -> call.accept(g)), due.getSimpleName());
        unchanged(what + " changes nothing", make, call);
    }

    /** In each situation, with each number that is no node of its tree. */
    static void withNoNode(String what, ObjIntConsumer<GroveMerge> call) {
        for (Situation at : Situation.values()) {
            for (int node : at.nodesNotInTheTree()) {
                of(at + ", " + what + " " + node, at.make, NO_SUCH, g -> call.accept(g, node));
            }
        }
    }

    /** In each situation, with each number that is no commit's. */
    static void withNoCommit(String what, ObjIntConsumer<GroveMerge> call) {
        for (Situation at : Situation.values()) {
            for (int commit : at.numbersOfNoCommit()) {
                of(at + ", " + what + " " + commit, at.make, NO_SUCH, g -> call.accept(g, commit));
            }
        }
    }

    /** An object that the call was made on is as one that it was not made on. */
    static void unchanged(String what, Supplier<GroveMerge> make, Consumer<GroveMerge> call) {
        Check.same(what, Whole.show(() -> {
            GroveMerge g = make.get();
            Check.outcomeOf(() -> call.accept(g));
            return g;
        }), Whole.show(make));
    }
}
