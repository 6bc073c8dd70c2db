import java.util.function.Consumer;

/** Promises 9 and 10: the call that merges, and its conflicts. */
final class MergeCallSentences {
    private MergeCallSentences() {
    }

    static void addTo(Sentences all) {
        addMerge(all);
        addConflict(all);
    }

    private static void addMerge(Sentences all) {
        all.below("Promise 9: merge");
        all.say("MERGES a commit", MergeCallSentences::mergeChangesTheTree);
        all.say("(it may be the head", MergeCallSentences::mergeTheHead);
        all.say(", or one from which the head comes)", MergeCallSentences::mergeOneAboveTheHead);
        all.say(": how many conflicts there are.", MergeCallSentences::mergeAnswersHowMany);
        all.say("Without conflicts it is taken in then.", MergeCallSentences::mergeTakesIn);
        all.say("NoSuchElementException when there is no such commit", MergeCallSentences::mergeNoCommit);
        all.say("IllegalStateException when the working tree is not the head's (another label", MergeCallSentences::mergeOverAnotherLabel);
        all.say("(another label, parent", MergeCallSentences::mergeOverAnotherParent);
        all.say("parent, place", MergeCallSentences::mergeOverAnotherPlace);
        all.say("place or node)", MergeCallSentences::mergeOverAnotherNode);
        all.say("when the working tree is not the head's", MergeCallSentences::mergeOverWhatWasChangedBack);
        all.say(", or something is taken in", MergeCallSentences::mergeWithOneTakenIn);
        all.say("(With conflicts the working tree stays.)", MergeCallSentences::mergeInConflictKeepsTheTree);
    }

    private static void addConflict(Sentences all) {
        all.below("Promise 10: conflict");
        all.say("Of conflict k of the latest merge that did not throw", MergeCallSentences::conflictOfTheLatestMerge);
        all.say("that did not throw", MergeCallSentences::conflictAfterMergesThatThrow);
        all.say(": the node, and 32 times its kind.", MergeCallSentences::conflictNamesNodeAndKind);
        all.say("NoSuchElementException when there is none.", MergeCallSentences::conflictThatIsNone);
    }

    private static void mergeChangesTheTree() {
        GroveMerge g = Situation.takenIn();
        Trees.same("both lines", g, Situation.TAKEN_IN.tree);
        g.checkout(2);
        Trees.same("not the commits", g, "0:0(1:4(3:3 4:1) 2:2)");
        GroveMerge down = Situation.committed();
        down.checkout(0);
        Check.same("one that comes from the head", down.merge(1), 0);
        Trees.same("one that comes from the head", down, Situation.COMMITTED.tree);
    }

    private static void mergeTheHead() {
        GroveMerge g = new GroveMerge();
        Check.same("the first", g.merge(0), 0);
        Check.same("the first is taken in", g.state(2), 0);
        Trees.same("the first", g, "0:0");
        GroveMerge other = Situation.committed();
        Check.same("another one", other.merge(1), 0);
        Check.same("another one is taken in", other.state(2), 1);
        Check.same("and stays the head", other.state(1), 1);
        Trees.same("another one", other, Situation.COMMITTED.tree);
    }

    private static void mergeOneAboveTheHead() {
        GroveMerge g = Situation.twelve();
        for (int commit = 0; commit < 11; commit++) {
            g.checkout(11);
            Check.same("conflicts with " + commit, g.merge(commit), 0);
            Check.same(commit + " is taken in", g.state(2), commit);
            Check.same("nodes stay", g.nodes(false), 12);
        }
    }

    private static void mergeAnswersHowMany() {
        GroveMerge g = Situation.inConflict();
        Check.same("two, with the same head again", g.merge(2), 2);
        Check.same("none", g.merge(1), 0);
        Check.same("the most", withTwoLabelsEach().merge(2), 24);
    }

    /** The head is 3; each of 24 nodes has another label in it than in 2. */
    private static GroveMerge withTwoLabelsEach() {
        GroveMerge g = Trees.row();
        g.commit();
        relabelAll(g, 1);
        g.commit();
        g.checkout(1);
        relabelAll(g, 2);
        g.commit();
        return g;
    }

    private static void relabelAll(GroveMerge g, int label) {
        for (int node = 0; node < 24; node++) {
            g.relabel(node, label);
        }
    }

    private static void mergeTakesIn() {
        GroveMerge g = Situation.takenIn();
        Check.same("taken in", g.state(2), 2);
        Check.same("the head stays", g.state(1), 3);
        Check.same("no commit is made", g.state(0), 4);
        g.relabel(0, 3);
        Check.same("changes keep it", g.state(2), 2);
        Check.same("commits with it", g.commit(), 4);
        Check.same("which is above then", g.above(4, 1), 2);
        Check.same("with conflicts nothing is", Situation.inConflict().state(2), GroveMerge.NONE);
    }

    private static void mergeNoCommit() {
        Refusal.withNoCommit("commit", (g, commit) -> g.merge(commit));
    }

    private static void mergeAfter(String what, Consumer<GroveMerge> change) {
        for (int commit = 0; commit < 2; commit++) {
            int merged = commit;
            Refusal.of(what, () -> {
                GroveMerge g = Situation.committed();
                change.accept(g);
                return g;
            }, Refusal.STATE, g -> g.merge(merged));
        }
    }

    private static void mergeOverAnotherLabel() {
        mergeAfter("the root", g -> g.relabel(0, 1));
        mergeAfter("a leaf", g -> g.relabel(2, 1));
        mergeAfter("two that have changed theirs", g -> {
            g.relabel(3, 1);
            g.relabel(4, 3);
        });
        Refusal.of("the root alone", () -> {
            GroveMerge g = new GroveMerge();
            g.relabel(0, 5);
            return g;
        }, Refusal.STATE, g -> g.merge(0));
    }

    private static void mergeOverAnotherParent() {
        mergeAfter("in another document order", g -> g.move(3, 2, 0));
        mergeAfter("in the same document order, deeper", g -> g.move(4, 3, 0));
        mergeAfter("in the same document order, less deep", g -> g.move(4, 0, 1));
    }

    private static void mergeOverAnotherPlace() {
        mergeAfter("of leaves", g -> g.move(3, 1, 1));
        mergeAfter("of a part", g -> g.move(1, 0, 1));
        Refusal.of("with labels that are the same", () -> {
            GroveMerge g = Trees.grown("0(1 1)");
            g.commit();
            g.move(1, 0, 1);
            return g;
        }, Refusal.STATE, g -> g.merge(0));
    }

    private static void mergeOverAnotherNode() {
        mergeAfter("one more, the last", g -> g.insert(2, 0, 0));
        mergeAfter("one more, the first", g -> g.insert(0, 0, 0));
        mergeAfter("one less, the last", g -> g.delete(2));
        mergeAfter("several less", g -> g.delete(1));
        mergeAfter("one in the place of another", g -> {
            g.delete(2);
            g.insert(0, 1, 2);
        });
        Refusal.of("one more than the root", () -> Trees.grown("0(1)"), Refusal.STATE, g -> g.merge(0));
    }

    private static void mergeOverWhatWasChangedBack() {
        GroveMerge g = Situation.committed();
        g.relabel(3, 5);
        g.relabel(3, 3);
        g.move(1, 2, 0);
        g.move(1, 0, 0);
        g.delete(g.insert(4, 0, 1));
        Check.same("label, parent and node as before", g.merge(0), 0);
        GroveMerge other = Situation.changed();
        other.checkout(1);
        Check.same("after a checkout", other.merge(0), 0);
        GroveMerge third = Situation.changed();
        third.commit();
        Check.same("after a commit", third.merge(0), 0);
    }

    private static void mergeWithOneTakenIn() {
        for (int commit = 0; commit < 4; commit++) {
            int merged = commit;
            Refusal.of("2 is taken in, then " + merged, Situation.TAKEN_IN.make, Refusal.STATE, g -> g.merge(merged));
        }
        Refusal.of("the tree is the head's all the same", () -> {
            GroveMerge g = new GroveMerge();
            g.merge(0);
            return g;
        }, Refusal.STATE, g -> g.merge(0));
        GroveMerge g = Situation.takenIn();
        g.commit();
        Check.same("not after a commit", g.merge(2), 0);
        g.checkout(3);
        Check.same("nor after a checkout", g.merge(2), 0);
    }

    private static void mergeInConflictKeepsTheTree() {
        GroveMerge g = Situation.inConflict();
        Trees.same("the head's", g, Situation.IN_CONFLICT.tree);
        Check.same("the head", g.state(1), 3);
        Check.same("commits", g.state(0), 4);
        Check.same("nodes", g.nodes(false), 5);
    }

    private static void conflictOfTheLatestMerge() {
        GroveMerge g = Situation.inConflict();
        Check.same("first", g.conflict(0), 2 * 32 + 1);
        Check.same("second", g.conflict(1), 2 * 32 + 3);
        g.relabel(0, 1);
        g.commit();
        g.checkout(0);
        Check.same("whatever comes behind it", g.conflict(1), 2 * 32 + 3);
        g.checkout(2);
        g.relabel(1, 1);
        g.commit();
        g.checkout(3);
        g.merge(5);
        Check.same("of another one with conflicts", g.conflict(0), 2 * 32 + 3);
        g.merge(1);
        Check.same("of one without", Check.outcome(() -> g.conflict(0)), "NoSuchElementException");
        Refusal.unchanged("to ask", Situation.IN_CONFLICT.make, asked -> asked.conflict(0));
    }

    private static void conflictAfterMergesThatThrow() {
        GroveMerge g = Situation.inConflict();
        Check.same("no such commit", Check.outcome(() -> g.merge(4)), "NoSuchElementException");
        Check.same("the conflicts of the one before", g.conflict(1), 2 * 32 + 3);
        g.relabel(2, 0);
        Check.same("changed", Check.outcome(() -> g.merge(1)), "IllegalStateException");
        Check.same("the conflicts of the one before", g.conflict(0), 2 * 32 + 1);
        GroveMerge none = Situation.takenIn();
        Check.same("taken in", Check.outcome(() -> none.merge(2)), "IllegalStateException");
        Check.same("none, as in the one before", Check.outcome(() -> none.conflict(0)), "NoSuchElementException");
    }

    private static void conflictNamesNodeAndKind() {
        GroveMerge g = withTwoLabelsEach();
        g.merge(2);
        for (int k = 0; k < 24; k++) {
            Check.same("two labels of " + k, g.conflict(k), 64 + k);
        }
        GroveMerge cut = Trees.chain();
        cut.move(23, 0, 0);
        cut.commit();
        cut.move(23, 1, 0);
        cut.commit();
        cut.checkout(1);
        cut.move(1, 23, 0);
        cut.commit();
        Check.same("cut off", cut.merge(2), 23);
        Check.same("the least of the greatest kind", cut.conflict(0), 5 * 32 + 1);
        Check.same("the greatest that there can be", cut.conflict(22), 5 * 32 + 23);
    }

    private static void conflictThatIsNone() {
        for (Situation at : Situation.values()) {
            int conflicts = at == Situation.IN_CONFLICT ? 2 : 0;
            for (int k : Numbers.beyond(conflicts - 1)) {
                Refusal.of(at + " " + k, at.make, Refusal.NO_SUCH, g -> g.conflict(k));
            }
        }
    }
}
