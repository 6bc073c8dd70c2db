/** Promises 6 to 8: commits, and the base of two. */
final class CommitSentences {
    private CommitSentences() {
    }

    static void addTo(Sentences all) {
        addCommit(all);
        addCheckout(all);
        all.below("Promise 8: base");
        all.say("The BASE of two commits.", CommitSentences::baseOfTwo);
        all.say("NoSuchElementException when there is no such commit.", CommitSentences::baseOfNoCommit);
    }

    private static void addCommit(Sentences all) {
        all.below("Promise 6: commit");
        all.say("A new commit with the working tree as it is", CommitSentences::commitHasTheTree);
        all.say("its parents are the head and what is taken in, if anything is", CommitSentences::commitHasParents);
        all.say("it becomes the head, and nothing is taken in", CommitSentences::commitBecomesTheHead);
        all.say("Its number.", CommitSentences::commitAnswersItsNumber);
        all.say("UnsupportedOperationException when there are 12.", CommitSentences::commitBeyond12);
    }

    private static void addCheckout(Sentences all) {
        all.below("Promise 7: checkout");
        all.say("The working tree (whatever was changed in it) becomes that of a commit", CommitSentences::checkoutTakesTheTree);
        all.say(", which becomes the head", CommitSentences::checkoutTakesTheHead);
        all.say("nothing is taken in", CommitSentences::checkoutTakesNothingIn);
        all.say("NoSuchElementException when there is no such commit.", CommitSentences::checkoutNoCommit);
    }

    private static void commitHasTheTree() {
        for (Situation at : Situation.values()) {
            if (at != Situation.FULL) {
                GroveMerge g = at.make.get();
                int commit = g.commit();
                Trees.same(at + " stays", g, at.tree);
                g.checkout(0);
                g.checkout(commit);
                Trees.same(at + " is taken up again", g, at.tree);
            }
        }
        GroveMerge full = Trees.row();
        int commit = full.commit();
        full.checkout(0);
        full.checkout(commit);
        Check.same("24 nodes", full.child(0, 22), 23);
    }

    private static void commitHasParents() {
        GroveMerge g = Situation.takenIn();
        Check.same("number", g.commit(), 4);
        Check.same("the head", g.above(4, 0), 3);
        Check.same("what is taken in", g.above(4, 1), 2);
        g.commit();
        Check.same("the head alone", g.above(5, 0), 4);
        Check.same("nothing is taken in now", g.above(5, 1), GroveMerge.NONE);
        GroveMerge twice = new GroveMerge();
        twice.merge(0);
        twice.commit();
        Check.same("the head, which is taken in as well", twice.above(1, 0), 0);
        Check.same("what is taken in, which is the head as well", twice.above(1, 1), 0);
        GroveMerge conflicts = Situation.inConflict();
        conflicts.commit();
        Check.same("after conflicts the head", conflicts.above(4, 0), 3);
        Check.same("after conflicts it alone", conflicts.above(4, 1), GroveMerge.NONE);
    }

    private static void commitBecomesTheHead() {
        GroveMerge g = Situation.takenIn();
        g.commit();
        Check.same("head", g.state(1), 4);
        Check.same("taken in", g.state(2), GroveMerge.NONE);
        Check.same("its tree is the working tree", g.merge(2), 0);
        GroveMerge other = Situation.inConflict();
        other.checkout(0);
        other.commit();
        Check.same("behind an old one", other.state(1), 4);
        Check.same("which is above it", other.above(4, 0), 0);
    }

    private static void commitAnswersItsNumber() {
        GroveMerge g = new GroveMerge();
        for (int commit = 1; commit < 12; commit++) {
            Check.same("number", g.commit(), commit);
            g.checkout(commit / 2);
        }
    }

    private static void commitBeyond12() {
        Refusal.of("12 and 24 nodes", Situation.FULL.make, Refusal.UNSUPPORTED, GroveMerge::commit);
        Refusal.of("12, one taken in", () -> {
            GroveMerge g = Situation.twelve();
            g.checkout(3);
            g.merge(5);
            return g;
        }, Refusal.UNSUPPORTED, GroveMerge::commit);
        GroveMerge g = Situation.twelve();
        g.checkout(0);
        Check.same("12, an old one is the head", Check.outcome(g::commit), "UnsupportedOperationException");
    }

    private static void checkoutTakesTheTree() {
        GroveMerge g = Situation.changed();
        g.checkout(1);
        Trees.same("changes are gone", g, Situation.COMMITTED.tree);
        g.move(1, 2, 0);
        g.checkout(1);
        Trees.same("a move is gone", g, Situation.COMMITTED.tree);
        g.checkout(0);
        Trees.same("the first", g, "0:0");
        g.checkout(1);
        Trees.same("what was deleted is back", g, Situation.COMMITTED.tree);
        g.checkout(1);
        Trees.same("the head again", g, Situation.COMMITTED.tree);
        Check.same("made stays", g.nodes(true), 6);
        GroveMerge twelve = Situation.twelve();
        for (int commit = 0; commit < 12; commit++) {
            twelve.checkout(commit);
            Check.same("nodes of " + commit, twelve.nodes(false), commit + 1);
        }
    }

    private static void checkoutTakesTheHead() {
        GroveMerge g = Situation.twelve();
        for (int commit = 11; commit >= 0; commit--) {
            g.checkout(commit);
            Check.same("head", g.state(1), commit);
        }
        Check.same("commits stay", g.state(0), 12);
    }

    private static void checkoutTakesNothingIn() {
        GroveMerge g = Situation.takenIn();
        g.checkout(3);
        Check.same("the head itself", g.state(2), GroveMerge.NONE);
        Trees.same("without what was taken in", g, "0:0(1:1(3:3 4:1) 2:2(5:5))");
        GroveMerge other = Situation.takenIn();
        other.checkout(2);
        Check.same("what was taken in", other.state(2), GroveMerge.NONE);
        other.commit();
        Check.same("is no second parent", other.above(4, 1), GroveMerge.NONE);
    }

    private static void checkoutNoCommit() {
        Refusal.withNoCommit("commit", (g, commit) -> g.checkout(commit));
    }

    private static void baseOfTwo() {
        GroveMerge g = Situation.takenIn();
        Check.same("two lines", g.base(2, 3), 1);
        Check.same("turned round", g.base(3, 2), 1);
        Check.same("one above the other", g.base(3, 1), 1);
        Check.same("a commit itself", g.base(3, 3), 3);
        Check.same("the first", g.base(0, 0), 0);
        Refusal.unchanged("to ask", Situation.TAKEN_IN.make, asked -> asked.base(2, 3));
        GroveMerge twelve = Situation.twelve();
        for (int commit = 0; commit < 12; commit++) {
            Check.same("the last and " + commit, twelve.base(11, commit), commit);
        }
    }

    private static void baseOfNoCommit() {
        Refusal.withNoCommit("first", (g, commit) -> g.base(commit, 0));
        Refusal.withNoCommit("second", (g, commit) -> g.base(0, commit));
        Refusal.withNoCommit("both", (g, commit) -> g.base(commit, commit));
    }
}
