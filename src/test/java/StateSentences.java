/** Promises 18 and 19: the state, and what stands above a commit. */
final class StateSentences {
    private StateSentences() {
    }

    static void addTo(Sentences all) {
        addState(all);
        addAbove(all);
    }

    private static void addState(Sentences all) {
        all.below("Promise 18: state");
        all.say("How many commits there are", StateSentences::stateOfCommits);
        all.say("which is the head", StateSentences::stateOfTheHead);
        all.say("which is taken in (NONE when none is)", StateSentences::stateOfWhatIsTakenIn);
        all.say(": by what 0, 1, 2.", StateSentences::stateByNumber);
        all.say("IllegalArgumentException when it is another number.", StateSentences::stateByAnotherNumber);
    }

    private static void addAbove(Sentences all) {
        all.below("Promise 19: above");
        all.say("Parent i (0 or 1) of a commit", StateSentences::aboveTellsParents);
        all.say("NONE when it has not so many.", StateSentences::aboveTellsNone);
        all.say("NoSuchElementException when there is no such commit", StateSentences::aboveNoCommit);
        all.say("IndexOutOfBoundsException when i is not 0 or 1.", StateSentences::aboveByAnotherNumber);
    }

    private static void stateOfCommits() {
        for (Situation at : Situation.values()) {
            Check.same(at + "", at.make.get().state(0), at.commits);
        }
    }

    private static void stateOfTheHead() {
        int[] heads = {0, 0, 1, 1, 3, 3, 11};
        for (Situation at : Situation.values()) {
            Check.same(at + "", at.make.get().state(1), heads[at.ordinal()]);
        }
    }

    private static void stateOfWhatIsTakenIn() {
        for (Situation at : Situation.values()) {
            Check.same(at + "", at.make.get().state(2), at == Situation.TAKEN_IN ? 2 : GroveMerge.NONE);
        }
        GroveMerge g = new GroveMerge();
        g.merge(0);
        Check.same("commit 0 is not none", g.state(2), 0);
    }

    private static void stateByNumber() {
        GroveMerge g = Situation.takenIn();
        Check.same("0", g.state(0), 4);
        Check.same("1", g.state(1), 3);
        Check.same("2", g.state(2), 2);
        Refusal.unchanged("to ask", Situation.TAKEN_IN.make, asked -> asked.state(2));
    }

    private static void stateByAnotherNumber() {
        for (Situation at : Situation.values()) {
            for (int what : Numbers.beyond(2)) {
                Refusal.of(at + " " + what, at.make, Refusal.ILLEGAL, g -> g.state(what));
            }
        }
    }

    private static void aboveTellsParents() {
        GroveMerge g = Situation.takenIn();
        g.commit();
        Check.same("the head then", g.above(4, 0), 3);
        Check.same("what was taken in", g.above(4, 1), 2);
        Check.same("one alone", g.above(3, 0), 1);
        Check.same("the first", g.above(1, 0), 0);
        g.checkout(0);
        Check.same("whatever is the head", g.above(4, 0), 3);
        Refusal.unchanged("to ask", Situation.TAKEN_IN.make, asked -> asked.above(2, 0));
    }

    private static void aboveTellsNone() {
        Check.same("the first, first", new GroveMerge().above(0, 0), GroveMerge.NONE);
        Check.same("the first, second", new GroveMerge().above(0, 1), GroveMerge.NONE);
        GroveMerge g = Situation.twelve();
        for (int commit = 1; commit < 12; commit++) {
            Check.same("first of " + commit, g.above(commit, 0), commit - 1);
            Check.same("second of " + commit, g.above(commit, 1), GroveMerge.NONE);
        }
    }

    private static void aboveNoCommit() {
        Refusal.withNoCommit("commit", (g, commit) -> g.above(commit, 0));
    }

    private static void aboveByAnotherNumber() {
        for (Situation at : Situation.values()) {
            for (int i : Numbers.beyond(1)) {
                Refusal.of(at + " " + i, at.make, Refusal.OUT, g -> g.above(at.commits - 1, i));
            }
        }
    }
}
