/** Promises 11 to 17: what is asked of the working tree, and of the trees of commits. */
final class AskSentences {
    private AskSentences() {
    }

    static void addTo(Sentences all) {
        addAbout(all);
        addChild(all);
        all.below("Promise 13: nodes");
        all.say("How many nodes the working tree has", AskSentences::nodesInTheTree);
        all.say(", or how many were made (made).", AskSentences::nodesMade);
        addPaths(all);
        all.below("Promise 16: alike");
        all.say("The first node of the working tree, in the document order, that is alike a node.", AskSentences::alikeIsTheFirst);
        all.say("NoSuchElementException when that is not in it.", AskSentences::alikeNoNode);
        all.below("Promise 17: distance");
        all.say("The DISTANCE of the trees of two commits.", AskSentences::distanceOfCommits);
        all.say("NoSuchElementException when there is no such commit.", AskSentences::distanceOfNoCommit);
    }

    private static void addAbout(Sentences all) {
        all.below("Promise 11: about");
        all.say("Of a node of the working tree", AskSentences::aboutTheWorkingTree);
        all.say(": part 0 its label", AskSentences::aboutLabel);
        all.say("1 its parent (NONE for the root)", AskSentences::aboutParent);
        all.say("2 how many children it has", AskSentences::aboutChildren);
        all.say("3 its number in the document order (0 for the root).", AskSentences::aboutOrder);
        all.say("NoSuchElementException when it is not in it", AskSentences::aboutNoNode);
        all.say("IndexOutOfBoundsException when there is no such part.", AskSentences::aboutNoPart);
    }

    private static void addChild(Sentences all) {
        all.below("Promise 12: child");
        all.say("Child i of a node of the working tree.", AskSentences::childByNumber);
        all.say("NoSuchElementException when it is not in it", AskSentences::childOfNoNode);
        all.say("IndexOutOfBoundsException when there is no such child.", AskSentences::childThatIsNone);
    }

    private static void addPaths(Sentences all) {
        all.below("Promise 14: count");
        all.say("How many nodes a path finds in the working tree", AskSentences::countOfFound);
        all.say("(each counted once", AskSentences::countEachOnce);
        all.say("without steps the root).", AskSentences::countWithoutSteps);
        all.below("Promise 15: find");
        all.say("Number k (from 0) of the nodes that a path finds", AskSentences::findByNumber);
        all.say(", in the document order.", AskSentences::findInOrder);
        all.say("NoSuchElementException when there is none.", AskSentences::findNone);
    }

    private static void aboutTheWorkingTree() {
        GroveMerge g = Situation.changed();
        Check.same("label now", g.about(2, 0), 5);
        Check.same("parent now", g.about(5, 1), 2);
        Check.same("children now", g.about(1, 2), 1);
        Check.same("order now", g.about(2, 3), 3);
        g.checkout(1);
        Check.same("label taken up again", g.about(2, 0), 2);
        Check.same("order taken up again", g.about(2, 3), 4);
        Check.same("merged in", Situation.takenIn().about(1, 0), 4);
        for (int part = 0; part < 4; part++) {
            int asked = part;
            Refusal.unchanged("to ask", Situation.CHANGED.make, other -> other.about(1, asked));
        }
    }

    private static void about(GroveMerge g, int part, int... due) {
        for (int node = 0; node < due.length; node++) {
            Check.same("of " + node, g.about(node, part), due[node]);
        }
    }

    private static void aboutLabel() {
        about(Situation.small(), 0, 0, 1, 2, 3, 1);
        about(Trees.grown("5(4 3 2 1 0)"), 0, 5, 4, 3, 2, 1, 0);
    }

    private static void aboutParent() {
        about(new GroveMerge(), 1, GroveMerge.NONE);
        about(Situation.small(), 1, GroveMerge.NONE, 0, 0, 1, 1);
        Check.same("of the deepest", Trees.chain().about(23, 1), 22);
    }

    private static void aboutChildren() {
        about(new GroveMerge(), 2, 0);
        about(Situation.small(), 2, 2, 2, 0, 0, 0);
        Check.same("the most", Trees.row().about(0, 2), 23);
        Check.same("not those further below", Trees.chain().about(0, 2), 1);
        Check.same("none below the deepest", Trees.chain().about(23, 2), 0);
    }

    private static void aboutOrder() {
        about(new GroveMerge(), 3, 0);
        about(Situation.small(), 3, 0, 1, 4, 2, 3);
        Check.same("the last of a chain", Trees.chain().about(23, 3), 23);
        Check.same("the last of a row", Trees.row().about(23, 3), 23);
        GroveMerge g = Situation.small();
        g.delete(1);
        Check.same("without those before it", g.about(2, 3), 1);
    }

    private static void aboutNoNode() {
        Refusal.withNoNode("node", (g, node) -> g.about(node, 0));
    }

    private static void aboutNoPart() {
        for (int part : Numbers.beyond(3)) {
            Refusal.of("root " + part, Situation.NEW.make, Refusal.OUT, g -> g.about(0, part));
            Refusal.of("leaf " + part, Situation.SMALL.make, Refusal.OUT, g -> g.about(4, part));
        }
    }

    private static void childByNumber() {
        GroveMerge g = Situation.small();
        Check.same("first", g.child(0, 0), 1);
        Check.same("behind one with children", g.child(0, 1), 2);
        Check.same("below", g.child(1, 0), 3);
        Check.same("last", g.child(1, 1), 4);
        g.move(2, 0, 0);
        Check.same("in their order now", g.child(0, 0), 2);
        for (int i = 0; i < 23; i++) {
            Check.same("of 23", Trees.row().child(0, i), i + 1);
            Check.same("of a chain", Trees.chain().child(i, 0), i + 1);
        }
        Refusal.unchanged("to ask", Situation.CHANGED.make, other -> other.child(0, 1));
    }

    private static void childOfNoNode() {
        Refusal.withNoNode("node", (g, node) -> g.child(node, 0));
    }

    private static void childThatIsNone() {
        for (int i : Numbers.beyond(-1)) {
            Refusal.of("of none: " + i, Situation.NEW.make, Refusal.OUT, g -> g.child(0, i));
            Refusal.of("of a leaf before others: " + i, Situation.SMALL.make, Refusal.OUT, g -> g.child(3, i));
        }
        for (int i : Numbers.beyond(1)) {
            Refusal.of("of two: " + i, Situation.SMALL.make, Refusal.OUT, g -> g.child(0, i));
            Refusal.of("of two below: " + i, Situation.SMALL.make, Refusal.OUT, g -> g.child(1, i));
        }
        for (int i : Numbers.beyond(22)) {
            Refusal.of("of 23: " + i, Trees::row, Refusal.OUT, g -> g.child(0, i));
        }
        Refusal.of("one that was deleted", Situation.CHANGED.make, Refusal.OUT, g -> g.child(1, 1));
    }

    private static void nodesInTheTree() {
        int[] due = {1, 5, 5, 5, 6, 5, 8};
        for (Situation at : Situation.values()) {
            Check.same(at + "", at.make.get().nodes(false), due[at.ordinal()]);
        }
        Check.same("the most", Trees.row().nodes(false), 24);
        GroveMerge g = Trees.row();
        g.checkout(0);
        Check.same("the least", g.nodes(false), 1);
        Refusal.unchanged("to ask", Situation.CHANGED.make, other -> other.nodes(false));
    }

    private static void nodesMade() {
        for (Situation at : Situation.values()) {
            Check.same(at + "", at.make.get().nodes(true), at.made);
        }
        GroveMerge g = Trees.row();
        g.checkout(0);
        Check.same("the most, though few are left", g.nodes(true), 24);
        Refusal.unchanged("to ask", Situation.CHANGED.make, other -> other.nodes(true));
    }

    private static final int ANY_CHILD = Paths.step(Paths.CHILD, Paths.ANY);
    private static final int ANY_BELOW = Paths.step(Paths.BELOW, Paths.ANY);
    private static final int ANY_BEHIND = Paths.step(Paths.BEHIND, Paths.ANY);

    private static void countOfFound() {
        GroveMerge g = Situation.small();
        Check.same("children", g.count(ANY_CHILD), 2);
        Check.same("below", g.count(ANY_BELOW), 4);
        Check.same("none", g.count(ANY_BEHIND), 0);
        Check.same("the most", Trees.row().count(ANY_BELOW), 23);
        Check.same("the most of a chain", Trees.chain().count(ANY_BELOW), 23);
        Check.same("none of the root alone", new GroveMerge().count(ANY_BELOW), 0);
        GroveMerge changed = Situation.changed();
        Check.same("in the working tree", changed.count(Paths.step(Paths.BELOW, 4)), 1);
        changed.checkout(1);
        Check.same("not in another one", changed.count(Paths.step(Paths.BELOW, 4)), 0);
        Refusal.unchanged("to ask", Situation.CHANGED.make, other -> other.count(-1));
    }

    private static void countEachOnce() {
        Check.same("below several", Trees.chain().count(Paths.of(ANY_BELOW, ANY_BELOW)), 22);
        Check.same("behind several", Trees.row().count(Paths.of(ANY_CHILD, ANY_BEHIND)), 22);
        Check.same("both", Situation.small().count(Paths.of(ANY_BELOW, ANY_BEHIND)), 2);
    }

    private static void countWithoutSteps() {
        for (Situation at : Situation.values()) {
            Check.same(at + "", at.make.get().count(0), 1);
            Check.same(at + ", which one", at.make.get().find(0, 0), 0);
        }
        for (int label = 1; label < 8; label++) {
            Check.same("a label is no step: " + label, Situation.small().count(label << 2), 1);
        }
    }

    private static void findByNumber() {
        GroveMerge g = Situation.small();
        Check.same("first child", g.find(ANY_CHILD, 0), 1);
        Check.same("second child", g.find(ANY_CHILD, 1), 2);
        Check.same("by its label", g.find(Paths.step(Paths.BELOW, 1), 1), 4);
        for (int k = 0; k < 23; k++) {
            Check.same("of a row", Trees.row().find(ANY_CHILD, k), k + 1);
            Check.same("of a chain", Trees.chain().find(ANY_BELOW, k), k + 1);
        }
        Refusal.unchanged("to ask", Situation.CHANGED.make, other -> other.find(ANY_BELOW, 0));
    }

    private static void findInOrder() {
        GroveMerge g = Situation.small();
        Check.same("not by numbers", Paths.found(g, ANY_BELOW), "1 3 4 2");
        g.move(2, 0, 0);
        g.insert(2, 0, 1);
        Check.same("after a move", Paths.found(g, ANY_BELOW), "2 5 1 3 4");
        Check.same("of several rows", Paths.found(g, ANY_CHILD, ANY_CHILD), "5 3 4");
        GroveMerge row = Trees.row();
        for (int node = 2; node < 24; node++) {
            row.move(node, 0, 0);
        }
        for (int k = 0; k < 23; k++) {
            Check.same("turned round", row.find(ANY_CHILD, k), 23 - k);
        }
    }

    private static void findNone() {
        for (int k : Numbers.beyond(0)) {
            Refusal.of("the root: " + k, Situation.SMALL.make, Refusal.NO_SUCH, g -> g.find(0, k));
        }
        for (int k : Numbers.beyond(-1)) {
            Refusal.of("of none: " + k, Situation.SMALL.make, Refusal.NO_SUCH, g -> g.find(ANY_BEHIND, k));
        }
        for (int k : Numbers.beyond(3)) {
            Refusal.of("of four: " + k, Situation.SMALL.make, Refusal.NO_SUCH, g -> g.find(ANY_BELOW, k));
        }
        for (int k : Numbers.beyond(22)) {
            Refusal.of("of 23: " + k, Trees::row, Refusal.NO_SUCH, g -> g.find(ANY_BELOW, k));
        }
        Refusal.of("a label that none has", Situation.SMALL.make, Refusal.NO_SUCH, g -> g.find(Paths.step(Paths.BELOW, 5), 0));
    }

    private static void alikeIsTheFirst() {
        Check.same("the root alone", new GroveMerge().alike(0), 0);
        GroveMerge g = Trees.grown("0(1(2 3) 1(2 3) 2)");
        Check.same("itself", g.alike(1), 1);
        Check.same("an earlier part", g.alike(4), 1);
        Check.same("an earlier leaf", g.alike(7), 2);
        g.move(7, 0, 0);
        Check.same("in the document order, not by numbers", g.alike(2), 7);
        g.move(4, 0, 0);
        Check.same("nor by what it was", g.alike(1), 4);
        Check.same("the first of all in a row", Trees.row().alike(23), 1);
        Check.same("of a chain itself", Trees.chain().alike(23), 23);
        GroveMerge root = Trees.grown("0(1)");
        root.delete(1);
        root.insert(0, 0, 0);
        Check.same("the root is not alike a leaf below it", root.alike(2), 2);
        GroveMerge later = Situation.small();
        later.checkout(0);
        Check.same("in the working tree alone", later.alike(later.insert(0, 0, 1)), 5);
        Refusal.unchanged("to ask", Situation.CHANGED.make, other -> other.alike(4));
    }

    private static void alikeNoNode() {
        Refusal.withNoNode("node", (g, node) -> g.alike(node));
    }

    private static void distanceOfCommits() {
        GroveMerge g = Situation.takenIn();
        Check.same("itself", g.distance(1, 1), 0);
        Check.same("the first to itself", g.distance(0, 0), 0);
        Check.same("all put in", g.distance(0, 1), 4);
        Check.same("all taken out", g.distance(1, 0), 4);
        Check.same("two lines", g.distance(2, 3), 2);
        Check.same("not of the working tree", g.distance(3, 3), 0);
        Check.same("whatever is the head", g.distance(1, 2), 1);
        Refusal.unchanged("to ask", Situation.TAKEN_IN.make, other -> other.distance(1, 2));
    }

    private static void distanceOfNoCommit() {
        Refusal.withNoCommit("first", (g, commit) -> g.distance(commit, 0));
        Refusal.withNoCommit("second", (g, commit) -> g.distance(0, commit));
        Refusal.withNoCommit("both", (g, commit) -> g.distance(commit, commit));
    }
}
