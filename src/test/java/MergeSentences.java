import java.util.function.Consumer;

/** The document's rules of merging. */
final class MergeSentences {
    private static final String UNCHANGED = "0:0(1:1(4:1 5:1) 2:1(6:1) 3:1)";

    private MergeSentences() {
    }

    static void addTo(Sentences all) {
        all.below("Terms");
        all.say("TO MERGE a commit: let T be its tree, O the head's and B that of their base.", MergeSentences::treesThatAreMerged);
        addStaying(all);
        addLabelsAndParents(all);
        addConflicts(all);
        addPlaces(all);
    }

    private static void addStaying(Sentences all) {
        all.say("For each node that is in O or T:", MergeSentences::inNeither);
        all.say("If it is in both, it stays.", MergeSentences::inBoth);
        all.say("If it is in just one of them, and not in B, it stays", MergeSentences::newInOne);
        all.say("if it is in just one, and in B, too, with the same label and the same parent, it does not stay", MergeSentences::deletedInOne);
        all.say("with another one, it stays, and that is a conflict of kind 1.", MergeSentences::changedAndDeleted);
    }

    private static void addLabelsAndParents(Sentences all) {
        all.say("The label of a node that stays is that which it has in O or T, if just one has it", MergeSentences::labelOfTheOnlyOne);
        all.say("or both have the same.", MergeSentences::sameLabel);
        all.say("Else it is that in T, if B has it with the label that it has in O", MergeSentences::labelOfTheirs);
        all.say("or that in O, if B has it with the label that it has in T", MergeSentences::labelOfOurs);
        all.say("otherwise it is a conflict of kind 2.", MergeSentences::twoLabels);
        all.say("So it is with its parent", MergeSentences::parents);
        all.say("where it is kind 3.", MergeSentences::twoParents);
    }

    private static void addConflicts(Sentences all) {
        all.say("Of these kinds only the least one counts for a node.", MergeSentences::onlyTheLeastKind);
        all.say("If there are no conflicts so far", MergeSentences::kind4OnlyAlone);
        all.say(": it is a conflict of kind 4 when the parent of a node that stays does not stay", MergeSentences::parentGone);
        all.say("a conflict of kind 4 when the parent of a node that stays does not stay", MergeSentences::parentGoneOfFirstAndLast);
        all.say("if there are none of these either", MergeSentences::kind5OnlyAlone);
        all.say(": of kind 5 when one does not come to the root from a node that stays by going to parents.", MergeSentences::cutOff);
        all.say("Conflicts stand by the numbers of their nodes.", MergeSentences::conflictsByNumber);
    }

    private static void addPlaces(Sentences all) {
        all.say("Without conflicts the working tree becomes that of the nodes that stay, with these labels and parents.", MergeSentences::treeOfThoseThatStay);
        all.say("The children of a node stand so: first those that are its children in O, in their order there", MergeSentences::orderOfOurs);
        all.say("then of those that are its children in T, in their order there, each one that is not among them yet", MergeSentences::thoseOfTheirs);
        all.say("comes right behind the one before it in T's row", MergeSentences::behindTheOneBefore);
        all.say("(of those that are its children now)", MergeSentences::ofThoseThatAreChildrenNow);
        all.say("or to the front, if it is the first of that row.", MergeSentences::toTheFront);
    }

    /** Commit 1: the root with 1 (over 4 and 5), 2 (over 6) and 3, each but the root with label 1. */
    private static GroveMerge start() {
        GroveMerge g = new GroveMerge();
        for (int i = 0; i < 3; i++) {
            g.insert(0, i, 1);
        }
        g.insert(1, 0, 1);
        g.insert(1, 1, 1);
        g.insert(2, 0, 1);
        g.commit();
        return g;
    }

    /** The head is 2, with our changes behind 1; 3 has theirs behind 1. */
    private static GroveMerge lines(Consumer<GroveMerge> ours, Consumer<GroveMerge> theirs) {
        GroveMerge g = start();
        ours.accept(g);
        g.commit();
        g.checkout(1);
        theirs.accept(g);
        g.commit();
        g.checkout(2);
        return g;
    }

    private static void none(GroveMerge g) {
        Trees.same("no change", g, UNCHANGED);
    }

    private static void clean(String what, Consumer<GroveMerge> ours, Consumer<GroveMerge> theirs, String due) {
        GroveMerge g = lines(ours, theirs);
        Check.same(what + ", conflicts", g.merge(3), 0);
        Trees.same(what, g, due);
        Check.same(what + ", taken in", g.state(2), 3);
    }

    private static void cleanBothWays(String what, Consumer<GroveMerge> one, Consumer<GroveMerge> other, String due) {
        clean(what, one, other, due);
        clean(what + ", the other way", other, one, due);
    }

    /** The due conflicts as pairs of a kind and a node. */
    private static void conflicts(String what, Consumer<GroveMerge> one, Consumer<GroveMerge> other, int... due) {
        conflictsOneWay(what, one, other, due);
        conflictsOneWay(what + ", the other way", other, one, due);
    }

    private static void conflictsOneWay(String what, Consumer<GroveMerge> ours, Consumer<GroveMerge> theirs, int... due) {
        GroveMerge g = lines(ours, theirs);
        String before = Trees.show(g);
        Check.same(what + ", conflicts", g.merge(3), due.length / 2);
        named(what, g, due);
        Trees.same(what + ", the tree", g, before);
        Check.same(what + ", taken in", g.state(2), GroveMerge.NONE);
    }

    private static void named(String what, GroveMerge g, int... due) {
        for (int k = 0; k < due.length / 2; k++) {
            int at = k;
            Check.same(what + ", conflict " + k, Check.outcome(() -> g.conflict(at)), String.valueOf(32 * due[2 * k] + due[2 * k + 1]));
        }
        Check.same(what + ", the end", Check.outcome(() -> g.conflict(due.length / 2)), "NoSuchElementException");
    }

    /** 1 made node 1, 2 made 2 and 3; 3 is 2 with 1 merged, 4 is 1 with 2 merged, and the base of both is 1. */
    private static GroveMerge crossed(Consumer<GroveMerge> ours, Consumer<GroveMerge> theirs) {
        GroveMerge g = new GroveMerge();
        g.insert(0, 0, 1);
        g.commit();
        g.checkout(0);
        g.insert(0, 0, 2);
        g.insert(0, 1, 2);
        g.commit();
        g.merge(1);
        ours.accept(g);
        g.commit();
        g.checkout(1);
        g.merge(2);
        theirs.accept(g);
        g.commit();
        g.checkout(3);
        Check.same("base", g.base(3, 4), 1);
        return g;
    }

    private static void leave(GroveMerge g) {
        Check.same("three below the root", g.about(0, 2), 3);
    }

    private static void treesThatAreMerged() {
        clean("none changed", MergeSentences::none, MergeSentences::none, UNCHANGED);
        GroveMerge g = lines(ours -> ours.relabel(1, 2), theirs -> theirs.relabel(2, 3));
        g.checkout(3);
        Check.same("the head is 3", g.merge(2), 0);
        Trees.same("both changes", g, "0:0(1:2(4:1 5:1) 2:3(6:1) 3:1)");
        g.checkout(3);
        Check.same("one above the head", g.merge(1), 0);
        Trees.same("the head's own change", g, "0:0(1:1(4:1 5:1) 2:3(6:1) 3:1)");
        g.checkout(0);
        Check.same("one far below the head", g.merge(2), 0);
        Trees.same("its tree", g, "0:0(1:2(4:1 5:1) 2:1(6:1) 3:1)");
        GroveMerge crossed = crossed(ours -> ours.relabel(1, 3), MergeSentences::leave);
        Check.same("the base is the least", crossed.merge(4), 0);
        Check.same("with its label", crossed.about(1, 0), 3);
    }

    private static void inNeither() {
        cleanBothWays("deleted in both", g -> g.delete(1), g -> g.delete(1), "0:0(2:1(6:1) 3:1)");
        cleanBothWays("changed before it was deleted in both", g -> {
            g.relabel(4, 5);
            g.move(4, 3, 0);
            g.delete(4);
        }, g -> g.delete(4), "0:0(1:1(5:1) 2:1(6:1) 3:1)");
        clean("all but the root", MergeSentences::deleteAll, MergeSentences::deleteAll, "0:0");
    }

    private static void deleteAll(GroveMerge g) {
        for (int node = 1; node <= 3; node++) {
            g.delete(node);
        }
    }

    private static void inBoth() {
        clean("in B, too", MergeSentences::none, MergeSentences::none, UNCHANGED);
        GroveMerge g = crossed(MergeSentences::leave, MergeSentences::leave);
        Check.same("not in B", g.merge(4), 0);
        Trees.same("not in B", g, "0:0(1:1 2:2 3:2)");
        clean("the root, though it was changed", ours -> ours.relabel(0, 5), MergeSentences::deleteAll, "0:5");
    }

    private static void newInOne() {
        clean("in each line one", g -> g.insert(3, 0, 2), g -> g.insert(6, 0, 3), "0:0(1:1(4:1 5:1) 2:1(6:1(8:3)) 3:1(7:2))");
        cleanBothWays("a part", MergeSentences::none, g -> g.insert(g.insert(3, 0, 4), 0, 5), "0:0(1:1(4:1 5:1) 2:1(6:1) 3:1(7:4(8:5)))");
        stayThoughDeleted("another label", g -> g.relabel(2, 5), "0:0(1:1 2:5 3:2)", "0:0(2:5 1:1 3:2)");
        stayThoughDeleted("another parent", g -> g.move(2, 1, 0), "0:0(1:1(2:2) 3:2)", "0:0(1:1(2:2) 3:2)");
        stayThoughDeleted("no change", MergeSentences::leave, "0:0(1:1 2:2 3:2)", "0:0(2:2 1:1 3:2)");
        GroveMerge most = new GroveMerge();
        for (int node = 1; node < 12; node++) {
            most.insert(node - 1, 0, 1);
        }
        most.commit();
        most.checkout(0);
        int below = 0;
        for (int node = 12; node < 24; node++) {
            below = most.insert(below, 0, 2);
        }
        most.commit();
        Check.same("as many as there can be", most.merge(1), 0);
        Check.same("as many as there can be", most.nodes(false), 24);
        Check.same("the last one of theirs", most.about(11, 3), 11);
        Check.same("the last one of ours", most.about(23, 3), 23);
    }

    /** A node that is not in the base, changed in one of two crossed lines and deleted in the other. */
    private static void stayThoughDeleted(String what, Consumer<GroveMerge> change, String dueInOurs, String dueInTheirs) {
        GroveMerge ours = crossed(change, g -> g.delete(2));
        Check.same(what + " in O, deleted in T, not in B", ours.merge(4), 0);
        Trees.same(what + " in O, deleted in T, not in B", ours, dueInOurs);
        GroveMerge theirs = crossed(g -> g.delete(2), change);
        Check.same(what + " in T, deleted in O, not in B", theirs.merge(4), 0);
        Trees.same(what + " in T, deleted in O, not in B", theirs, dueInTheirs);
    }

    private static void deletedInOne() {
        cleanBothWays("with all below", MergeSentences::none, g -> g.delete(1), "0:0(2:1(6:1) 3:1)");
        cleanBothWays("all", MergeSentences::none, MergeSentences::deleteAll, "0:0");
        cleanBothWays("at another place", g -> g.move(1, 0, 2), g -> g.delete(1), "0:0(2:1(6:1) 3:1)");
        cleanBothWays("changed back", g -> {
            g.relabel(1, 2);
            g.relabel(1, 1);
            g.move(6, 3, 0);
            g.move(6, 2, 0);
        }, g -> {
            g.delete(1);
            g.delete(6);
        }, "0:0(2:1 3:1)");
        cleanBothWays("beside one that came in", g -> g.move(3, 1, 0), g -> g.delete(4), "0:0(1:1(3:1 5:1) 2:1(6:1))");
    }

    private static void changedAndDeleted() {
        conflicts("another label", g -> g.relabel(3, 2), g -> g.delete(3), 1, 3);
        conflicts("another parent", g -> g.move(4, 3, 0), g -> g.delete(1), 1, 4);
        conflicts("both", g -> {
            g.move(4, 3, 0);
            g.relabel(4, 0);
        }, g -> g.delete(4), 1, 4);
        conflicts("below what was deleted", g -> g.relabel(4, 2), g -> g.delete(1), 1, 4);
        conflicts("in both lines", g -> {
            g.relabel(5, 2);
            g.relabel(1, 2);
            g.delete(6);
        }, g -> {
            g.delete(1);
            g.relabel(6, 3);
        }, 1, 1, 1, 5, 1, 6);
    }

    private static void labelOfTheOnlyOne() {
        cleanBothWays("of a new one", MergeSentences::none, g -> g.insert(3, 0, 5), "0:0(1:1(4:1 5:1) 2:1(6:1) 3:1(7:5))");
        cleanBothWays("label 0", MergeSentences::none, g -> g.insert(3, 0, 0), "0:0(1:1(4:1 5:1) 2:1(6:1) 3:1(7:0))");
    }

    private static void sameLabel() {
        clean("changed in both", g -> g.relabel(0, 5), g -> g.relabel(0, 5), "0:5(1:1(4:1 5:1) 2:1(6:1) 3:1)");
        clean("in none", MergeSentences::none, MergeSentences::none, UNCHANGED);
        GroveMerge g = crossed(ours -> ours.relabel(2, 4), theirs -> theirs.relabel(2, 4));
        Check.same("not in B", g.merge(4), 0);
        Check.same("not in B", g.about(2, 0), 4);
    }

    private static void labelOfTheirs() {
        clean("of the root", MergeSentences::none, g -> g.relabel(0, 5), "0:5(1:1(4:1 5:1) 2:1(6:1) 3:1)");
        clean("of a leaf", MergeSentences::none, g -> g.relabel(6, 0), "0:0(1:1(4:1 5:1) 2:1(6:0) 3:1)");
        clean("of one that we moved", g -> g.move(3, 2, 0), g -> g.relabel(3, 5), "0:0(1:1(4:1 5:1) 2:1(3:5 6:1))");
    }

    private static void labelOfOurs() {
        clean("of the root", g -> g.relabel(0, 5), MergeSentences::none, "0:5(1:1(4:1 5:1) 2:1(6:1) 3:1)");
        clean("of a leaf", g -> g.relabel(6, 0), MergeSentences::none, "0:0(1:1(4:1 5:1) 2:1(6:0) 3:1)");
        clean("of one that they moved", g -> g.relabel(3, 5), g -> g.move(3, 2, 0), "0:0(1:1(4:1 5:1) 2:1(3:5 6:1))");
        cleanBothWays("of two nodes", g -> g.relabel(1, 5), g -> g.relabel(2, 4), "0:0(1:5(4:1 5:1) 2:4(6:1) 3:1)");
    }

    private static void twoLabels() {
        conflicts("of the root", g -> g.relabel(0, 5), g -> g.relabel(0, 4), 2, 0);
        conflicts("of a leaf", g -> g.relabel(6, 0), g -> g.relabel(6, 2), 2, 6);
        GroveMerge one = crossed(ours -> ours.relabel(2, 3), MergeSentences::leave);
        Check.same("changed in O, not in B", one.merge(4), 1);
        named("changed in O, not in B", one, 2, 2);
        GroveMerge other = crossed(MergeSentences::leave, theirs -> theirs.relabel(3, 3));
        Check.same("changed in T, not in B", other.merge(4), 1);
        named("changed in T, not in B", other, 2, 3);
    }

    private static void parents() {
        cleanBothWays("of one of them", MergeSentences::none, g -> g.move(6, 3, 0), "0:0(1:1(4:1 5:1) 2:1 3:1(6:1))");
        cleanBothWays("the same of both", g -> g.move(6, 3, 0), g -> g.move(6, 3, 0), "0:0(1:1(4:1 5:1) 2:1 3:1(6:1))");
        cleanBothWays("of a new one", MergeSentences::none, g -> g.insert(6, 0, 2), "0:0(1:1(4:1 5:1) 2:1(6:1(7:2)) 3:1)");
        cleanBothWays("of one whose label the other changed", g -> g.move(6, 3, 0), g -> g.relabel(6, 4), "0:0(1:1(4:1 5:1) 2:1 3:1(6:4))");
        cleanBothWays("out of what is deleted", g -> g.move(6, 3, 0), g -> {
            g.move(6, 3, 0);
            g.delete(2);
        }, "0:0(1:1(4:1 5:1) 3:1(6:1))");
        GroveMerge g = crossed(ours -> ours.move(2, 1, 0), theirs -> theirs.move(2, 1, 0));
        Check.same("the same of both, not in B", g.merge(4), 0);
        Check.same("the same of both, not in B", g.about(2, 1), 1);
    }

    private static void twoParents() {
        conflicts("others than in B", g -> g.move(6, 3, 0), g -> g.move(6, 1, 0), 3, 6);
        conflicts("a new one", g -> g.move(6, g.insert(3, 0, 1), 0), g -> g.move(6, 0, 0), 3, 6);
        GroveMerge g = crossed(ours -> ours.move(2, 1, 0), MergeSentences::leave);
        Check.same("not in B", g.merge(4), 1);
        named("not in B", g, 3, 2);
    }

    private static void onlyTheLeastKind() {
        conflicts("2 and 3", g -> {
            g.move(6, 3, 0);
            g.relabel(6, 2);
        }, g -> {
            g.move(6, 1, 0);
            g.relabel(6, 3);
        }, 2, 6);
        conflicts("of another node another kind", g -> {
            g.move(6, 3, 0);
            g.relabel(6, 2);
            g.move(5, 3, 0);
        }, g -> {
            g.move(6, 1, 0);
            g.relabel(6, 3);
            g.move(5, 2, 0);
        }, 3, 5, 2, 6);
    }

    private static void kind4OnlyAlone() {
        conflicts("not beside kind 1", g -> {
            g.delete(2);
            g.relabel(3, 2);
        }, g -> {
            g.insert(2, 0, 1);
            g.delete(3);
        }, 1, 3);
        conflicts("not beside kind 2", g -> {
            g.delete(2);
            g.relabel(1, 2);
        }, g -> {
            g.insert(2, 0, 1);
            g.relabel(1, 3);
        }, 2, 1);
        conflicts("not beside kind 3", g -> {
            g.delete(2);
            g.move(4, 3, 0);
        }, g -> {
            g.insert(2, 0, 1);
            g.move(4, 0, 0);
        }, 3, 4);
    }

    private static void parentGone() {
        conflicts("a new one", g -> g.insert(2, 0, 1), g -> g.delete(2), 4, 7);
        conflicts("one that was moved", g -> g.move(3, 2, 0), g -> g.delete(2), 4, 3);
        conflicts("not what is below it", g -> g.insert(g.insert(6, 0, 1), 0, 1), g -> g.delete(2), 4, 7);
        conflicts("several", g -> {
            g.move(3, 6, 0);
            g.insert(2, 0, 1);
        }, g -> g.delete(2), 4, 3, 4, 7);
        conflicts("in both lines", g -> {
            g.insert(2, 0, 1);
            g.delete(1);
        }, g -> {
            g.insert(1, 0, 1);
            g.delete(2);
        }, 4, 7, 4, 8);
    }

    private static void parentGoneOfFirstAndLast() {
        GroveMerge g = Trees.row();
        g.commit();
        g.delete(5);
        g.commit();
        g.checkout(1);
        g.move(1, 5, 0);
        g.move(23, 5, 0);
        g.commit();
        Check.same("conflicts", g.merge(2), 2);
        named("the first and the last that there can be", g, 4, 1, 4, 23);
    }

    private static void kind5OnlyAlone() {
        conflicts("not beside kind 4", g -> {
            g.delete(2);
            g.move(1, 3, 0);
        }, g -> {
            g.insert(2, 0, 1);
            g.move(3, 1, 0);
        }, 4, 7);
        conflicts("not beside kind 2", g -> {
            g.relabel(6, 2);
            g.move(1, 3, 0);
        }, g -> {
            g.relabel(6, 3);
            g.move(3, 1, 0);
        }, 2, 6);
    }

    private static void cutOff() {
        conflicts("moved below one another", g -> g.move(1, 3, 0), g -> g.move(3, 1, 0), 5, 1, 5, 3, 5, 4, 5, 5);
        conflicts("with new ones below them", g -> {
            g.move(2, 3, 0);
            g.insert(6, 0, 1);
        }, g -> g.move(3, 6, 0), 5, 2, 5, 3, 5, 6, 5, 7);
        conflicts("in a ring of three", g -> {
            g.move(1, 2, 0);
            g.move(2, 3, 0);
        }, g -> g.move(3, 1, 0), 5, 1, 5, 2, 5, 3, 5, 4, 5, 5, 5, 6);
        GroveMerge chain = Trees.chain();
        chain.commit();
        chain.relabel(23, 1);
        chain.commit();
        chain.checkout(1);
        chain.relabel(1, 1);
        chain.commit();
        Check.same("not the deepest that there can be", chain.merge(2), 0);
        Check.same("its number in the order", chain.about(23, 3), 23);
    }

    private static void conflictsByNumber() {
        conflicts("whatever their kinds are", g -> {
            g.relabel(6, 2);
            g.move(4, 3, 0);
            g.relabel(5, 2);
            g.relabel(0, 2);
        }, g -> {
            g.delete(6);
            g.move(4, 2, 0);
            g.relabel(5, 3);
            g.relabel(0, 3);
        }, 2, 0, 3, 4, 2, 5, 1, 6);
        conflicts("not by the order of the document", g -> {
            g.move(3, 0, 0);
            g.relabel(1, 2);
            g.relabel(3, 2);
        }, g -> {
            g.move(3, 0, 0);
            g.relabel(1, 3);
            g.relabel(3, 3);
        }, 2, 1, 2, 3);
    }

    private static void treeOfThoseThatStay() {
        cleanBothWays("a change of each kind", g -> {
            g.delete(4);
            g.move(6, 1, 0);
        }, g -> {
            g.relabel(6, 5);
            g.insert(3, 0, 2);
        }, "0:0(1:1(6:5 5:1) 2:1 3:1(7:2))");
        clean("a new one below one that was moved", g -> g.move(6, 0, 0), g -> g.insert(6, 0, 2),
            "0:0(6:1(7:2) 1:1(4:1 5:1) 2:1 3:1)");
        clean("parents turned round", g -> {
            g.move(6, 0, 0);
            g.move(2, 6, 0);
        }, g -> g.relabel(2, 5), "0:0(6:1(2:5) 1:1(4:1 5:1) 3:1)");
        GroveMerge g = lines(ours -> ours.delete(1), theirs -> theirs.insert(3, 0, 2));
        g.merge(3);
        Check.same("nodes", g.nodes(false), 5);
        Check.same("one that does not stay", Check.outcome(() -> g.about(4, 0)), "NoSuchElementException");
        Check.same("its number in the order", g.about(7, 3), 4);
        Check.same("how many it can be asked for", g.count(2 | 7 << 2), 4);
    }

    private static void orderOfOurs() {
        clean("another one", g -> g.move(1, 0, 2), MergeSentences::none, "0:0(2:1(6:1) 3:1 1:1(4:1 5:1))");
        clean("not that of theirs", MergeSentences::none, g -> g.move(3, 0, 0), UNCHANGED);
        clean("not that of theirs, which is another one, too", g -> g.move(1, 0, 2), g -> g.move(3, 0, 0), "0:0(2:1(6:1) 3:1 1:1(4:1 5:1))");
        clean("without those that do not stay", g -> g.move(1, 0, 2), g -> g.delete(2), "0:0(3:1 1:1(4:1 5:1))");
        clean("without those that were moved away", g -> g.move(1, 0, 2), g -> g.move(2, 3, 0), "0:0(3:1(2:1(6:1)) 1:1(4:1 5:1))");
    }

    private static void thoseOfTheirs() {
        clean("several in a row", g -> g.insert(0, 1, 2), g -> {
            g.insert(0, 1, 3);
            g.insert(0, 2, 4);
        }, "0:0(1:1(4:1 5:1) 8:3 9:4 7:2 2:1(6:1) 3:1)");
        clean("below one that is empty in ours", MergeSentences::none, g -> {
            g.insert(3, 0, 3);
            g.insert(3, 0, 4);
        }, "0:0(1:1(4:1 5:1) 2:1(6:1) 3:1(8:4 7:3))");
        clean("below one that is new in theirs", MergeSentences::none, g -> {
            int top = g.insert(0, 0, 2);
            g.insert(top, 0, 3);
            g.move(3, top, 0);
        }, "0:0(7:2(3:1 8:3) 1:1(4:1 5:1) 2:1(6:1))");
        clean("not those that ours moved away", g -> g.move(5, 3, 0), g -> g.insert(1, 2, 2), "0:0(1:1(4:1 7:2) 2:1(6:1) 3:1(5:1))");
    }

    private static void behindTheOneBefore() {
        clean("before what ours put there", g -> g.insert(0, 1, 2), g -> g.insert(0, 1, 3), "0:0(1:1(4:1 5:1) 8:3 7:2 2:1(6:1) 3:1)");
        clean("at the end", g -> g.insert(0, 3, 2), g -> g.insert(0, 3, 3), "0:0(1:1(4:1 5:1) 2:1(6:1) 3:1 8:3 7:2)");
        clean("where ours has it", g -> g.move(1, 0, 2), g -> g.insert(0, 1, 3), "0:0(2:1(6:1) 3:1 1:1(4:1 5:1) 7:3)");
        clean("one that theirs moved", g -> g.insert(1, 1, 2), g -> g.move(3, 1, 2), "0:0(1:1(4:1 7:2 5:1 3:1) 2:1(6:1))");
        clean("where theirs has another order", MergeSentences::none, g -> {
            g.move(3, 0, 0);
            g.insert(0, 1, 2);
        }, "0:0(1:1(4:1 5:1) 2:1(6:1) 3:1 7:2)");
        clean("one behind each", MergeSentences::none, g -> {
            g.insert(0, 1, 2);
            g.insert(0, 3, 3);
            g.insert(0, 5, 4);
        }, "0:0(1:1(4:1 5:1) 7:2 2:1(6:1) 8:3 3:1 9:4)");
    }

    private static void ofThoseThatAreChildrenNow() {
        clean("the one before is deleted", g -> g.delete(2), g -> g.insert(0, 2, 3), "0:0(1:1(4:1 5:1) 7:3 3:1)");
        clean("the one before has another parent", g -> g.move(2, 3, 0), g -> g.insert(0, 2, 3), "0:0(1:1(4:1 5:1) 7:3 3:1(2:1(6:1)))");
        clean("two before are gone", g -> {
            g.delete(2);
            g.move(3, 1, 0);
        }, g -> g.insert(0, 3, 3), "0:0(1:1(3:1 4:1 5:1) 7:3)");
        clean("all before are gone", g -> g.delete(1), g -> g.insert(0, 1, 3), "0:0(7:3 2:1(6:1) 3:1)");
    }

    private static void toTheFront() {
        clean("before what ours put there", g -> g.insert(0, 0, 2), g -> g.insert(0, 0, 3), "0:0(8:3 7:2 1:1(4:1 5:1) 2:1(6:1) 3:1)");
        clean("into one that is empty", MergeSentences::none, g -> g.insert(3, 0, 3), "0:0(1:1(4:1 5:1) 2:1(6:1) 3:1(7:3))");
        clean("into one that ours has filled", g -> g.insert(3, 0, 2), g -> g.insert(3, 0, 3), "0:0(1:1(4:1 5:1) 2:1(6:1) 3:1(8:3 7:2))");
        clean("one that theirs moved", MergeSentences::none, g -> g.move(6, 1, 0), "0:0(1:1(6:1 4:1 5:1) 2:1 3:1)");
        clean("only the first", MergeSentences::none, g -> {
            g.insert(0, 0, 3);
            g.insert(0, 1, 4);
        }, "0:0(7:3 8:4 1:1(4:1 5:1) 2:1(6:1) 3:1)");
    }
}
