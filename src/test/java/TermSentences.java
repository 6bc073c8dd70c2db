/** The document's terms of trees, commits and likeness. */
final class TermSentences {
    private TermSentences() {
    }

    static void addTo(Sentences all) {
        all.below("Terms");
        addNodes(all);
        addTrees(all);
        addCommits(all);
        addAlike(all);
        addBases(all);
    }

    private static void addNodes(Sentences all) {
        all.say("NODES are numbered 0, 1, .. in the order in which they are made", TermSentences::nodesInOrder);
        all.say("24 at most in all", TermSentences::nodesAtMost);
        all.say("0 is the ROOT.", TermSentences::root);
    }

    private static void addTrees(Sentences all) {
        all.say("A TREE has the root and some of the nodes made", TermSentences::treeHasSomeNodes);
        all.say("each has a LABEL, 0 .. 5", TermSentences::labels);
        all.say("and its CHILDREN in order", TermSentences::childrenInOrder);
        all.say("each but the root is the child of just one, its PARENT", TermSentences::oneParent);
        all.say("and the root is above all.", TermSentences::rootAboveAll);
        all.say("THE DOCUMENT ORDER of a tree: a node stands before all below it", TermSentences::orderOfNodeAndBelow);
        all.say("and a child with all below it before the next child.", TermSentences::orderOfChildren);
        all.say("There is the WORKING tree, at first the root with label 0 alone.", TermSentences::workingTreeAtFirst);
    }

    private static void addCommits(Sentences all) {
        all.say("COMMITS are numbered 0, 1, .. , 12 at most", TermSentences::commitsAtMost);
        all.say("each has a tree, which never changes", TermSentences::commitsNeverChange);
        all.say("and PARENTS", TermSentences::commitsHaveParents);
        all.say("commit 0 is there at first, with the working tree as it is then, without parents.", TermSentences::commitAtFirst);
        all.say("The HEAD is a commit, at first 0.", TermSentences::headAtFirst);
        all.say("A commit may be TAKEN IN, at first none is.", TermSentences::noneTakenInAtFirst);
    }

    private static void addAlike(Sentences all) {
        all.say("TWO NODES ARE ALIKE when they have the same label", TermSentences::alikeByLabel);
        all.say("and as many children", TermSentences::alikeByChildren);
        all.say("and these are alike one by one.", TermSentences::alikeOneByOne);
    }

    private static void addBases(Sentences all) {
        all.say("COMMON to two commits are the commits to which one can come from both by going to parents", TermSentences::commonByParents);
        all.say("(in no step, too)", TermSentences::commonInNoStep);
        all.say("their BASE is the least of those common ones", TermSentences::baseIsTheLeast);
        all.say("to which one can't come from another common one.", TermSentences::baseIsBelowOthers);
    }

    private static void nodesInOrder() {
        GroveMerge g = new GroveMerge();
        Check.same("first", g.insert(0, 0, 0), 1);
        Check.same("before the first", g.insert(0, 0, 0), 2);
        Check.same("below", g.insert(1, 0, 0), 3);
        g.delete(3);
        Check.same("behind a delete", g.insert(1, 0, 0), 4);
        g.commit();
        g.checkout(0);
        Check.same("behind a checkout", g.insert(0, 0, 0), 5);
        Check.same("refused", Check.outcome(() -> g.insert(0, 9, 0)), "IndexOutOfBoundsException");
        Check.same("behind one that was refused", g.insert(0, 0, 0), 6);
        g.commit();
        Check.same("merged", g.merge(1), 0);
        Check.same("behind a merge", g.insert(0, 0, 0), 7);
    }

    private static void nodesAtMost() {
        GroveMerge g = new GroveMerge();
        for (int node = 1; node < 24; node++) {
            Check.same("another one", g.insert(0, 0, 0), node);
            if (node % 5 == 0) {
                g.checkout(0);
            }
        }
        Check.same("the 25th, with few in the tree", Check.outcome(() -> g.insert(0, 0, 0)), "UnsupportedOperationException");
        Check.same("made", g.nodes(true), 24);
        Check.same("all at once", Trees.row().nodes(false), 24);
        GroveMerge row = Trees.row();
        Check.same("the 25th beside all", Check.outcome(() -> row.insert(0, 0, 0)), "UnsupportedOperationException");
    }

    private static void root() {
        for (Situation at : Situation.values()) {
            GroveMerge g = at.make.get();
            Check.same(at + " has no parent", g.about(0, 1), GroveMerge.NONE);
            Check.same(at + " is found first", g.find(0, 0), 0);
            Check.same(at + " is first in the order", g.about(0, 3), 0);
        }
    }

    private static void treeHasSomeNodes() {
        for (Situation at : Situation.values()) {
            GroveMerge g = at.make.get();
            Trees.same(at + "", g, at.tree);
            for (int node = 0; node < 24; node++) {
                int asked = node;
                Check.holds(at + " and " + node, at.has(node) != Check.outcome(() -> g.about(asked, 3)).equals("NoSuchElementException"));
            }
        }
    }

    private static void labels() {
        GroveMerge g = Trees.grown("0(1 2 3 4 5)");
        for (int node = 0; node < 6; node++) {
            Check.same("made with " + node, g.about(node, 0), node);
            g.relabel(node, 5 - node);
            Check.same("changed to " + (5 - node), g.about(node, 0), 5 - node);
        }
    }

    private static void childrenInOrder() {
        GroveMerge g = new GroveMerge();
        for (int node = 1; node < 24; node++) {
            g.insert(0, 0, 0);
        }
        for (int i = 0; i < 23; i++) {
            Check.same("each before those made earlier", g.child(0, i), 23 - i);
        }
        g.move(23, 0, 22);
        Check.same("the first moved to the end", g.child(0, 22), 23);
        Check.same("those behind it come up", g.child(0, 0), 22);
    }

    /** A tree that was changed in each way, two lines merged. */
    private static GroveMerge mixed() {
        GroveMerge g = Trees.grown("0(1(2 3(4)) 5 1(2(3)))");
        g.commit();
        g.move(3, 5, 0);
        g.delete(7);
        g.insert(3, 1, 0);
        g.commit();
        g.checkout(1);
        g.insert(6, 1, 1);
        g.move(5, 0, 2);
        g.commit();
        g.merge(2);
        return g;
    }

    private static void oneParent() {
        GroveMerge g = mixed();
        Trees.same("the tree", g, "0:0(1:1(2:2) 6:1(10:1) 5:5(3:3(4:4 9:0)))");
        int[] nodes = {1, 2, 3, 4, 5, 6, 9, 10};
        int[] parents = {0, 1, 5, 3, 0, 0, 3, 6};
        for (int i = 0; i < nodes.length; i++) {
            Check.same("parent of " + nodes[i], g.about(nodes[i], 1), parents[i]);
            Check.same("how often it is a child", timesAsChild(g, nodes[i]), 1);
        }
        Check.same("how often the root is a child", timesAsChild(g, 0), 0);
    }

    private static int timesAsChild(GroveMerge g, int node) {
        int times = 0;
        for (int parent : new int[] {0, 1, 2, 3, 4, 5, 6, 9, 10}) {
            int children = g.about(parent, 2);
            for (int i = 0; i < children; i++) {
                times += g.child(parent, i) == node ? 1 : 0;
            }
        }
        return times;
    }

    private static void rootAboveAll() {
        GroveMerge mixed = mixed();
        for (int node : new int[] {1, 2, 3, 4, 5, 6, 9, 10}) {
            Check.same("from " + node, top(mixed, node), 0);
        }
        GroveMerge chain = Trees.chain();
        Check.same("from the deepest", top(chain, 23), 0);
    }

    private static int top(GroveMerge g, int node) {
        int at = node;
        for (int i = 0; i < 24 && g.about(at, 1) != GroveMerge.NONE; i++) {
            at = g.about(at, 1);
        }
        return at;
    }

    private static void order(String what, GroveMerge g, int... due) {
        for (int i = 0; i < due.length; i++) {
            Check.same(what + ", number of " + due[i], g.about(due[i], 3), i);
        }
    }

    private static void orderOfNodeAndBelow() {
        GroveMerge chain = Trees.chain();
        for (int node = 0; node < 24; node++) {
            Check.same("of a chain", chain.about(node, 3), node);
        }
        GroveMerge g = Trees.grown("0(1 2)");
        g.move(1, 2, 0);
        order("one below what was made behind it", g, 0, 2, 1);
    }

    private static void orderOfChildren() {
        order("a part before the next child", Trees.grown("0(1(2(3) 4) 5(1))"), 0, 1, 2, 3, 4, 5, 6);
        GroveMerge g = Trees.grown("0(1(2(3) 4) 5(1))");
        g.move(5, 0, 0);
        order("turned round", g, 0, 5, 6, 1, 2, 3, 4);
        g.move(2, 5, 1);
        order("a part of it moved", g, 0, 5, 6, 2, 3, 1, 4);
        order("merged", mixed(), 0, 1, 2, 6, 10, 5, 3, 4, 9);
    }

    private static void workingTreeAtFirst() {
        GroveMerge g = new GroveMerge();
        Trees.same("the tree", g, "0:0");
        Check.same("nodes", g.nodes(false), 1);
    }

    private static void commitsAtMost() {
        GroveMerge g = new GroveMerge();
        for (int commit = 1; commit < 12; commit++) {
            Check.same("another one", g.commit(), commit);
        }
        Check.same("how many", g.state(0), 12);
        Check.same("the 13th", Check.outcome(g::commit), "UnsupportedOperationException");
    }

    private static void commitsNeverChange() {
        GroveMerge g = Situation.committed();
        g.insert(0, 0, 5);
        g.relabel(1, 5);
        g.move(3, 2, 0);
        g.delete(4);
        g.commit();
        g.checkout(1);
        Trees.same("the working tree went on", g, Situation.COMMITTED.tree);
        g.relabel(0, 5);
        g.delete(1);
        g.checkout(0);
        g.merge(2);
        g.commit();
        g.checkout(1);
        Trees.same("others were merged", g, Situation.COMMITTED.tree);
        g.checkout(0);
        Trees.same("the first", g, "0:0");
        g.checkout(2);
        Trees.same("the second", g, "0:0(5:5 1:5 2:2(3:3))");
    }

    private static void commitsHaveParents() {
        GroveMerge g = Situation.takenIn();
        g.commit();
        int[] first = {GroveMerge.NONE, 0, 1, 1, 3};
        int[] second = {GroveMerge.NONE, GroveMerge.NONE, GroveMerge.NONE, GroveMerge.NONE, 2};
        for (int commit = 0; commit < 5; commit++) {
            Check.same("first of " + commit, g.above(commit, 0), first[commit]);
            Check.same("second of " + commit, g.above(commit, 1), second[commit]);
        }
    }

    private static void commitAtFirst() {
        GroveMerge g = new GroveMerge();
        Check.same("commits", g.state(0), 1);
        Check.same("no parent", g.above(0, 0), GroveMerge.NONE);
        Check.same("nor a second", g.above(0, 1), GroveMerge.NONE);
        g.relabel(0, 4);
        g.insert(0, 0, 1);
        g.checkout(0);
        Trees.same("its tree", g, "0:0");
    }

    private static void headAtFirst() {
        GroveMerge g = new GroveMerge();
        Check.same("head", g.state(1), 0);
        g.commit();
        Check.same("above the first commit made", g.above(1, 0), 0);
    }

    private static void noneTakenInAtFirst() {
        GroveMerge g = new GroveMerge();
        Check.same("none", g.state(2), GroveMerge.NONE);
        Check.same("so one may be merged", g.merge(0), 0);
        Check.same("which is taken in", g.state(2), 0);
    }

    private static void alikeByLabel() {
        GroveMerge g = Trees.grown("0(1 2 1 0)");
        Check.same("the same", g.alike(3), 1);
        Check.same("another one", g.alike(2), 2);
        Check.same("the root's, which has children", g.alike(4), 4);
        g.relabel(3, 2);
        Check.same("changed", g.alike(3), 2);
    }

    private static void alikeByChildren() {
        GroveMerge g = Trees.grown("0(1 1(2) 1(2 2) 1(2) 1)");
        Check.same("none", g.alike(9), 1);
        Check.same("one, not none", g.alike(2), 2);
        Check.same("two, not one", g.alike(4), 4);
        Check.same("one", g.alike(7), 2);
        Check.same("as many nodes, but not children", Trees.grown("0(1(2(2)) 1(2 2))").alike(4), 4);
    }

    private static void alikeOneByOne() {
        Check.same("in another order", Trees.grown("0(1(2 3) 1(3 2))").alike(4), 4);
        Check.same("in the same order", Trees.grown("0(1(2 3) 1(2 3))").alike(4), 1);
        Check.same("the first not", Trees.grown("0(1(2 3) 1(4 3))").alike(4), 4);
        Check.same("the last not", Trees.grown("0(1(2 3) 1(2 4))").alike(4), 4);
        Check.same("the only one not", Trees.grown("0(1(2) 1(3))").alike(3), 3);
        Check.same("not far below", Trees.grown("0(1(2(3(4))) 1(2(3(5))))").alike(5), 5);
        Check.same("far below, too", Trees.grown("0(1(2(3(4))) 1(2(3(4))))").alike(5), 1);
        Check.same("other children of children", Trees.grown("0(1(2(3) 2) 1(2 2(3)))").alike(5), 5);
        Check.same("one below the other", Trees.grown("0(1(1))").alike(2), 2);
    }

    /** Two commits from 0, merged in both ways: 3 has 2 and 1 above it, 4 has 1 and 2. */
    private static GroveMerge crossed() {
        GroveMerge g = new GroveMerge();
        g.commit();
        g.checkout(0);
        g.commit();
        g.merge(1);
        g.commit();
        g.checkout(1);
        g.merge(2);
        g.commit();
        return g;
    }

    private static void commonByParents() {
        GroveMerge g = crossed();
        Check.same("two lines", g.base(1, 2), 0);
        Check.same("by the first parent", g.base(3, 2), 2);
        Check.same("by the second parent", g.base(3, 1), 1);
        Check.same("by the second parent of the other", g.base(4, 2), 2);
        g.checkout(0);
        g.commit();
        Check.same("far above both", g.base(5, 4), 0);
        g.merge(4);
        g.commit();
        Check.same("by a second parent's second parent", g.base(6, 2), 2);
    }

    private static void commonInNoStep() {
        GroveMerge g = crossed();
        for (int commit = 0; commit < 5; commit++) {
            Check.same("itself: " + commit, g.base(commit, commit), commit);
            Check.same("the first and " + commit, g.base(0, commit), 0);
            Check.same(commit + " and the first", g.base(commit, 0), 0);
        }
    }

    private static void baseIsTheLeast() {
        GroveMerge g = crossed();
        Check.same("of 1 and 2", g.base(3, 4), 1);
        Check.same("turned round", g.base(4, 3), 1);
        g.checkout(3);
        g.commit();
        g.checkout(4);
        g.commit();
        Check.same("further below", g.base(5, 6), 1);
    }

    private static void baseIsBelowOthers() {
        GroveMerge g = new GroveMerge();
        for (int commit = 1; commit < 9; commit++) {
            g.commit();
        }
        g.checkout(7);
        g.commit();
        Check.same("not one above it", g.base(8, 9), 7);
        g.checkout(3);
        g.commit();
        Check.same("where the lines part", g.base(10, 9), 3);
        g.merge(7);
        g.commit();
        Check.same("not the one by the first parent", g.base(11, 9), 7);
        Check.same("turned round", g.base(8, 11), 7);
    }
}
