/** Promises 9 and 10: each clause of the document on merging. */
public final class MergeTest {
    interface Change {
        void make(GroveMerge g);
    }

    private MergeTest() {
    }

    public static void main(String[] args) {
        stays();
        goes();
        changedAndDeleted();
        labels();
        parents();
        onlyTheLeastKind();
        parentGone();
        cutOff();
        notInTheBase();
        placesOfChildren();
        placesBehindOneThatMoved();
        Check.end();
    }

    /** Commit 1: the root with 1 (over 4 and 5), 2 (over 6) and 3, each with label 1. */
    private static GroveMerge start() {
        GroveMerge g = new GroveMerge();
        for (int i = 0; i < 3; i++) {
            g.insert(0, i, 1);
        }
        g.insert(1, 0, 1);
        g.insert(1, 1, 1);
        g.insert(2, 0, 1);
        g.commit();
        return g;
    }

    private static final String UNCHANGED = "0:0(1:1(4:1 5:1) 2:1(6:1) 3:1)";

    private static void clean(String what, Change ours, Change theirs, String due) {
        GroveMerge g = lines(ours, theirs);
        Check.same(what + ", conflicts", g.merge(3), 0);
        Check.same(what, Trees.show(g), due);
        Check.same(what + ", taken in", g.state(2), 3);
    }

    /** The due conflicts as pairs of a kind and a node. */
    private static void conflicts(String what, Change ours, Change theirs, int... due) {
        bothWays(what, ours, theirs, due);
        bothWays(what + " the other way", theirs, ours, due);
    }

    private static void bothWays(String what, Change ours, Change theirs, int... due) {
        GroveMerge g = lines(ours, theirs);
        String before = Trees.show(g);
        Check.same(what + ", conflicts", g.merge(3), due.length / 2);
        for (int k = 0; k < due.length / 2; k++) {
            int at = k;
            Check.same(what + ", conflict " + k, Check.outcome(() -> g.conflict(at)), String.valueOf(32 * due[2 * k] + due[2 * k + 1]));
        }
        Check.same(what + ", the end", Check.outcome(() -> g.conflict(due.length / 2)), "NoSuchElementException");
        Check.same(what + ", the tree", Trees.show(g), before);
        Check.same(what + ", taken in", g.state(2), GroveMerge.NONE);
    }

    private static GroveMerge lines(Change ours, Change theirs) {
        GroveMerge g = start();
        ours.make(g);
        g.commit();
        g.checkout(1);
        theirs.make(g);
        g.commit();
        g.checkout(2);
        return g;
    }

    private static void none(GroveMerge g) {
        Check.same("no change", Trees.show(g), UNCHANGED);
    }

    private static void stays() {
        clean("in both", MergeTest::none, MergeTest::none, UNCHANGED);
        clean("new in both lines", g -> g.insert(3, 0, 2), g -> g.insert(6, 0, 3), "0:0(1:1(4:1 5:1) 2:1(6:1(8:3)) 3:1(7:2))");
        clean("a part that is new in theirs", MergeTest::none, g -> g.insert(g.insert(3, 0, 4), 0, 5), "0:0(1:1(4:1 5:1) 2:1(6:1) 3:1(7:4(8:5)))");
    }

    private static void goes() {
        clean("deleted in theirs", MergeTest::none, g -> g.delete(1), "0:0(2:1(6:1) 3:1)");
        clean("deleted in ours", g -> g.delete(1), MergeTest::none, "0:0(2:1(6:1) 3:1)");
        clean("deleted in both", g -> g.delete(1), g -> g.delete(1), "0:0(2:1(6:1) 3:1)");
        clean("another place is no other parent", g -> g.move(1, 0, 2), g -> g.delete(1), "0:0(2:1(6:1) 3:1)");
        clean("changed back", g -> {
            g.relabel(1, 2);
            g.relabel(1, 1);
        }, g -> g.delete(1), "0:0(2:1(6:1) 3:1)");
    }

    private static void changedAndDeleted() {
        conflicts("another label", g -> g.relabel(4, 2), g -> g.delete(1), 1, 4);
        conflicts("another parent", g -> g.move(4, 3, 0), g -> g.delete(1), 1, 4);
        conflicts("both others", g -> {
            g.move(4, 3, 0);
            g.relabel(4, 0);
        }, g -> g.delete(4), 1, 4);
        conflicts("several", g -> {
            g.relabel(5, 2);
            g.relabel(1, 2);
            g.delete(6);
        }, g -> {
            g.delete(1);
            g.relabel(6, 3);
        }, 1, 1, 1, 5, 1, 6);
    }

    private static void labels() {
        clean("label of theirs", MergeTest::none, g -> g.relabel(0, 5), "0:5(1:1(4:1 5:1) 2:1(6:1) 3:1)");
        clean("label of ours", g -> g.relabel(0, 5), MergeTest::none, "0:5(1:1(4:1 5:1) 2:1(6:1) 3:1)");
        clean("the same label", g -> g.relabel(0, 5), g -> g.relabel(0, 5), "0:5(1:1(4:1 5:1) 2:1(6:1) 3:1)");
        clean("labels of two nodes", g -> g.relabel(1, 5), g -> g.relabel(2, 4), "0:0(1:5(4:1 5:1) 2:4(6:1) 3:1)");
        clean("label and parent", g -> g.relabel(3, 5), g -> g.move(3, 2, 0), "0:0(1:1(4:1 5:1) 2:1(3:5 6:1))");
        conflicts("two labels", g -> g.relabel(0, 5), g -> g.relabel(0, 4), 2, 0);
    }

    private static void parents() {
        clean("parent of theirs", MergeTest::none, g -> g.move(6, 3, 0), "0:0(1:1(4:1 5:1) 2:1 3:1(6:1))");
        clean("parent of ours", g -> g.move(6, 3, 0), MergeTest::none, "0:0(1:1(4:1 5:1) 2:1 3:1(6:1))");
        clean("the same parent", g -> g.move(6, 3, 0), g -> g.move(6, 3, 0), "0:0(1:1(4:1 5:1) 2:1 3:1(6:1))");
        clean("out of what is deleted", g -> g.move(6, 3, 0), g -> {
            g.move(6, 3, 0);
            g.delete(2);
        }, "0:0(1:1(4:1 5:1) 3:1(6:1))");
        conflicts("two parents", g -> g.move(6, 3, 0), g -> g.move(6, 1, 0), 3, 6);
    }

    private static void onlyTheLeastKind() {
        conflicts("label and parent", g -> {
            g.move(6, 3, 0);
            g.relabel(6, 2);
            g.move(5, 3, 0);
        }, g -> {
            g.move(6, 1, 0);
            g.relabel(6, 3);
            g.move(5, 2, 0);
        }, 3, 5, 2, 6);
        conflicts("no kind 4 beside another", g -> {
            g.delete(2);
            g.relabel(1, 2);
        }, g -> {
            g.insert(2, 0, 1);
            g.relabel(1, 3);
        }, 2, 1);
        conflicts("no kind 5 beside kind 4", g -> {
            g.delete(2);
            g.move(1, 3, 0);
        }, g -> {
            g.insert(2, 0, 1);
            g.move(3, 1, 0);
        }, 4, 7);
    }

    private static void parentGone() {
        conflicts("new below what is deleted", g -> g.insert(2, 0, 1), g -> g.delete(2), 4, 7);
        conflicts("moved below what is deleted", g -> g.move(3, 2, 0), g -> g.delete(2), 4, 3);
        conflicts("only the topmost", g -> g.insert(g.insert(6, 0, 1), 0, 1), g -> g.delete(2), 4, 7);
        conflicts("several", g -> {
            g.move(3, 6, 0);
            g.insert(2, 0, 1);
        }, g -> g.delete(2), 4, 3, 4, 7);
    }

    private static void cutOff() {
        conflicts("moved below one another", g -> g.move(1, 3, 0), g -> g.move(3, 1, 0), 5, 1, 5, 3, 5, 4, 5, 5);
        conflicts("with what is new below them", g -> {
            g.move(2, 3, 0);
            g.insert(6, 0, 1);
        }, g -> g.move(3, 6, 0), 5, 2, 5, 3, 5, 6, 5, 7);
    }

    /** Two merges of commits 1 and 2, crossed: the base is 1, which has not what 2 made. */
    private static GroveMerge crossed(Change ours, Change theirs) {
        GroveMerge g = new GroveMerge();
        g.insert(0, 0, 1);
        g.commit();
        g.checkout(0);
        g.insert(0, 0, 2);
        g.insert(0, 1, 2);
        g.commit();
        g.merge(1);
        ours.make(g);
        g.commit();
        g.checkout(1);
        g.merge(2);
        theirs.make(g);
        g.commit();
        g.checkout(3);
        Check.same("crossed, base", g.base(3, 4), 1);
        return g;
    }

    private static void notInTheBase() {
        GroveMerge label = crossed(g -> g.relabel(2, 3), g -> g.relabel(3, 3));
        Check.same("label without base", label.merge(4), 2);
        Check.same("label without base", label.conflict(0), 64 + 2);
        Check.same("label without base", label.conflict(1), 64 + 3);
        GroveMerge parent = crossed(g -> g.move(2, 1, 0), g -> g.relabel(1, 0));
        Check.same("parent without base", parent.merge(4), 1);
        Check.same("parent without base", parent.conflict(0), 96 + 2);
        GroveMerge gone = crossed(g -> g.delete(2), g -> g.relabel(2, 5));
        Check.same("deleted without base", gone.merge(4), 0);
        Check.same("stays all the same", gone.about(2, 0), 5);
        GroveMerge alsoGone = crossed(g -> g.relabel(2, 5), g -> g.delete(2));
        Check.same("deleted without base", alsoGone.merge(4), 0);
        Check.same("stays all the same", alsoGone.about(2, 0), 5);
    }

    private static void placesOfChildren() {
        clean("order of ours", g -> g.move(1, 0, 2), g -> g.move(3, 0, 0), "0:0(2:1(6:1) 3:1 1:1(4:1 5:1))");
        clean("only theirs has another order", MergeTest::none, g -> g.move(3, 0, 0), UNCHANGED);
        clean("to the front", g -> g.insert(0, 0, 2), g -> g.insert(0, 0, 3), "0:0(8:3 7:2 1:1(4:1 5:1) 2:1(6:1) 3:1)");
        clean("right behind", g -> g.insert(0, 1, 2), g -> g.insert(0, 1, 3), "0:0(1:1(4:1 5:1) 8:3 7:2 2:1(6:1) 3:1)");
        clean("at the end", g -> g.insert(0, 3, 2), g -> g.insert(0, 3, 3), "0:0(1:1(4:1 5:1) 2:1(6:1) 3:1 8:3 7:2)");
        clean("several in a row", g -> g.insert(0, 1, 2), g -> {
            g.insert(0, 1, 3);
            g.insert(0, 2, 4);
        }, "0:0(1:1(4:1 5:1) 8:3 9:4 7:2 2:1(6:1) 3:1)");
        clean("several at the front", MergeTest::none, g -> {
            g.insert(3, 0, 3);
            g.insert(3, 1, 4);
        }, "0:0(1:1(4:1 5:1) 2:1(6:1) 3:1(7:3 8:4))");
    }

    private static void placesBehindOneThatMoved() {
        clean("behind where ours has it", g -> g.move(1, 0, 2), g -> g.insert(0, 1, 3), "0:0(2:1(6:1) 3:1 1:1(4:1 5:1) 7:3)");
        clean("the one before is deleted", g -> g.delete(2), g -> g.insert(0, 2, 3), "0:0(1:1(4:1 5:1) 7:3 3:1)");
        clean("the one before has another parent", g -> g.move(2, 3, 0), g -> g.insert(0, 2, 3), "0:0(1:1(4:1 5:1) 7:3 3:1(2:1(6:1)))");
        clean("the first ones are gone", g -> g.delete(1), g -> g.insert(0, 1, 3), "0:0(7:3 2:1(6:1) 3:1)");
        clean("moved in by theirs", g -> g.insert(1, 1, 2), g -> g.move(3, 1, 2), "0:0(1:1(4:1 7:2 5:1 3:1) 2:1(6:1))");
        clean("behind one that is new", MergeTest::none, g -> {
            g.insert(0, 3, 3);
            g.move(1, 2, 1);
        }, "0:0(2:1(6:1 1:1(4:1 5:1)) 3:1 7:3)");
    }
}
