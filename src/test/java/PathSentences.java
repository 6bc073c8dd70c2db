/** The document's terms of paths. */
final class PathSentences {
    private static final int ANY_CHILD = Paths.step(Paths.CHILD, Paths.ANY);
    private static final int ANY_BELOW = Paths.step(Paths.BELOW, Paths.ANY);
    private static final int ANY_BEHIND = Paths.step(Paths.BEHIND, Paths.ANY);

    private PathSentences() {
    }

    static void addTo(Sentences all) {
        all.below("Terms");
        all.say("A PATH is an int, of steps of 5 bits, the lowest ones first", PathSentences::lowestFirst);
        all.say("up to one whose lowest two bits are 0", PathSentences::endsAtAxis0);
        all.say("or the sixth", PathSentences::endsBehindTheSixth);
        all.say("bits 0 and 1 are the AXIS", PathSentences::axis);
        all.say("bits 2 to 4 the label", PathSentences::label);
        all.say("6 and 7 for any.", PathSentences::anyLabel);
        all.say("One begins with the root", PathSentences::beginsWithTheRoot);
        all.say("for each step, with all nodes that are, for one of those that one has", PathSentences::fromEachThatOneHas);
        all.say("a child (1)", PathSentences::childAxis);
        all.say("any node below (2)", PathSentences::belowAxis);
        all.say("or a child of the same parent that stands behind (3)", PathSentences::behindAxis);
        all.say("and have the label.", PathSentences::thatHaveTheLabel);
    }

    private static void found(String what, GroveMerge g, String due, int... steps) {
        Check.same(what, Paths.found(g, steps), due);
    }

    private static void lowestFirst() {
        GroveMerge g = Trees.grown("0(1(2) 2(1))");
        int one = Paths.step(Paths.CHILD, 1);
        int two = Paths.step(Paths.CHILD, 2);
        Check.same("1, then 2", Paths.foundBy(g, one | two << 5), "2");
        Check.same("2, then 1", Paths.foundBy(g, two | one << 5), "4");
    }

    private static void endsAtAxis0() {
        GroveMerge g = Trees.grown("0(1(2(3)))");
        for (int label = 0; label < 8; label++) {
            int end = label << 2;
            found("at once", g, "0", end, ANY_CHILD, ANY_CHILD);
            found("behind one", g, "1", ANY_CHILD, end, ANY_CHILD);
            found("behind three", g, "3", ANY_CHILD, ANY_CHILD, ANY_CHILD, end, ANY_CHILD, ANY_CHILD);
            found("as the sixth", Trees.chain(), "5", ANY_CHILD, ANY_CHILD, ANY_CHILD, ANY_CHILD, ANY_CHILD, end);
        }
        Check.same("all bits of the steps behind it", Paths.foundBy(g, ANY_CHILD | -1 << 10), "1");
        Check.same("no bits at all", Paths.foundBy(g, 0), "0");
        Check.same("the lowest two bits missing", Paths.foundBy(g, -4), "0");
    }

    private static void endsBehindTheSixth() {
        GroveMerge g = Trees.chain();
        int six = Paths.of(ANY_CHILD, ANY_CHILD, ANY_CHILD, ANY_CHILD, ANY_CHILD, ANY_CHILD);
        Check.same("six steps", Paths.foundBy(g, six), "6");
        for (int rest = 0; rest < 4; rest++) {
            Check.same("bits 30 and 31 are no step: " + rest, Paths.foundBy(g, six | rest << 30), "6");
            Check.same("nor part of one: " + rest, Paths.foundBy(g, rest << 30), "0");
        }
        GroveMerge row = Trees.row();
        int behind = Paths.of(ANY_CHILD, ANY_BEHIND, ANY_BEHIND, ANY_BEHIND, ANY_BEHIND, ANY_BEHIND);
        Check.same("five times behind", row.count(behind), 18);
        Check.same("below six times", Trees.chain().count(Paths.of(ANY_BELOW, ANY_BELOW, ANY_BELOW, ANY_BELOW, ANY_BELOW, ANY_BELOW)), 18);
        GroveMerge labelled = Trees.grown("0(1(1(1(1(1(5 2))))))");
        for (int label = 0; label < 6; label++) {
            int last = Paths.step(Paths.CHILD, label);
            int path = Paths.of(ANY_CHILD, ANY_CHILD, ANY_CHILD, ANY_CHILD, ANY_CHILD, last);
            Check.same("the label of the sixth: " + label, Paths.foundBy(labelled, path), label == 5 ? "6" : label == 2 ? "7" : "");
        }
        Check.same("all bits", g.count(-1), 0);
    }

    private static void axis() {
        GroveMerge g = Trees.grown("0(1(2) 3)");
        found("0", g, "0", Paths.step(0, Paths.ANY));
        found("1", g, "1 3", ANY_CHILD);
        found("2", g, "1 2 3", ANY_BELOW);
        found("3", g, "3", ANY_CHILD, ANY_BEHIND);
    }

    private static void label() {
        GroveMerge g = Trees.grown("5(0 1 2 3 4 5)");
        for (int label = 0; label < 6; label++) {
            found("child " + label, g, label + 1 + "", Paths.step(Paths.CHILD, label));
            found("below " + label, g, label + 1 + "", Paths.step(Paths.BELOW, label));
            found("behind " + label, g, label == 0 ? "" : label + 1 + "", ANY_CHILD, Paths.step(Paths.BEHIND, label));
        }
    }

    private static void anyLabel() {
        GroveMerge g = Trees.grown("5(0 1 2 3 4 5)");
        for (int any : new int[] {Paths.ANY, Paths.ANY_TOO}) {
            found("child " + any, g, "1 2 3 4 5 6", Paths.step(Paths.CHILD, any));
            found("below " + any, g, "1 2 3 4 5 6", Paths.step(Paths.BELOW, any));
            found("behind " + any, g, "2 3 4 5 6", ANY_CHILD, Paths.step(Paths.BEHIND, any));
        }
    }

    private static void beginsWithTheRoot() {
        found("alone", Situation.small(), "0");
        found("not with its children", Situation.small(), "1 2", ANY_CHILD);
        found("which is not below itself", Trees.grown("0(0)"), "1", Paths.step(Paths.BELOW, 0));
        found("and has none behind it", Situation.small(), "", ANY_BEHIND);
        found("nothing from none", Situation.small(), "", ANY_BEHIND, ANY_CHILD);
        found("whatever its label is", Trees.grown("5(1)"), "1", Paths.step(Paths.CHILD, 1));
    }

    private static void fromEachThatOneHas() {
        GroveMerge g = Trees.grown("0(1(2) 3(4) 1(5(0)))");
        found("children of several", g, "2 4 6", ANY_CHILD, ANY_CHILD);
        found("not of those left behind", g, "2 6", Paths.step(Paths.CHILD, 1), ANY_CHILD);
        found("below several", g, "2 4 6 7", ANY_CHILD, ANY_BELOW);
        found("without those that one had", g, "7", ANY_CHILD, ANY_CHILD, ANY_CHILD);
        found("from none", g, "", Paths.step(Paths.CHILD, 4), ANY_BELOW);
    }

    private static void childAxis() {
        GroveMerge g = Trees.grown("0(1(2(3)) 4)");
        found("not those further below", g, "1 4", ANY_CHILD);
        found("of a child", g, "2", ANY_CHILD, ANY_CHILD);
        found("of a leaf", g, "", Paths.step(Paths.CHILD, 4), ANY_CHILD);
        found("of the root alone", new GroveMerge(), "", ANY_CHILD);
    }

    private static void belowAxis() {
        GroveMerge g = Trees.grown("0(1(2(3)) 4)");
        found("all of them", g, "1 2 3 4", ANY_BELOW);
        found("of a child", g, "2 3", Paths.step(Paths.CHILD, 1), ANY_BELOW);
        found("through others", g, "3", Paths.step(Paths.BELOW, 3));
        found("of those below", g, "2 3", ANY_BELOW, ANY_BELOW);
        found("of a leaf", g, "", Paths.step(Paths.CHILD, 4), ANY_BELOW);
        found("of the root alone", new GroveMerge(), "", ANY_BELOW);
    }

    private static void behindAxis() {
        GroveMerge g = Trees.grown("0(1(2 3) 4(5 0) 2)");
        found("all behind the first", g, "4 7", Paths.step(Paths.CHILD, 1), ANY_BEHIND);
        found("not those before", g, "7", Paths.step(Paths.CHILD, 4), ANY_BEHIND);
        found("none behind the last", g, "", Paths.step(Paths.CHILD, 2), ANY_BEHIND);
        found("not of another parent", g, "3", ANY_CHILD, Paths.step(Paths.CHILD, 2), ANY_BEHIND);
        found("in several rows", g, "3 4 6 7", ANY_BELOW, ANY_BEHIND);
        found("not one itself", Trees.grown("0(1)"), "", ANY_CHILD, ANY_BEHIND);
        GroveMerge moved = Trees.grown("0(1 2 3)");
        moved.move(3, 0, 0);
        found("by places, not by numbers", moved, "1 2", Paths.step(Paths.CHILD, 3), ANY_BEHIND);
    }

    private static void thatHaveTheLabel() {
        GroveMerge g = Trees.grown("0(1(2) 3(2) 2)");
        found("children", g, "5", Paths.step(Paths.CHILD, 2));
        found("below", g, "2 4 5", Paths.step(Paths.BELOW, 2));
        found("behind", g, "5", Paths.step(Paths.CHILD, 1), Paths.step(Paths.BEHIND, 2));
        found("none", g, "", Paths.step(Paths.BELOW, 4));
        found("0, which is not any", g, "", Paths.step(Paths.BELOW, 0));
        found("not that of the one before", g, "2", Paths.step(Paths.CHILD, 1), Paths.step(Paths.CHILD, 2));
        g.relabel(2, 4);
        found("changed", g, "2", Paths.step(Paths.BELOW, 4));
    }
}
