/** The document's terms of the distance of two trees; DistanceTest looks at all small ones. */
final class DistanceSentences {
    private DistanceSentences() {
    }

    static void addTo(Sentences all) {
        all.below("Terms");
        all.say("THE DISTANCE of two trees is the least number of steps", DistanceSentences::leastNumber);
        all.say("that make one into a tree alike the other", DistanceSentences::alikeTheOther);
        all.say("(roots compared)", DistanceSentences::rootsCompared);
        all.say(": a step gives a node another label", DistanceSentences::anotherLabel);
        all.say("or takes a node out, its children standing in its place", DistanceSentences::takenOut);
        all.say("or puts one in, as the child of a node and the parent of some of its children", DistanceSentences::putIn);
        all.say("none or several standing beside one another", DistanceSentences::putInOverNoneOrSeveral);
        all.say("in their order.", DistanceSentences::inTheirOrder);
        all.say("(The root may be taken out when it has just one child", DistanceSentences::rootTakenOut);
        all.say("and another may be put in above it.)", DistanceSentences::putInAboveTheRoot);
    }

    private static void distance(String from, String to, int due) {
        GroveMerge g = Trees.grown(from);
        g.commit();
        g.checkout(0);
        Trees.grow(g, to);
        g.commit();
        Check.same(from + " to " + to, g.distance(1, 2), due);
        Check.same(to + " to " + from, g.distance(2, 1), due);
    }

    private static void leastNumber() {
        distance("0", "0", 0);
        distance("0(1)", "0(2)", 1);
        distance("0(1(2))", "0(2)", 1);
        distance("0(1(2) 3)", "0(2 3)", 1);
        distance("0(1 2 3 4 5)", "0(2 3 4 5 1)", 2);
        distance("0(1(2(3)))", "0(3(2(1)))", 2);
        GroveMerge g = Trees.chain();
        g.commit();
        for (int node = 2; node < 24; node++) {
            g.move(node, 0, 0);
        }
        g.commit();
        Check.same("the most nodes, all taken out", g.distance(1, 0), 23);
        Check.same("the most nodes, all put in", g.distance(0, 2), 23);
        // The root and one child are all that a chain and a row can have in common.
        Check.same("a chain to a row", g.distance(1, 2), 44);
        Check.same("a row to a chain", g.distance(2, 1), 44);
    }

    private static void alikeTheOther() {
        distance("0(1(3 1) 2)", "0(1(3 1) 2)", 0);
        GroveMerge g = Situation.committed();
        g.delete(2);
        g.insert(0, 1, 2);
        g.commit();
        Check.same("another node, alike", g.distance(1, 2), 0);
        g.move(3, 1, 1);
        g.relabel(3, 1);
        g.relabel(4, 3);
        g.commit();
        Check.same("other nodes, alike in their places", g.distance(1, 3), 0);
    }

    private static void rootsCompared() {
        distance("0", "1", 1);
        distance("0(1)", "1(1)", 1);
        distance("0(2 3)", "5(2 3)", 1);
        distance("0(1)", "1(0)", 2);
    }

    private static void anotherLabel() {
        distance("0(1 2 3)", "0(1 5 3)", 1);
        distance("0(1(2) 3)", "0(4(2) 3)", 1);
        distance("0(1(2) 3)", "1(2(3) 4)", 4);
        distance("0(0 0 0 0)", "5(5 5 5 5)", 5);
    }

    private static void takenOut() {
        distance("0(1 2 3)", "0(1 3)", 1);
        distance("0(1(2 3) 4)", "0(2 3 4)", 1);
        distance("0(5 1(2 3) 4)", "0(5 2 3 4)", 1);
        distance("0(1(2(3(4))))", "0(1(4))", 2);
        distance("0(1(2 3) 4)", "0(4)", 3);
    }

    private static void putIn() {
        distance("0(1)", "0(2(1))", 1);
        distance("0(1(2 3))", "0(1(4(2 3)))", 1);
        distance("0(1 2 3)", "0(1 4(2) 3)", 1);
        distance("0(1)", "0(2(3(4(1))))", 3);
    }

    private static void putInOverNoneOrSeveral() {
        distance("0", "0(1)", 1);
        distance("0(1 2)", "0(1 3 2)", 1);
        distance("0(1 2 3 4)", "0(1 5(2 3) 4)", 1);
        distance("0(1 2 3 4)", "0(5(1 2 3 4))", 1);
        distance("0(1 2 3)", "0(5(1 3) 2)", 3);
    }

    private static void inTheirOrder() {
        distance("0(1 2)", "0(2 1)", 2);
        distance("0(1 2)", "0(5(2 1))", 3);
        distance("0(1(2) 3)", "0(3 1(2))", 2);
        distance("0(1(2 3))", "0(1(3 2))", 2);
    }

    private static void rootTakenOut() {
        distance("0(1(2 3))", "1(2 3)", 1);
        distance("0(1(2(3)))", "2(3)", 2);
        distance("0(1(2 3) 4)", "1(2 3)", 2);
        distance("0(1 2)", "1", 2);
        distance("5(0(1 2) 3)", "0(1 2 3)", 2);
    }

    private static void putInAboveTheRoot() {
        distance("1(2 3)", "0(1(2 3))", 1);
        distance("3", "0(1(2(3)))", 3);
        distance("1(2)", "0(4 1(2) 5)", 3);
        GroveMerge g = Trees.chain();
        g.commit();
        g.delete(23);
        g.relabel(0, 1);
        g.commit();
        g.checkout(1);
        g.relabel(0, 1);
        g.relabel(23, 1);
        g.commit();
        Check.same("above or below, of 24", g.distance(2, 1), 2);
        Check.same("a label at both ends, of 24", g.distance(1, 3), 2);
    }
}
