/** Promises 1 to 5: a new object, and the calls that change the working tree. */
final class ChangeSentences {
    private ChangeSentences() {
    }

    static void addTo(Sentences all) {
        all.below("Promise 1: A new object");
        all.say("As said for the first.", "it is", ChangeSentences::newObject);
        all.say("As said for the first.", "whatever others are", ChangeSentences::newObjectsAreApart);
        addInsert(all);
        addDelete(all);
        addMove(all);
        addRelabel(all);
    }

    private static void addInsert(Sentences all) {
        all.below("Promise 2: insert");
        all.say("A new node with a label comes into the working tree as the child with the number place (from 0) of a parent", ChangeSentences::insertComesIn);
        all.say("A new node with a label comes into the working tree", ChangeSentences::insertLeavesCommitsAlone);
        all.say(": its number.", ChangeSentences::insertAnswersTheNumber);
        all.say("NoSuchElementException when the parent is not in it", ChangeSentences::insertBelowNoNode);
        all.say("IndexOutOfBoundsException when place is not 0 .. the number of its children", ChangeSentences::insertAtNoPlace);
        all.say("IllegalArgumentException when label is not 0 .. 5", ChangeSentences::insertWithNoLabel);
        all.say("UnsupportedOperationException when 24 nodes were made", ChangeSentences::insertBeyond24);
    }

    private static void addDelete(Sentences all) {
        all.below("Promise 3: delete");
        all.say("Takes a node with all below it out of the working tree", ChangeSentences::deleteTakesOut);
        all.say("(their numbers are never given again)", ChangeSentences::deletedNumbersAreNotGivenAgain);
        all.say(": how many.", ChangeSentences::deleteAnswersHowMany);
        all.say("NoSuchElementException when it is not in it", ChangeSentences::deleteNoNode);
        all.say("IllegalArgumentException when it is the root", ChangeSentences::deleteRoot);
    }

    private static void addMove(Sentences all) {
        all.below("Promise 4: move");
        all.say("Moves a node of the working tree with all below it to be the child with the number place of a parent", ChangeSentences::moveWithAllBelow);
        all.say("(counted without it)", ChangeSentences::moveCountsWithoutIt);
        all.say("NoSuchElementException when one is not in it", ChangeSentences::moveNoNode);
        all.say("IllegalArgumentException when the node is the root", ChangeSentences::moveRoot);
        all.say(", or the parent is it or below it", ChangeSentences::moveIntoItself);
        all.say("IndexOutOfBoundsException when place is not 0 .. the number of the parent's other children", ChangeSentences::moveToNoPlace);
    }

    private static void addRelabel(Sentences all) {
        all.below("Promise 5: relabel");
        all.say("A node of the working tree gets a label.", ChangeSentences::relabelGives);
        all.say("NoSuchElementException when it is not in it", ChangeSentences::relabelNoNode);
        all.say("IllegalArgumentException when label is not 0 .. 5", ChangeSentences::relabelWithNoLabel);
    }

    private static void newObject() {
        GroveMerge g = new GroveMerge();
        Trees.same("the tree", g, "0:0");
        Check.same("nodes", g.nodes(false), 1);
        Check.same("made", g.nodes(true), 1);
        Check.same("commits", g.state(0), 1);
        Check.same("head", g.state(1), 0);
        Check.same("taken in", g.state(2), GroveMerge.NONE);
        Check.same("above 0", g.above(0, 0), GroveMerge.NONE);
        Check.same("above 0", g.above(0, 1), GroveMerge.NONE);
        Check.same("conflicts", Check.outcome(() -> g.conflict(0)), "NoSuchElementException");
        Check.same("the root alone", g.count(0), 1);
        Check.same("nothing below", g.count(2 | 7 << 2), 0);
        Check.same("distance to itself", g.distance(0, 0), 0);
        g.checkout(0);
        Trees.same("commit 0", g, "0:0");
    }

    private static void newObjectsAreApart() {
        GroveMerge other = Situation.full();
        GroveMerge g = new GroveMerge();
        Trees.same("new beside a full one", g, "0:0");
        Check.same("its first node", g.insert(0, 0, 1), 1);
        Check.same("its first commit", g.commit(), 1);
        Trees.same("the full one", other, Situation.FULL.tree);
        Check.same("made in the full one", other.nodes(true), 24);
    }

    private static void insertComesIn() {
        GroveMerge g = new GroveMerge();
        g.insert(0, 0, 5);
        Trees.same("into nothing", g, "0:0(1:5)");
        g.insert(0, 0, 0);
        Trees.same("at the front", g, "0:0(2:0 1:5)");
        g.insert(0, 2, 1);
        Trees.same("at the end", g, "0:0(2:0 1:5 3:1)");
        g.insert(0, 1, 2);
        Trees.same("between", g, "0:0(2:0 4:2 1:5 3:1)");
        g.insert(1, 0, 3);
        Trees.same("below", g, "0:0(2:0 4:2 1:5(5:3) 3:1)");
        g.insert(0, 3, 4);
        Trees.same("right behind one with children", g, "0:0(2:0 4:2 1:5(5:3) 6:4 3:1)");
        g.insert(0, 2, 4);
        Trees.same("right before one with children", g, "0:0(2:0 4:2 7:4 1:5(5:3) 6:4 3:1)");
        g.insert(5, 0, 0);
        Trees.same("below the last of a part", g, "0:0(2:0 4:2 7:4 1:5(5:3(8:0)) 6:4 3:1)");
        g.insert(0, 6, 0);
        Trees.same("behind the last", g, "0:0(2:0 4:2 7:4 1:5(5:3(8:0)) 6:4 3:1 9:0)");
        Check.same("the deepest that there can be", Trees.chain().about(23, 3), 23);
        Check.same("the longest row that there can be", Trees.row().child(0, 22), 23);
    }

    private static void insertLeavesCommitsAlone() {
        GroveMerge g = Situation.committed();
        g.insert(1, 0, 5);
        g.checkout(1);
        Trees.same("the commit's tree", g, Situation.COMMITTED.tree);
    }

    private static void insertAnswersTheNumber() {
        GroveMerge g = new GroveMerge();
        Check.same("first", g.insert(0, 0, 5), 1);
        Check.same("before it", g.insert(0, 0, 5), 2);
        Check.same("below it", g.insert(1, 0, 5), 3);
        Check.same("label of the first", g.about(1, 0), 5);
        for (int node = 4; node < 24; node++) {
            Check.same("up to the last", g.insert(3, 0, 0), node);
        }
    }

    private static void insertBelowNoNode() {
        Refusal.withNoNode("node", (g, node) -> g.insert(node, 0, 0));
    }

    private static void insertAtNoPlace() {
        for (int place : Numbers.beyond(0)) {
            Refusal.of("of none: " + place, Situation.NEW.make, Refusal.OUT, g -> g.insert(0, place, 0));
        }
        for (int place : Numbers.beyond(2)) {
            Refusal.of("of two: " + place, Situation.SMALL.make, Refusal.OUT, g -> g.insert(0, place, 0));
            Refusal.of("of two below: " + place, Situation.SMALL.make, Refusal.OUT, g -> g.insert(1, place, 0));
        }
        for (int place : Numbers.beyond(23)) {
            Refusal.of("of 23: " + place, Trees::row, Refusal.OUT, g -> g.insert(0, place, 0));
        }
        Check.same("the largest of two", Situation.small().insert(0, 2, 0), 5);
    }

    private static void insertWithNoLabel() {
        for (int label : Numbers.beyond(5)) {
            Refusal.of("label " + label, Situation.SMALL.make, Refusal.ILLEGAL, g -> g.insert(0, 2, label));
        }
        for (int label = 0; label <= 5; label++) {
            GroveMerge g = Situation.small();
            Check.same("label " + label, g.about(g.insert(0, 2, label), 0), label);
        }
    }

    private static void insertBeyond24() {
        Refusal.of("24 in the tree", Trees::row, Refusal.UNSUPPORTED, g -> g.insert(0, 0, 0));
        Refusal.of("24 made, eight in the tree", Situation.FULL.make, Refusal.UNSUPPORTED, g -> g.insert(7, 0, 5));
        Refusal.of("24 made, the root alone in the tree", () -> {
            GroveMerge g = Trees.row();
            g.checkout(0);
            return g;
        }, Refusal.UNSUPPORTED, g -> g.insert(0, 0, 0));
        GroveMerge g = Trees.row();
        g.delete(23);
        Check.same("the last one deleted", Check.outcome(() -> g.insert(0, 0, 0)), "UnsupportedOperationException");
    }

    private static void deleteTakesOut() {
        GroveMerge g = Situation.small();
        g.delete(3);
        Trees.same("a leaf", g, "0:0(1:1(4:1) 2:2)");
        g.delete(1);
        Trees.same("with one below", g, "0:0(2:2)");
        g.delete(2);
        Trees.same("the last one", g, "0:0");
        GroveMerge deep = Trees.chain();
        deep.delete(1);
        Trees.same("with all that there can be below", deep, "0:0");
        GroveMerge between = Trees.grown("0(1(2(3) 4) 5(1) 2(3))");
        between.delete(5);
        Trees.same("between others", between, "0:0(1:1(2:2(3:3) 4:4) 7:2(8:3))");
        GroveMerge kept = Situation.committed();
        kept.delete(1);
        kept.checkout(1);
        Trees.same("not out of a commit", kept, Situation.COMMITTED.tree);
    }

    private static void deletedNumbersAreNotGivenAgain() {
        GroveMerge g = Situation.small();
        g.delete(1);
        Check.same("after 1, 3 and 4", g.insert(0, 0, 0), 5);
        g.delete(5);
        Check.same("after the latest", g.insert(0, 0, 0), 6);
        g.checkout(0);
        Check.same("after a checkout", g.insert(0, 0, 0), 7);
        for (int node = 8; node < 24; node++) {
            Check.same("one at a time", g.insert(0, 0, 0), node);
            g.delete(node);
        }
        Check.same("not beyond the last", Check.outcome(() -> g.insert(0, 0, 0)), "UnsupportedOperationException");
    }

    private static void deleteAnswersHowMany() {
        Check.same("a leaf", Situation.small().delete(2), 1);
        Check.same("three", Situation.small().delete(1), 3);
        Check.same("the most", Trees.chain().delete(1), 23);
        Check.same("the last of a chain", Trees.chain().delete(23), 1);
        GroveMerge g = Trees.row();
        for (int node = 23; node > 0; node--) {
            Check.same("of a row", g.delete(node), 1);
        }
        GroveMerge shrunk = Situation.small();
        shrunk.delete(4);
        Check.same("without what went before", shrunk.delete(1), 2);
    }

    private static void deleteNoNode() {
        Refusal.withNoNode("node", (g, node) -> g.delete(node));
    }

    private static void deleteRoot() {
        for (Situation at : Situation.values()) {
            Refusal.of(at + "", at.make, Refusal.ILLEGAL, g -> g.delete(0));
        }
    }

    private static void moveWithAllBelow() {
        GroveMerge g = Situation.small();
        g.move(1, 2, 0);
        Trees.same("into one that is empty", g, "0:0(2:2(1:1(3:3 4:1)))");
        g.move(1, 0, 0);
        Trees.same("up to the front", g, "0:0(1:1(3:3 4:1) 2:2)");
        g.move(2, 1, 1);
        Trees.same("back between", g, "0:0(1:1(3:3 2:2 4:1))");
        g.move(4, 0, 1);
        Trees.same("up to the end", g, "0:0(1:1(3:3 2:2) 4:1)");
        g.move(1, 4, 0);
        Trees.same("behind to below the next", g, "0:0(4:1(1:1(3:3 2:2)))");
        g.move(3, 2, 0);
        Trees.same("below the one beside it", g, "0:0(4:1(1:1(2:2(3:3))))");
        GroveMerge deep = Trees.chain();
        deep.move(2, 0, 0);
        Check.same("the longest part", deep.about(23, 3), 22);
        Check.same("and what it stood below", deep.about(1, 3), 23);
        GroveMerge kept = Situation.committed();
        kept.move(1, 2, 0);
        kept.checkout(1);
        Trees.same("not in a commit", kept, Situation.COMMITTED.tree);
    }

    private static void moveCountsWithoutIt() {
        GroveMerge g = Trees.grown("0(1(2) 3(4) 5)");
        g.move(1, 0, 1);
        Trees.same("the first behind the second", g, "0:0(3:3(4:4) 1:1(2:2) 5:5)");
        g.move(3, 0, 2);
        Trees.same("the first behind all", g, "0:0(1:1(2:2) 5:5 3:3(4:4))");
        g.move(3, 0, 0);
        Trees.same("the last to the front", g, "0:0(3:3(4:4) 1:1(2:2) 5:5)");
        g.move(5, 0, 1);
        Trees.same("the last before the second", g, "0:0(3:3(4:4) 5:5 1:1(2:2))");
        for (int place = 0; place < 3; place++) {
            g.move(g.child(0, place), 0, place);
            Trees.same("to where it is", g, "0:0(3:3(4:4) 5:5 1:1(2:2))");
        }
        g.move(4, 3, 0);
        Trees.same("the only one to where it is", g, "0:0(3:3(4:4) 5:5 1:1(2:2))");
    }

    private static void moveNoNode() {
        Refusal.withNoNode("node", (g, node) -> g.move(node, 0, 0));
        Refusal.withNoNode("parent", (g, node) -> g.move(0, node, 0));
        Refusal.withNoNode("both", (g, node) -> g.move(node, node, 0));
        for (int node : Situation.CHANGED.nodesNotInTheTree()) {
            Refusal.of("a node to " + node, Situation.CHANGED.make, Refusal.NO_SUCH, g -> g.move(1, node, 0));
        }
    }

    private static void moveRoot() {
        Refusal.of("to itself", Situation.NEW.make, Refusal.ILLEGAL, g -> g.move(0, 0, 0));
        for (int parent = 0; parent < 5; parent++) {
            int to = parent;
            Refusal.of("to " + to, Situation.SMALL.make, Refusal.ILLEGAL, g -> g.move(0, to, 0));
        }
    }

    private static void moveIntoItself() {
        Refusal.of("it", Situation.SMALL.make, Refusal.ILLEGAL, g -> g.move(1, 1, 0));
        Refusal.of("it, a leaf", Situation.SMALL.make, Refusal.ILLEGAL, g -> g.move(2, 2, 0));
        Refusal.of("its first child", Situation.SMALL.make, Refusal.ILLEGAL, g -> g.move(1, 3, 0));
        Refusal.of("its last child", Situation.SMALL.make, Refusal.ILLEGAL, g -> g.move(1, 4, 0));
        for (int parent = 1; parent < 24; parent++) {
            int to = parent;
            Refusal.of("far below: " + to, Trees::chain, Refusal.ILLEGAL, g -> g.move(1, to, 0));
        }
        GroveMerge g = Situation.small();
        g.move(3, 4, 0);
        g.move(4, 2, 0);
        Trees.same("the one beside it is neither", g, "0:0(1:1 2:2(4:1(3:3)))");
        g.move(2, 1, 0);
        Trees.same("nor is the one before it", g, "0:0(1:1(2:2(4:1(3:3))))");
    }

    private static void moveToNoPlace() {
        for (int place : Numbers.beyond(1)) {
            Refusal.of("its own parent, of two: " + place, Situation.SMALL.make, Refusal.OUT, g -> g.move(3, 1, place));
        }
        for (int place : Numbers.beyond(2)) {
            Refusal.of("another one, of two: " + place, Situation.SMALL.make, Refusal.OUT, g -> g.move(3, 0, place));
        }
        for (int place : Numbers.beyond(0)) {
            Refusal.of("an empty one: " + place, Situation.SMALL.make, Refusal.OUT, g -> g.move(1, 2, place));
        }
        for (int place : Numbers.beyond(22)) {
            Refusal.of("of 23: " + place, Trees::row, Refusal.OUT, g -> g.move(5, 0, place));
        }
        GroveMerge g = Trees.row();
        g.move(1, 0, 22);
        Check.same("the largest of 23", g.child(0, 22), 1);
        g.move(1, 23, 0);
        g.move(1, 0, 22);
        Check.same("the largest of 22", g.child(0, 22), 1);
    }

    private static void relabelGives() {
        for (int label = 0; label <= 5; label++) {
            GroveMerge g = Situation.small();
            g.relabel(0, label);
            g.relabel(3, label);
            Trees.same("label " + label, g, "0:" + label + "(1:1(3:" + label + " 4:1) 2:2)");
        }
        GroveMerge same = Situation.committed();
        same.relabel(2, 2);
        Trees.same("the one that it has", same, Situation.COMMITTED.tree);
        same.relabel(2, 0);
        same.checkout(1);
        Trees.same("not in a commit", same, Situation.COMMITTED.tree);
        GroveMerge last = Trees.row();
        last.relabel(23, 5);
        Check.same("the last node that there can be", last.about(23, 0), 5);
    }

    private static void relabelNoNode() {
        Refusal.withNoNode("node", (g, node) -> g.relabel(node, 0));
    }

    private static void relabelWithNoLabel() {
        for (int label : Numbers.beyond(5)) {
            Refusal.of("the root: " + label, Situation.NEW.make, Refusal.ILLEGAL, g -> g.relabel(0, label));
            Refusal.of("another one: " + label, Situation.SMALL.make, Refusal.ILLEGAL, g -> g.relabel(4, label));
        }
    }
}
