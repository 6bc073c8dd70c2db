import java.util.NoSuchElementException;

/** Each promise of the document with ordinary inputs, its edges and wrong inputs. */
public final class PromiseTest {
    private static final Class<NoSuchElementException> NO_SUCH = NoSuchElementException.class;
    private static final Class<IndexOutOfBoundsException> OUT = IndexOutOfBoundsException.class;
    private static final Class<IllegalArgumentException> ILLEGAL = IllegalArgumentException.class;
    private static final Class<UnsupportedOperationException> UNSUPPORTED = UnsupportedOperationException.class;
    private static final Class<IllegalStateException> STATE = IllegalStateException.class;
    private static final int[] FAR = {Integer.MIN_VALUE, -1, Integer.MAX_VALUE};

    private PromiseTest() {
    }

    public static void main(String[] args) {
        newObject();
        insert();
        insertRefused();
        delete();
        move();
        moveRefused();
        relabel();
        commit();
        checkout();
        base();
        baseOfCrossedMerges();
        mergeRefused();
        mergeTakesIn();
        conflict();
        about();
        child();
        nodes();
        count();
        find();
        alike();
        distance();
        state();
        above();
        Check.end();
    }

    /** The root 0 (0) with 1 (1) over 3 (3) and 4 (1), and 2 (2). */
    private static GroveMerge small() {
        GroveMerge g = new GroveMerge();
        g.insert(0, 0, 1);
        g.insert(0, 1, 2);
        g.insert(1, 0, 3);
        g.insert(1, 1, 1);
        return g;
    }

    private static void tree(String what, GroveMerge g, String due) {
        Check.same(what, Trees.show(g), due);
    }

    private static void newObject() {
        GroveMerge g = new GroveMerge();
        tree("1 new", g, "0:0");
        Check.same("1 NONE", GroveMerge.NONE, -1);
        Check.same("1 nodes", g.nodes(false), 1);
        Check.same("1 made", g.nodes(true), 1);
        Check.same("1 commits", g.state(0), 1);
        Check.same("1 head", g.state(1), 0);
        Check.same("1 taken in", g.state(2), GroveMerge.NONE);
        Check.same("1 above", g.above(0, 0), GroveMerge.NONE);
        Check.same("1 above", g.above(0, 1), GroveMerge.NONE);
        Check.refused("1 conflict", NO_SUCH, () -> g.conflict(0));
        g.insert(0, 0, 1);
        g.checkout(0);
        tree("1 commit 0", g, "0:0");
    }

    private static void insert() {
        GroveMerge g = new GroveMerge();
        Check.same("2 first", g.insert(0, 0, 5), 1);
        Check.same("2 front", g.insert(0, 0, 0), 2);
        Check.same("2 last", g.insert(0, 2, 1), 3);
        Check.same("2 between", g.insert(0, 1, 2), 4);
        Check.same("2 below", g.insert(1, 0, 3), 5);
        Check.same("2 behind one with children", g.insert(0, 3, 4), 6);
        tree("2 all", g, "0:0(2:0 4:2 1:5(5:3) 6:4 3:1)");
        g.delete(5);
        Check.same("2 number never given again", g.insert(1, 0, 3), 7);
        g.checkout(0);
        Check.same("2 not even after a checkout", g.insert(0, 0, 3), 8);
    }

    private static void insertRefused() {
        GroveMerge g = small();
        String before = Trees.show(g);
        for (int far : FAR) {
            Check.refused("2 parent", NO_SUCH, () -> g.insert(far, 0, 0));
            Check.refused("2 place", OUT, () -> g.insert(0, far, 0));
            Check.refused("2 label", ILLEGAL, () -> g.insert(0, 0, far));
        }
        Check.refused("2 parent 5", NO_SUCH, () -> g.insert(5, 9, 9));
        Check.refused("2 parent 24", NO_SUCH, () -> g.insert(24, 0, 0));
        Check.refused("2 place 3 of 2", OUT, () -> g.insert(0, 3, 6));
        Check.refused("2 label 6", ILLEGAL, () -> g.insert(0, 2, 6));
        tree("2 refused changes nothing", g, before);
        Check.same("2 refused makes nothing", g.nodes(true), 5);
        g.delete(2);
        Check.refused("2 deleted parent", NO_SUCH, () -> g.insert(2, 0, 0));
        for (int i = 5; i < 24; i++) {
            Check.same("2 up to 24", g.insert(0, 0, 0), i);
        }
        Check.refused("2 label before the limit", ILLEGAL, () -> g.insert(0, 0, 6));
        Check.refused("2 the limit", UNSUPPORTED, () -> g.insert(0, 0, 0));
        g.delete(23);
        Check.refused("2 the limit after a delete", UNSUPPORTED, () -> g.insert(0, 0, 0));
        Check.same("2 made", g.nodes(true), 24);
    }

    private static void delete() {
        GroveMerge g = small();
        Check.same("3 leaf", g.delete(3), 1);
        tree("3 leaf", g, "0:0(1:1(4:1) 2:2)");
        Check.same("3 with all below", g.delete(1), 2);
        tree("3 with all below", g, "0:0(2:2)");
        Check.refused("3 again", NO_SUCH, () -> g.delete(1));
        Check.refused("3 went along", NO_SUCH, () -> g.delete(4));
        Check.refused("3 root", ILLEGAL, () -> g.delete(0));
        Check.refused("3 not made", NO_SUCH, () -> g.delete(5));
        for (int far : FAR) {
            Check.refused("3 far", NO_SUCH, () -> g.delete(far));
        }
        tree("3 refused changes nothing", g, "0:0(2:2)");
    }

    private static void move() {
        GroveMerge g = small();
        g.move(1, 2, 0);
        tree("4 with all below", g, "0:0(2:2(1:1(3:3 4:1)))");
        g.move(3, 1, 1);
        tree("4 to the end of its own row", g, "0:0(2:2(1:1(4:1 3:3)))");
        g.move(3, 1, 0);
        tree("4 to the front of its own row", g, "0:0(2:2(1:1(3:3 4:1)))");
        g.move(4, 1, 1);
        tree("4 to where it is", g, "0:0(2:2(1:1(3:3 4:1)))");
        g.move(1, 0, 0);
        tree("4 up to the front", g, "0:0(1:1(3:3 4:1) 2:2)");
        g.move(3, 0, 1);
        tree("4 up between", g, "0:0(1:1(4:1) 3:3 2:2)");
        g.move(1, 0, 2);
        tree("4 with all below behind", g, "0:0(3:3 2:2 1:1(4:1))");
    }

    private static void moveRefused() {
        GroveMerge g = small();
        String before = Trees.show(g);
        for (int far : FAR) {
            Check.refused("4 node", NO_SUCH, () -> g.move(far, 0, 0));
            Check.refused("4 parent", NO_SUCH, () -> g.move(0, far, 9));
            Check.refused("4 place", OUT, () -> g.move(1, 2, far));
        }
        Check.refused("4 root", ILLEGAL, () -> g.move(0, 1, 9));
        Check.refused("4 root to itself", ILLEGAL, () -> g.move(0, 0, 0));
        Check.refused("4 to itself", ILLEGAL, () -> g.move(1, 1, 9));
        Check.refused("4 to a child", ILLEGAL, () -> g.move(1, 4, 9));
        Check.refused("4 place counted without it", OUT, () -> g.move(3, 1, 2));
        Check.refused("4 place 3 of 2", OUT, () -> g.move(3, 0, 3));
        g.move(4, 3, 0);
        Check.refused("4 far below", ILLEGAL, () -> g.move(1, 4, 0));
        g.move(4, 1, 1);
        tree("4 refused changes nothing", g, before);
        g.delete(3);
        Check.refused("4 deleted node", NO_SUCH, () -> g.move(3, 0, 0));
        Check.refused("4 deleted parent", NO_SUCH, () -> g.move(0, 3, 0));
    }

    private static void relabel() {
        GroveMerge g = small();
        g.relabel(0, 5);
        g.relabel(4, 0);
        g.relabel(2, 2);
        tree("5 labels", g, "0:5(1:1(3:3 4:0) 2:2)");
        Check.refused("5 label 6", ILLEGAL, () -> g.relabel(0, 6));
        Check.refused("5 label -1", ILLEGAL, () -> g.relabel(0, -1));
        Check.refused("5 node first", NO_SUCH, () -> g.relabel(5, 6));
        g.delete(2);
        Check.refused("5 deleted", NO_SUCH, () -> g.relabel(2, 0));
        for (int far : FAR) {
            Check.refused("5 far", NO_SUCH, () -> g.relabel(far, 0));
        }
        tree("5 refused changes nothing", g, "0:5(1:1(3:3 4:0))");
    }

    private static void commit() {
        GroveMerge g = new GroveMerge();
        for (int i = 1; i < 12; i++) {
            g.insert(0, 0, 1);
            Check.same("6 number", g.commit(), i);
            Check.same("6 head", g.state(1), i);
            Check.same("6 parent", g.above(i, 0), i - 1);
            Check.same("6 no second parent", g.above(i, 1), GroveMerge.NONE);
        }
        g.relabel(0, 3);
        Check.refused("6 limit", UNSUPPORTED, g::commit);
        Check.same("6 head stays", g.state(1), 11);
        Check.same("6 commits", g.state(0), 12);
        Check.same("6 tree stays", g.about(0, 0), 3);
        g.checkout(2);
        tree("6 a tree never changes", g, "0:0(2:1 1:1)");
    }

    private static void checkout() {
        GroveMerge g = small();
        g.commit();
        g.delete(1);
        g.relabel(2, 5);
        g.checkout(1);
        tree("7 changes are gone", g, "0:0(1:1(3:3 4:1) 2:2)");
        g.checkout(0);
        tree("7 first", g, "0:0");
        Check.same("7 head", g.state(1), 0);
        Check.same("7 made stays", g.nodes(true), 5);
        g.merge(1);
        Check.same("7 taken in", g.state(2), 1);
        g.checkout(0);
        Check.same("7 nothing taken in", g.state(2), GroveMerge.NONE);
        g.relabel(0, 4);
        for (int far : FAR) {
            Check.refused("7 far", NO_SUCH, () -> g.checkout(far));
        }
        Check.refused("7 commit 2 of 2", NO_SUCH, () -> g.checkout(2));
        tree("7 refused changes nothing", g, "0:4");
    }

    private static void base() {
        GroveMerge g = new GroveMerge();
        g.commit();
        g.commit();
        g.checkout(1);
        g.commit();
        g.commit();
        Check.same("8 itself", g.base(4, 4), 4);
        Check.same("8 above", g.base(4, 1), 1);
        Check.same("8 turned round", g.base(1, 4), 1);
        Check.same("8 two lines", g.base(2, 4), 1);
        Check.same("8 first", g.base(0, 4), 0);
        for (int far : FAR) {
            Check.refused("8 a", NO_SUCH, () -> g.base(far, 0));
            Check.refused("8 b", NO_SUCH, () -> g.base(0, far));
        }
        Check.refused("8 commit 5 of 5", NO_SUCH, () -> g.base(5, 0));
        Check.refused("8 commit 5 of 5", NO_SUCH, () -> g.base(0, 5));
    }

    private static void baseOfCrossedMerges() {
        GroveMerge g = new GroveMerge();
        g.commit();
        g.checkout(0);
        g.commit();
        g.merge(1);
        Check.same("8 merged", g.commit(), 3);
        g.checkout(1);
        g.merge(2);
        Check.same("8 merged the other way", g.commit(), 4);
        Check.same("8 the least of two", g.base(3, 4), 1);
        Check.same("8 by the second parent", g.base(3, 1), 1);
        Check.same("8 by the second parent", g.base(4, 2), 2);
    }

    private static void mergeRefused() {
        GroveMerge g = small();
        g.commit();
        for (int far : FAR) {
            Check.refused("9 far", NO_SUCH, () -> g.merge(far));
        }
        g.relabel(3, 4);
        Check.refused("9 label", STATE, () -> g.merge(0));
        Check.refused("9 commit first", NO_SUCH, () -> g.merge(2));
        g.relabel(3, 3);
        g.move(3, 1, 1);
        Check.refused("9 place", STATE, () -> g.merge(0));
        g.move(3, 4, 0);
        Check.refused("9 parent", STATE, () -> g.merge(0));
        g.move(3, 1, 0);
        int added = g.insert(2, 0, 0);
        Check.refused("9 one more", STATE, () -> g.merge(0));
        g.delete(added);
        g.delete(4);
        Check.refused("9 one less", STATE, () -> g.merge(0));
        g.insert(1, 1, 1);
        Check.refused("9 another node", STATE, () -> g.merge(0));
        g.checkout(1);
        g.delete(2);
        Check.refused("9 the last one less", STATE, () -> g.merge(0));
        g.checkout(1);
        g.insert(2, 0, 0);
        Check.refused("9 one more at the end", STATE, () -> g.merge(0));
        g.checkout(1);
        g.move(4, 3, 0);
        Check.refused("9 parent in the same order", STATE, () -> g.merge(0));
        g.move(4, 1, 1);
        Check.same("9 changed back", g.merge(0), 0);
        Check.refused("9 taken in", STATE, () -> g.merge(0));
        Check.same("9 taken in stays", g.state(2), 0);
    }

    private static void mergeTakesIn() {
        GroveMerge g = small();
        g.commit();
        Check.same("9 the head", g.merge(1), 0);
        Check.same("9 the head is taken in", g.state(2), 1);
        tree("9 the head changes nothing", g, "0:0(1:1(3:3 4:1) 2:2)");
        Check.same("9 number", g.commit(), 2);
        Check.same("9 nothing taken in", g.state(2), GroveMerge.NONE);
        Check.same("9 first parent", g.above(2, 0), 1);
        Check.same("9 second parent", g.above(2, 1), 1);
        Check.same("9 one above", g.merge(0), 0);
        Check.same("9 one above is taken in", g.state(2), 0);
        tree("9 one above changes nothing", g, "0:0(1:1(3:3 4:1) 2:2)");
        g.checkout(0);
        Check.same("9 one that comes from the head", g.merge(2), 0);
        tree("9 its tree", g, "0:0(1:1(3:3 4:1) 2:2)");
        g.relabel(2, 0);
        Check.same("9 number", g.commit(), 3);
        Check.same("9 parents", g.above(3, 0), 0);
        Check.same("9 parents", g.above(3, 1), 2);
        Check.same("9 labels later on", g.about(2, 0), 0);
    }

    private static void conflict() {
        GroveMerge g = small();
        g.commit();
        g.relabel(1, 5);
        g.relabel(3, 5);
        g.commit();
        g.checkout(1);
        g.relabel(1, 4);
        g.relabel(3, 4);
        g.commit();
        Check.refused("10 before a merge", NO_SUCH, () -> g.conflict(0));
        Check.same("10 how many", g.merge(2), 2);
        Check.same("10 first", g.conflict(0), 2 * 32 + 1);
        Check.same("10 second", g.conflict(1), 2 * 32 + 3);
        Check.refused("10 third", NO_SUCH, () -> g.conflict(2));
        for (int far : FAR) {
            Check.refused("10 far", NO_SUCH, () -> g.conflict(far));
        }
        Check.refused("10 a merge that throws", NO_SUCH, () -> g.merge(9));
        Check.same("10 is not the latest", g.conflict(1), 2 * 32 + 3);
        Check.same("10 nothing taken in", g.state(2), GroveMerge.NONE);
        tree("10 the working tree stays", g, "0:0(1:4(3:4 4:1) 2:2)");
        g.checkout(0);
        Check.same("10 a checkout keeps them", g.conflict(0), 2 * 32 + 1);
        g.merge(1);
        Check.refused("10 a merge without", NO_SUCH, () -> g.conflict(0));
    }

    private static void about() {
        GroveMerge g = small();
        int[] parents = {-1, 0, 0, 1, 1};
        int[] labels = {0, 1, 2, 3, 1};
        int[] children = {2, 2, 0, 0, 0};
        int[] spots = {0, 1, 4, 2, 3};
        for (int node = 0; node < 5; node++) {
            Check.same("11 label of " + node, g.about(node, 0), labels[node]);
            Check.same("11 parent of " + node, g.about(node, 1), parents[node]);
            Check.same("11 children of " + node, g.about(node, 2), children[node]);
            Check.same("11 number of " + node, g.about(node, 3), spots[node]);
        }
        for (int far : FAR) {
            Check.refused("11 node", NO_SUCH, () -> g.about(far, 0));
            Check.refused("11 part", OUT, () -> g.about(0, far));
        }
        Check.refused("11 part 4", OUT, () -> g.about(0, 4));
        Check.refused("11 node first", NO_SUCH, () -> g.about(5, 4));
        g.delete(1);
        Check.refused("11 deleted", NO_SUCH, () -> g.about(3, 0));
        Check.same("11 number after a delete", g.about(2, 3), 1);
    }

    private static void child() {
        GroveMerge g = small();
        Check.same("12 first", g.child(0, 0), 1);
        Check.same("12 behind one with children", g.child(0, 1), 2);
        Check.same("12 second", g.child(1, 1), 4);
        Check.refused("12 behind the last", OUT, () -> g.child(0, 2));
        Check.refused("12 leaf", OUT, () -> g.child(2, 0));
        Check.refused("12 node first", NO_SUCH, () -> g.child(5, 9));
        for (int far : FAR) {
            Check.refused("12 node", NO_SUCH, () -> g.child(far, 0));
            Check.refused("12 number", OUT, () -> g.child(0, far));
        }
        g.delete(4);
        Check.refused("12 deleted", NO_SUCH, () -> g.child(4, 0));
        Check.refused("12 child deleted", OUT, () -> g.child(1, 1));
    }

    private static void nodes() {
        GroveMerge g = small();
        Check.same("13 nodes", g.nodes(false), 5);
        Check.same("13 made", g.nodes(true), 5);
        g.delete(1);
        Check.same("13 nodes after a delete", g.nodes(false), 2);
        Check.same("13 made after a delete", g.nodes(true), 5);
        g.checkout(0);
        Check.same("13 nodes after a checkout", g.nodes(false), 1);
        Check.same("13 made after a checkout", g.nodes(true), 5);
    }

    private static int step(int axis, int label) {
        return axis | label << 2;
    }

    private static int path(int... steps) {
        int path = 0;
        for (int i = 0; i < steps.length; i++) {
            path |= steps[i] << 5 * i;
        }
        return path;
    }

    private static void count() {
        GroveMerge g = small();
        Check.same("14 no steps", g.count(0), 1);
        Check.same("14 axis 0 with a label", g.count(path(step(0, 5))), 1);
        Check.same("14 behind axis 0", g.count(path(step(0, 5), step(1, 7))), 1);
        Check.same("14 children", g.count(path(step(1, 6))), 2);
        Check.same("14 children 1", g.count(path(step(1, 1))), 1);
        Check.same("14 below", g.count(path(step(2, 7))), 4);
        Check.same("14 below 1", g.count(path(step(2, 1))), 2);
        Check.same("14 label 0 is not any", g.count(path(step(2, 0))), 0);
        Check.same("14 root has none beside it", g.count(path(step(3, 7))), 0);
        Check.same("14 behind", g.count(path(step(1, 7), step(3, 7))), 1);
        Check.same("14 behind, with the label", g.count(path(step(1, 7), step(3, 1))), 0);
        Check.same("14 behind in several rows", g.count(path(step(2, 7), step(3, 7))), 2);
        Check.same("14 each once", g.count(path(step(2, 7), step(2, 7))), 2);
        g.insert(0, 2, 2);
        g.insert(0, 3, 2);
        Check.same("14 behind several", g.count(path(step(1, 7), step(3, 7))), 3);
        Check.same("14 behind those behind", g.count(path(step(1, 1), step(3, 2), step(3, 2))), 2);
        countSixSteps();
    }

    private static void countSixSteps() {
        GroveMerge g = new GroveMerge();
        for (int i = 0; i < 8; i++) {
            g.insert(i, 0, 1);
        }
        int down = step(1, 1);
        int six = path(down, down, down, down, down, down);
        Check.same("14 five steps", g.find(path(down, down, down, down, down), 0), 5);
        Check.same("14 six steps", g.find(six, 0), 6);
        Check.same("14 six steps", g.count(six), 1);
        for (int rest = 1; rest < 4; rest++) {
            Check.same("14 the last two bits are free", g.find(six | rest << 30, 0), 6);
            Check.same("14 and alone no step", g.count(rest << 30), 1);
        }
        int any = step(2, 7);
        Check.same("14 all bits", g.count(-1), 0);
        Check.same("14 six times below", g.count(path(any, any, any, any, any, any)), 3);
    }

    private static void find() {
        GroveMerge g = small();
        g.move(2, 0, 0);
        g.insert(2, 0, 1);
        Check.same("15 root", g.find(0, 0), 0);
        int[] order = {2, 5, 1, 3, 4};
        for (int k = 0; k < order.length; k++) {
            Check.same("15 document order", g.find(path(step(2, 7)), k), order[k]);
        }
        Check.same("15 label", g.find(path(step(2, 1)), 0), 5);
        Check.same("15 label", g.find(path(step(2, 1)), 2), 4);
        Check.same("15 steps", g.find(path(step(1, 1), step(1, 3), step(3, 7)), 0), 4);
        Check.refused("15 behind the last", NO_SUCH, () -> g.find(path(step(2, 7)), 5));
        Check.refused("15 root alone", NO_SUCH, () -> g.find(0, 1));
        Check.refused("15 nothing", NO_SUCH, () -> g.find(path(step(3, 7)), 0));
        for (int far : FAR) {
            Check.refused("15 far", NO_SUCH, () -> g.find(0, far));
        }
    }

    private static void alike() {
        GroveMerge g = new GroveMerge();
        g.insert(0, 0, 1);
        g.insert(0, 1, 1);
        g.insert(1, 0, 2);
        g.insert(1, 1, 3);
        g.insert(2, 0, 2);
        Check.same("16 fewer children", g.alike(2), 2);
        g.move(2, 0, 0);
        Check.same("16 more children", g.alike(1), 1);
        g.move(2, 0, 1);
        g.insert(2, 1, 3);
        Check.same("16 parts", g.alike(2), 1);
        Check.same("16 leaves", g.alike(5), 3);
        Check.same("16 leaves", g.alike(6), 4);
        Check.same("16 the first itself", g.alike(1), 1);
        Check.same("16 root", g.alike(0), 0);
        g.move(5, 2, 1);
        Check.same("16 order", g.alike(2), 2);
        g.move(5, 2, 0);
        g.move(6, 5, 0);
        Check.same("16 as many nodes in another form", g.alike(2), 2);
        g.move(6, 2, 1);
        g.relabel(2, 0);
        Check.same("16 label", g.alike(2), 2);
        g.relabel(2, 1);
        g.move(2, 0, 0);
        Check.same("16 document order", g.alike(1), 2);
        g.delete(5);
        Check.refused("16 deleted", NO_SUCH, () -> g.alike(5));
        for (int far : FAR) {
            Check.refused("16 far", NO_SUCH, () -> g.alike(far));
        }
    }

    private static void distance() {
        GroveMerge g = small();
        g.commit();
        g.relabel(0, 3);
        g.move(4, 0, 1);
        g.commit();
        Check.same("17 itself", g.distance(1, 1), 0);
        Check.same("17 put in all", g.distance(0, 1), 4);
        Check.same("17 take out all", g.distance(1, 0), 4);
        Check.same("17 label and move", g.distance(1, 2), 3);
        g.checkout(1);
        g.delete(2);
        g.commit();
        g.checkout(0);
        int top = g.insert(0, 0, 0);
        int one = g.insert(top, 0, 1);
        g.insert(one, 0, 3);
        g.insert(one, 1, 1);
        g.commit();
        Check.same("17 other nodes alike", g.distance(3, 4), 1);
        g.checkout(3);
        g.relabel(0, 1);
        g.move(3, 0, 0);
        g.move(4, 0, 1);
        g.delete(1);
        g.commit();
        Check.same("17 the root taken out", g.distance(3, 5), 1);
        Check.same("17 one put in above the root", g.distance(5, 3), 1);
        for (int far : FAR) {
            Check.refused("17 a", NO_SUCH, () -> g.distance(far, 0));
            Check.refused("17 b", NO_SUCH, () -> g.distance(0, far));
        }
        Check.refused("17 commit 6 of 6", NO_SUCH, () -> g.distance(6, 0));
        Check.refused("17 commit 6 of 6", NO_SUCH, () -> g.distance(0, 6));
    }

    private static void state() {
        GroveMerge g = small();
        g.commit();
        g.checkout(0);
        Check.same("18 commits", g.state(0), 2);
        Check.same("18 head", g.state(1), 0);
        Check.same("18 none", g.state(2), -1);
        g.merge(1);
        Check.same("18 taken in", g.state(2), 1);
        Check.refused("18 three", ILLEGAL, () -> g.state(3));
        for (int far : FAR) {
            Check.refused("18 far", ILLEGAL, () -> g.state(far));
        }
    }

    private static void above() {
        GroveMerge g = new GroveMerge();
        g.commit();
        g.checkout(0);
        g.commit();
        g.merge(1);
        g.commit();
        Check.same("19 one parent", g.above(2, 0), 0);
        Check.same("19 no second", g.above(2, 1), GroveMerge.NONE);
        Check.same("19 first", g.above(3, 0), 2);
        Check.same("19 second", g.above(3, 1), 1);
        Check.same("19 without", g.above(0, 0), GroveMerge.NONE);
        Check.refused("19 two", OUT, () -> g.above(3, 2));
        Check.refused("19 commit first", NO_SUCH, () -> g.above(4, 2));
        for (int far : FAR) {
            Check.refused("19 commit", NO_SUCH, () -> g.above(far, 0));
            Check.refused("19 number", OUT, () -> g.above(0, far));
        }
    }
}
