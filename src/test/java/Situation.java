import java.util.List;
import java.util.function.Supplier;

/** Objects to begin with, made anew each time, and what is known of them. */
enum Situation {
    NEW(GroveMerge::new, "0:0", 1, 1),
    SMALL(Situation::small, "0:0(1:1(3:3 4:1) 2:2)", 5, 1),
    COMMITTED(Situation::committed, "0:0(1:1(3:3 4:1) 2:2)", 5, 2),
    CHANGED(Situation::changed, "0:0(1:1(4:1) 2:5(5:4))", 6, 2),
    TAKEN_IN(Situation::takenIn, "0:0(1:4(3:3 4:1) 2:2(5:5))", 6, 4),
    IN_CONFLICT(Situation::inConflict, "0:0(1:4(3:4 4:1) 2:2)", 5, 4),
    FULL(Situation::full, "0:5(2:2(6:0 5:5) 1:1(4:4 3:3(7:1)))", 24, 12);

    final Supplier<GroveMerge> make;
    final String tree;
    final int made;
    final int commits;

    Situation(Supplier<GroveMerge> make, String tree, int made, int commits) {
        this.make = make;
        this.tree = tree;
        this.made = made;
        this.commits = commits;
    }

    boolean has(int node) {
        return tree.matches(".*\\b" + node + ":.*");
    }

    List<Integer> nodesNotInTheTree() {
        List<Integer> all = Numbers.beyond(23);
        for (int node = 0; node < 24; node++) {
            if (!has(node)) {
                all.add(node);
            }
        }
        return all;
    }

    List<Integer> numbersOfNoCommit() {
        return Numbers.beyond(commits - 1);
    }

    static GroveMerge small() {
        GroveMerge g = new GroveMerge();
        g.insert(0, 0, 1);
        g.insert(0, 1, 2);
        g.insert(1, 0, 3);
        g.insert(1, 1, 1);
        return g;
    }

    static GroveMerge committed() {
        GroveMerge g = small();
        g.commit();
        return g;
    }

    static GroveMerge changed() {
        GroveMerge g = committed();
        g.relabel(2, 5);
        g.delete(3);
        g.insert(2, 0, 4);
        return g;
    }

    /** The head is 3, and 2 is taken in; both have 1 above them. */
    static GroveMerge takenIn() {
        GroveMerge g = committed();
        g.relabel(1, 4);
        g.commit();
        g.checkout(1);
        g.insert(2, 0, 5);
        g.commit();
        g.merge(2);
        return g;
    }

    /** The head is 3; 1 and 3 have other labels in it than in 2, which could not be merged. */
    static GroveMerge inConflict() {
        GroveMerge g = committed();
        g.relabel(1, 5);
        g.relabel(3, 5);
        g.commit();
        g.checkout(1);
        g.relabel(1, 4);
        g.relabel(3, 4);
        g.commit();
        g.merge(2);
        return g;
    }

    /** All 24 nodes were made and all 12 commits; 16 nodes are deleted, and the head is 11. */
    static GroveMerge full() {
        GroveMerge g = new GroveMerge();
        for (int node = 1; node < 24; node++) {
            g.insert((node - 1) / 2, 0, node % 6);
            if (node % 2 == 0) {
                g.commit();
            }
        }
        for (int node = 8; node < 15; node++) {
            g.delete(node);
        }
        g.delete(15);
        g.delete(16);
        g.relabel(0, 5);
        return g;
    }

    /** All 12 commits, each with the one before it above it and one node more. */
    static GroveMerge twelve() {
        GroveMerge g = new GroveMerge();
        for (int commit = 1; commit < 12; commit++) {
            g.insert(0, 0, commit % 6);
            g.commit();
        }
        return g;
    }
}
