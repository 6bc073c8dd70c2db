import java.util.ArrayDeque;
import java.util.ArrayList;
import java.util.HashMap;
import java.util.List;
import java.util.Map;

/** Promise 17: small trees, with the steps of the document taken one by one till the other tree is there. */
public final class DistanceTest {
    private static final int LABELS = 2;
    private static final int MOST_NODES = 4;

    /** A tree as the document has it, for steps alone: equal trees have equal texts. */
    private static final class Part {
        final int label;
        final List<Part> children;

        Part(int label, List<Part> children) {
            this.label = label;
            this.children = children;
        }

        int size() {
            int size = 1;
            for (Part child : children) {
                size += child.size();
            }
            return size;
        }

        String text() {
            StringBuilder text = new StringBuilder().append(label).append('(');
            for (Part child : children) {
                text.append(child.text());
            }
            return text.append(')').toString();
        }
    }

    private DistanceTest() {
    }

    public static void main(String[] args) {
        Map<String, Part> trees = new HashMap<>();
        for (int size = 1; size <= MOST_NODES; size++) {
            for (Part tree : treesOf(size)) {
                trees.put(tree.text(), tree);
            }
        }
        System.out.println(trees.size() + " trees, each with each");
        for (Part from : trees.values()) {
            Map<String, Integer> distances = distancesFrom(from);
            for (Part to : trees.values()) {
                Check.same(from.text() + " to " + to.text(), answer(from, to), distances.get(to.text()));
            }
        }
        largest();
        Check.end();
    }

    private static List<Part> treesOf(int size) {
        List<Part> all = new ArrayList<>();
        for (List<Part> row : rowsOf(size - 1)) {
            for (int label = 0; label < LABELS; label++) {
                all.add(new Part(label, row));
            }
        }
        return all;
    }

    private static List<List<Part>> rowsOf(int size) {
        List<List<Part>> all = new ArrayList<>();
        if (size == 0) {
            all.add(List.of());
        }
        for (int first = 1; first <= size; first++) {
            for (Part tree : treesOf(first)) {
                for (List<Part> rest : rowsOf(size - first)) {
                    List<Part> row = new ArrayList<>(rest);
                    row.add(0, tree);
                    all.add(row);
                }
            }
        }
        return all;
    }

    private static Map<String, Integer> distancesFrom(Part start) {
        Map<String, Integer> known = new HashMap<>();
        ArrayDeque<Part> waiting = new ArrayDeque<>();
        known.put(start.text(), 0);
        waiting.add(start);
        while (!waiting.isEmpty()) {
            Part now = waiting.remove();
            for (Part next : oneStepFrom(now)) {
                if (next.size() <= MOST_NODES + 1 && !known.containsKey(next.text())) {
                    known.put(next.text(), known.get(now.text()) + 1);
                    waiting.add(next);
                }
            }
        }
        return known;
    }

    private static List<Part> oneStepFrom(Part tree) {
        List<Part> all = new ArrayList<>();
        for (List<Part> row : rowsOneStepFrom(List.of(tree))) {
            if (row.size() == 1) {
                all.add(row.get(0));
            }
        }
        return all;
    }

    /** One step in a row of parts; a row of more than one in place of the root is no tree. */
    private static List<List<Part>> rowsOneStepFrom(List<Part> row) {
        List<List<Part>> all = new ArrayList<>();
        for (int i = 0; i < row.size(); i++) {
            Part at = row.get(i);
            all.add(replaced(row, i, i + 1, at.children));
            for (int label = 0; label < LABELS; label++) {
                all.add(replaced(row, i, i + 1, List.of(new Part(label, at.children))));
            }
            for (List<Part> below : rowsOneStepFrom(at.children)) {
                all.add(replaced(row, i, i + 1, List.of(new Part(at.label, below))));
            }
        }
        for (int from = 0; from <= row.size(); from++) {
            for (int to = from; to <= row.size(); to++) {
                for (int label = 0; label < LABELS; label++) {
                    all.add(replaced(row, from, to, List.of(new Part(label, List.copyOf(row.subList(from, to))))));
                }
            }
        }
        return all;
    }

    private static List<Part> replaced(List<Part> row, int from, int to, List<Part> by) {
        List<Part> other = new ArrayList<>(row.subList(0, from));
        other.addAll(by);
        other.addAll(row.subList(to, row.size()));
        return other;
    }

    private static int answer(Part from, Part to) {
        GroveMerge g = new GroveMerge();
        build(g, 0, from);
        int a = g.commit();
        g.checkout(0);
        build(g, 0, to);
        return g.distance(a, g.commit());
    }

    private static void build(GroveMerge g, int node, Part tree) {
        g.relabel(node, tree.label);
        for (int i = 0; i < tree.children.size(); i++) {
            build(g, g.insert(node, i, 0), tree.children.get(i));
        }
    }

    /** All 24 nodes: combs that open to both sides. */
    private static void largest() {
        GroveMerge g = Trees.chain();
        int chain = g.commit();
        int left = comb(g, 0);
        int right = comb(g, 1);
        Check.same("comb to itself", g.distance(left, left), 0);
        Check.same("combs both ways", g.distance(left, right), g.distance(right, left));
        Check.same("comb to chain", g.distance(left, chain), 22);
    }

    /** Each node of a chain of 12 with a leaf beside its next, on one side. */
    private static int comb(GroveMerge g, int side) {
        g.checkout(1);
        for (int node = 12; node < 24; node++) {
            g.move(node, 0, 0);
        }
        for (int i = 0; i < 12; i++) {
            g.move(12 + i, i, i < 11 ? side : 0);
        }
        return g.commit();
    }
}
