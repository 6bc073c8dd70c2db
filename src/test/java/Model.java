import java.util.ArrayList;
import java.util.HashMap;
import java.util.List;
import java.util.Map;
import java.util.NoSuchElementException;
import java.util.Set;
import java.util.TreeMap;
import java.util.TreeSet;

/** The document once more, word by word and with no care for room, to compare runs with. */
final class Model {
    static final class Grove {
        final Map<Integer, Integer> label = new TreeMap<>();
        final Map<Integer, Integer> parent = new TreeMap<>();
        final Map<Integer, List<Integer>> children = new TreeMap<>();

        Grove copy() {
            Grove other = new Grove();
            other.label.putAll(label);
            other.parent.putAll(parent);
            children.forEach((node, row) -> other.children.put(node, new ArrayList<>(row)));
            return other;
        }

        boolean has(int node) {
            return label.containsKey(node);
        }

        boolean same(Grove other) {
            return label.equals(other.label) && parent.equals(other.parent) && children.equals(other.children);
        }

        List<Integer> part(int node) {
            List<Integer> all = new ArrayList<>();
            all.add(node);
            for (int below : children.get(node)) {
                all.addAll(part(below));
            }
            return all;
        }

        String text(int node) {
            StringBuilder text = new StringBuilder().append(label.get(node)).append('(');
            for (int below : children.get(node)) {
                text.append(text(below));
            }
            return text.append(')').toString();
        }
    }

    static final int NONE = -1;
    final Map<Integer, Integer> kinds = new TreeMap<>();
    int severalBases = 0;
    int cleanMerges = 0;
    private Grove working = new Grove();
    private final List<Grove> trees = new ArrayList<>();
    private final List<List<Integer>> parents = new ArrayList<>();
    private final List<Integer> conflicts = new ArrayList<>();
    private final Map<String, Integer> distances = new HashMap<>();
    private int made = 1;
    private int head = 0;
    private int taken = NONE;

    Model() {
        working.label.put(0, 0);
        working.parent.put(0, NONE);
        working.children.put(0, new ArrayList<>());
        trees.add(working.copy());
        parents.add(List.of());
    }

    private static void need(boolean holds, RuntimeException otherwise) {
        if (!holds) {
            throw otherwise;
        }
    }

    private void needNode(int node) {
        need(working.has(node), new NoSuchElementException());
    }

    private void needCommit(int commit) {
        need(commit >= 0 && commit < trees.size(), new NoSuchElementException());
    }

    int insert(int parent, int place, int label) {
        needNode(parent);
        need(place >= 0 && place <= working.children.get(parent).size(), new IndexOutOfBoundsException());
        need(label >= 0 && label <= 5, new IllegalArgumentException());
        need(made < 24, new UnsupportedOperationException());
        working.label.put(made, label);
        working.parent.put(made, parent);
        working.children.put(made, new ArrayList<>());
        working.children.get(parent).add(place, made);
        return made++;
    }

    int delete(int node) {
        needNode(node);
        need(node != 0, new IllegalArgumentException());
        List<Integer> part = working.part(node);
        working.children.get(working.parent.get(node)).remove(Integer.valueOf(node));
        for (int gone : part) {
            working.label.remove(gone);
            working.parent.remove(gone);
            working.children.remove(gone);
        }
        return part.size();
    }

    void move(int node, int parent, int place) {
        needNode(node);
        needNode(parent);
        need(node != 0 && !working.part(node).contains(parent), new IllegalArgumentException());
        List<Integer> row = new ArrayList<>(working.children.get(parent));
        row.remove(Integer.valueOf(node));
        need(place >= 0 && place <= row.size(), new IndexOutOfBoundsException());
        row.add(place, node);
        working.children.get(working.parent.get(node)).remove(Integer.valueOf(node));
        working.children.put(parent, row);
        working.parent.put(node, parent);
    }

    void relabel(int node, int label) {
        needNode(node);
        need(label >= 0 && label <= 5, new IllegalArgumentException());
        working.label.put(node, label);
    }

    int commit() {
        need(trees.size() < 12, new UnsupportedOperationException());
        trees.add(working.copy());
        parents.add(taken == NONE ? List.of(head) : List.of(head, taken));
        head = trees.size() - 1;
        taken = NONE;
        return head;
    }

    void checkout(int commit) {
        needCommit(commit);
        working = trees.get(commit).copy();
        head = commit;
        taken = NONE;
    }

    private Set<Integer> reach(int commit) {
        Set<Integer> all = new TreeSet<>();
        all.add(commit);
        for (int parent : parents.get(commit)) {
            all.addAll(reach(parent));
        }
        return all;
    }

    int base(int a, int b) {
        needCommit(a);
        needCommit(b);
        Set<Integer> common = reach(a);
        common.retainAll(reach(b));
        Set<Integer> best = new TreeSet<>(common);
        for (int one : common) {
            for (int other : reach(one)) {
                if (other != one) {
                    best.remove(other);
                }
            }
        }
        if (best.size() > 1) {
            severalBases++;
        }
        return best.iterator().next();
    }

    int merge(int commit) {
        needCommit(commit);
        need(taken == NONE && working.same(trees.get(head)), new IllegalStateException());
        Grove o = trees.get(head);
        Grove t = trees.get(commit);
        Grove b = trees.get(base(head, commit));
        conflicts.clear();
        Grove result = new Grove();
        for (int node = 0; node < 24; node++) {
            if (o.has(node) || t.has(node)) {
                settle(node, o, t, b, result);
            }
        }
        if (conflicts.isEmpty()) {
            for (int node : result.label.keySet()) {
                if (node != 0 && !result.has(result.parent.get(node))) {
                    conflicts.add(4 * 32 + node);
                }
            }
        }
        if (conflicts.isEmpty()) {
            for (int node : result.label.keySet()) {
                if (!comesToRoot(node, result, new TreeSet<>())) {
                    conflicts.add(5 * 32 + node);
                }
            }
        }
        for (int conflict : conflicts) {
            kinds.merge(conflict / 32, 1, Integer::sum);
        }
        if (conflicts.isEmpty()) {
            cleanMerges++;
            arrange(o, t, result);
            working = result;
            taken = commit;
        }
        return conflicts.size();
    }

    private void settle(int node, Grove o, Grove t, Grove b, Grove result) {
        if (o.has(node) != t.has(node) && b.has(node)) {
            Grove one = o.has(node) ? o : t;
            if (one.label.get(node).equals(b.label.get(node)) && one.parent.get(node).equals(b.parent.get(node))) {
                return;
            }
            conflicts.add(32 + node);
            return;
        }
        Integer label = choose(o.label.get(node), t.label.get(node), b.label.get(node));
        Integer parent = choose(o.parent.get(node), t.parent.get(node), b.parent.get(node));
        if (label == null) {
            conflicts.add(2 * 32 + node);
        } else if (parent == null) {
            conflicts.add(3 * 32 + node);
        } else {
            result.label.put(node, label);
            result.parent.put(node, parent);
            result.children.put(node, new ArrayList<>());
        }
    }

    private static Integer choose(Integer o, Integer t, Integer b) {
        if (o == null || t == null) {
            return o == null ? t : o;
        }
        if (o.equals(t) || t.equals(b)) {
            return o;
        }
        return o.equals(b) ? t : null;
    }

    private static boolean comesToRoot(int node, Grove grove, Set<Integer> seen) {
        return node == 0 || seen.add(node) && comesToRoot(grove.parent.get(node), grove, seen);
    }

    private static void arrange(Grove o, Grove t, Grove result) {
        for (int parent : result.label.keySet()) {
            List<Integer> row = rowNow(o, parent, result);
            List<Integer> theirs = rowNow(t, parent, result);
            for (int i = 0; i < theirs.size(); i++) {
                if (!row.contains(theirs.get(i))) {
                    row.add(i == 0 ? 0 : row.indexOf(theirs.get(i - 1)) + 1, theirs.get(i));
                }
            }
            result.children.put(parent, row);
        }
    }

    private static List<Integer> rowNow(Grove grove, int parent, Grove result) {
        List<Integer> row = new ArrayList<>();
        for (int node : grove.children.getOrDefault(parent, List.of())) {
            if (result.has(node) && result.parent.get(node) == parent) {
                row.add(node);
            }
        }
        return row;
    }

    int conflict(int k) {
        need(k >= 0 && k < conflicts.size(), new NoSuchElementException());
        return conflicts.get(k);
    }

    int about(int node, int part) {
        needNode(node);
        need(part >= 0 && part <= 3, new IndexOutOfBoundsException());
        int[] all = {working.label.get(node), working.parent.get(node), working.children.get(node).size(), working.part(0).indexOf(node)};
        return all[part];
    }

    int child(int node, int i) {
        needNode(node);
        need(i >= 0 && i < working.children.get(node).size(), new IndexOutOfBoundsException());
        return working.children.get(node).get(i);
    }

    int nodes(boolean all) {
        return all ? made : working.label.size();
    }

    private List<Integer> found(int path) {
        Set<Integer> now = new TreeSet<>(List.of(0));
        for (int i = 0; i < 6; i++) {
            int step = path >>> 5 * i & 31;
            if (step % 4 == 0) {
                break;
            }
            Set<Integer> next = new TreeSet<>();
            for (int from : now) {
                for (int to : reached(from, step % 4)) {
                    if (step / 4 >= 6 || working.label.get(to) == step / 4) {
                        next.add(to);
                    }
                }
            }
            now = next;
        }
        List<Integer> inOrder = new ArrayList<>(working.part(0));
        inOrder.retainAll(now);
        return inOrder;
    }

    private List<Integer> reached(int from, int axis) {
        if (axis == 1) {
            return working.children.get(from);
        }
        if (axis == 2) {
            List<Integer> part = working.part(from);
            return part.subList(1, part.size());
        }
        if (from == 0) {
            return List.of();
        }
        List<Integer> row = working.children.get(working.parent.get(from));
        return row.subList(row.indexOf(from) + 1, row.size());
    }

    int count(int path) {
        return found(path).size();
    }

    int find(int path, int k) {
        List<Integer> all = found(path);
        need(k >= 0 && k < all.size(), new NoSuchElementException());
        return all.get(k);
    }

    int alike(int node) {
        needNode(node);
        String text = working.text(node);
        for (int other : working.part(0)) {
            if (working.text(other).equals(text)) {
                return other;
            }
        }
        throw new IllegalStateException();
    }

    int distance(int a, int b) {
        needCommit(a);
        needCommit(b);
        distances.clear();
        return forests(trees.get(a), trees.get(b), List.of(0), List.of(0));
    }

    /** The distance of two rows of parts, by what becomes of the last one of each. */
    private int forests(Grove a, Grove b, List<Integer> f, List<Integer> g) {
        if (f.isEmpty() && g.isEmpty()) {
            return 0;
        }
        String key = f + "/" + g;
        Integer known = distances.get(key);
        if (known != null) {
            return known;
        }
        int best = Integer.MAX_VALUE;
        if (!f.isEmpty()) {
            best = forests(a, b, withoutLast(a, f), g) + 1;
        }
        if (!g.isEmpty()) {
            best = Math.min(best, forests(a, b, f, withoutLast(b, g)) + 1);
        }
        if (!f.isEmpty() && !g.isEmpty()) {
            int x = f.get(f.size() - 1);
            int y = g.get(g.size() - 1);
            int kept = a.label.get(x).equals(b.label.get(y)) ? 0 : 1;
            kept += forests(a, b, a.children.get(x), b.children.get(y));
            kept += forests(a, b, f.subList(0, f.size() - 1), g.subList(0, g.size() - 1));
            best = Math.min(best, kept);
        }
        distances.put(key, best);
        return best;
    }

    private static List<Integer> withoutLast(Grove grove, List<Integer> row) {
        List<Integer> rest = new ArrayList<>(row.subList(0, row.size() - 1));
        rest.addAll(grove.children.get(row.get(row.size() - 1)));
        return rest;
    }

    int state(int what) {
        need(what >= 0 && what <= 2, new IllegalArgumentException());
        return what == 0 ? trees.size() : what == 1 ? head : taken;
    }

    int above(int commit, int i) {
        needCommit(commit);
        need(i == 0 || i == 1, new IndexOutOfBoundsException());
        return i < parents.get(commit).size() ? parents.get(commit).get(i) : NONE;
    }
}
