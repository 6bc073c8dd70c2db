import java.util.Arrays;
import java.util.NoSuchElementException;

/** A tree of labelled nodes with a graph of commits; README.md says how to use it. */
public final class GroveMerge {
    public static final int NONE = -1;

    private static final int ROOT = 0;
    private static final int NODE_LIMIT = 24;
    private static final int LABEL_LIMIT = 6;
    private static final int COMMIT_LIMIT = 12;
    private static final int PARENT_LIMIT = 2;

    private final Tree working;
    private final History history;
    private final Merger merger;
    private final EditDistance editDistance;
    private int made;
    private int head;
    private int takenIn;

    public GroveMerge() {
        working = new Tree();
        history = new History();
        merger = new Merger();
        editDistance = new EditDistance();
        working.plant(ROOT, 0);
        made = 1;
        head = history.record(working, NONE, NONE);
        takenIn = NONE;
    }

    public int insert(int parent, int place, int label) throws NoSuchElementException, IndexOutOfBoundsException, IllegalArgumentException, UnsupportedOperationException {
        requireNode(parent);
        requirePlace(place, working.childCount(parent));
        requireLabel(label);
        if (made >= NODE_LIMIT) {
            throw new UnsupportedOperationException("all nodes were made");
        }
        int node = made;
        made++;
        working.attach(node, label, parent, place);
        return node;
    }

    public int delete(int node) throws NoSuchElementException, IllegalArgumentException {
        requireNode(node);
        if (node == ROOT) {
            throw new IllegalArgumentException("the root can't be deleted");
        }
        return working.prune(node);
    }

    public void move(int node, int parent, int place) throws NoSuchElementException, IllegalArgumentException, IndexOutOfBoundsException {
        requireNode(node);
        requireNode(parent);
        // All nodes stand in the root's part, so this refuses to move the root as well.
        if (working.isWithin(parent, node)) {
            throw new IllegalArgumentException("a node can't be moved into its own part");
        }
        requirePlace(place, working.childCount(parent) - (working.parent[node] == parent ? 1 : 0));
        working.transplant(node, parent, place);
    }

    public void relabel(int node, int label) throws NoSuchElementException, IllegalArgumentException {
        requireNode(node);
        requireLabel(label);
        working.label[node] = label;
    }

    public int commit() throws UnsupportedOperationException {
        if (history.size >= COMMIT_LIMIT) {
            throw new UnsupportedOperationException("all commits were made");
        }
        head = history.record(working, head, takenIn);
        takenIn = NONE;
        return head;
    }

    public void checkout(int commit) throws NoSuchElementException {
        requireCommit(commit);
        working.copyFrom(history.trees[commit]);
        head = commit;
        takenIn = NONE;
    }

    public int base(int a, int b) throws NoSuchElementException {
        requireCommit(a);
        requireCommit(b);
        return history.baseOf(a, b);
    }

    public int merge(int commit) throws NoSuchElementException, IllegalStateException {
        requireCommit(commit);
        Tree ours = history.trees[head];
        if (takenIn != NONE || !working.isSameAs(ours)) {
            throw new IllegalStateException("the working tree is not the head's, or a commit is taken in");
        }
        int conflicts = merger.run(ours, history.trees[commit], history.trees[history.baseOf(head, commit)]);
        if (conflicts == 0) {
            working.copyFrom(merger.result);
            takenIn = commit;
        }
        return conflicts;
    }

    public int conflict(int k) throws NoSuchElementException {
        if (k < 0 || k >= merger.conflictCount) {
            throw new NoSuchElementException("no such conflict");
        }
        return merger.conflicts[k];
    }

    public int about(int node, int part) throws NoSuchElementException, IndexOutOfBoundsException {
        requireNode(node);
        switch (part) {
            case 0:
                return working.label[node];
            case 1:
                return working.parent[node];
            case 2:
                return working.childCount(node);
            case 3:
                return working.spot[node];
            default:
                throw new IndexOutOfBoundsException("no such part");
        }
    }

    public int child(int node, int i) throws NoSuchElementException, IndexOutOfBoundsException {
        requireNode(node);
        requirePlace(i, working.childCount(node) - 1);
        return working.order[working.slotFor(node, i)];
    }

    public int nodes(boolean made) {
        return made ? this.made : working.size;
    }

    public int count(int path) {
        return Integer.bitCount(PathWalk.follow(path, working));
    }

    public int find(int path, int k) throws NoSuchElementException {
        int found = PathWalk.follow(path, working);
        if (k < 0 || k >= Integer.bitCount(found)) {
            throw new NoSuchElementException("the path finds no such node");
        }
        return working.pick(found, k);
    }

    public int alike(int node) throws NoSuchElementException {
        requireNode(node);
        return working.firstAlike(node);
    }

    public int distance(int a, int b) throws NoSuchElementException {
        requireCommit(a);
        requireCommit(b);
        return editDistance.between(history.trees[a], history.trees[b]);
    }

    public int state(int what) throws IllegalArgumentException {
        switch (what) {
            case 0:
                return history.size;
            case 1:
                return head;
            case 2:
                return takenIn;
            default:
                throw new IllegalArgumentException("no such part of the state");
        }
    }

    public int above(int commit, int i) throws NoSuchElementException, IndexOutOfBoundsException {
        requireCommit(commit);
        requirePlace(i, PARENT_LIMIT - 1);
        return i == 0 ? history.firstParent[commit] : history.secondParent[commit];
    }

    private void requireNode(int node) {
        if (!working.holds(node)) {
            throw new NoSuchElementException("no such node in the working tree");
        }
    }

    private void requireCommit(int commit) {
        if (commit < 0 || commit >= history.size) {
            throw new NoSuchElementException("no such commit");
        }
    }

    private static void requirePlace(int place, int last) {
        if (place < 0 || place > last) {
            throw new IndexOutOfBoundsException("no such place");
        }
    }

    private static void requireLabel(int label) {
        if (label < 0 || label >= LABEL_LIMIT) {
            throw new IllegalArgumentException("no such label");
        }
    }

    // Sets of nodes and of commits are ints with a bit for each member.
    private static boolean isIn(int set, int member) {
        return (set >> member & 1) != 0;
    }

    /**
     * The nodes stand in one row, in the document order: so all of a node's part stands together,
     * the node first, and the row with the parents tells the order of all children.
     */
    private static final class Tree {
        // The label and the parent of a node that is not in the tree: NONE is the root's parent.
        static final int ABSENT = -2;

        final int[] order = new int[NODE_LIMIT];
        // Where a node of the tree stands in the row; free for the others.
        final int[] spot = new int[NODE_LIMIT];
        final int[] parent = new int[NODE_LIMIT];
        final int[] label = new int[NODE_LIMIT];
        int size;
        // The part that is on its way in or out of the row.
        private final int[] carried = new int[NODE_LIMIT];

        Tree() {
            clear();
        }

        void clear() {
            Arrays.fill(parent, ABSENT);
            Arrays.fill(label, ABSENT);
            size = 0;
        }

        void copyFrom(Tree other) {
            System.arraycopy(other.order, 0, order, 0, NODE_LIMIT);
            System.arraycopy(other.spot, 0, spot, 0, NODE_LIMIT);
            System.arraycopy(other.parent, 0, parent, 0, NODE_LIMIT);
            System.arraycopy(other.label, 0, label, 0, NODE_LIMIT);
            size = other.size;
        }

        boolean isSameAs(Tree other) {
            if (size != other.size) {
                return false;
            }
            for (int i = 0; i < size; i++) {
                int node = order[i];
                if (other.order[i] != node || !hasAsIn(other, node)) {
                    return false;
                }
            }
            return true;
        }

        boolean hasAsIn(Tree other, int node) {
            return label[node] == other.label[node] && parent[node] == other.parent[node];
        }

        boolean holds(int node) {
            return node >= 0 && node < NODE_LIMIT && label[node] != ABSENT;
        }

        boolean isWithin(int node, int top) {
            return spot[node] >= spot[top] && spot[node] < endOf(spot[top]);
        }

        int childCount(int node) {
            int found = 0;
            for (int i = spot[node] + 1; i < size; i++) {
                if (parent[order[i]] == node) {
                    found++;
                }
            }
            return found;
        }

        /** Where in the row the child with a number stands, or would stand as the last one. */
        int slotFor(int node, int place) {
            int seen = 0;
            for (int i = spot[node] + 1; i < size; i++) {
                if (parent[order[i]] == node) {
                    if (seen == place) {
                        return i;
                    }
                    seen++;
                }
            }
            return endOf(spot[node]);
        }

        /** Where the part that begins at a spot has ended. */
        int endOf(int start) {
            for (int i = start + 1; i < size; i++) {
                if (parentSpot(i) < start) {
                    return i;
                }
            }
            return size;
        }

        int parentSpot(int i) {
            int up = parent[order[i]];
            return up < 0 ? NONE : spot[up];
        }

        void plant(int root, int rootLabel) {
            parent[root] = NONE;
            label[root] = rootLabel;
            putInto(0, root);
        }

        void attach(int node, int newLabel, int newParent, int place) {
            parent[node] = newParent;
            label[node] = newLabel;
            putInto(slotFor(newParent, place), node);
        }

        int prune(int node) {
            int length = takeOut(node);
            for (int i = 0; i < length; i++) {
                parent[carried[i]] = ABSENT;
                label[carried[i]] = ABSENT;
            }
            return length;
        }

        void transplant(int node, int newParent, int place) {
            int length = takeOut(node);
            int slot = slotFor(newParent, place);
            parent[node] = newParent;
            putCarried(slot, length);
        }

        void putInto(int slot, int node) {
            carried[0] = node;
            putCarried(slot, 1);
        }

        private int takeOut(int node) {
            int start = spot[node];
            int end = endOf(start);
            System.arraycopy(order, start, carried, 0, end - start);
            System.arraycopy(order, end, order, start, size - end);
            size -= end - start;
            renumberFrom(start);
            return end - start;
        }

        private void putCarried(int slot, int length) {
            System.arraycopy(order, slot, order, slot + length, size - slot);
            System.arraycopy(carried, 0, order, slot, length);
            size += length;
            renumberFrom(slot);
        }

        private void renumberFrom(int start) {
            for (int i = start; i < size; i++) {
                spot[order[i]] = i;
            }
        }

        int pick(int set, int k) {
            int seen = 0;
            for (int i = 0; i < size; i++) {
                if (isIn(set, order[i])) {
                    if (seen == k) {
                        return order[i];
                    }
                    seen++;
                }
            }
            return NONE;
        }

        int firstAlike(int node) {
            for (int i = 0; i < spot[node]; i++) {
                if (areAlike(i, spot[node])) {
                    return order[i];
                }
            }
            return node;
        }

        private boolean areAlike(int a, int b) {
            int length = endOf(a) - a;
            if (endOf(b) - b != length || label[order[a]] != label[order[b]]) {
                return false;
            }
            for (int i = 1; i < length; i++) {
                boolean sameLabel = label[order[a + i]] == label[order[b + i]];
                boolean sameParent = parentSpot(a + i) - a == parentSpot(b + i) - b;
                if (!sameLabel || !sameParent) {
                    return false;
                }
            }
            return true;
        }
    }

    /** The commits and what stands above them. */
    private static final class History {
        // The commit from which all others come.
        private static final int FIRST = 0;

        final Tree[] trees = new Tree[COMMIT_LIMIT];
        final int[] firstParent = new int[COMMIT_LIMIT];
        final int[] secondParent = new int[COMMIT_LIMIT];
        int size;
        // For each commit the set of those to which one can come from it, itself among them.
        private final int[] reach = new int[COMMIT_LIMIT];

        History() {
            for (int i = 0; i < COMMIT_LIMIT; i++) {
                trees[i] = new Tree();
            }
        }

        int record(Tree tree, int first, int second) {
            int commit = size;
            size++;
            trees[commit].copyFrom(tree);
            firstParent[commit] = first;
            secondParent[commit] = second;
            reach[commit] = 1 << commit | reachOf(first) | reachOf(second);
            return commit;
        }

        private int reachOf(int commit) {
            return commit == NONE ? 0 : reach[commit];
        }

        int baseOf(int a, int b) {
            int common = reach[a] & reach[b];
            for (int i = 0; i < size; i++) {
                if (isIn(common, i) && !isReachedFromAnother(i, common)) {
                    return i;
                }
            }
            return FIRST;
        }

        private boolean isReachedFromAnother(int commit, int common) {
            for (int i = 0; i < size; i++) {
                if (i != commit && isIn(common, i) && isIn(reach[i], commit)) {
                    return true;
                }
            }
            return false;
        }
    }

    /** Follows a path from the root, a set of nodes at a time. */
    private static final class PathWalk {
        private static final int STEPS = 6;
        private static final int STEP_BITS = 5;
        private static final int AXIS_BITS = 2;
        private static final int AXIS_MASK = 3;
        private static final int LABEL_MASK = 7;
        private static final int CHILD = 1;
        private static final int BELOW = 2;

        private PathWalk() {
        }

        static int follow(int path, Tree tree) {
            int found = 1 << ROOT;
            for (int i = 0; i < STEPS; i++) {
                int step = path >> i * STEP_BITS;
                int axis = step & AXIS_MASK;
                if (axis == 0) {
                    break;
                }
                found = alongAxis(axis, found, tree) & labelled(step >> AXIS_BITS & LABEL_MASK, tree);
            }
            return found;
        }

        private static int alongAxis(int axis, int from, Tree tree) {
            if (axis == CHILD) {
                return childrenOf(from, tree);
            }
            return axis == BELOW ? below(from, tree) : behind(from, tree);
        }

        private static int childrenOf(int from, Tree tree) {
            int found = 0;
            for (int i = 1; i < tree.size; i++) {
                int node = tree.order[i];
                if (isIn(from, tree.parent[node])) {
                    found |= 1 << node;
                }
            }
            return found;
        }

        private static int below(int from, Tree tree) {
            int found = 0;
            for (int i = 1; i < tree.size; i++) {
                int node = tree.order[i];
                if (isIn(from | found, tree.parent[node])) {
                    found |= 1 << node;
                }
            }
            return found;
        }

        private static int behind(int from, Tree tree) {
            int found = 0;
            int begun = 0;
            for (int i = 1; i < tree.size; i++) {
                int node = tree.order[i];
                int parent = tree.parent[node];
                if (isIn(begun, parent)) {
                    found |= 1 << node;
                }
                if (isIn(from, node)) {
                    begun |= 1 << parent;
                }
            }
            return found;
        }

        private static int labelled(int label, Tree tree) {
            int found = 0;
            for (int i = 0; i < tree.size; i++) {
                int node = tree.order[i];
                if (label >= LABEL_LIMIT || tree.label[node] == label) {
                    found |= 1 << node;
                }
            }
            return found;
        }
    }

    /** Puts two trees together that come from a base, or names the conflicts. */
    private static final class Merger {
        private static final int CHANGED_AND_DELETED = 1;
        private static final int TWO_LABELS = 2;
        private static final int TWO_PARENTS = 3;
        private static final int PARENT_GONE = 4;
        private static final int CUT_OFF = 5;
        private static final int KIND_FACTOR = 32;
        // Neither a label nor a parent, nor that of a node which is absent.
        private static final int CLASH = -3;

        final Tree result = new Tree();
        final int[] conflicts = new int[NODE_LIMIT];
        int conflictCount;

        int run(Tree ours, Tree theirs, Tree base) {
            conflictCount = 0;
            result.clear();
            for (int node = 0; node < NODE_LIMIT; node++) {
                if (ours.holds(node) || theirs.holds(node)) {
                    settle(node, ours, theirs, base);
                }
            }
            if (conflictCount == 0) {
                nameThoseWithoutParent();
            }
            if (conflictCount == 0) {
                nameThoseCutOff();
            }
            if (conflictCount == 0) {
                arrange(ours, theirs);
            }
            return conflictCount;
        }

        private void settle(int node, Tree ours, Tree theirs, Tree base) {
            boolean inBoth = ours.holds(node) && theirs.holds(node);
            if (!inBoth && base.holds(node)) {
                Tree holder = ours.holds(node) ? ours : theirs;
                if (!holder.hasAsIn(base, node)) {
                    name(node, CHANGED_AND_DELETED);
                }
                return;
            }
            int label = agreed(ours.label[node], theirs.label[node], base.label[node]);
            int parent = agreed(ours.parent[node], theirs.parent[node], base.parent[node]);
            if (label == CLASH) {
                name(node, TWO_LABELS);
            } else if (parent == CLASH) {
                name(node, TWO_PARENTS);
            } else {
                result.label[node] = label;
                result.parent[node] = parent;
            }
        }

        private static int agreed(int ours, int theirs, int base) {
            if (ours == theirs || theirs == Tree.ABSENT) {
                return ours;
            }
            if (ours == Tree.ABSENT || ours == base) {
                return theirs;
            }
            return theirs == base ? ours : CLASH;
        }

        private void name(int node, int kind) {
            conflicts[conflictCount] = node + KIND_FACTOR * kind;
            conflictCount++;
        }

        private void nameThoseWithoutParent() {
            for (int node = ROOT + 1; node < NODE_LIMIT; node++) {
                if (result.holds(node) && !result.holds(result.parent[node])) {
                    name(node, PARENT_GONE);
                }
            }
        }

        private void nameThoseCutOff() {
            for (int node = ROOT + 1; node < NODE_LIMIT; node++) {
                if (result.holds(node) && !comesToRoot(node)) {
                    name(node, CUT_OFF);
                }
            }
        }

        private boolean comesToRoot(int node) {
            int at = node;
            for (int i = 0; i < NODE_LIMIT && at > ROOT; i++) {
                at = result.parent[at];
            }
            return at == ROOT;
        }

        /** Each node's children are put right behind it, and later each one's own behind that. */
        private void arrange(Tree ours, Tree theirs) {
            result.putInto(0, ROOT);
            for (int i = 0; i < NODE_LIMIT && i < result.size; i++) {
                arrangeChildren(i, ours, theirs);
            }
        }

        private void arrangeChildren(int start, Tree ours, Tree theirs) {
            int parent = result.order[start];
            int slot = start + 1;
            for (int i = 0; i < ours.size; i++) {
                int node = ours.order[i];
                if (isChildNowAsIn(ours, node, parent)) {
                    result.putInto(slot, node);
                    slot++;
                }
            }
            slot = start + 1;
            for (int i = 0; i < theirs.size; i++) {
                int node = theirs.order[i];
                if (isChildNowAsIn(theirs, node, parent)) {
                    if (!isChildNowAsIn(ours, node, parent)) {
                        result.putInto(slot, node);
                    }
                    slot = result.spot[node] + 1;
                }
            }
        }

        private boolean isChildNowAsIn(Tree tree, int node, int parent) {
            return tree.parent[node] == parent && result.parent[node] == parent;
        }
    }

    /**
     * The distance by Zhang and Shasha, over the document order from its end: that is the order
     * from below of the mirrored trees, whose distance is the same.
     */
    private static final class EditDistance {
        private final int[][] ofParts = new int[NODE_LIMIT][NODE_LIMIT];
        // Of what is left of two parts from two spots on; beyond the last spot nothing is left.
        private final int[][] ofRests = new int[NODE_LIMIT + 1][NODE_LIMIT + 1];
        private final int[] endsA = new int[NODE_LIMIT];
        private final int[] endsB = new int[NODE_LIMIT];

        int between(Tree a, Tree b) {
            noteEnds(a, endsA);
            noteEnds(b, endsB);
            for (int i = a.size - 1; i >= 0; i--) {
                if (isWidest(a, endsA, i)) {
                    compareWithAll(a, b, i);
                }
            }
            return ofParts[0][0];
        }

        private void compareWithAll(Tree a, Tree b, int startA) {
            for (int j = b.size - 1; j >= 0; j--) {
                if (isWidest(b, endsB, j)) {
                    compareParts(a, b, startA, j);
                }
            }
        }

        private static void noteEnds(Tree tree, int[] ends) {
            for (int i = 0; i < tree.size; i++) {
                ends[i] = tree.endOf(i);
            }
        }

        /** The widest of the parts with one end: comparing it tells the distances of the others, too. */
        private static boolean isWidest(Tree tree, int[] ends, int i) {
            return i == 0 || ends[tree.parentSpot(i)] != ends[i];
        }

        private void compareParts(Tree a, Tree b, int startA, int startB) {
            int endA = endsA[startA];
            int endB = endsB[startB];
            for (int i = endA; i >= startA; i--) {
                for (int j = endB; j >= startB; j--) {
                    if (i == endA || j == endB) {
                        ofRests[i][j] = endA - i + endB - j;
                    } else if (endsA[i] == endA && endsB[j] == endB) {
                        int change = a.label[a.order[i]] == b.label[b.order[j]] ? 0 : 1;
                        ofRests[i][j] = least(i, j, ofRests[i + 1][j + 1] + change);
                        ofParts[i][j] = ofRests[i][j];
                    } else {
                        ofRests[i][j] = least(i, j, ofRests[endsA[i]][endsB[j]] + ofParts[i][j]);
                    }
                }
            }
        }

        private int least(int i, int j, int kept) {
            int oneLeftOut = Math.min(ofRests[i + 1][j], ofRests[i][j + 1]) + 1;
            return Math.min(oneLeftOut, kept);
        }
    }
}
