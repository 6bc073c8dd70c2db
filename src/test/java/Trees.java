/** Working trees as texts: shown as an object's calls tell them, or grown from their labels. */
final class Trees {
    private Trees() {
    }

    /** Each node as number:label, its children in brackets. */
    static String show(GroveMerge g) {
        StringBuilder text = new StringBuilder();
        showPart(g, 0, text);
        return text.toString();
    }

    static void same(String what, GroveMerge g, String due) {
        Check.same(what, show(g), due);
    }

    private static void showPart(GroveMerge g, int node, StringBuilder text) {
        text.append(node).append(':').append(g.about(node, 0));
        int children = g.about(node, 2);
        for (int i = 0; i < children; i++) {
            text.append(i == 0 ? '(' : ' ');
            showPart(g, g.child(node, i), text);
        }
        if (children > 0) {
            text.append(')');
        }
    }

    /** A new object with a tree like "0(1(2 3) 4)", its nodes made in the order of their labels. */
    static GroveMerge grown(String labels) {
        GroveMerge g = new GroveMerge();
        grow(g, labels);
        return g;
    }

    /** Makes the root, which stands alone, into such a tree. */
    static void grow(GroveMerge g, String labels) {
        g.relabel(0, labels.charAt(0) - '0');
        int at = 0;
        int latest = 0;
        for (char sign : labels.substring(1).toCharArray()) {
            if (sign == '(') {
                at = latest;
            } else if (sign == ')') {
                at = g.about(at, 1);
            } else if (sign != ' ') {
                latest = g.insert(at, g.about(at, 2), sign - '0');
            }
        }
    }

    /** A tree of all 24 nodes, each the only child of the one before it. */
    static GroveMerge chain() {
        GroveMerge g = new GroveMerge();
        for (int node = 1; node < 24; node++) {
            g.insert(node - 1, 0, 0);
        }
        return g;
    }

    /** A tree of all 24 nodes, all others children of the root, in the order of their numbers. */
    static GroveMerge row() {
        GroveMerge g = new GroveMerge();
        for (int node = 1; node < 24; node++) {
            g.insert(0, node - 1, 0);
        }
        return g;
    }
}
