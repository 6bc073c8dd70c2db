/** Shows the working tree of an object as it is told by its calls. */
final class Trees {
    private Trees() {
    }

    /** Each node as number:label, its children in brackets. */
    static String show(GroveMerge g) {
        StringBuilder text = new StringBuilder();
        showPart(g, 0, text);
        return text.toString();
    }

    private static void showPart(GroveMerge g, int node, StringBuilder text) {
        text.append(node).append(':').append(g.about(node, 0));
        int children = g.about(node, 2);
        for (int i = 0; i < children; i++) {
            text.append(i == 0 ? '(' : ' ');
            showPart(g, g.child(node, i), text);
        }
        if (children > 0) {
            text.append(')');
        }
    }
}
