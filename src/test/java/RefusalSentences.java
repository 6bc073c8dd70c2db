import java.util.LinkedHashMap;
import java.util.Map;
import java.util.TreeMap;
import java.util.function.Consumer;

/** What the document says of every call that can be refused. */
final class RefusalSentences {
    private static final String UNCHANGED = "A call that throws changes nothing";
    private static final String FIRST = "where several exceptions that a call names fit, it is the one that it names first.";
    private static final int NOWHERE = 99;

    private RefusalSentences() {
    }

    static void addTo(Sentences all) {
        all.below("Terms");
        for (String call : refusedIn(Situation.FULL).keySet()) {
            all.say(UNCHANGED, call, () -> changesNothing(call));
        }
        all.say(UNCHANGED, "and all goes on as before", RefusalSentences::goesOnAsBefore);
        all.say(FIRST, "insert", RefusalSentences::firstOfInsert);
        all.say(FIRST, "delete", RefusalSentences::firstOfDelete);
        all.say(FIRST, "move", RefusalSentences::firstOfMove);
        all.say(FIRST, "relabel", RefusalSentences::firstOfRelabel);
        all.say(FIRST, "merge", RefusalSentences::firstOfMerge);
        all.say(FIRST, "about", RefusalSentences::firstOfAbout);
        all.say(FIRST, "child", RefusalSentences::firstOfChild);
        all.say(FIRST, "above", RefusalSentences::firstOfAbove);
    }

    /** For each call of the face those that are refused, by why they are. */
    private static Map<String, Map<String, Consumer<GroveMerge>>> refusedIn(Situation at) {
        Map<String, Map<String, Consumer<GroveMerge>>> all = new LinkedHashMap<>();
        addChanges(all, at);
        add(all, "checkout", "no commit", g -> g.checkout(at.commits));
        add(all, "base", "no first commit", g -> g.base(at.commits, 0));
        add(all, "base", "no second commit", g -> g.base(0, at.commits));
        add(all, "merge", "no commit", g -> g.merge(at.commits));
        add(all, "conflict", "none", g -> g.conflict(24));
        add(all, "about", "no node", g -> g.about(23, 0));
        add(all, "about", "no part", g -> g.about(0, 4));
        add(all, "child", "no node", g -> g.child(23, 0));
        add(all, "child", "none", g -> g.child(0, 23));
        add(all, "find", "none", g -> g.find(0, 1));
        add(all, "alike", "no node", g -> g.alike(23));
        add(all, "distance", "no first commit", g -> g.distance(at.commits, 0));
        add(all, "distance", "no second commit", g -> g.distance(0, at.commits));
        add(all, "state", "another number", g -> g.state(3));
        add(all, "above", "no commit", g -> g.above(at.commits, 0));
        add(all, "above", "another number", g -> g.above(0, 2));
        addThoseOfSome(all, at);
        return all;
    }

    private static void addChanges(Map<String, Map<String, Consumer<GroveMerge>>> all, Situation at) {
        add(all, "insert", "no node", g -> g.insert(23, 0, 0));
        add(all, "insert", "no place", g -> g.insert(0, NOWHERE, 0));
        add(all, "insert", "no label", g -> g.insert(0, 0, 6));
        add(all, "delete", "no node", g -> g.delete(23));
        add(all, "delete", "the root", g -> g.delete(0));
        add(all, "move", "no node", g -> g.move(23, 0, 0));
        add(all, "move", "no parent", g -> g.move(0, 23, 0));
        add(all, "move", "the root", g -> g.move(0, 0, 0));
        add(all, "relabel", "no node", g -> g.relabel(23, 0));
        add(all, "relabel", "no label", g -> g.relabel(0, 6));
        if (at != Situation.NEW) {
            add(all, "move", "into itself", g -> g.move(1, 1, 0));
            add(all, "move", "no place", g -> g.move(1, 0, NOWHERE));
        }
    }

    private static void addThoseOfSome(Map<String, Map<String, Consumer<GroveMerge>>> all, Situation at) {
        if (at == Situation.FULL) {
            add(all, "insert", "24 were made", g -> g.insert(0, 0, 0));
            add(all, "commit", "12 are there", g -> g.commit());
        }
        if (at != Situation.NEW && at != Situation.COMMITTED && at != Situation.IN_CONFLICT) {
            add(all, "merge", "the tree is not the head's", g -> g.merge(0));
        }
    }

    private static void add(Map<String, Map<String, Consumer<GroveMerge>>> all, String call, String why, Consumer<GroveMerge> made) {
        all.computeIfAbsent(call, name -> new TreeMap<>()).put(why, made);
    }

    private static void changesNothing(String name) {
        for (Situation at : Situation.values()) {
            refusedIn(at).getOrDefault(name, Map.of()).forEach((why, call) -> {
                GroveMerge g = at.make.get();
                Check.holds(at + ", refused: " + why, Check.outcomeOf(() -> call.accept(g)).endsWith("Exception"));
                Refusal.unchanged(at + ", " + why, at.make, call);
            });
        }
    }

    private static void makeAllIn(Situation at, GroveMerge g) {
        for (Map<String, Consumer<GroveMerge>> calls : refusedIn(at).values()) {
            calls.values().forEach(call -> Check.outcomeOf(() -> call.accept(g)));
        }
    }

    private static void goesOnAsBefore() {
        for (Situation at : Situation.values()) {
            Refusal.unchanged(at + ", all of them", at.make, g -> makeAllIn(at, g));
        }
        GroveMerge g = Situation.takenIn();
        makeAllIn(Situation.TAKEN_IN, g);
        Check.same("the next node", g.insert(0, 0, 1), 6);
        Check.same("the next commit", g.commit(), 4);
        Check.same("its second parent", g.above(4, 1), 2);
        Trees.same("its tree", g, "0:0(6:1 1:4(3:3 4:1) 2:2(5:5))");
    }

    private static void firstOfInsert() {
        for (Situation at : Situation.values()) {
            for (int place : new int[] {0, -1, NOWHERE}) {
                for (int label : new int[] {0, -1, 6}) {
                    Refusal.of(at + " no node, " + place + ", " + label, at.make, Refusal.NO_SUCH, g -> g.insert(23, place, label));
                    if (place != 0) {
                        Refusal.of(at + " place " + place + ", " + label, at.make, Refusal.OUT, g -> g.insert(0, place, label));
                    } else if (label != 0) {
                        Refusal.of(at + " label " + label, at.make, Refusal.ILLEGAL, g -> g.insert(0, place, label));
                    }
                }
            }
        }
        Refusal.of("24 were made and nothing else", Situation.FULL.make, Refusal.UNSUPPORTED, g -> g.insert(0, 0, 0));
    }

    /** The two never fit at once: the root is in each tree. */
    private static void firstOfDelete() {
        for (Situation at : Situation.values()) {
            Refusal.of(at + " no node", at.make, Refusal.NO_SUCH, g -> g.delete(GroveMerge.NONE));
            Refusal.of(at + " the root", at.make, Refusal.ILLEGAL, g -> g.delete(0));
        }
    }

    private static void firstOfMove() {
        for (int place : new int[] {0, -1, NOWHERE}) {
            for (int node : new int[] {-1, 5, 24}) {
                Refusal.of("no node", Situation.SMALL.make, Refusal.NO_SUCH, g -> g.move(node, 1, place));
                Refusal.of("the root to no node", Situation.SMALL.make, Refusal.NO_SUCH, g -> g.move(0, node, place));
                Refusal.of("no node to itself", Situation.SMALL.make, Refusal.NO_SUCH, g -> g.move(node, node, place));
            }
            Refusal.of("the root to itself", Situation.SMALL.make, Refusal.ILLEGAL, g -> g.move(0, 0, place));
            Refusal.of("the root to another one", Situation.SMALL.make, Refusal.ILLEGAL, g -> g.move(0, 2, place));
            Refusal.of("to itself", Situation.SMALL.make, Refusal.ILLEGAL, g -> g.move(1, 1, place));
            Refusal.of("to one below", Situation.SMALL.make, Refusal.ILLEGAL, g -> g.move(1, 4, place));
        }
        Refusal.of("no place and nothing else", Situation.SMALL.make, Refusal.OUT, g -> g.move(1, 2, NOWHERE));
    }

    private static void firstOfRelabel() {
        for (int label : Numbers.beyond(5)) {
            Refusal.of("no node, " + label, Situation.CHANGED.make, Refusal.NO_SUCH, g -> g.relabel(3, label));
            Refusal.of("no label and nothing else", Situation.CHANGED.make, Refusal.ILLEGAL, g -> g.relabel(4, label));
        }
    }

    private static void firstOfMerge() {
        for (int commit : Numbers.beyond(11)) {
            Refusal.of("changed, " + commit, Situation.CHANGED.make, Refusal.NO_SUCH, g -> g.merge(commit));
            Refusal.of("taken in, " + commit, Situation.TAKEN_IN.make, Refusal.NO_SUCH, g -> g.merge(commit));
        }
        Refusal.of("changed and nothing else", Situation.CHANGED.make, Refusal.STATE, g -> g.merge(1));
        Refusal.of("taken in and nothing else", Situation.TAKEN_IN.make, Refusal.STATE, g -> g.merge(1));
    }

    private static void firstOfAbout() {
        for (int part : Numbers.beyond(3)) {
            Refusal.of("no node, " + part, Situation.CHANGED.make, Refusal.NO_SUCH, g -> g.about(3, part));
            Refusal.of("no part and nothing else", Situation.CHANGED.make, Refusal.OUT, g -> g.about(4, part));
        }
    }

    private static void firstOfChild() {
        for (int i : Numbers.beyond(1)) {
            Refusal.of("no node, " + i, Situation.CHANGED.make, Refusal.NO_SUCH, g -> g.child(3, i));
            Refusal.of("no child and nothing else", Situation.CHANGED.make, Refusal.OUT, g -> g.child(0, i));
        }
    }

    private static void firstOfAbove() {
        for (int i : Numbers.beyond(1)) {
            Refusal.of("no commit, " + i, Situation.CHANGED.make, Refusal.NO_SUCH, g -> g.above(2, i));
            Refusal.of("no number and nothing else", Situation.CHANGED.make, Refusal.OUT, g -> g.above(1, i));
        }
    }
}
