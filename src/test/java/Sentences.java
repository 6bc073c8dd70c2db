import java.util.ArrayList;
import java.util.Arrays;
import java.util.List;

/** Tests that each stand for a sentence of the document, or a part of one, and bear its words as their name. */
final class Sentences {
    private record Test(String heading, String words, String aside, Check.Call body) {
        String name() {
            return heading + " | " + words + aside;
        }
    }

    private final List<Test> tests = new ArrayList<>();
    private String heading = "";

    void below(String newHeading) {
        heading = newHeading;
    }

    void say(String words, Check.Call body) {
        tests.add(new Test(heading, words, "", body));
    }

    /** One of several tests for the same words. */
    void say(String words, String aside, Check.Call body) {
        tests.add(new Test(heading, words, " [" + aside + "]", body));
    }

    void runAll() {
        for (Test test : tests) {
            int before = Check.lookedAt();
            Check.begin(test.name());
            try {
                test.body.run();
            } catch (RuntimeException e) {
                Check.same("a call that is not to throw", e.toString(), "an answer");
            }
            Check.holds("looks at an answer", Check.lookedAt() > before);
            System.out.println("ran: " + test.name());
        }
    }

    /** Each test's words stand in the document, and no words of the promises and terms are without a test. */
    void compareWith(Document document) {
        Check.begin("The names of the tests");
        for (Test test : tests) {
            Check.holds("the document says: " + test.name(), document.prose(test.heading).contains(test.words));
        }
        Check.same("different names", tests.stream().map(Test::name).distinct().count(), tests.size());
        for (String each : document.headings()) {
            if (each.equals("Terms") || each.startsWith("Promise ")) {
                Check.same("without a test below " + each, untested(document.prose(each), each), "");
            }
        }
    }

    private String untested(String text, String below) {
        char[] rest = text.toCharArray();
        for (Test test : tests) {
            int start = test.heading.equals(below) ? text.indexOf(test.words) : -1;
            if (start >= 0) {
                Arrays.fill(rest, start, start + test.words.length(), ' ');
            }
        }
        return new String(rest).replaceAll("\\W+", " ").trim();
    }
}
