import java.io.IOException;

/** All sentences of the document that have a test of their own; it is run from the project's folder. */
public final class SentenceTest {
    private SentenceTest() {
    }

    public static void main(String[] args) throws IOException {
        Sentences all = new Sentences();
        LifeSentences.addTo(all);
        TermSentences.addTo(all);
        DistanceSentences.addTo(all);
        PathSentences.addTo(all);
        MergeSentences.addTo(all);
        RefusalSentences.addTo(all);
        ChangeSentences.addTo(all);
        CommitSentences.addTo(all);
        MergeCallSentences.addTo(all);
        AskSentences.addTo(all);
        StateSentences.addTo(all);
        all.runAll();
        all.compareWith(new Document());
        Check.end();
    }
}
