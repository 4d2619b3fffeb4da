/** Each sentence of the document's terms and promises, with answers of its own at its bounds. */
public final class SentenceTest {
    public static void main(String[] args) throws java.io.IOException {
        Sentences s = new Sentences();
        new FaceSentences(s).run();
        new ReadingSentences(s).run();
        new LawSentences(s).run();
        new RunSentences(s).run();
        new LadderSentences(s).run();
        new TickSentences(s).run();
        new TrialSentences(s).run();
        s.end("SentenceTest");
    }
}
