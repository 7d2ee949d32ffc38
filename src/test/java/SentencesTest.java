import java.io.IOException;

/** Every sentence of the document has a test here; run from the project's directory. */
public final class SentencesTest {
    public static void main(String[] args) throws IOException {
        Check check = new Check();
        Sentences all = new Sentences(check, Document.read());
        Chapter[] chapters = {new SiteSentences(check), new RuleSentences(check), new PlanSentences(check),
            new BookingSentences(check), new TextSentences(check), new ChangeSentences(check),
            new DoubtSentences(check), new SitePromises(check), new BookingPromises(check),
            new QuestionPromises(check)};
        for (Chapter chapter : chapters) {
            chapter.tell(all);
        }
        all.end();
        check.end();
    }
}
