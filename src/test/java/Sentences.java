import java.util.HashSet;
import java.util.List;
import java.util.Map;
import java.util.Set;

/** Which sentence of the document which test holds; in the end, each one must have a test. */
final class Sentences {
    private final Check check;
    private final Document document;
    private final Set<String> tested = new HashSet<>();
    private String place = "";

    Sentences(Check check, Document document) {
        this.check = check;
        this.document = document;
    }

    void in(String name) {
        place = name;
    }

    /** A test of the one sentence of this place that begins so. */
    void hold(String beginning, Runnable test) {
        check.theme(place + ", " + beginning);
        int found = 0;
        for (String sentence : document.sentences(place)) {
            if (sentence.startsWith(beginning)) {
                found++;
                tested.add(place + ": " + sentence);
            }
        }
        check.is("sentences that begin so", 1, found);
        check.same("the test", "ended", outcome(test));
    }

    private static String outcome(Runnable test) {
        try {
            test.run();
        } catch (RuntimeException e) {
            StringBuilder where = new StringBuilder("threw ").append(e);
            for (StackTraceElement frame : e.getStackTrace()) {
                boolean isChapter = frame.getClassName().matches("\\w+(Sentences|Promises)");
                where.append(isChapter ? " at " + frame.getFileName() + ":" + frame.getLineNumber() : "");
            }
            return where.toString();
        }
        return "ended";
    }

    /** Words that ask for nothing. */
    void skip(String words) {
        hold(words, () -> { });
    }

    void end() {
        check.theme("sentences");
        for (Map.Entry<String, List<String>> entry : document.places().entrySet()) {
            for (String sentence : entry.getValue()) {
                String name = entry.getKey() + ": " + sentence;
                check.same(name, "with a test", tested.contains(name) ? "with a test" : "without a test");
            }
        }
    }
}
