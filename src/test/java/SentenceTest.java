import java.io.IOException;
import java.util.Map;

/**
 * The document, sentence by sentence: each is quoted, with rows of its own that hold to it. Fails, too, if a quoted
 * sentence does not stand in the document, or if the document has words that no test quotes.
 */
public final class SentenceTest {
    private static Doc doc;
    private static int sentences = 0;
    private static int calls = 0;

    private SentenceTest() {
    }

    static void says(String part, String words, String rows) {
        sentences++;
        if (!doc.quote(part, words)) {
            Rows.fault(part + " does not say: " + words);
        }
        calls += Rows.run(part + ", \"" + words + "\"", rows);
    }

    public static void main(String[] args) throws IOException {
        doc = new Doc();
        TermSentences.all();
        CallSentences.all();
        for (Map.Entry<String, String> rest : doc.untold().entrySet()) {
            Rows.fault(rest.getKey() + ": no test quotes: " + rest.getValue());
        }
        System.out.println(sentences + " sentences, " + calls + " calls: "
            + (Rows.wrong == 0 ? "all are as due" : Rows.wrong + " faults"));
        if (Rows.wrong != 0) {
            System.exit(1);
        }
    }
}
