import java.io.IOException;

/** Each sentence of a promise that names a boundary case has a test of its own, and all that are refused are met. */
public final class SentenceTest {
    private SentenceTest() {
    }

    public static void main(String[] args) throws IOException {
        Sentences.readDocument();
        TreeSentences.all();
        PoolSentences.all();
        KeptSentences.all();
        ScriptSentences.all();
        Sentences.lookForRefusals();
        System.exit(Sentences.end("SentenceTest"));
    }
}
