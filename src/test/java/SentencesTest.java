import java.io.IOException;
import java.nio.file.Files;
import java.nio.file.Path;
import java.util.ArrayList;
import java.util.List;

/** That each sentence that has a test stands in the document, and that each one of the document has a test. */
public final class SentencesTest {
    private static final Path DOCUMENT = Path.of("../shared/DOC.md");

    public static void main(String[] args) throws IOException {
        if (!Files.exists(DOCUMENT)) {
            System.out.println("not tested: there is no " + DOCUMENT);
            return;
        }
        List<Sentence> sentences = new ArrayList<>();
        sentences.addAll(PromisesTest.sentences());
        sentences.addAll(BytesTest.sentences());
        sentences.addAll(OrderTest.sentences());
        sentences.addAll(LeavesTest.sentences());
        sentences.addAll(HoldTest.sentences());
        sentences.addAll(FaultsTest.sentences());
        String left = promised(Files.readString(DOCUMENT));
        for (Sentence sentence : sentences) {
            int at = left.indexOf(sentence.words);
            Check.due("\"" + sentence.words + "\" stands in the document", at >= 0);
            if (at >= 0) {
                left = left.substring(0, at) + "|" + left.substring(at + sentence.words.length());
            }
        }
        left = left.replaceAll("[|:;.,\\s]", "");
        Check.due("what has no test: \"" + left + "\"", left.isEmpty());
        Check.end();
    }

    /** What the document says of the class, its terms and its promises, without headings and signatures. */
    private static String promised(String document) {
        StringBuilder text = new StringBuilder();
        boolean within = false;
        for (String line : document.split("\n")) {
            if (line.startsWith("## ")) {
                within = line.equals("## What it is") || line.equals("## Terms") || line.startsWith("## Promise");
            } else if (within && !line.startsWith("```")) {
                text.append(line.replaceAll("`[^`]*`", "")).append('\n');
            }
        }
        return text.toString();
    }
}
