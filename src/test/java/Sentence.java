import java.util.List;

/** A sentence of the document, by the promise or term it stands under and by its words, and the test that is its own. */
final class Sentence {
    final String where;
    final String words;
    private final Runnable test;

    Sentence(String where, String words, Runnable test) {
        this.where = where;
        this.words = words;
        this.test = test;
    }

    static void testAll(List<Sentence> sentences) {
        for (Sentence sentence : sentences) {
            int before = Check.asked();
            Check.under(sentence.where + ", \"" + sentence.words + "\"");
            sentence.test.run();
            Check.due("answers asked for", Check.asked() > before ? 1 : 0, 1);
        }
        Check.end();
    }
}
