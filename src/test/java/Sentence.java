import java.util.ArrayList;
import java.util.List;

/**
 * A sentence of the document that names a boundary case, the test that holds the program to it, and
 * changes of the program that break it. SentencesTest runs the test on the program as it is,
 * BrokenSentencesTest on the program with each of the changes.
 */
final class Sentence {
    final String section;
    final String words;
    final Runnable test;
    final List<String[]> breaks = new ArrayList<>();

    /** The section is the beginning of its heading, without the marks before it. */
    Sentence(String section, String words, Runnable test) {
        this.section = section;
        this.words = words;
        this.test = test;
    }

    static Sentence described(String words, Runnable test) {
        return new Sentence("Description", words, test);
    }

    static Sentence promised(int number, String words, Runnable test) {
        return new Sentence("Promise " + number + ":", words, test);
    }

    /** The text must stand once in the program, when its comments are gone and each gap is one blank. */
    Sentence brokenBy(String from, String to) {
        breaks.add(new String[] {from, to});
        return this;
    }

    /** Shifts each end of a range by one, to both sides. */
    Sentence brokenRange(String before, String least, String greatest) {
        String from = before + least + ", " + greatest + ")";
        for (String shift : new String[] {" - 1", " + 1"}) {
            brokenBy(from, before + least + shift + ", " + greatest + ")");
            brokenBy(from, before + least + ", " + greatest + shift + ")");
        }
        return this;
    }

    @Override
    public String toString() {
        return section + ", \"" + words + "\"";
    }
}
