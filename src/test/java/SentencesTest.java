import java.io.IOException;
import java.nio.file.Files;
import java.nio.file.Path;

/** Each boundary sentence stands in the document, in its section, and the program keeps it. */
public final class SentencesTest {
    public static void main(String[] args) throws IOException {
        String document = Files.readString(Path.of("../shared/DOC.md"));
        for (Sentence sentence : Sentences.all()) {
            Expect.holds("the document says: " + sentence, stands(document, sentence));
            int before = Expect.askedSoFar();
            Expect.under(sentence.toString());
            sentence.test.run();
            Expect.under("");
            Expect.holds("something was asked for " + sentence, Expect.askedSoFar() > before);
        }
        Expect.end();
    }

    // A quotation may leave out where the document breaks its lines.
    private static boolean stands(String document, Sentence sentence) {
        for (String section : document.split("(?m)^## ")) {
            if (section.startsWith(sentence.section)) {
                return section.replaceAll("\\s+", " ").contains(sentence.words);
            }
        }
        return false;
    }
}
