import java.io.IOException;
import java.lang.reflect.InvocationTargetException;
import java.lang.reflect.Method;
import java.nio.file.Files;
import java.nio.file.Path;
import java.util.List;

/** Breaks the program, one change at a time: the test of the sentence that the change breaks must notice it. */
public final class BrokenSentencesTest {
    public static void main(String[] args) throws Exception {
        String source = onOneLine(Files.readString(Path.of("src/main/java/CookieServer.java")));
        List<Sentence> sentences = Sentences.all();
        Expect.holds("the whole program passes", !isNoticed(0, source));
        for (int i = 0; i < sentences.size(); i++) {
            Sentence sentence = sentences.get(i);
            Expect.holds("a break is known for " + sentence, !sentence.breaks.isEmpty());
            for (String[] change : sentence.breaks) {
                tryBreak(i, sentence, source, change);
            }
        }
        Expect.end();
    }

    private static String onOneLine(String source) {
        return source.replaceAll("(?s)/\\*.*?\\*/", "").replaceAll("//[^\n]*", "").replaceAll("\\s+", " ");
    }

    private static void tryBreak(int index, Sentence sentence, String source, String[] change) throws Exception {
        int first = source.indexOf(change[0]);
        boolean once = first >= 0 && source.indexOf(change[0], first + 1) < 0;
        Expect.holds("for " + sentence + " the program says once: " + change[0], once);
        if (once) {
            String broken = source.replace(change[0], change[1]);
            Expect.holds("the test of " + sentence + " notices: " + change[1], isNoticed(index, broken));
        }
    }

    private static boolean isNoticed(int index, String source) throws Exception {
        try (OtherProgram program = new OtherProgram(source)) {
            Method run = program.loadClass("Sentences").getDeclaredMethod("wrongAnswers", int.class);
            run.setAccessible(true);
            return (int) run.invoke(null, index) > 0;
        } catch (InvocationTargetException thrown) {
            // A broken program may throw where the whole one answers; anything else is this test's own fault.
            if (thrown.getCause() instanceof RuntimeException) {
                return true;
            }
            throw new IOException(thrown.getCause());
        }
    }
}
