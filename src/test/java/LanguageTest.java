import java.io.IOException;
import java.lang.reflect.Constructor;
import java.lang.reflect.Field;
import java.lang.reflect.Method;
import java.lang.reflect.Modifier;
import java.nio.file.Files;
import java.nio.file.Path;
import java.util.Set;
import java.util.TreeSet;
import java.util.regex.Pattern;

/** The document's face, and those rules of LANGUAGE.md that can be seen in the source; run at the project's root. */
public final class LanguageTest {
    private static final String[] METHODS = {
        "int advance(int)", "int rotateKey(int)", "int open(int,int,int)", "int accept(int,int,int,int)",
        "int close(int,int)", "int segmentSize(int,int)", "int connections()", "int halfOpen()", "int entryAge(int,int)",
        "int remembered()", "int epoch()", "int load()", "int difficulty()", "int solve(int,int,int)",
        "int cookieAge(int)", "int cookieSize(int)", "int work()", "int request(int,int)", "int serve(int)",
        "int queued(int)", "int credit(int)", "int served(int)", "int shareBits(int)", "int undo()",
        "int errorCount(int)", "long digest()"};
    private static final String[] CONSTANTS = {"OUT_OF_RANGE", "CONNECTED", "FULL", "STALE", "UNSOLVED", "FORGED",
        "REPLAYED", "NOT_CONNECTED", "NOTHING_SAVED", "NONE"};
    private static final String[] FORBIDDEN = {"throw", "throws", "try", "catch", "synchronized", "assert", "import",
        "package", "protected", "Float", "Double", "Object", "Exact", "Random", "Thread", "equals", "hashCode", "toString"};

    public static void main(String[] args) throws IOException {
        face();
        namesOfPublicMethodsAreNotUsedAgain();
        String source = withoutComments(Files.readString(Path.of("src/main/java/CookieServer.java")));
        forbiddenWords(source);
        shape(source);
        Expect.end();
    }

    private static void face() {
        Expect.that("public and final", CookieServer.class.getModifiers(), Modifier.PUBLIC | Modifier.FINAL);
        Set<String> methods = new TreeSet<>();
        for (Method method : CookieServer.class.getDeclaredMethods()) {
            if (!Modifier.isPrivate(method.getModifiers())) {
                Expect.that("modifiers of " + method.getName(), method.getModifiers(), Modifier.PUBLIC);
                methods.add(signature(method));
            }
        }
        Expect.holds("the methods are those of the document: " + methods, methods.equals(Set.of(METHODS)));
        Set<String> constants = new TreeSet<>();
        for (Field field : CookieServer.class.getDeclaredFields()) {
            if (!Modifier.isPrivate(field.getModifiers())) {
                Expect.that("modifiers of " + field.getName(), field.getModifiers(),
                        Modifier.PUBLIC | Modifier.STATIC | Modifier.FINAL);
                Expect.holds(field.getName() + " is an int", field.getType() == int.class);
                constants.add(field.getName());
            }
        }
        Expect.holds("the constants are those of the document: " + constants, constants.equals(Set.of(CONSTANTS)));
        Constructor<?>[] constructors = CookieServer.class.getDeclaredConstructors();
        Expect.that("constructors", constructors.length, 1);
        Expect.that("its parameters", constructors[0].getParameterCount(), 0);
        Expect.that("its modifiers", constructors[0].getModifiers(), Modifier.PUBLIC);
    }

    private static String signature(Method method) {
        StringBuilder text = new StringBuilder();
        text.append(method.getReturnType()).append(' ').append(method.getName()).append('(');
        for (int i = 0; i < method.getParameterCount(); i++) {
            text.append(i > 0 ? "," : "").append(method.getParameterTypes()[i]);
        }
        return text.append(')').toString();
    }

    private static void namesOfPublicMethodsAreNotUsedAgain() {
        Set<String> names = new TreeSet<>();
        for (String method : METHODS) {
            names.add(method.substring(method.indexOf(' ') + 1, method.indexOf('(')));
        }
        for (Method method : CookieServer.class.getDeclaredMethods()) {
            if (Modifier.isPrivate(method.getModifiers())) {
                Expect.holds("private " + method.getName(), !names.contains(method.getName()));
            }
        }
        Class<?>[] inside = CookieServer.class.getDeclaredClasses();
        Expect.holds("at most twelve classes", inside.length < 12);
        for (Class<?> type : inside) {
            Expect.holds(type + " is static", Modifier.isStatic(type.getModifiers()));
            Expect.holds(type + " is not public", (type.getModifiers() & (Modifier.PUBLIC | Modifier.PROTECTED)) == 0);
            for (Method method : type.getDeclaredMethods()) {
                Expect.holds(type + " " + method.getName(), !names.contains(method.getName()));
                Expect.holds("parameters of " + method.getName(), method.getParameterCount() <= 7);
            }
            for (Field field : type.getDeclaredFields()) {
                boolean constant = Modifier.isStatic(field.getModifiers());
                Expect.holds("static " + field.getName(), !constant || Modifier.isFinal(field.getModifiers()));
            }
        }
    }

    private static String withoutComments(String source) {
        return source.replaceAll("(?s)/\\*.*?\\*/", "").replaceAll("//[^\n]*", "");
    }

    private static void forbiddenWords(String source) {
        for (String word : FORBIDDEN) {
            Expect.holds("no word " + word, !Pattern.compile("\\b" + word + "\\b").matcher(source).find());
        }
        Expect.holds("no lambda or method reference", !source.contains("->") && !source.contains("::"));
        Expect.holds("no text", !source.contains("\""));
    }

    // Methods stand at one or two levels of four blanks each and end with a brace at their own level.
    private static void shape(String source) {
        int opened = -1;
        String[] lines = source.split("\n", -1);
        for (int i = 0; i < lines.length; i++) {
            Expect.holds("line " + (i + 1) + " is not too long", lines[i].length() <= 125);
            if (lines[i].matches(" {4,8}[a-zA-Z].*\\) \\{") && !lines[i].matches(" *(if|for|while|switch) .*")) {
                opened = i;
            } else if (opened >= 0 && lines[i].equals(lines[opened].replaceAll("\\S.*", "}"))) {
                Expect.holds("a short method: " + lines[opened], i - opened < 60);
                opened = -1;
            }
        }
    }
}
