import java.io.IOException;
import java.lang.reflect.Field;
import java.lang.reflect.Method;
import java.lang.reflect.Modifier;
import java.nio.file.DirectoryStream;
import java.nio.file.Files;
import java.nio.file.Path;
import java.util.Arrays;
import java.util.regex.Matcher;
import java.util.regex.Pattern;

/** README.md names all there is, and its examples answer what they say; run at the project's root. */
public final class ReadmeTest {
    private static final Pattern BLOCK = Pattern.compile("(?s)```java\n(.*?)```");
    private static final Pattern ANSWERED = Pattern.compile("(?:int (\\w+) = )?(server\\..*\\)); *// (-?\\d+).*");

    public static void main(String[] args) throws Exception {
        String readme = Files.readString(Path.of("README.md"));
        examplesAnswerWhatTheySay(readme);
        everyCallIsNamed(readme);
        everyConstantIsNamed(readme);
        everyTestIsNamed(readme);
        Expect.end();
    }

    private static void examplesAnswerWhatTheySay(String readme) throws Exception {
        Matcher blocks = BLOCK.matcher(readme);
        int count = 0;
        while (blocks.find()) {
            count++;
            String wrong = wrongAnswers(blocks.group(1));
            Expect.holds("wrong in example " + count + ":" + wrong, wrong.isEmpty());
        }
        Expect.holds("there are examples", count > 0);
    }

    // Each line with an answer behind it becomes a comparison in a method that is compiled and run.
    private static String wrongAnswers(String example) throws Exception {
        StringBuilder code = new StringBuilder("final class Example { static String wrong() { String wrong = \"\";\n");
        int answers = 0;
        for (String line : example.split("\n")) {
            Matcher answered = ANSWERED.matcher(line.trim());
            if (!answered.matches()) {
                code.append(line).append('\n');
                continue;
            }
            answers++;
            String name = answered.group(1) == null ? "answer" + answers : answered.group(1);
            code.append("int ").append(name).append(" = ").append(answered.group(2)).append(";\n");
            code.append("if (").append(name).append(" != ").append(answered.group(3)).append(") { wrong += \" ");
            code.append(answered.group(2)).append(" answered \" + ").append(name).append("; }\n");
        }
        Expect.holds("the example has answers", answers > 0);
        try (OtherProgram program = new OtherProgram(code.append("return wrong; } }").toString())) {
            Method wrong = program.loadClass("Example").getDeclaredMethod("wrong");
            wrong.setAccessible(true);
            return (String) wrong.invoke(null);
        }
    }

    private static void everyCallIsNamed(String readme) {
        for (Method method : CookieServer.class.getDeclaredMethods()) {
            if (Modifier.isPublic(method.getModifiers())) {
                String[] names = new String[method.getParameterCount()];
                Arrays.fill(names, "\\w+");
                String call = "\\| `" + method.getName() + "\\(" + String.join(", ", names) + "\\)`";
                Expect.holds("README.md has a row for " + call, Pattern.compile(call).matcher(readme).find());
            }
        }
    }

    private static void everyConstantIsNamed(String readme) throws IllegalAccessException {
        for (Field field : CookieServer.class.getDeclaredFields()) {
            if (Modifier.isPublic(field.getModifiers())) {
                String row = "| `" + field.getName() + "` | " + field.getInt(null) + " |";
                Expect.holds("README.md has the row " + row, readme.contains(row));
            }
        }
    }

    private static void everyTestIsNamed(String readme) throws IOException {
        try (DirectoryStream<Path> tests = Files.newDirectoryStream(Path.of("src/test/java"), "*Test.java")) {
            for (Path test : tests) {
                String name = "`" + test.getFileName().toString().replace(".java", "") + "`";
                Expect.holds("README.md names the test " + name, readme.contains(name));
            }
        }
    }
}
