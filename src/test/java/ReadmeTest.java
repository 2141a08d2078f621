import java.io.File;
import java.io.IOException;
import java.lang.reflect.Method;
import java.lang.reflect.Modifier;
import java.nio.charset.StandardCharsets;
import java.nio.file.Files;
import java.nio.file.Paths;
import java.util.List;
import java.util.regex.Matcher;
import java.util.regex.Pattern;

/** The calls that README.md shows answer as it says, and it names every call and every test. */
public final class ReadmeTest {
    private static final Pattern CALL = Pattern.compile("x\\.(\\w+\\(.*\\)); +// (-?\\d+)(:.*)?");
    private static final Pattern LETTER = Pattern.compile("'(.)'");

    public static void main(String[] args) throws IOException {
        List<String> lines = Files.readAllLines(Paths.get("README.md"), StandardCharsets.UTF_8);
        shownCalls(lines);
        String page = String.join("\n", lines);
        for (Method method : CarriedAsFarAsTheStile.class.getDeclaredMethods()) {
            if (Modifier.isPublic(method.getModifiers())) named(page, "`" + method.getName() + "`");
        }
        String[] files = new File("src/test/java").list();
        Due.due("tests are there", files == null ? 0 : 1, 1);
        for (String file : files == null ? new String[0] : files) {
            if (file.endsWith("Test.java")) named(page, "| " + file.substring(0, file.length() - 5) + " |");
        }
        Due.end();
    }

    private static void shownCalls(List<String> lines) {
        Run x = new Run();
        int shown = 0;
        for (String line : lines) {
            if (line.contains("new CarriedAsFarAsTheStile()")) x = new Run();
            if (!line.startsWith("x.")) continue;
            Matcher m = CALL.matcher(line);
            Due.due("a call with its answer: " + line, m.matches() ? 1 : 0, 1);
            if (!m.matches()) continue;
            shown++;
            x.due(inNumbers(m.group(1)), Long.parseLong(m.group(2)));
        }
        Due.due("calls that README.md shows", shown > 0 ? 1 : 0, 1);
    }

    private static String inNumbers(String call) {
        Matcher m = LETTER.matcher(call.replace("true", "1").replace("false", "0"));
        return m.replaceAll(letter -> String.valueOf((int) letter.group(1).charAt(0)));
    }

    private static void named(String page, String name) {
        Due.due("README.md names " + name, page.contains(name) ? 1 : 0, 1);
    }
}
