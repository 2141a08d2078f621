import java.io.IOException;
import java.nio.charset.StandardCharsets;
import java.nio.file.Files;
import java.nio.file.Paths;
import java.util.HashSet;
import java.util.List;
import java.util.Set;
import java.util.regex.Matcher;
import java.util.regex.Pattern;

/** Looks at the source of the class for what LANGUAGE.md rules out, as far as words and shapes tell it. */
public final class LanguageTest {
    private static final String SOURCE = "src/main/java/CarriedAsFarAsTheStile.java";
    private static final String[] RULED_OUT = {"\\bthrow\\b", "\\btry\\b", "\\bcatch\\b", "\\bsynchronized\\b",
        "\\bassert\\b", "->", "::", "\\bimport\\b", "\\bpackage\\b", "Exact\\(", "\\bdouble\\b", "\\bfloat\\b",
        "\\bequals\\(", "\\bhashCode\\(", "\\btoString\\(", "\\bthread", "\\bRandom\\b", "\\bprotected\\b"};

    public static void main(String[] args) throws IOException {
        List<String> lines = Files.readAllLines(Paths.get(SOURCE), StandardCharsets.UTF_8);
        String code = String.join("\n", lines).replaceAll("(?s)/\\*.*?\\*/", "").replaceAll("//[^\n]*", "");
        for (String word : RULED_OUT) {
            Matcher m = Pattern.compile(word).matcher(code);
            Due.due("the source has " + word, m.find() ? 1 : 0, 0);
        }
        for (int i = 0; i < code.length(); i++) {
            if (code.charAt(i) > 126) Due.due("a sign beyond 126 at " + i, code.charAt(i), 0);
        }
        Due.due("classes, 12 at most", Math.max(12, count(code, "\\bclass \\w+")), 12);
        names(code);
        methods(lines);
        Due.end();
    }

    private static int count(String code, String what) {
        int n = 0;
        Matcher m = Pattern.compile(what).matcher(code);
        while (m.find()) n++;
        return n;
    }

    /** No other method bears the name of a public one. */
    private static void names(String code) {
        Set<String> open = new HashSet<>();
        Matcher m = Pattern.compile("\n    public (?:static )?\\w+ (\\w+)\\(").matcher(code);
        while (m.find()) open.add(m.group(1));
        Due.due("public methods", open.size(), 41);
        m = Pattern.compile("\n +(?:private |static )*(?:int|long|boolean|void|String) (\\w+)\\(").matcher(code);
        while (m.find()) Due.due("a second method " + m.group(1), open.contains(m.group(1)) ? 1 : 0, 0);
    }

    /** Sixty lines at most, seven parameters at most. */
    private static void methods(List<String> lines) {
        int from = 0;
        String indent = "";
        for (int i = 0; i < lines.size(); i++) {
            String line = lines.get(i);
            Matcher m = Pattern.compile("( {4,8})(?!.*\\bclass\\b)[a-zA-Z].*\\((.*)\\) \\{").matcher(line);
            if (m.matches()) {
                indent = m.group(1);
                from = i;
                Due.due("parameters in line " + (i + 1), Math.max(7, m.group(2).split(",").length), 7);
            } else if (line.equals(indent + "}")) {
                Due.due("lines of the method at " + (from + 1), Math.max(60, i - from + 1), 60);
            }
        }
    }
}
