import java.io.IOException;
import java.nio.file.Files;
import java.nio.file.Path;
import java.util.regex.Matcher;
import java.util.regex.Pattern;

/** The rules of ../shared/LANGUAGE.md that can be seen in the source's words. */
public final class LanguageTest {
    private static final Due due = new Due();

    public static void main(String[] args) throws IOException {
        String source = Files.readString(Path.of("src/main/java/AbsentBells.java"));
        due.is("plain letters alone", source.chars().allMatch(c -> c == '\n' || c >= 32 && c < 127) ? 1 : 0, 1);
        String code = source.replaceAll("(?s)/\\*.*?\\*/", "").replaceAll("//[^\n]*", "");
        String[] forbidden = {
            "\\bthrow\\b", "\\bthrows\\b", "\\btry\\b", "\\bcatch\\b", "\\bsynchronized\\b", "\\bassert\\b",
            "->", "::", "\\bpackage\\b", "\\bimport\\b", "\\bprotected\\b", "\\bObject\\b", "Exact\\b",
            "\\bstatic\\s*\\{", "\\bdouble\\b", "\\bfloat\\b", "\\bMath\\.random\\b", "while \\(true\\)", "for \\(;"};
        for (String pattern : forbidden) {
            Matcher matcher = Pattern.compile(pattern).matcher(code);
            due.is(pattern + " is not used", matcher.find() ? 1 : 0, 0);
        }
        parameters(code);
        lengths(code.split("\n"));
        due.end();
    }

    private static void parameters(String code) {
        Matcher matcher = Pattern.compile("\\w+ \\w+\\(([^()]*)\\) \\{").matcher(code);
        int methods = 0;
        while (matcher.find()) {
            methods++;
            due.is("at most seven parameters: " + matcher.group(), matcher.group(1).split(",").length <= 7 ? 1 : 0, 1);
        }
        due.is("methods were found", methods > 50 ? 1 : 0, 1);
    }

    /** A method's lines: from its head to the brace that stands as far in as the head. */
    private static void lengths(String[] lines) {
        for (int i = 0; i < lines.length; i++) {
            if (!lines[i].matches("( {4}| {8})[a-z].*\\) \\{")) {
                continue;
            }
            String in = lines[i].replaceAll("\\S.*", "");
            int end = i;
            while (end < lines.length && !lines[end].equals(in + "}")) {
                end++;
            }
            due.is("short: " + lines[i].trim(), end - i < 60 ? 1 : 0, 1);
        }
    }
}
