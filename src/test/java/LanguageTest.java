import java.io.IOException;
import java.nio.file.Files;
import java.nio.file.Path;
import java.util.regex.Matcher;
import java.util.regex.Pattern;

/** The rules of ../shared/LANGUAGE.md that can be seen in the source's words. */
public final class LanguageTest {
    private static final Due due = new Due();

    public static void main(String[] args) throws IOException {
        String source = Files.readString(Path.of("src/main/java/AbsentBells.java"));
        due.is("plain letters alone", source.chars().allMatch(c -> c == '\n' || c >= 32 && c < 127) ? 1 : 0, 1);
        String code = source.replaceAll("(?s)/\\*.*?\\*/", "").replaceAll("//[^\n]*", "");
        String[] forbidden = {
            "\\bthrow\\b", "\\bthrows\\b", "\\btry\\b", "\\bcatch\\b", "\\bsynchronized\\b", "\\bassert\\b",
            "->", "::", "\\bpackage\\b", "\\bimport\\b", "\\bprotected\\b", "\\bObject\\b", "Exact\\b",
            "\\bstatic\\s*\\{", "\\bdouble\\b", "\\bfloat\\b", "\\bMath\\.random\\b", "while \\(true\\)", "for \\(;"};
        for (String pattern : forbidden) {
            Matcher matcher = Pattern.compile(pattern).matcher(code);
            due.is(pattern + " is not used", matcher.find() ? 1 : 0, 0);
        }
        library(code);
        staticFields(code);
        parameters(code);
        lengths(code.split("\n"));
        due.end();
    }

    /** Rule 4: what is used of Java's own classes is all listed there. */
    private static void library(String code) {
        Matcher matcher = Pattern.compile("\\b(?!AbsentBells)([A-Z][a-z]\\w*)\\.(\\w+)").matcher(code);
        int found = 0;
        while (matcher.find()) {
            found++;
            boolean listed = matcher.group().matches("Math\\.(min|max|abs)|Integer\\.bitCount|System\\.arraycopy");
            due.is("in the library that is listed: " + matcher.group(), listed ? 1 : 0, 1);
        }
        due.is("uses of the library were found", found > 0 ? 1 : 0, 1);
    }

    /** Rule 5: static fields are final, and numbers here. */
    private static void staticFields(String code) {
        Matcher matcher = Pattern.compile("(?m)^ +[a-z ]*\\bstatic\\b[^(){}\n]*[;=].*$").matcher(code);
        int found = 0;
        while (matcher.find()) {
            found++;
            due.is("a constant: " + matcher.group().trim(),
                matcher.group().trim().matches("(public|private) static final int [^(){}]*;") ? 1 : 0, 1);
        }
        due.is("static fields were found", found > 0 ? 1 : 0, 1);
    }

    private static void parameters(String code) {
        Matcher matcher = Pattern.compile("\\w+ \\w+\\(([^()]*)\\) \\{").matcher(code);
        int methods = 0;
        while (matcher.find()) {
            methods++;
            due.is("at most seven parameters: " + matcher.group(), matcher.group(1).split(",").length <= 7 ? 1 : 0, 1);
        }
        due.is("methods were found", methods > 50 ? 1 : 0, 1);
    }

    /** A method's lines: from its head to the brace that stands as far in as the head. */
    private static void lengths(String[] lines) {
        for (int i = 0; i < lines.length; i++) {
            if (!lines[i].matches("( {4}| {8})[a-z].*\\) \\{")) {
                continue;
            }
            String in = lines[i].replaceAll("\\S.*", "");
            int end = i;
            while (end < lines.length && !lines[end].equals(in + "}")) {
                end++;
            }
            due.is("short: " + lines[i].trim(), end - i < 60 ? 1 : 0, 1);
        }
    }
}
