import java.io.File;
import java.io.IOException;
import java.nio.file.DirectoryStream;
import java.nio.file.Files;
import java.nio.file.Path;
import java.util.ArrayList;
import java.util.List;
import java.util.Map;
import java.util.Set;
import java.util.TreeMap;
import java.util.TreeSet;
import java.util.regex.Matcher;
import java.util.regex.Pattern;

/**
 * What README.md says: its Java compiles, each call there answers what the page names, each call of the face and each
 * of its refusals is shown, and its tables are the document's calls, refusals and promises, and the tests that there are.
 */
public final class ReadmeTest {
    private static final Due due = new Due();
    private static final Pattern SHOWN = Pattern.compile(
        "((?:int|long) \\w+ = )?(\\w+)\\.(\\w+)\\(([^()]*)\\); *// (-?\\d+|BAD|STATE|FULL|NONE|NO)(?:: .*)?");
    private static final Pattern ROW = Pattern.compile("\\| `(\\w+\\([\\w, ]*\\))` \\|(.*)\\|(.*)\\|");

    /** Calls whose last number asks for one of several things: how many these are. */
    private static final Map<String, Integer> ASKED = Map.of(
        "person", 6, "duty", 5, "now", 6, "chord", 2, "least", 2, "odds", 2, "count", 7);

    /** A call that the page shows in a line of its own, and the answer that it names. */
    private record Shown(String name, String numbers, String answer) { }

    public static void main(String[] args) throws IOException, InterruptedException {
        List<String> page = Files.readAllLines(Path.of("README.md"));
        String document = Files.readString(Path.of("../shared/DOC.md"));
        List<String> code = codeOf(page);
        List<Shown> shown = shownIn(code);
        answers(code);
        everythingIsShown(shown, document);
        refusals(page, shown, document);
        promises(page, document);
        testsAreListed(page);
        due.end();
    }

    /** The lines of the page's Java, one part behind the other. */
    private static List<String> codeOf(List<String> page) {
        List<String> code = new ArrayList<>();
        boolean inside = false;
        for (String line : page) {
            if (line.startsWith("```")) {
                inside = line.equals("```java");
            } else if (inside) {
                code.add(line);
            }
        }
        return code;
    }

    private static List<Shown> shownIn(List<String> code) {
        List<Shown> shown = new ArrayList<>();
        for (String line : code) {
            Matcher call = SHOWN.matcher(line);
            if (call.matches()) {
                shown.add(new Shown(call.group(3), call.group(4), call.group(5)));
            } else {
                // Else an answer that this test can't read would be looked at by nobody.
                due.is("an answer is named for: " + line, line.matches("\\w+\\..*|.*//.*") ? 1 : 0, 0);
            }
        }
        return shown;
    }

    /** The page's Java as it stands, with a comparison behind each call, is compiled and run. */
    private static void answers(List<String> code) throws IOException, InterruptedException {
        Path made = Files.createTempDirectory("readme");
        Path source = made.resolve("ReadmeCode.java");
        Files.writeString(source, compared(code));
        String classes = System.getProperty("java.class.path");
        int compiled = exitCode("javac", "-cp", classes, "-d", made.toString(), source.toString());
        due.is("the Java of README.md compiles", compiled, 0);
        int ran = exitCode("java", "-cp", classes + File.pathSeparator + made, "ReadmeCode");
        due.is("the answers that README.md names", ran, 0);
        delete(made);
    }

    private static String compared(List<String> code) {
        StringBuilder source = new StringBuilder("final class ReadmeCode {\n");
        source.append("    public static void main(String[] args) {\n        Due due = new Due();\n");
        for (String line : code) {
            Matcher call = SHOWN.matcher(line);
            if (!call.matches()) {
                source.append(line).append('\n');
                continue;
            }
            String asked = call.group(2) + "." + call.group(3) + "(" + call.group(4) + ")";
            String got = asked;
            if (call.group(1) != null) {
                source.append(call.group(1)).append(asked).append(";\n");
                got = call.group(1).split(" ")[1];
            }
            String want = call.group(5).matches("[A-Z]+") ? "AbsentBells." + call.group(5) : call.group(5);
            source.append(String.format("due.is(\"README.md: %s\", %s, %s);%n", asked, got, want));
        }
        return source.append("due.end();\n    }\n}\n").toString();
    }

    private static int exitCode(String... command) throws IOException, InterruptedException {
        return new ProcessBuilder(command).inheritIO().start().waitFor();
    }

    private static void delete(Path directory) throws IOException {
        try (DirectoryStream<Path> files = Files.newDirectoryStream(directory)) {
            for (Path file : files) {
                Files.delete(file);
            }
        }
        Files.delete(directory);
    }

    /** Each call of the document's face is shown, not refused; where a number asks for several things, each of them. */
    private static void everythingIsShown(List<Shown> shown, String document) {
        for (String call : face(document)) {
            String name = call.substring(0, call.indexOf('('));
            Set<String> asked = new TreeSet<>();
            for (Shown one : shown) {
                if (one.name.equals(name) && !one.answer.matches("BAD|STATE|FULL|NO")) {
                    asked.add(one.numbers.replaceAll(".*, ", ""));
                }
            }
            due.is("shown: " + call, asked.isEmpty() ? 0 : 1, 1);
            for (int what = 0; what < ASKED.getOrDefault(name, 0); what++) {
                due.is("shown: " + call + " by " + what, asked.contains(String.valueOf(what)) ? 1 : 0, 1);
            }
        }
    }

    /** The calls of the document's face: "goes(p, place)". */
    private static List<String> face(String document) {
        List<String> calls = new ArrayList<>();
        Matcher call = Pattern.compile(" {4}public (?:int|long) (\\w+\\([\\w, ]*\\));").matcher(document);
        while (call.find()) {
            calls.add(call.group(1).replace("int ", ""));
        }
        due.is("calls of the face", calls.size(), 25);
        return calls;
    }

    /** The table of calls has the document's calls, each with the document's refusals, and each of these is shown. */
    private static void refusals(List<String> page, List<Shown> shown, String document) {
        List<String> listed = new ArrayList<>();
        for (String line : page) {
            Matcher row = ROW.matcher(line);
            if (!row.matches()) {
                continue;
            }
            String call = row.group(1);
            listed.add(call);
            Set<String> words = words("`(BAD|STATE|FULL|NO)`", row.group(3));
            same("what is refused: " + call, words, promised(call, document));
            for (String word : words) {
                boolean found = false;
                for (Shown one : shown) {
                    found |= call.startsWith(one.name + "(") && one.answer.equals(word);
                }
                due.is("shown: " + call + " refused by " + word, found ? 1 : 0, 1);
            }
        }
        same("the table of calls", listed, face(document));
    }

    private static Set<String> promised(String call, String document) {
        String name = call.substring(0, call.indexOf('('));
        Matcher promise = Pattern.compile("(?m)^`(?:int|long) " + name + "\\([^`]*`: (.*)$").matcher(document);
        due.is("the document has a promise for " + call, promise.find() ? 1 : 0, 1);
        // "NO: BAD" says that NO is answered for what is BAD.
        return words("\\b(BAD|STATE|FULL|NO)\\b", promise.group(1).replace("NO: BAD", "NO"));
    }

    private static Set<String> words(String pattern, String text) {
        Set<String> words = new TreeSet<>();
        Matcher word = Pattern.compile(pattern).matcher(text);
        while (word.find()) {
            words.add(word.group(1));
        }
        return words;
    }

    /** The table of tests names each promise by its number and its call. */
    private static void promises(List<String> page, String document) {
        Map<Integer, String> wanted = new TreeMap<>();
        Matcher promise = Pattern.compile("(?m)^## Promise (\\d+): (\\w+)$").matcher(document);
        while (promise.find()) {
            wanted.put(Integer.valueOf(promise.group(1)), promise.group(2));
        }
        due.is("promises of calls", wanted.size(), 25);
        Map<Integer, String> named = new TreeMap<>();
        for (String line : page) {
            Matcher one = Pattern.compile("(\\d+) (\\w+)(?=,| \\|)").matcher(line);
            while (line.matches("\\| `\\w+Test` .*") && one.find()) {
                named.put(Integer.valueOf(one.group(1)), one.group(2));
            }
        }
        same("the promises that tests are named for", named, wanted);
    }

    private static void testsAreListed(List<String> page) throws IOException {
        Set<String> there = new TreeSet<>();
        try (DirectoryStream<Path> files = Files.newDirectoryStream(Path.of("src/test/java"), "*Test.java")) {
            for (Path file : files) {
                there.add(file.getFileName().toString().replace(".java", ""));
            }
        }
        Set<String> listed = new TreeSet<>();
        for (String line : page) {
            listed.addAll(words("^\\| `(\\w+Test)` \\|", line));
        }
        same("the table of tests", listed, there);
    }

    private static void same(String what, Object got, Object want) {
        due.is(what + ": " + got + ", due is " + want, got.equals(want) ? 1 : 0, 1);
    }
}
