import java.io.IOException;
import java.nio.file.Files;
import java.nio.file.Path;
import java.nio.file.StandardCopyOption;
import java.util.Comparator;
import java.util.List;
import java.util.stream.Stream;

/** What README.md says of .ci/run: a copy of it runs on small projects, well and faulty ones. */
public final class RunTest {
    private static final Due due = new Due();
    private static final Path SCRIPT = Path.of(".ci/run");
    private static final Path SOURCE = Path.of("src/main/java/AbsentBells.java");
    private static final Path HELPER = Path.of("src/test/java/help/Due.java");
    private static final String SHARED = "../shared/tests/SharedRuns.java";
    private static final String OWN = "src/test/java/OwnTest.java";
    private static final String LATER = "src/test/java/ZLastTest.java";

    /** What a project is changed by: a file, and what stands in it then (null: it is not there). */
    private record Change(String tried, String file, String text, int exitCode) { }

    public static void main(String[] args) throws IOException {
        due.is(".ci/run may be executed", Files.isExecutable(SCRIPT) ? 1 : 0, 1);
        String failing = test("OwnTest", "System.exit(1);");
        String throwing = test("OwnTest", "throw new IllegalStateException();");
        List<Change> changes = List.of(
            new Change("nothing is wrong", "unused.txt", "", 0),
            new Change("a test of the project fails", OWN, failing, 1),
            new Change("a test of the project throws", OWN, throwing, 1),
            new Change("a test of the project does not compile", OWN, test("OwnTest", "none"), 1),
            new Change("a shared test fails", SHARED, test("SharedRuns", "System.exit(1);"), 1),
            new Change("a shared test does not compile", SHARED, test("SharedRuns", "none"), 1),
            new Change("there is no shared test", SHARED, null, 1),
            new Change("the class does not compile", SOURCE.toString(), "public final class AbsentBells {", 1),
            new Change("the class compiles with a warning", SOURCE.toString(), warned(), 1));
        changes.parallelStream().forEach(RunTest::tried);
        due.end();
    }

    private static void tried(Change change) {
        try {
            Path town = Files.createTempDirectory("run");
            Path project = project(town);
            Path changed = project.resolve(change.file).normalize();
            Files.deleteIfExists(changed);
            if (change.text != null) {
                Files.writeString(changed, change.text);
            }
            Path told = town.resolve("told.txt");
            // From another directory than the project's: .ci/run finds its own.
            int exitCode = new ProcessBuilder("sh", project.resolve(SCRIPT).toString()).directory(town.toFile())
                .redirectErrorStream(true).redirectOutput(told.toFile()).start().waitFor();
            boolean compiles = !change.file.equals(SOURCE.toString());
            compare(change, exitCode, Files.readString(told), compiles);
            delete(town);
        } catch (IOException | InterruptedException stopped) {
            throw new IllegalStateException(change.tried, stopped);
        }
    }

    private static synchronized void compare(Change change, int exitCode, String told, boolean compiles) {
        due.is(change.tried + ": exit code", exitCode, change.exitCode);
        // Each test that is left as it was runs, the one behind the faulty one, too.
        for (String file : List.of(SHARED, OWN, LATER)) {
            String name = file.replaceAll(".*/|\\.java", "");
            boolean ran = told.contains(name + " ran");
            if (!file.equals(change.file)) {
                due.is(change.tried + ": " + name + " ran", ran ? 1 : 0, compiles ? 1 : 0);
            }
        }
    }

    /** A project with this .ci/run and this class, two tests of its own and a shared one, all of which pass. */
    private static Path project(Path town) throws IOException {
        Path project = town.resolve("main");
        copy(SCRIPT, project);
        copy(SOURCE, project);
        copy(HELPER, project);
        write(project.resolve(OWN), test("OwnTest", "Due due = new Due(); due.is(\"own\", 1, 1); due.end();"));
        write(project.resolve(LATER), test("ZLastTest", "new AbsentBells().clear();"));
        write(project.resolve(SHARED).normalize(), test("SharedRuns", "new AbsentBells().clear();"));
        return project;
    }

    private static String test(String name, String body) {
        return "public final class " + name + " {\n    public static void main(String[] args) {\n"
            + "        System.out.println(\"" + name + " ran\");\n        " + body + "\n    }\n}\n";
    }

    /** A cast that is not needed is a warning. */
    private static String warned() throws IOException {
        return Files.readString(SOURCE).replace("return reader.dropLetters();", "return (int) reader.dropLetters();");
    }

    private static void copy(Path file, Path project) throws IOException {
        Files.createDirectories(project.resolve(file).getParent());
        Files.copy(file, project.resolve(file), StandardCopyOption.COPY_ATTRIBUTES);
    }

    private static void write(Path file, String text) throws IOException {
        Files.createDirectories(file.getParent());
        Files.writeString(file, text);
    }

    private static void delete(Path directory) throws IOException {
        try (Stream<Path> files = Files.walk(directory)) {
            for (Path file : files.sorted(Comparator.reverseOrder()).toList()) {
                Files.delete(file);
            }
        }
    }
}
