import java.util.ArrayList;
import java.util.List;

/** The edges that the fourth part of "Terms" and the promises 22 to 24 and 26 name, sentence by sentence. */
public final class EdgesKindsTest {
    private static final Due due = new Due();

    public static void main(String[] args) {
        kinds();
        excusedKinds();
        lastDuty();
        market();
        wrongRates();
        trace();
        images();
        wrongImages();
        imagesKeepNow();
        nothingElse();
        backAndUndo();
        imagesAreGone();
        due.end();
    }

    private static void run(String sentence, String... rows) {
        Script.run(due, sentence, rows);
    }

    private static void kinds() {
        run("KINDS: each by what the KIND above does", "tell w6;p0;d0 5 7 60;d0 3 0 1; -> 4",
            "rate(0, 0) -> 60", "rate(1, 0) -> 65", "rate(2, 0) -> 60", "rate(3, 0) -> 130", "rate(4, 0) -> 60",
            "rate(5, 0) -> 60", "rate(0, 1) -> 1", "rate(1, 1) -> 4", "rate(2, 1) -> 1", "rate(3, 1) -> 8", "rate(4, 1) -> 2",
            "rate(5, 1) -> 1");
        run("KINDS: its LONG, those minutes behind 239, too", "tell p0;d0 0 239 60; -> 2", "rate(0 .. 2, 0) -> 60",
            "rate(3, 0) -> 120", "rate(4 .. 5, 0) -> 60");
    }

    private static void excusedKinds() {
        run("SCHOOL: up less 7, if it is EXCUSED: below 0, too", "tell w6;p0;d0 5 0 1;d0 5 0 7; -> 4", "excuses(0, 1) -> 1",
            "rate(0, 0) -> 1", "rate(1, 0) -> 6", "rate(2, 0) -> -6", "rate(3, 0) -> 12", "rate(4, 0) -> -6",
            "rate(5, 0) -> 1", "rate(2, 1) -> 7", "excuses(1, 1) -> 2", "rate(2, 1) -> 0", "rate(4, 1) -> 1",
            "excuses(0, 0) -> 1", "rate(2, 0) -> 1", "rate(2, 1) -> 0", "undo() -> 2", "rate(2, 0) -> -6");
    }

    private static void lastDuty() {
        run("HEARTH: up, and its number", "tell p0;" + "d0 1 0 9;".repeat(8) + " -> 9", "rate(4, 0) -> 9", "rate(4, 7) -> 16",
            "rate(4, 8) -> NO", "rate(2, 7) -> 9", "excuses(7, 1) -> 1", "rate(4, 7) -> 9");
    }

    private static void market() {
        run("MARKET: up, and how often its PERSON was TOLLED for", "tell p0;p0;d0 1 0 5;d1 1 0 60;f0; -> 5",
            "rate(5, 0) -> 5", "passes(240) -> 65", "rate(5, 0) -> 10", "rate(5, 1) -> 120", "swaps(0, 1) -> 1",
            "rate(5, 0) -> 65", "rate(5, 1) -> 65", "undo() -> 1", "undo() -> 0", "rate(5, 1) -> 60");
    }

    private static void wrongRates() {
        run("22: NO: BAD", "tell p0;d0 1 0 9; -> 2", "rate(6, 0) -> NO", "rate(-1, 0) -> NO", "rate(0, 1) -> NO",
            "rate(0, -1) -> NO", "rate(MIN, 0) -> NO", "rate(MAX, 0) -> NO", "rate(0, MIN) -> NO", "rate(5, MAX) -> NO",
            "rate(6, 1) -> NO", "trace() -> 0");
        run("22: NO: there is no DUTY", "tell p0; -> 1", "rate(0 .. 5, 0) -> NO", "trace() -> 0");
    }

    private static void trace() {
        run("THE TRACE: 0 at first; each body's number once", "trace() -> 0", "tell p0;d0 1 0 9; -> 2", "trace() -> 0",
            "rate(0, 0) -> 9", "trace() -> 1", "rate(1, 0) -> 10", "trace() -> 12", "rate(2, 0) -> 9", "trace() -> 113",
            "rate(3, 0) -> 20", "trace() -> 1124", "rate(4, 0) -> 9", "trace() -> 11225", "rate(5, 0) -> 9",
            "trace() -> 111226", "rate(6, 0) -> NO", "trace() -> 111226");
        run("THE TRACE goes on, as behind undo(), back(), when a text is read anew", "tell p0;d0 1 0 9; -> 2",
            "keep(0) -> 0", "rate(3, 0) -> 20", "passes(1) -> 0", "rate(0, 0) -> 9", "undo() -> 0", "trace() -> 1012",
            "back(0) -> 0", "trace() -> 1012", "tell p0;d0 0 0 1; -> 2", "trace() -> 1012", "rate(0, 0) -> 1",
            "trace() -> 1013", "type(120) -> 1", "town() -> FAULT 0", "trace() -> 1013", "clear() -> 1", "forget() -> 0",
            "trace() -> 1013");
    }

    private static void images() {
        run("24: STATE: none was kept", "tell p0; -> 1", "passes(3) -> 0", "back(0) -> STATE", "back(1) -> STATE",
            "keep(1) -> 3", "back(0) -> STATE", "passes(1) -> 0", "back(1) -> 3", "back(0) -> STATE", "keep(0) -> 3",
            "back(0) -> 3");
        run("23: An IMAGE is kept: THE MINUTE: over another one, at 0, at 240", "tell p0; -> 1", "keep(0) -> 0",
            "passes(240) -> 0", "keep(1) -> 240", "back(0) -> 0", "now(0) -> 0", "back(1) -> 240", "passes(1) -> STATE",
            "keep(0) -> 240", "back(0) -> 240", "now(0) -> 240");
        run("IMAGES 0, 1: each for itself", "tell p0; -> 1", "passes(1) -> 0", "keep(0) -> 1", "passes(1) -> 0",
            "keep(1) -> 2", "passes(1) -> 0", "back(0) -> 1", "back(1) -> 2", "back(0) -> 1", "passes(9) -> 0",
            "keep(0) -> 10", "back(1) -> 2", "back(0) -> 10");
    }

    private static void wrongImages() {
        run("23, 24: BAD, ahead of STATE", "tell p0; -> 1", "passes(3) -> 0", "keep(2) -> BAD", "keep(-1) -> BAD",
            "keep(MIN) -> BAD", "keep(MAX) -> BAD", "back(2) -> BAD", "back(-1) -> BAD", "back(MIN) -> BAD", "back(MAX) -> BAD",
            "keep(0 .. 1) -> 3", "keep(2) -> BAD", "back(2) -> BAD", "back(-1) -> BAD", "now(5) -> 1");
    }

    private static void imagesKeepNow() {
        run("IMAGES keep NOW: where all are, ways, THE MINUTE, TOLLED for, EXCUSED, whose each DUTY is",
            "tell w4;p0;p1;p2;d0 3 0 60;d1 3 0 60;d2 3 0 60;f0;g2; -> 9", "goes(0, 3) -> 6", "goes(1, 0) -> 2",
            "passes(4) -> 12", "excuses(1, 1) -> 1", "swaps(1, 2) -> 2", "keep(0) -> 4", "swaps(0, 1) -> 2",
            "excuses(1, 0) -> 0", "excuses(2, 1) -> 1", "goes(1, 2) -> 4", "passes(50) -> 52", "back(0) -> 4", "now(0) -> 4",
            "now(1) -> 2", "now(2) -> 12", "now(3) -> 0", "now(5) -> 0", "person(0, 0) -> NONE", "person(0, 1) -> 3",
            "person(0, 2) -> 2", "person(0 .. 2, 3) -> 4", "person(1, 0 .. 2) -> 0", "person(2, 0) -> 2", "person(2, 2) -> 0",
            "duty(0, 0) -> 0", "duty(1, 0) -> 2", "duty(2, 0) -> 1", "duty(0, 4) -> 0", "duty(1, 4) -> 1", "duty(2, 4) -> 0",
            "passes(2) -> 4", "person(0, 0) -> 3");
        run("IMAGES: what is done behind keep(), back() is no part of them", "tell p0;d0 1 0 60;f0; -> 3", "keep(0) -> 0",
            "passes(5) -> 5", "back(0) -> 0", "now(2) -> 0", "passes(7) -> 7", "excuses(0, 1) -> 1", "back(0) -> 0",
            "now(1 .. 2) -> 0", "passes(1) -> 1", "undo() -> 0", "back(0) -> 0");
    }

    private static void nothingElse() {
        run("IMAGES keep nothing else: not what was HEARD, not THE TEXT, not THE TRACE, not the other IMAGE",
            "tell p0;d0 1 0 9;f0; -> 3", "hears(0, 1, 1) -> 1", "keep(0) -> 0", "hears(0, 2, 1) -> 2", "type(112) -> 1",
            "rate(0, 0) -> 9", "passes(1) -> 1", "keep(1) -> 1", "back(0) -> 0", "count(5) -> 2", "count(6) -> 1",
            "trace() -> 1", "back(1) -> 1", "forget() -> 2", "clear() -> 1", "back(0) -> 0", "count(5 .. 6) -> 0");
    }

    private static void backAndUndo() {
        run("nothing can be UNDONE behind back()", "tell p0; -> 1", "passes(1) -> 0", "passes(1) -> 0", "keep(0) -> 2",
            "now(5) -> 2", "passes(1) -> 0", "back(0) -> 2", "now(5) -> 0", "undo() -> STATE", "passes(5) -> 0", "now(5) -> 1",
            "undo() -> 0", "now(0) -> 2", "undo() -> STATE");
        run("keep() leaves what may be UNDONE", "tell p0; -> 1", "passes(1) -> 0", "keep(0) -> 1", "undo() -> 0",
            "now(0) -> 0", "back(0) -> 1");
        List<String> rows = new ArrayList<>(List.of("tell p0; -> 1", "keep(0) -> 0"));
        for (int i = 0; i < 13; i++) {
            rows.add("passes(1) -> 0");
        }
        rows.addAll(List.of("back(0) -> 0", "now(5) -> 0", "undo() -> STATE"));
        for (int i = 1; i <= 12; i++) {
            rows.add("passes(2) -> 0");
            rows.add("now(5) -> " + Math.min(10, i));
        }
        for (int i = 9; i >= 0; i--) {
            rows.add("undo() -> " + i);
        }
        rows.add("undo() -> STATE");
        rows.add("now(0) -> 4");
        run("nothing can be UNDONE behind back(): 10 anew", rows.toArray(new String[0]));
    }

    private static void imagesAreGone() {
        run("Read anew: IMAGES are gone", "tell p0;d0 1 0 9;f0; -> 3", "passes(1) -> 1", "keep(0 .. 1) -> 1", "town() -> 0",
            "back(0) -> STATE", "back(1) -> STATE", "keep(0) -> 0", "back(0) -> 0", "back(1) -> STATE");
        run("a faulty text: IMAGES are not gone", "tell p0; -> 1", "passes(1) -> 0", "keep(0 .. 1) -> 1", "type(120) -> 1",
            "town() -> FAULT 0", "passes(1) -> 0", "back(0) -> 1", "back(1) -> 1");
    }
}
