import java.util.ArrayList;
import java.util.LinkedHashMap;
import java.util.List;
import java.util.Map;

/**
 * "Refused, and nothing changes, the first of these: BAD, STATE, FULL": each call with each of its numbers beyond its
 * bounds, in objects that stand at edges of their own; behind it all other calls answer as if it had never been.
 */
public final class RefusedTest {
    private static final Due due = new Due();
    private static final int ROWS_AT_ONCE = 25;

    /** The bounds of one number of a call. */
    private record Bounds(int low, int high) { }

    private static final String TOWN = "tell w4;p0;p3;p1;d0 2 5 40;d1 0 10 60;d2 3 0 20;d0 1 100 30;g3;f2; -> 10";

    public static void main(String[] args) {
        newObject();
        inTheMidst();
        allIsFull();
        dayIsOver();
        faults();
        due.end();
    }

    private static void newObject() {
        List<String> ahead = List.of();
        check("a new object", ahead, wrong(2, 0, 0, 0));
        check("a new object", ahead, List.of("undo() -> STATE", "back(0) -> STATE", "back(1) -> STATE"));
    }

    private static void inTheMidst() {
        List<String> ahead = List.of(TOWN, "excuses(3, 1) -> 1", "goes(0, 2) -> 6", "passes(4) -> 2", "swaps(0, 1) -> 1",
            "keep(0) -> 4", "passes(9)", "goes(1, 1)", "hears(1, 12, 1) -> 1", "hears(0, 15, 0) -> 2", "rate(3, 1)",
            "type(112)", "type(49)", "type(59)");
        check("in the midst of things", ahead, wrong(4, 3, 4, 13));
        check("in the midst of things", ahead, List.of("goes(1, 1) -> STATE", "goes(1, 3) -> STATE", "goes(1, 4) -> BAD",
            "goes(0, 2) -> STATE", "goes(2, 1) -> STATE", "passes(228) -> STATE", "passes(240) -> STATE", "excuses(3, 1) -> STATE",
            "excuses(0, 0) -> STATE", "excuses(3, 2) -> BAD", "swaps(0, 0) -> STATE", "swaps(1, 3) -> STATE",
            "swaps(4, 4) -> BAD", "back(1) -> STATE", "rings(12) -> BAD"));
    }

    /** A text of 200 letters, six things heard, more than ten things done, both images. */
    private static void allIsFull() {
        List<String> ahead = new ArrayList<>(List.of(TOWN, "keep(1) -> 0"));
        for (int i = 0; i < 12; i++) {
            ahead.add(i % 3 == 0 ? "passes(" + (i + 1) + ")" : i % 3 == 1 ? "swaps(0, 1)" : "excuses(0, " + i / 3 % 2 + ")");
        }
        ahead.add("goes(2, 0) -> 3");
        ahead.add("keep(0) -> 22");
        for (int i = 1; i <= 6; i++) {
            ahead.add("hears(" + i % 3 + ", " + 10 * i + ", " + i % 2 + ") -> " + i);
        }
        ahead.add("type(112)");
        ahead.add("type(49)");
        for (int i = 0; i < 197; i++) {
            ahead.add("type(32)");
        }
        ahead.add("type(59) -> 200");
        check("all is full", ahead, wrong(4, 3, 4, 22));
        check("all is full", ahead, List.of("type(0) -> FULL", "type(59) -> FULL", "type(255) -> FULL", "type(256) -> BAD",
            "type(-1) -> BAD", "hears(0, 0, 0) -> FULL", "hears(2, 239, 1) -> FULL", "hears(3, 0, 0) -> BAD",
            "hears(0, 240, 0) -> BAD", "hears(0, 0, 2) -> BAD", "goes(2, 1) -> STATE", "goes(0, 0) -> STATE",
            "passes(219) -> STATE", "swaps(2, 2) -> STATE"));
    }

    private static void dayIsOver() {
        List<String> ahead = List.of(TOWN, "passes(100)", "goes(2, 3) -> 6", "keep(1) -> 100", "passes(139)", "goes(0, 3) -> 9",
            "passes(1)", "hears(0, 200, 0) -> 1");
        check("the day is over", ahead, wrong(4, 3, 4, 240));
        check("the day is over", ahead, List.of("passes(1) -> STATE", "passes(240) -> STATE", "passes(241) -> BAD",
            "passes(0) -> BAD", "rings(239) -> BAD", "rings(240) -> BAD", "rings(0) -> BAD", "goes(0, 3) -> STATE",
            "goes(0, 0) -> STATE", "goes(2, 3) -> STATE", "back(0) -> STATE", "excuses(0, 0) -> STATE", "swaps(0, 3) -> STATE"));
    }

    /** Faulty texts of all sorts: each is told ahead, so that the refused call is town() alone. */
    private static void faults() {
        Map<String, Integer> faults = new LinkedHashMap<>();
        faults.put("x", 0);
        faults.put("p", 1);
        faults.put("p0", 2);
        faults.put("w2;p0;p0;d1 1 0 9;g1;f9;;", 24);
        faults.put("w2;p0;p0;d1 1 0 9;g1;f9;w2;", 24);
        faults.put("w2;p0;p0;d1 1 0 9;g1;f9;g1;", 24);
        faults.put("w2;p0;p0;d1 1 0 9;g1;f9;f1;", 24);
        faults.put("w2;p0;p0;d1 1 0 9;g1;f9;p2;", 25);
        faults.put("w2;p0;p0;d1 1 0 9;g1;f9;p01;", 25);
        faults.put("w2;p0;p0;d1 1 0 9;g1;f9;p240;", 25);
        faults.put("w2;p0;p0;d1 1 0 9;g1;f9;d2 0 0 1;", 25);
        faults.put("w2;p0;p0;d1 1 0 9;g1;f9;d1 2 0 1;", 27);
        faults.put("w2;p0;p0;d1 1 0 9;g1;f9;d1 1 0 0;", 31);
        faults.put("w2;p0;p0;p0;p0;p0;p0;", 18);
        faults.put("p0;" + "d0 0 0 1;".repeat(9), 75);
        for (Map.Entry<String, Integer> fault : faults.entrySet()) {
            List<String> ahead = new ArrayList<>(List.of(TOWN, "excuses(3, 1) -> 1", "goes(0, 2) -> 6", "passes(4) -> 2",
                "swaps(0, 1) -> 1", "keep(0) -> 4", "keep(1) -> 4", "passes(9)", "hears(1, 12, 1) -> 1", "rate(3, 1)"));
            for (char letter : fault.getKey().toCharArray()) {
                ahead.add("type(" + (int) letter + ")");
            }
            String refused = "town() -> FAULT " + fault.getValue();
            check("a fault: \"" + fault.getKey() + "\"", ahead, List.of(refused, refused));
        }
    }

    private static void check(String state, List<String> ahead, List<String> refused) {
        for (int i = 0; i < refused.size(); i += ROWS_AT_ONCE) {
            Script.refused(due, state, ahead, refused.subList(i, Math.min(refused.size(), i + ROWS_AT_ONCE)));
        }
    }

    /** Rows of all calls that are BAD for one of their numbers, or several, in a town of this size at this minute. */
    private static List<String> wrong(int places, int people, int duties, int minute) {
        Bounds place = new Bounds(0, places - 1), person = new Bounds(0, people - 1), duty = new Bounds(0, duties - 1);
        Bounds bit = new Bounds(0, 1), day = new Bounds(0, 239), set = new Bounds(0, (1 << people) - 1);
        List<String> rows = new ArrayList<>();
        wrong(rows, "type", "BAD", new Bounds(0, 255));
        wrong(rows, "person", "BAD", person, new Bounds(0, 5));
        wrong(rows, "duty", "BAD", duty, new Bounds(0, 4));
        wrong(rows, "now", "BAD", new Bounds(0, 5));
        wrong(rows, "goes", "BAD", person, place);
        wrong(rows, "passes", "BAD", new Bounds(1, 240));
        wrong(rows, "excuses", "BAD", duty, bit);
        wrong(rows, "swaps", "BAD", duty, duty);
        wrong(rows, "rings", "BAD", new Bounds(minute, 239));
        wrong(rows, "chord", "BAD", set, bit);
        wrong(rows, "silence", "BAD", new Bounds(1, set.high));
        wrong(rows, "least", "BAD", person, bit);
        wrong(rows, "hears", "BAD", person, day, bit);
        wrong(rows, "can", "BAD", person);
        wrong(rows, "tells", "BAD", person, place, place);
        wrong(rows, "odds", "BAD", person, day, new Bounds(0, 10), bit);
        wrong(rows, "rate", "NO", new Bounds(0, 5), duty);
        wrong(rows, "keep", "BAD", bit);
        wrong(rows, "back", "BAD", bit);
        wrong(rows, "count", "BAD", new Bounds(0, 6));
        return rows;
    }

    private static void wrong(List<String> rows, String call, String answer, Bounds... bounds) {
        for (int wrong = 0; wrong < bounds.length; wrong++) {
            String[] beyond = {"" + (bounds[wrong].low - 1), "" + (bounds[wrong].high + 1), "MIN", "MAX"};
            for (String number : beyond) {
                rows.add(row(call, answer, wrong, number, false, bounds));
                if (bounds.length > 1) {
                    rows.add(row(call, answer, wrong, number, true, bounds));
                }
            }
        }
        if (bounds.length > 1) {
            rows.add(row(call, answer, -1, "MIN", false, bounds));
        }
    }

    /** One number beyond its bounds (-1: all), the others at their lowest or highest. */
    private static String row(String call, String answer, int wrong, String number, boolean high, Bounds... bounds) {
        List<String> numbers = new ArrayList<>();
        for (int i = 0; i < bounds.length; i++) {
            int right = high ? bounds[i].high : bounds[i].low;
            numbers.add(wrong == -1 || wrong == i ? number : "" + right);
        }
        return call + "(" + String.join(", ", numbers) + ")" + " -> " + answer;
    }
}
