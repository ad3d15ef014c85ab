import java.util.ArrayList;
import java.util.List;

/** The edges that the second part of "Terms" and the promises 5 to 12 name, sentence by sentence. */
public final class EdgesMinutesTest {
    private static final Due due = new Due();

    public static void main(String[] args) {
        minutesOfTheDay();
        whereOneIs();
        rungFor();
        onHisWayAtNone();
        severalDuties();
        gone();
        minuteGoesBy();
        arrivals();
        excused();
        swapped();
        undone();
        undoneOneByOne();
        tenAreKnown();
        tenAreKnownAgain();
        refusedIsNotUndone();
        personLooks();
        dutyLooks();
        nowLooks();
        worst();
        due.end();
    }

    private static void run(String sentence, String... rows) {
        Script.run(due, sentence, rows);
    }

    private static void minutesOfTheDay() {
        run("THE MINUTE is 0 at first (240: the day is over)", "tell p0;d0 1 0 60;f0; -> 3", "now(0) -> 0",
            "passes(240) -> 60", "now(0) -> 240", "passes(1) -> STATE", "passes(240) -> STATE", "passes(241) -> BAD",
            "passes(0) -> BAD", "now(0) -> 240", "person(0, 3) -> 60");
        run("9: n (1 .. 240)", "tell p0; -> 1", "passes(0) -> BAD", "passes(-1) -> BAD", "passes(241) -> BAD",
            "passes(MIN) -> BAD", "passes(MAX) -> BAD", "now(0) -> 0", "passes(1) -> 0", "now(0) -> 1");
        run("9: STATE: the day would be more than over", "tell p0; -> 1", "passes(1) -> 0", "passes(240) -> STATE",
            "now(0) -> 1", "passes(239) -> 0", "now(0) -> 240", "undo() -> 1", "passes(238) -> 0", "passes(2) -> STATE",
            "passes(1) -> 0", "now(0) -> 240", "passes(1) -> STATE");
        run("9: how often anybody was TOLLED for in them, not ahead of them",
            "tell p0;p0;d0 1 0 10;d1 1 5 10;f0; -> 5", "passes(5) -> 5", "passes(5) -> 10", "passes(10) -> 5",
            "passes(1) -> 0", "now(2) -> 20");
    }

    private static void whereOneIs() {
        run("A PERSON is at a PLACE (HOME at first)", "tell w4;p3;p0; -> 3", "person(0, 0 .. 1) -> 3",
            "person(1, 0 .. 1) -> 0", "person(0 .. 1, 2) -> 0", "person(0, 5) -> 3");
        run("or on his way to one, so many minutes more", "tell w4;p3;g2; -> 3", "goes(0, 1) -> 4",
            "person(0, 0) -> NONE", "person(0, 1) -> 1", "person(0, 2) -> 4", "passes(1) -> 0", "person(0, 2) -> 3",
            "passes(2) -> 0", "person(0, 0) -> NONE", "person(0, 2) -> 1", "passes(1) -> 0", "person(0, 0 .. 1) -> 1",
            "person(0, 2) -> 0", "passes(1) -> 0", "person(0, 2) -> 0", "person(0, 5) -> 3");
    }

    private static void rungFor() {
        run("RUNG for: FREE minutes or more behind its FROM, while it is on", "tell p0;d0 1 20 10;f4; -> 3",
            "passes(23) -> 0", "person(0, 4) -> 0", "passes(1) -> 0", "person(0, 4) -> 1", "passes(5) -> 5",
            "person(0, 4) -> 1", "passes(1) -> 1", "person(0, 4) -> 0", "passes(210) -> 0", "person(0, 3) -> 6");
        run("RUNG for: he is not at its PLACE", "tell p0;p1;d0 0 0 60;d1 0 0 60;f0; -> 5", "person(0, 4) -> 0",
            "person(1, 4) -> 1", "passes(240) -> 60", "person(0, 3) -> 0", "person(1, 3) -> 60");
        run("RUNG for: a DUTY of his", "tell p0;p0;d1 1 0 60;f0; -> 4", "person(0, 4) -> 0", "person(1, 4) -> 1",
            "rings(0) -> 2");
        run("RUNG for: a DUTY that is not EXCUSED", "tell p0;d0 1 0 60;f0; -> 3", "excuses(0, 1) -> 1",
            "person(0, 4) -> 0", "passes(5) -> 0", "excuses(0, 0) -> 0", "person(0, 4) -> 1", "passes(5) -> 5");
        run("RUNG for at minute 240: nobody is", "tell p0;d0 1 200 60;f0; -> 3", "passes(239) -> 39",
            "person(0, 4) -> 1", "passes(1) -> 1", "person(0, 4) -> 0");
    }

    private static void onHisWayAtNone() {
        run("on his way, he is at none: neither where he comes from nor where he goes to",
            "tell p0;d0 0 0 60;f0;g3; -> 4", "person(0, 4) -> 0", "goes(0, 1) -> 3", "person(0, 4) -> 1",
            "rings(0) -> 1", "passes(3) -> 3", "goes(0, 0) -> 3", "passes(2) -> 2", "person(0, 4) -> 1", "passes(1) -> 1",
            "person(0, 4) -> 0", "passes(9) -> 0", "person(0, 3) -> 6");
        run("on his way, at no PLACE between", "tell w3;p0;d0 1 0 60;f0;g1; -> 5", "goes(0, 2) -> 2", "passes(1) -> 1",
            "person(0, 0) -> NONE", "person(0, 4) -> 1", "rings(1) -> 1", "rings(2) -> 1");
    }

    private static void severalDuties() {
        run("TOLLED for: once in a minute for each PERSON", "tell w3;p0;p0;d0 1 0 9;d0 2 0 9;d0 1 0 9;d1 2 0 9;f0; -> 8",
            "passes(9) -> 18", "person(0 .. 1, 3) -> 9", "now(2) -> 18");
        run("RUNG for: at one DUTY's PLACE, not at the other one's", "tell w3;p1;d0 1 0 9;d0 2 0 5;f0; -> 5",
            "passes(5) -> 5", "person(0, 4) -> 0", "passes(5) -> 0");
        run("RUNG for: a DUTY whose FREE minutes are not over beside one whose are", "tell p0;d0 1 0 9;d0 1 5 9;f5; -> 4",
            "rings(4) -> 0", "rings(5 .. 8) -> 1", "rings(9) -> 0", "rings(10 .. 13) -> 1", "rings(14) -> 0");
    }

    private static void gone() {
        run("GONE: WALK times how far its number is off, minutes", "tell w6;p0;p5;p2;g7; -> 5", "goes(0, 5) -> 35",
            "goes(1, 0) -> 35", "goes(2, 1) -> 7", "passes(7) -> 0", "goes(2, 4) -> 21");
        run("8: STATE: he is on his way, is there", "tell w3;p1;g2; -> 3", "goes(0, 1) -> STATE", "goes(0, 2) -> 2",
            "goes(0, 1) -> STATE", "goes(0, 2) -> STATE", "goes(0, 0) -> STATE", "passes(1) -> 0", "goes(0, 0) -> STATE",
            "passes(1) -> 0", "goes(0, 2) -> STATE", "goes(0, 0) -> 4");
        run("8: BAD", "tell w3;p1;p0; -> 3", "goes(2, 0) -> BAD", "goes(-1, 0) -> BAD", "goes(0, 3) -> BAD",
            "goes(0, -1) -> BAD", "goes(MAX, MIN) -> BAD", "goes(MIN, 0) -> BAD", "goes(1, 2) -> 4", "goes(1, 3) -> BAD");
        run("8: in the last minute, when the day is over", "tell w3;p0;p0;g9; -> 4", "passes(239) -> 0",
            "goes(0, 2) -> 18", "passes(1) -> 0", "person(0, 2) -> 17", "goes(1, 1) -> 9", "person(1, 0) -> NONE",
            "goes(1, 2) -> STATE", "undo() -> 3", "person(1, 0) -> 0");
    }

    private static void minuteGoesBy() {
        run("whoever is RUNG for in it is TOLLED for; then all have one minute less to go",
            "tell p0;d0 1 0 60;f0;g1; -> 4", "goes(0, 1) -> 1", "passes(1) -> 1", "person(0, 0) -> 1", "passes(1) -> 0",
            "now(2) -> 1", "now(0) -> 2");
        run("then it is the next minute", "tell p0;d0 1 1 1;f0; -> 3", "passes(1) -> 0", "person(0, 4) -> 1",
            "passes(1) -> 1", "person(0, 4) -> 0", "now(0) -> 2");
        run("many minutes at once are as many one by one", "tell w3;p0;p2;d0 2 2 9;d1 0 0 20;f1;g2; -> 7",
            "goes(0, 2) -> 4", "goes(1, 0) -> 4", "passes(10) -> 4", "undo() -> 2", "passes(1) -> 0", "passes(1) -> 1",
            "passes(1) -> 1", "passes(1) -> 2", "passes(1) -> 0", "person(0, 3) -> 1", "person(1, 3) -> 3");
    }

    private static void arrivals() {
        run("at 0 they are there: all who are on their way", "tell w3;p0;p0;p1;g2; -> 5", "goes(0, 1) -> 2",
            "goes(1, 2) -> 4", "passes(2) -> 0", "person(0, 0) -> 1", "person(1, 0) -> NONE", "person(1, 2) -> 2",
            "person(2, 0) -> 1", "person(2, 2) -> 0", "passes(2) -> 0", "person(1, 0) -> 2", "person(0, 0) -> 1",
            "passes(236) -> 0", "person(0 .. 2, 2) -> 0");
        run("a way that lasts beyond the day", "tell w6;p0;g9; -> 3", "passes(200) -> 0", "goes(0, 5) -> 45",
            "passes(40) -> 0", "person(0, 0) -> NONE", "person(0, 1) -> 5", "person(0, 2) -> 5", "least(0, 1) -> 5");
    }

    private static void excused() {
        run("10: EXCUSED (1), not (0): how many are", "tell p0;d0 1 0 9;d0 1 0 9;d0 1 0 9; -> 4", "excuses(2, 1) -> 1",
            "excuses(0, 1) -> 2", "now(1) -> 5", "duty(1, 4) -> 0", "excuses(1, 1) -> 3", "excuses(0, 0) -> 2",
            "now(1) -> 6", "excuses(1, 0) -> 1", "excuses(2, 0) -> 0", "now(1) -> 0");
        run("10: STATE: it is so", "tell p0;d0 1 0 9;d0 1 0 9; -> 3", "excuses(0, 0) -> STATE", "excuses(0, 1) -> 1",
            "excuses(0, 1) -> STATE", "excuses(1, 0) -> STATE", "excuses(0, 0) -> 0", "excuses(0, 0) -> STATE");
        run("10: BAD, ahead of STATE", "tell p0;d0 1 0 9; -> 2", "excuses(1, 0) -> BAD", "excuses(1, 1) -> BAD",
            "excuses(-1, 1) -> BAD", "excuses(0, 2) -> BAD", "excuses(0, -1) -> BAD", "excuses(MIN, 0) -> BAD",
            "excuses(MAX, 1) -> BAD", "excuses(32, 1) -> BAD", "excuses(0, MIN) -> BAD", "excuses(8, 0) -> BAD");
        run("10: the last of eight, when the day is over", "tell p0;" + "d0 1 0 9;".repeat(8) + "f0; -> 10",
            "passes(240) -> 9", "excuses(7, 1) -> 1", "now(1) -> 128", "undo() -> 1", "now(1) -> 0");
    }

    private static void swapped() {
        run("11: SWAPPED: each is the other one's then: whose the first one is then",
            "tell p0;p1;p0;d0 1 0 9;d1 1 0 9;d2 0 0 9;f0; -> 7", "swaps(0, 1) -> 1", "duty(0, 0) -> 1", "duty(1, 0) -> 0",
            "duty(2, 0) -> 2", "swaps(0, 2) -> 2", "duty(0, 0) -> 2", "duty(2, 0) -> 1", "rings(0) -> 7");
        run("11: STATE: both are of one PERSON", "tell p0;p1;d0 1 0 9;d0 1 0 9;d1 0 0 9; -> 5", "swaps(0, 1) -> STATE",
            "swaps(0, 0) -> STATE", "swaps(1, 2) -> 1", "swaps(1, 2) -> 0", "swaps(0, 2) -> 1", "swaps(1, 2) -> STATE",
            "swaps(2, 2) -> STATE");
        run("11: BAD, ahead of STATE", "tell p0;p1;d0 1 0 9;d1 0 0 9; -> 4", "swaps(2, 0) -> BAD", "swaps(0, 2) -> BAD",
            "swaps(2, 2) -> BAD", "swaps(-1, 0) -> BAD", "swaps(0, -1) -> BAD", "swaps(MIN, MIN) -> BAD",
            "swaps(MAX, 1) -> BAD", "swaps(1, MAX) -> BAD");
        run("11: an EXCUSED DUTY is EXCUSED for the other one, too", "tell p0;p0;d0 1 0 9;d1 1 0 9;f0; -> 5",
            "excuses(0, 1) -> 1", "rings(0) -> 2", "swaps(0, 1) -> 1", "duty(0, 4) -> 1", "duty(1, 4) -> 0", "rings(0) -> 1");
    }

    private static void undone() {
        run("12: STATE: none", "tell p0;d0 1 0 9; -> 2", "undo() -> STATE", "passes(1) -> 0", "undo() -> 0",
            "undo() -> STATE", "now(0) -> 0");
        run("UNDONE: the latest goes(), passes(), excuses(), swaps()",
            "tell w3;p0;p1;d0 2 0 9;d1 0 0 9;f0; -> 6", "goes(0, 2) -> 4", "passes(3) -> 6", "excuses(1, 1) -> 1",
            "swaps(0, 1) -> 1", "now(5) -> 4", "undo() -> 3", "duty(0, 0) -> 0", "duty(1, 0) -> 1", "now(1) -> 2",
            "undo() -> 2", "now(1) -> 0", "now(0) -> 3", "person(0 .. 1, 3) -> 3", "undo() -> 1", "now(0) -> 0",
            "now(2) -> 0", "person(0, 2) -> 4", "undo() -> 0", "person(0, 0) -> 0", "person(0, 2) -> 0", "undo() -> STATE");
        run("UNDONE: nothing but these four", "tell p0;d0 1 0 9; -> 2", "keep(0) -> 0", "hears(0, 1, 1) -> 1",
            "rate(0, 0) -> 9", "type(112) -> 1", "forget() -> 1", "hears(0, 2, 1) -> 1", "least(0, 0) -> 0",
            "now(5) -> 0", "undo() -> STATE", "count(5 .. 6) -> 1", "clear() -> 1", "trace() -> 1");
        run("UNDONE: what was HEARD, THE TEXT, IMAGES and THE TRACE stay", "tell p0;d0 1 0 9;f0; -> 3", "passes(2) -> 2",
            "hears(0, 1, 1) -> 1", "keep(0) -> 2", "rate(1, 0) -> 10", "type(112) -> 1", "undo() -> 0", "count(5 .. 6) -> 1",
            "trace() -> 11", "back(0) -> 2", "person(0, 3) -> 2");
    }

    /** Each of the four undone behind the others: what the others did stays. */
    private static void undoneOneByOne() {
        String town = "tell w3;p0;p1;d0 2 0 60;d1 0 0 60;f0; -> 6";
        run("UNDONE: goes() alone", town, "excuses(1, 1) -> 1", "passes(2) -> 2", "goes(0, 1) -> 2", "undo() -> 2",
            "person(0, 0) -> 0", "person(0, 3) -> 2", "now(0) -> 2", "now(1) -> 2", "goes(0, 2) -> 4");
        run("UNDONE: passes() alone", town, "goes(0, 2) -> 4", "swaps(0, 1) -> 1", "passes(4) -> 8", "undo() -> 2",
            "person(0, 0) -> NONE", "person(0, 2) -> 4", "duty(0, 0) -> 1", "now(2) -> 0", "now(3) -> NONE", "passes(4) -> 8");
        run("UNDONE: excuses() alone", town, "excuses(0, 1) -> 1", "passes(1) -> 1", "excuses(0, 0) -> 0", "undo() -> 2",
            "now(1) -> 1", "now(0) -> 1", "person(1, 3) -> 1", "excuses(0, 0) -> 0");
        run("UNDONE: swaps() alone", town, "swaps(0, 1) -> 1", "goes(1, 2) -> 2", "swaps(0, 1) -> 0", "undo() -> 2",
            "duty(0, 0) -> 1", "duty(1, 0) -> 0", "person(1, 2) -> 2", "swaps(1, 0) -> 1");
    }

    private static void tenAreKnown() {
        List<String> rows = new ArrayList<>(List.of("tell p0; -> 1"));
        for (int i = 1; i <= 10; i++) {
            rows.add("passes(1) -> 0");
            rows.add("now(5) -> " + i);
        }
        for (int i = 9; i >= 0; i--) {
            rows.add("undo() -> " + i);
            rows.add("now(0) -> " + i);
        }
        rows.add("undo() -> STATE");
        run("10 are known: all of them", rows.toArray(new String[0]));
        List<String> more = new ArrayList<>(List.of("tell p0; -> 1"));
        for (int i = 1; i <= 11; i++) {
            more.add("passes(1) -> 0");
        }
        more.add("now(5) -> 10");
        for (int i = 9; i >= 0; i--) {
            more.add("undo() -> " + i);
            more.add("now(0) -> " + (i + 1));
        }
        more.add("undo() -> STATE");
        more.add("now(0) -> 1");
        run("10 are known, older ones are lost: the eleventh", more.toArray(new String[0]));
    }

    /** Undone and done again many times, so that what is known wraps around wherever it is held. */
    private static void tenAreKnownAgain() {
        List<String> rows = new ArrayList<>(List.of("tell p0; -> 1"));
        int minute = 0;
        int known = 0;
        for (int round = 0; round < 12; round++) {
            for (int i = 0; i < 7; i++) {
                rows.add("passes(1) -> 0");
                minute++;
                known = Math.min(10, known + 1);
            }
            for (int i = 0; i < 3; i++) {
                known--;
                minute--;
                rows.add("undo() -> " + known);
                rows.add("now(0) -> " + minute);
            }
        }
        while (known > 0) {
            known--;
            minute--;
            rows.add("undo() -> " + known);
        }
        rows.add("undo() -> STATE");
        rows.add("now(0) -> " + minute);
        run("10 are known, older ones are lost: again and again", rows.toArray(new String[0]));
    }

    private static void refusedIsNotUndone() {
        run("UNDONE: that was not refused", "tell w3;p0;p0;d0 1 0 9;d0 1 0 9; -> 5", "passes(5) -> 2", "goes(0, 0) -> STATE",
            "goes(0, 3) -> BAD", "passes(0) -> BAD", "passes(236) -> STATE", "excuses(0, 0) -> STATE", "excuses(0, 2) -> BAD",
            "swaps(0, 1) -> STATE", "swaps(0, 2) -> BAD", "back(0) -> STATE", "back(2) -> BAD", "now(5) -> 1", "undo() -> 0",
            "now(0) -> 0");
        List<String> rows = new ArrayList<>(List.of("tell p0;d0 1 0 9;f0; -> 3"));
        for (int i = 0; i < 10; i++) {
            rows.add("passes(1) -> " + (i < 9 ? 1 : 0));
        }
        rows.addAll(List.of("goes(0, 0) -> STATE", "passes(231) -> STATE", "excuses(0, 0) -> STATE", "swaps(0, 0) -> STATE",
            "now(5) -> 10", "undo() -> 9", "now(0) -> 9"));
        run("UNDONE: what was refused takes no room of the 10", rows.toArray(new String[0]));
    }

    private static void personLooks() {
        run("5: BAD", "tell p0;p1; -> 2", "person(2, 0) -> BAD", "person(-1, 0) -> BAD", "person(0, 6) -> BAD",
            "person(0, -1) -> BAD", "person(MIN, 0) -> BAD", "person(MAX, 5) -> BAD", "person(0, MIN) -> BAD",
            "person(1, MAX) -> BAD", "person(5, 0) -> BAD");
        run("5: NONE: on his way; where he goes to; minutes to go", "tell w6;p5;g9; -> 3", "goes(0, 0) -> 45",
            "person(0, 0) -> NONE", "person(0, 1) -> 0", "person(0, 2) -> 45", "person(0, 3 .. 4) -> 0", "person(0, 5) -> 5",
            "passes(45) -> 0", "person(0, 0 .. 2) -> 0", "person(0, 5) -> 5");
    }

    private static void dutyLooks() {
        run("6: BAD", "tell p0;d0 1 0 9;d0 1 0 9; -> 3", "duty(2, 0) -> BAD", "duty(-1, 0) -> BAD", "duty(0, 5) -> BAD",
            "duty(0, -1) -> BAD", "duty(MAX, 0) -> BAD", "duty(MIN, 4) -> BAD", "duty(1, MAX) -> BAD", "duty(1, MIN) -> BAD",
            "duty(8, 0) -> BAD");
        run("6: whose it is, its PLACE, FROM, LONG, whether EXCUSED", "tell w6;p0;p1;d1 5 239 60;d0 0 0 1; -> 5",
            "duty(0, 0) -> 1", "duty(0, 1) -> 5", "duty(0, 2) -> 239", "duty(0, 3) -> 60", "duty(0, 4) -> 0",
            "duty(1, 0 .. 2) -> 0", "duty(1, 3) -> 1", "excuses(1, 1) -> 1", "duty(1, 4) -> 1", "duty(0, 4) -> 0",
            "swaps(0, 1) -> 0", "duty(0, 0) -> 0", "duty(0, 1) -> 5", "duty(0, 4) -> 0", "duty(1, 4) -> 1");
    }

    private static void nowLooks() {
        run("7: BAD", "tell p0; -> 1", "now(6) -> BAD", "now(-1) -> BAD", "now(MIN) -> BAD", "now(MAX) -> BAD");
        run("7: THE MINUTE, EXCUSED, TOLLED for, WORST, NEXT, how many may be UNDONE",
            "tell p0;p0;d0 1 3 9;d1 1 2 9;d1 1 0 9;f0; -> 6", "excuses(2, 1) -> 1", "passes(4) -> 3", "now(0) -> 4",
            "now(1) -> 4", "now(2) -> 3", "now(3) -> 1", "now(4) -> 4", "now(5) -> 2");
        run("7: NEXT: the first minute (NOW or later); NONE", "tell p0;d0 1 5 2;d0 1 239 9;f0; -> 4", "now(4) -> 5",
            "passes(5) -> 0", "now(4) -> 5", "passes(1) -> 1", "now(4) -> 6", "passes(1) -> 1", "now(4) -> 239",
            "passes(232) -> 0", "now(4) -> 239", "passes(1) -> 1", "now(4) -> NONE", "undo() -> 4", "excuses(1, 1) -> 1",
            "now(4) -> NONE");
        run("7: NEXT: who is on his way arrives", "tell w3;p0;d0 2 3 20;f0;g2; -> 5", "now(4) -> 3", "goes(0, 2) -> 4",
            "now(4) -> 3", "undo() -> 0", "excuses(0, 1) -> 1", "goes(0, 2) -> 4", "now(4) -> NONE", "excuses(0, 0) -> 0",
            "passes(4) -> 1", "now(4) -> NONE");
    }

    private static void worst() {
        run("WORST: who was TOLLED for most, of several the lowest; NONE (nobody was)",
            "tell p1;p0;p0;p0;d1 1 0 2;d2 1 1 3;d3 1 3 4;f0; -> 8", "now(3) -> NONE", "passes(1) -> 1", "now(3) -> 1",
            "passes(2) -> 3", "now(3) -> 1", "passes(1) -> 2", "now(3) -> 2", "passes(1) -> 1", "now(3) -> 2",
            "passes(1) -> 1", "now(3) -> 2", "passes(1) -> 1", "now(3) -> 3", "now(2) -> 9");
        run("WORST: the last of five", "tell p0;p0;p0;p0;p0;d4 1 0 1;f0; -> 7", "passes(1) -> 1", "now(3) -> 4",
            "undo() -> 0", "now(3) -> NONE");
    }
}
