/** The edges that the third part of "Terms" and the promises 13 to 21 name, sentence by sentence. */
public final class EdgesBellsTest {
    private static final Due due = new Due();

    public static void main(String[] args) {
        rings();
        ringsOfThoseOnTheirWay();
        chord();
        chordOfJustThese();
        silence();
        silenceOfAsFew();
        silenceBesidesExcused();
        askedAgain();
        least();
        leastAtTheDaysEnd();
        to();
        toOnTheWay();
        heard();
        can();
        canAsNow();
        tells();
        odds();
        oddsInLeastTerms();
        nothingIsChanged();
        due.end();
    }

    private static void run(String sentence, String... rows) {
        Script.run(due, sentence, rows);
    }

    private static void rings() {
        run("13: BAD (THE MINUTE .. 239)", "tell p0;d0 1 10 10;f0; -> 3", "rings(-1) -> BAD", "rings(0) -> 0",
            "rings(239) -> 0", "rings(240) -> BAD", "rings(MIN) -> BAD", "rings(MAX) -> BAD", "passes(12) -> 2",
            "rings(11) -> BAD", "rings(12) -> 1", "rings(0) -> BAD", "rings(239) -> 0", "passes(227) -> 8",
            "rings(238) -> BAD", "rings(239) -> 0", "passes(1) -> 0", "rings(239) -> BAD", "rings(240) -> BAD",
            "rings(241) -> BAD", "rings(0) -> BAD");
        run("RINGS: PEOPLE (bits)", "tell p0;p0;p1;p0;p0;d4 1 0 4;d2 0 1 4;d0 1 2 4;f0; -> 9", "rings(0) -> 16",
            "rings(1) -> 20", "rings(2 .. 3) -> 21", "rings(4) -> 5", "rings(5) -> 1", "rings(6) -> 0");
        run("RINGS: who would be RUNG for, if nobody were GONE from NOW on", "tell p0;d0 1 50 10;f0; -> 3",
            "rings(50 .. 59) -> 1", "goes(0, 1) -> 2", "rings(50 .. 59) -> 0", "passes(2) -> 0", "goes(0, 0) -> 2",
            "rings(50 .. 59) -> 1");
    }

    private static void ringsOfThoseOnTheirWay() {
        run("RINGS: who is on his way arrives", "tell w3;p0;d0 2 0 20;d0 0 30 5;f0;g3; -> 6", "goes(0, 2) -> 6",
            "rings(0 .. 5) -> 1", "rings(6 .. 19) -> 0", "rings(30 .. 34) -> 1", "rings(35) -> 0", "passes(5) -> 5",
            "rings(5) -> 1", "rings(6) -> 0", "passes(1) -> 1", "rings(6) -> 0");
        run("RINGS: who arrives behind the day's end does not", "tell w6;p0;d0 5 200 60;f0;g9; -> 5", "passes(195) -> 0",
            "goes(0, 5) -> 45", "rings(199) -> 0", "rings(200 .. 239) -> 1", "undo() -> 1", "undo() -> 0", "passes(194) -> 0",
            "goes(0, 5) -> 45", "rings(238) -> 1", "rings(239) -> 0");
    }

    private static void chord() {
        run("14: BAD", "tell p0;p0; -> 2", "chord(-1, 0) -> BAD", "chord(4, 0) -> BAD", "chord(3, 2) -> BAD",
            "chord(3, -1) -> BAD", "chord(MIN, 0) -> BAD", "chord(MAX, 1) -> BAD", "chord(0, MIN) -> BAD",
            "chord(0, MAX) -> BAD", "chord(3, 0) -> 0", "chord(3, 1) -> NONE");
        run("CHORD (bits; 0: nobody)", "tell p0;d0 1 10 10;f0; -> 3", "chord(0, 0) -> 230", "chord(0, 1) -> 0",
            "passes(10) -> 0", "chord(0, 0) -> 220", "chord(0, 1) -> 20", "passes(230) -> 10", "chord(0, 0) -> 0",
            "chord(0, 1) -> NONE");
        run("CHORD: nobody told, nobody RUNG for", "tell w3; -> 1", "chord(0, 0) -> 240", "chord(1, 0) -> BAD",
            "chord(0, 1) -> 0");
        run("CHORD: from NOW on; the first; NONE", "tell p0;d0 1 10 3;d0 1 239 9;f0; -> 4", "chord(1, 0) -> 4",
            "chord(1, 1) -> 10", "passes(11) -> 1", "chord(1, 0) -> 3", "chord(1, 1) -> 11", "passes(2) -> 2",
            "chord(1, 0) -> 1", "chord(1, 1) -> 239", "passes(226) -> 0", "chord(1, 0) -> 1", "chord(1, 1) -> 239",
            "chord(0, 0) -> 0", "chord(0, 1) -> NONE", "passes(1) -> 1", "chord(1, 0) -> 0", "chord(1, 1) -> NONE");
    }

    private static void chordOfJustThese() {
        run("CHORD: just these, all of them, nobody else", "tell p0;p0;p0;d0 1 0 9;d1 1 3 9;d2 1 6 9;f0; -> 7",
            "chord(1, 0) -> 3", "chord(2, 0) -> 0", "chord(3, 0) -> 3", "chord(7, 0) -> 3", "chord(7, 1) -> 6",
            "chord(6, 0) -> 3", "chord(6, 1) -> 9", "chord(4, 0) -> 3", "chord(4, 1) -> 12", "chord(5, 0) -> 0",
            "chord(5, 1) -> NONE", "chord(0, 0) -> 225", "chord(8, 0) -> BAD");
        run("CHORD: all five", "tell p0;p0;p0;p0;p0;d0 1 0 9;d1 1 0 9;d2 1 0 9;d3 1 0 9;d4 1 8 9;f0; -> 11",
            "chord(31, 0) -> 1", "chord(31, 1) -> 8", "chord(15, 0) -> 8", "chord(16, 1) -> 9", "chord(32, 0) -> BAD");
    }

    private static void silence() {
        run("15: BAD (nobody, too)", "tell p0;p0;d0 1 0 9;f0; -> 4", "silence(0) -> BAD", "silence(-1) -> BAD",
            "silence(4) -> BAD", "silence(MIN) -> BAD", "silence(MAX) -> BAD", "silence(1) -> 1", "silence(2 .. 3) -> 0");
        run("SILENCE: no minute from NOW on: what is gone by needs none", "tell p0;d0 1 0 9;d0 1 20 9;f0; -> 4",
            "silence(1) -> 3", "passes(8) -> 8", "silence(1) -> 3", "passes(1) -> 1", "silence(1) -> 2", "passes(19) -> 8",
            "silence(1) -> 2", "passes(1) -> 1", "silence(1) -> 0", "passes(211) -> 0", "silence(1) -> 0");
        run("SILENCE: in which all of these (whoever else) would be RUNG for",
            "tell p0;p0;p0;d0 1 0 9;d1 1 5 9;d2 1 5 9;f0; -> 7", "silence(1) -> 1", "silence(3) -> 1", "silence(6) -> 2",
            "silence(7) -> 1", "silence(4) -> 4");
        run("SILENCE: never all of these at once", "tell p0;p0;d0 1 0 9;d1 1 9 9;f0; -> 5", "silence(3) -> 0",
            "silence(1) -> 1", "silence(2) -> 2");
        run("SILENCE: the last minute alone", "tell p0;p0;d0 1 239 1;d1 1 239 60;f0; -> 5", "silence(3) -> 1",
            "passes(239) -> 0", "silence(3) -> 1", "passes(1) -> 2", "silence(3) -> 0");
        run("SILENCE: who is on his way arrives", "tell p0;d0 1 2 9;f0; -> 3", "silence(1) -> 1", "goes(0, 1) -> 2",
            "silence(1) -> 0", "undo() -> 0", "passes(1) -> 0", "goes(0, 1) -> 2", "silence(1) -> 1");
    }

    private static void silenceOfAsFew() {
        run("SILENCE: the fewest DUTIES", "tell p0;p0;d0 1 0 9;d0 1 0 9;d1 1 0 9;f0; -> 6", "silence(3) -> 4",
            "silence(1) -> 3");
        run("SILENCE: of as few the least", "tell p0;p0;d1 1 0 9;d0 1 0 9;f0; -> 5", "silence(3) -> 1", "swaps(0, 1) -> 0",
            "silence(3) -> 1");
        run("SILENCE: of as few the least, two of four", "tell p0;p0;d0 1 0 9;d1 1 0 9;d0 1 20 9;d1 1 20 9;f0; -> 7",
            "silence(3) -> 5");
        run("SILENCE: one DUTY in two chords", "tell p0;p0;d0 1 0 9;d0 1 20 9;d1 1 0 60;f0; -> 6", "silence(3) -> 4");
        run("SILENCE: all eight", "tell p0;" + "d0 1 0 9;".repeat(8) + "f0; -> 10", "silence(1) -> 255");
        run("SILENCE: a DUTY at whose PLACE he is needs none", "tell p0;d0 0 0 9;d0 1 0 9;f0; -> 4", "silence(1) -> 2",
            "goes(0, 1) -> 2", "silence(1) -> 3");
    }

    /** Questions that follow one another: nothing of an earlier one is in the answer to a later one. */
    private static void askedAgain() {
        run("SILENCE: asked again", "tell p0;p0;d0 1 0 1;d0 1 1 1;d0 1 2 1;d0 1 3 1;d1 1 0 4;f0; -> 8", "silence(1) -> 15",
            "silence(1) -> 15", "silence(3) -> 16", "silence(2) -> 16", "silence(1) -> 15", "passes(1) -> 2",
            "silence(1) -> 14", "passes(1) -> 2", "silence(1) -> 12", "silence(3) -> 16", "excuses(2, 1) -> 1",
            "silence(1) -> 8", "silence(3) -> 8", "undo() -> 2", "silence(1) -> 12", "undo() -> 1", "undo() -> 0",
            "silence(1) -> 15", "passes(240) -> 8", "silence(1) -> 0", "undo() -> 0", "silence(3) -> 16");
        run("LEAST: asked again", "tell w6;p0;p5;d0 5 0 60;d1 0 200 20;f0;g1; -> 7", "least(0, 0) -> 5", "least(1, 0) -> 0",
            "least(0, 0) -> 5", "passes(60) -> 60", "least(0, 0) -> 0", "undo() -> 0", "least(0, 0) -> 5", "least(0, 1) -> 1",
            "tell p0;d0 1 0 3;f0;g2; -> 4", "least(0, 0) -> 2", "least(0, 1) -> 1", "excuses(0, 1) -> 1", "least(0, 0 .. 1) -> 0");
    }

    private static void silenceBesidesExcused() {
        run("SILENCE: besides those that are EXCUSED", "tell p0;p0;d0 1 0 9;d0 1 0 9;d1 1 0 9;d1 1 0 9;f0; -> 7",
            "silence(3) -> 3", "excuses(0, 1) -> 1", "silence(3) -> 2", "silence(1) -> 2", "excuses(1, 1) -> 2",
            "silence(3) -> 0", "silence(1) -> 0", "silence(2) -> 12", "excuses(3, 1) -> 3", "silence(2) -> 4");
        run("SILENCE: all are EXCUSED", "tell p0;d0 1 0 9;f0; -> 3", "excuses(0, 1) -> 1", "silence(1) -> 0",
            "now(1) -> 1");
    }

    private static void least() {
        run("16: BAD", "tell p0;p0; -> 2", "least(2, 0) -> BAD", "least(-1, 0) -> BAD", "least(0, 2) -> BAD",
            "least(0, -1) -> BAD", "least(MIN, 0) -> BAD", "least(MAX, 1) -> BAD", "least(0, MAX) -> BAD",
            "least(0, MIN) -> BAD");
        run("LEAST: the fewest minutes in which he is RUNG for", "tell p0;d0 1 10 9;f0;g5; -> 4", "least(0, 0) -> 0",
            "passes(5) -> 0", "least(0, 0) -> 0", "passes(1) -> 0", "least(0, 0) -> 1", "passes(12) -> 8",
            "least(0, 0) -> 1", "passes(1) -> 1", "least(0, 0) -> 0");
        run("LEAST: GONE at any minutes, whenever he is at a PLACE: there and back",
            "tell p0;d0 1 10 9;d0 0 24 9;f0;g5; -> 5", "least(0, 0) -> 0", "excuses(1, 1) -> 1", "least(0, 0) -> 0",
            "tell p0;d0 1 10 9;d0 0 23 9;f0;g5; -> 5", "least(0, 0) -> 1", "tell p0;d0 1 10 9;d0 0 19 9;f0;g5; -> 5",
            "least(0, 0) -> 5");
        run("LEAST: FREE minutes are for walking", "tell p0;d0 1 0 9;f3;g3; -> 4", "least(0, 0) -> 0", "passes(1) -> 0",
            "least(0, 0) -> 1");
        run("LEAST: two DUTIES at once", "tell w3;p1;d0 0 0 10;d0 2 0 10;f0;g1; -> 6", "least(0, 0) -> 10",
            "excuses(0, 1) -> 1", "least(0, 0) -> 1", "excuses(1, 1) -> 2", "least(0, 0) -> 0");
        run("LEAST: far off", "tell w6;p0;d0 5 45 60;f0;g9; -> 5", "least(0, 0) -> 0", "passes(1) -> 0", "least(0, 0) -> 1");
        run("LEAST of one of several", "tell p0;p0;d1 1 0 9;f0;g9; -> 5", "least(0, 0) -> 0", "least(1, 0) -> 9",
            "swaps(0, 0) -> STATE", "least(1, 0) -> 9");
    }

    private static void leastAtTheDaysEnd() {
        run("LEAST at 240: 0, and his own", "tell w3;p2;p0;d0 0 200 60;f0; -> 5", "passes(240) -> 40", "least(0, 0) -> 0",
            "least(0, 1) -> 2", "least(1, 1) -> 0", "goes(0, 1) -> 2", "least(0, 0) -> 0", "least(0, 1) -> 1");
        run("LEAST in the last minute", "tell w3;p2;d0 0 200 60;f0; -> 4", "passes(239) -> 39", "least(0, 0) -> 1",
            "least(0, 1) -> 0", "excuses(0, 1) -> 1", "least(0, 0) -> 0", "least(0, 1) -> 0");
        run("LEAST: to the end of the day", "tell w3;p0;d0 2 239 1;f0;g9; -> 5", "passes(221) -> 0", "least(0, 0) -> 0",
            "least(0, 1) -> 1", "passes(1) -> 0", "least(0, 0) -> 1", "least(0, 1) -> 0");
    }

    private static void to() {
        run("TO: of several PLACES by which it is as few the lowest", "tell w4;p2; -> 2", "least(0, 1) -> 0",
            "goes(0, 3) -> 2", "least(0, 1) -> 3", "passes(2) -> 0", "least(0, 1) -> 0");
        run("TO: his own: he stays", "tell w4;p2;d0 2 0 60;f0; -> 4", "least(0, 1) -> 2", "passes(59) -> 0",
            "least(0, 1) -> 2", "passes(1) -> 0", "least(0, 1) -> 0");
        run("TO: where he should be GONE in THE MINUTE itself", "tell p0;d0 1 10 9;f0;g5; -> 4", "passes(4) -> 0",
            "least(0, 1) -> 0", "passes(1) -> 0", "least(0, 1) -> 1", "passes(1) -> 0", "least(0, 1) -> 1");
        run("TO: on the way the lower number is as few", "tell w6;p0;d0 5 45 60;f0;g9; -> 5", "passes(1) -> 0",
            "least(0, 1) -> 1", "tell w6;p5;d0 0 45 60;f0;g9; -> 5", "least(0, 1) -> 0");
        run("TO: in a DUTY's last minute it is as few anywhere else", "tell w3;p0;d0 2 0 2;f0;g2; -> 5", "least(0, 0) -> 2",
            "least(0, 1) -> 0");
    }

    private static void toOnTheWay() {
        run("TO: where he goes to, if he is on his way", "tell w3;p0;d0 0 5 10;f0;g2; -> 5", "goes(0, 2) -> 4",
            "least(0, 1) -> 2", "least(0, 0) -> 3", "passes(3) -> 0", "least(0, 1) -> 2", "passes(1) -> 0",
            "least(0, 1) -> 0", "least(0, 0) -> 3");
        run("TO: where he goes to, to the last minute of his way", "tell w3;p1;g3; -> 3", "goes(0, 2) -> 3", "least(0, 1) -> 2",
            "passes(2) -> 0", "person(0, 2) -> 1", "least(0, 1) -> 2", "passes(1) -> 0", "least(0, 1) -> 0");
        run("LEAST on his way: RUNG for until he arrives", "tell p0;d0 1 0 9;f0;g5; -> 4", "goes(0, 1) -> 5",
            "least(0, 0) -> 5", "passes(4) -> 4", "least(0, 0) -> 1", "passes(1) -> 1", "least(0, 0) -> 0");
        run("LEAST on a way beyond the day's end", "tell w6;p0;d0 5 230 60;f0;g9; -> 5", "passes(230) -> 0",
            "goes(0, 5) -> 45", "least(0, 0) -> 10", "least(0, 1) -> 5", "passes(9) -> 9", "least(0, 0) -> 1",
            "passes(1) -> 1", "least(0, 0) -> 0", "least(0, 1) -> 5");
    }

    private static void heard() {
        run("HEARD (6 at most)", "tell p0;p0; -> 2", "hears(0, 0, 0) -> 1", "hears(1, 239, 1) -> 2", "hears(0, 0, 1) -> 3",
            "hears(0, 0, 0) -> 4", "hears(0, 5, 0) -> 5", "hears(1, 5, 0) -> 6", "hears(0, 0, 0) -> FULL",
            "hears(1, 9, 1) -> FULL", "count(5) -> 6", "can(0) -> 0", "can(1) -> 0", "forget() -> 6", "can(0 .. 1) -> 3",
            "count(5) -> 0", "hears(0, 9, 0) -> 1", "can(0) -> 3");
        run("17: BAD (0 .. 239), ahead of FULL", "tell p0;p0; -> 2", "hears(2, 0, 0) -> BAD", "hears(-1, 0, 0) -> BAD",
            "hears(0, -1, 0) -> BAD", "hears(0, 240, 0) -> BAD", "hears(0, 0, 2) -> BAD", "hears(0, 0, -1) -> BAD",
            "hears(MIN, 0, 0) -> BAD", "hears(0, MAX, 0) -> BAD", "hears(0, MIN, 1) -> BAD", "hears(0, 0, MAX) -> BAD",
            "count(5) -> 0", "hears(0, 0 .. 0, 0) -> 1", "hears(0, 0, 0) -> 2", "hears(0, 0, 0) -> 3", "hears(0, 0, 0) -> 4",
            "hears(0, 0, 0) -> 5", "hears(0, 0, 0) -> 6", "hears(2, 0, 0) -> BAD", "hears(0, 240, 0) -> BAD",
            "hears(0, 0, 2) -> BAD", "hears(0, 0, 0) -> FULL");
        run("17: minutes that are gone by, too, and when the day is over", "tell p0; -> 1", "passes(240) -> 0",
            "hears(0, 0, 0) -> 1", "hears(0, 239, 0) -> 2", "hears(0, 240, 0) -> BAD");
        run("18: Nothing was HEARD: how much there was", "tell p0;d0 1 0 9;f0; -> 3", "forget() -> 0",
            "hears(0, 0, 1) -> 1", "hears(0, 1, 0) -> 2", "can(0) -> 0", "forget() -> 2", "forget() -> 0", "can(0) -> 3",
            "hears(0, 0, 1) -> 1", "can(0) -> 1");
    }

    private static void can() {
        run("19: BAD", "tell p0;p0; -> 2", "can(2) -> BAD", "can(-1) -> BAD", "can(MIN) -> BAD", "can(MAX) -> BAD",
            "can(5) -> BAD", "can(1) -> 3");
        run("CAN: nothing was HEARD of him: all PLACES", "tell w6;p0;p0;d0 1 0 9;f0; -> 5", "can(0 .. 1) -> 63",
            "hears(1, 0, 1) -> 1", "can(0) -> 63", "can(1) -> 0");
        run("CAN: just there all day: around FREE and the DUTY's end", "tell w3;p0;d0 1 10 9;f4; -> 4", "hears(0, 13, 0) -> 1",
            "can(0) -> 7", "hears(0, 14, 1) -> 2", "can(0) -> 5", "hears(0, 18, 1) -> 3", "can(0) -> 5", "hears(0, 19, 0) -> 4",
            "can(0) -> 5", "forget() -> 4", "hears(0, 14, 0) -> 1", "can(0) -> 2", "forget() -> 1", "hears(0, 13, 1) -> 1",
            "can(0) -> 0", "forget() -> 1", "hears(0, 19, 1) -> 1", "can(0) -> 0");
        run("CAN: two DUTIES at once", "tell w3;p0;d0 0 10 9;d0 1 10 9;f0; -> 5", "hears(0, 10, 1) -> 1", "can(0) -> 7",
            "hears(0, 11, 0) -> 2", "can(0) -> 0");
        run("CAN: the last minute", "tell p0;d0 1 239 60;f0; -> 3", "hears(0, 239, 0) -> 1", "can(0) -> 2",
            "hears(0, 238, 0) -> 2", "can(0) -> 2", "hears(0, 0, 1) -> 3", "can(0) -> 0");
    }

    private static void canAsNow() {
        run("CAN: DUTIES, EXCUSED ones as NOW", "tell p0;p0;d0 1 10 9;d1 0 10 9;f0; -> 5", "hears(0, 10, 0) -> 1",
            "can(0) -> 2", "swaps(0, 1) -> 1", "can(0) -> 1", "excuses(1, 1) -> 1", "can(0) -> 3", "undo() -> 1",
            "can(0) -> 1", "undo() -> 0", "can(0) -> 2");
        run("CAN: wherever he is, whatever the minute is", "tell p0;d0 1 10 9;f0; -> 3", "hears(0, 10, 0) -> 1",
            "goes(0, 1) -> 2", "can(0) -> 2", "passes(240) -> 0", "can(0) -> 2");
    }

    private static void tells() {
        run("20: BAD", "tell w3;p0; -> 2", "tells(1, 0, 1) -> BAD", "tells(-1, 0, 1) -> BAD", "tells(0, 3, 1) -> BAD",
            "tells(0, -1, 1) -> BAD", "tells(0, 0, 3) -> BAD", "tells(0, 0, -1) -> BAD", "tells(MIN, 0, 1) -> BAD",
            "tells(0, MAX, 1) -> BAD", "tells(0, 0, MIN) -> BAD", "tells(0, 3, 3) -> BAD");
        run("TELLS: the first minute (0 .. 239)", "tell w3;p0;d0 1 0 9;d0 2 239 9;f0; -> 5", "tells(0, 0, 1) -> 0",
            "tells(0, 1, 0) -> 0", "tells(0, 1, 2) -> 0", "tells(0, 0, 2) -> 239", "excuses(0, 1) -> 1",
            "tells(0, 1, 2) -> 239", "tells(0, 0, 1) -> NONE");
        run("TELLS: NONE: the same, alike, never RUNG for", "tell w4;p0;p0;d0 1 0 9;f0; -> 5", "tells(0, 1, 1) -> NONE",
            "tells(0, 0, 2) -> NONE", "tells(0, 2, 3) -> NONE", "tells(1, 0, 1) -> NONE", "tells(0, 3, 1) -> 0");
        run("TELLS: RUNG for at both", "tell w3;p0;d0 1 5 10;d0 2 5 20;f2; -> 5", "tells(0, 1, 2) -> 15",
            "tells(0, 0, 1) -> NONE", "tells(0, 0, 2) -> 15");
        run("TELLS: at a PLACE of a DUTY's that FREE leaves no minute", "tell p0;d0 1 5 3; -> 2", "tells(0, 0, 1) -> NONE");
        run("TELLS: minutes that are gone by, too", "tell p0;p0;d0 1 5 10;f0; -> 4", "passes(240) -> 10",
            "tells(0, 0, 1) -> 5", "tells(1, 0, 1) -> NONE");
    }

    private static void odds() {
        run("21: BAD", "tell p0; -> 1", "odds(1, 0, 0, 0) -> BAD", "odds(-1, 0, 0, 0) -> BAD", "odds(0, 240, 0, 0) -> BAD",
            "odds(0, -1, 0, 0) -> BAD", "odds(0, 0, 11, 0) -> BAD", "odds(0, 0, -1, 0) -> BAD", "odds(0, 0, 0, 2) -> BAD",
            "odds(0, 0, 0, -1) -> BAD", "odds(MAX, 0, 0, 0) -> BAD", "odds(0, MIN, 0, 0) -> BAD", "odds(0, 0, MAX, 1) -> BAD",
            "odds(0, 0, 0, MIN) -> BAD", "odds(0, 239, 10, 1) -> 1");
        run("ODDS by x (0 .. 10)", "tell p0;d0 1 0 9;f0; -> 3", "odds(0, 0, 0, 0 .. 1) -> 1", "odds(0, 0, 10, 0) -> 0",
            "odds(0, 0, 10, 1) -> 1", "odds(0, 0, 1, 0) -> 9", "odds(0, 0, 1, 1) -> 10", "odds(0, 0, 9, 0) -> 1",
            "odds(0, 0, 9, 1) -> 10");
        run("ODDS by a minute: around FREE and the DUTY's end", "tell p0;d0 1 10 9;f4; -> 3", "odds(0, 13, 0, 0) -> 0",
            "odds(0, 13, 0, 1) -> 1", "odds(0, 14, 5, 0) -> 1", "odds(0, 14, 5, 1) -> 2", "odds(0, 18, 5, 1) -> 2",
            "odds(0, 19, 5, 0) -> 0", "odds(0, 19, 5, 1) -> 1");
        run("ODDS: the last minute", "tell p0;d0 1 239 60;f0; -> 3", "odds(0, 238, 3, 0) -> 0", "odds(0, 239, 3, 0) -> 7",
            "odds(0, 239, 3, 1) -> 10");
        run("ODDS: were he at his HOME all day", "tell w3;p1;d0 1 0 60;d0 2 0 60;f0; -> 5", "odds(0, 30, 4, 0) -> 3",
            "odds(0, 30, 4, 1) -> 5", "goes(0, 2) -> 2", "passes(10) -> 10", "odds(0, 30, 4, 0) -> 3", "odds(0, 5, 4, 1) -> 5",
            "passes(230) -> 50", "odds(0, 30, 4, 0) -> 3");
        run("ODDS: his DUTIES that are not EXCUSED yet", "tell p0;p0;d0 1 0 9;d0 1 0 9;d1 1 0 9;f0; -> 6",
            "odds(0, 0, 5, 0) -> 3", "odds(0, 0, 5, 1) -> 4", "excuses(0, 1) -> 1", "odds(0, 0, 5, 0) -> 1",
            "odds(0, 0, 5, 1) -> 2", "excuses(1, 1) -> 2", "odds(0, 0, 5, 0) -> 0", "odds(0, 0, 5, 1) -> 1",
            "excuses(0, 0) -> 1", "swaps(1, 2) -> 1", "odds(0, 0, 5, 1) -> 4", "odds(1, 0, 5, 0) -> 0");
    }

    private static void oddsInLeastTerms() {
        run("ODDS: in least terms, of eight DUTIES", "tell p0;" + "d0 1 0 60;".repeat(8) + "f0; -> 10",
            "odds(0, 0, 5, 0) -> 255", "odds(0, 0, 5, 1) -> 256", "odds(0, 0, 9, 0) -> 56953279", "odds(0, 0, 9, 1) -> 100000000",
            "odds(0, 0, 1, 0) -> 99999999", "odds(0, 0, 1, 1) -> 100000000", "odds(0, 0, 2, 0) -> 390624",
            "odds(0, 0, 2, 1) -> 390625", "odds(0, 0, 10, 0) -> 0", "odds(0, 0, 10, 1) -> 1", "odds(0, 0, 0, 0 .. 1) -> 1",
            "odds(0, 60, 5, 0) -> 0", "odds(0, 60, 5, 1) -> 1");
        run("ODDS: in least terms, of two DUTIES", "tell p0;d0 1 0 9;d0 1 0 9;f0; -> 4", "odds(0, 0, 6, 0) -> 16",
            "odds(0, 0, 6, 1) -> 25", "odds(0, 0, 8, 0) -> 9", "odds(0, 0, 8, 1) -> 25", "odds(0, 0, 7, 0) -> 51",
            "odds(0, 0, 7, 1) -> 100");
    }

    private static void nothingIsChanged() {
        run("As things are NOW; nothing is changed",
            "tell w4;p0;p3;p1;d0 2 5 40;d1 0 10 60;d2 3 0 20;d0 1 100 30;g3;f2; -> 10", "goes(0, 2) -> 6", "passes(4) -> 2",
            "excuses(3, 1) -> 1", "hears(0, 8, 1) -> 1", "rings(20) -> 2", "chord(6, 0) -> 8", "silence(7) -> 0",
            "silence(6) -> 2", "least(0, 0) -> 0", "least(1, 1) -> 0", "can(0) -> 11", "tells(0, 0, 2) -> 7",
            "odds(0, 20, 5, 1) -> 2", "now(0) -> 4", "now(1) -> 8", "now(2) -> 2", "now(5) -> 3", "count(5) -> 1",
            "person(0, 2) -> 2", "trace() -> 0", "passes(1) -> 1", "person(1, 0) -> 3");
    }
}
