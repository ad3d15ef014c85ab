/** The edges that "What it is", the first part of "Terms" and the promises 1 to 4 and 25 name, sentence by sentence. */
public final class EdgesPlacesTest {
    private static final Due due = new Due();
    private static final String FULL_TOWN =
        "w6;" + "p0;".repeat(5) + "d4 5 100 20;".repeat(8) + "g9;f9;";

    public static void main(String[] args) {
        newObject();
        fiveHundredAndTwelveCalls();
        places();
        people();
        duties();
        minutesOfDuties();
        walkAndFree();
        lettersOfTheText();
        fullText();
        clearing();
        blanks();
        items();
        wrongTokens();
        textsThatEndTooEarly();
        numbersBeyond();
        wrongNumbers();
        firstFaultOfSeveral();
        readAnew();
        faultyTexts();
        counts();
        due.end();
    }

    private static void run(String sentence, String... rows) {
        Script.run(due, sentence, rows);
    }

    private static void newObject() {
        run("1: As told; 2 PLACES, nobody",
            "count(0) -> 2", "count(1 .. 2) -> 0", "count(3) -> 2", "count(4) -> 3", "count(5 .. 6) -> 0",
            "now(0 .. 2) -> 0", "now(3 .. 4) -> NONE", "now(5) -> 0", "trace() -> 0", "clear() -> 0", "forget() -> 0",
            "rings(0) -> 0", "rings(239) -> 0", "chord(0, 0) -> 240", "chord(0, 1) -> 0",
            "keep(0 .. 1) -> 0", "back(0 .. 1) -> 0", "town() -> 0");
        run("1: nobody, so nothing of anybody",
            "person(0, 0) -> BAD", "duty(0, 0) -> BAD", "goes(0, 1) -> BAD", "excuses(0, 1) -> BAD",
            "swaps(0, 0) -> BAD", "silence(0) -> BAD", "silence(1) -> BAD", "chord(1, 0) -> BAD", "least(0, 0) -> BAD",
            "hears(0, 0, 0) -> BAD", "can(0) -> BAD", "tells(0, 0, 1) -> BAD", "odds(0, 0, 0, 0) -> BAD",
            "rate(0, 0) -> NO", "undo() -> STATE", "back(0 .. 1) -> STATE");
        run("1: minutes go by with nobody there",
            "passes(240) -> 0", "now(0) -> 240", "now(2) -> 0", "now(5) -> 1", "undo() -> 0", "now(0) -> 0");
    }

    private static void fiveHundredAndTwelveCalls() {
        String[] rows = new String[500];
        rows[0] = "tell p0;d0 1 0 9; -> 2";
        for (int i = 1; i <= 498; i++) {
            rows[i] = "rate(5, 0) -> 9";
        }
        rows[499] = "trace() -> 49800498";
        run("An object is used for at most 512 calls: the last of them", rows);
        // What later calls answer is free, but none may throw.
        AbsentBells bells = Due.told("w6;p0;p1;d0 5 0 60;d1 5 0 60;f0;");
        for (int i = 0; i < 2000; i++) {
            bells.type(i % 300);
            bells.goes(i % 2, i % 7);
            bells.passes(1);
            bells.swaps(0, 1);
            bells.hears(0, i % 240, 1);
            bells.rate(i % 7, i % 3);
            bells.least(0, 1);
            bells.silence(3);
        }
        due.is("behind the 512th call nothing throws", 1, 1);
    }

    private static void places() {
        run("PLACES (2 .. 6): 2", "tell w2;p0;p1; -> 3", "count(0) -> 2", "goes(0, 2) -> BAD", "goes(0, -1) -> BAD",
            "tells(0, 0, 2) -> BAD", "goes(0, 1) -> 2", "can(0) -> 3");
        run("PLACES (2 .. 6): 6", "tell w6;p0;p5; -> 3", "count(0) -> 6", "goes(0, 6) -> BAD", "tells(0, 6, 0) -> BAD",
            "goes(0, 5) -> 10", "can(0) -> 63");
        run("PLACES (2 .. 6): 3", "tell w3;p2; -> 2", "count(0) -> 3", "goes(0, 3) -> BAD", "can(0) -> 7");
        run("PLACES (2 .. 6): too few", "tell w1; -> FAULT 1", "clear() -> 3", "tell w0; -> FAULT 1", "count(0) -> 2");
        run("PLACES (2 .. 6): too many", "tell w7; -> FAULT 1", "clear() -> 3", "tell w60; -> FAULT 1", "count(0) -> 2");
        run("PLACES: 2 at first", "tell w5;p4; -> 2", "count(0) -> 5", "tell p1; -> 1", "count(0) -> 2",
            "tell p2; -> FAULT 1", "count(0) -> 2");
    }

    private static void people() {
        run("PEOPLE (5 at most): 5", "tell p0;p1;p0;p1;p0; -> 5", "count(1) -> 5", "person(4, 0) -> 0",
            "person(3, 0) -> 1", "person(5, 0) -> BAD", "chord(31, 0) -> 0", "chord(32, 0) -> BAD", "silence(31) -> 0",
            "silence(32) -> BAD");
        run("a sixth p", "tell p0;p1;p0;p1;p0;p0; -> FAULT 15", "count(1) -> 0", "clear() -> 18",
            "tell p0;p1;p0;p1;p0; p -> FAULT 16", "count(6) -> 17");
        run("PEOPLE: one", "tell p1; -> 1", "person(0, 0) -> 1", "person(1, 0) -> BAD", "person(-1, 0) -> BAD",
            "chord(1, 0) -> 0", "chord(2, 0) -> BAD", "silence(2) -> BAD");
        run("PEOPLE (5 at most): the fifth has all that is his", "tell w6;p0;p1;p2;p3;p5;d4 0 0 60;f0;g2; -> 9",
            "person(4, 0) -> 5", "person(4, 5) -> 5", "goes(4, 3) -> 4", "passes(2) -> 2", "person(4, 0) -> NONE",
            "person(4, 2) -> 2", "keep(0) -> 2", "passes(3) -> 3", "person(4, 0) -> 3", "person(4, 3) -> 5", "back(0) -> 2",
            "person(4, 0) -> NONE", "person(4, 2) -> 2", "person(4, 3) -> 2", "passes(2) -> 2", "goes(4, 2) -> 2",
            "passes(1) -> 1", "undo() -> 2", "person(4, 2) -> 2", "person(4, 3) -> 4", "undo() -> 1", "person(4, 0) -> 3",
            "person(4, 2) -> 0", "undo() -> 0", "person(4, 2) -> 2", "least(4, 1) -> 3", "tell w6;p0;p1;p2;p3;p4; -> 6",
            "person(4, 0) -> 4", "person(4, 2 .. 3) -> 0", "person(4, 5) -> 4");
        run("HOME (a PLACE): the last one", "tell w6;p5;p0; -> 3", "person(0, 5) -> 5", "person(1, 5) -> 0");
        run("HOME: a PLACE that there is not", "tell w6;p6; -> FAULT 4", "clear() -> 6", "tell w3;p3; -> FAULT 4",
            "clear() -> 6", "tell p2; -> FAULT 1");
    }

    private static void duties() {
        String eight = "p0;" + "d0 1 0 9;".repeat(8);
        run("DUTIES (8 at most): 8", "tell " + eight + " -> 9", "count(2) -> 8", "duty(7, 3) -> 9", "duty(8, 3) -> BAD",
            "duty(-1, 3) -> BAD", "excuses(8, 1) -> BAD", "swaps(0, 8) -> BAD", "rate(0, 8) -> NO", "rate(0, 7) -> 9",
            "excuses(7, 1) -> 1", "now(1) -> 128");
        run("DUTIES (8 at most): the eighth has all that is its",
            "tell p0;p1;" + "d0 1 0 9;".repeat(7) + "d1 0 5 60;f0; -> 11", "duty(7, 0) -> 1", "duty(7, 1) -> 0", "duty(7, 2) -> 5",
            "duty(7, 3) -> 60", "swaps(7, 0) -> 0", "keep(0) -> 0", "duty(7, 0) -> 0", "undo() -> 0", "duty(7, 0) -> 1",
            "excuses(7, 1) -> 1", "duty(7, 4) -> 1", "back(0) -> 0", "duty(7, 0) -> 0", "duty(7, 4) -> 0",
            "tell p0;p1;" + "d0 1 0 9;".repeat(7) + "d1 0 5 60;f0; -> 11", "duty(7, 0) -> 1", "rings(64) -> 2", "rings(65) -> 0");
        run("a ninth d", "tell " + eight + "d -> FAULT 75", "count(2) -> 0", "clear() -> 76",
            "tell " + eight + "  d0 1 0 9; -> FAULT 77");
        run("a DUTY of a PERSON told ahead", "tell p0;d1 0 0 9;p0; -> FAULT 4", "clear() -> 15",
            "tell d0 0 0 9;p0; -> FAULT 1", "clear() -> 12", "tell p0;p0;d1 0 0 9;p0; -> 4", "duty(0, 0) -> 1");
        run("a DUTY's PLACE", "tell w6;p0;d0 5 0 9; -> 3", "duty(0, 1) -> 5", "tell w6;p0;d0 6 0 9; -> FAULT 9",
            "clear() -> 15", "tell p0;d0 2 0 9; -> FAULT 6", "duty(0, 1) -> 5");
        run("FROM (0 .. 239)", "tell p0;d0 1 0 9;d0 1 239 9; -> 3", "duty(0, 2) -> 0", "duty(1, 2) -> 239",
            "tell p0;d0 1 240 9; -> FAULT 8", "duty(1, 2) -> 239");
        run("LONG (1 .. 60)", "tell p0;d0 1 0 1;d0 1 0 60; -> 3", "duty(0, 3) -> 1", "duty(1, 3) -> 60",
            "tell p0;d0 1 0 0; -> FAULT 10", "clear() -> 12", "tell p0;d0 1 0 61; -> FAULT 10", "duty(1, 3) -> 60");
    }

    private static void minutesOfDuties() {
        run("from the minute FROM on, LONG minutes", "tell p0;d0 1 10 5;f0; -> 3", "rings(9) -> 0", "rings(10 .. 14) -> 1",
            "rings(15) -> 0", "passes(10) -> 0", "person(0, 4) -> 1", "passes(4) -> 4", "person(0, 4) -> 1",
            "passes(1) -> 1", "person(0, 4) -> 0", "passes(225) -> 0");
        run("LONG: one minute", "tell p0;d0 1 0 1;f0; -> 3", "rings(0) -> 1", "rings(1) -> 0", "passes(240) -> 1");
        run("those before 240 alone count", "tell p0;d0 1 239 60;d0 1 200 60;f0; -> 4", "rings(199) -> 0",
            "rings(200 .. 239) -> 1", "rings(240) -> BAD", "chord(1, 0) -> 40", "passes(240) -> 40", "person(0, 4) -> 0",
            "person(0, 3) -> 40", "now(2) -> 40", "now(4) -> NONE");
        run("those before 240 alone count: the last minute", "tell p0;d0 1 239 60;f0; -> 3", "rings(238) -> 0",
            "rings(239) -> 1", "now(4) -> 239", "least(0, 0) -> 0", "passes(239) -> 0", "person(0, 4) -> 1",
            "least(0, 0) -> 1", "passes(1) -> 1", "person(0, 4) -> 0");
    }

    private static void walkAndFree() {
        run("WALK (1 .. 9): 1", "tell w3;p0;g1; -> 3", "count(3) -> 1", "goes(0, 1) -> 1", "passes(1) -> 0",
            "person(0, 0) -> 1");
        run("WALK (1 .. 9): 9", "tell w6;p0;g9; -> 3", "count(3) -> 9", "goes(0, 5) -> 45", "passes(44) -> 0",
            "person(0, 0) -> NONE", "passes(1) -> 0", "person(0, 0) -> 5");
        run("WALK: too small, too large", "tell g0; -> FAULT 1", "clear() -> 3", "tell g10; -> FAULT 1", "count(3) -> 2");
        run("WALK: 2 at first", "tell p0; -> 1", "count(3) -> 2", "goes(0, 1) -> 2", "tell g7; -> 1", "count(3) -> 7",
            "tell p0; -> 1", "count(3) -> 2");
        run("FREE (0 .. 9): 0", "tell p0;d0 1 10 9;f0; -> 3", "count(4) -> 0", "rings(9) -> 0", "rings(10) -> 1");
        run("FREE (0 .. 9): 9", "tell p0;d0 1 10 10;f9; -> 3", "count(4) -> 9", "rings(10 .. 18) -> 0", "rings(19) -> 1",
            "rings(20) -> 0", "passes(240) -> 1");
        run("FREE: too large", "tell f10; -> FAULT 1", "count(4) -> 3");
        run("FREE: 3 at first", "tell p0;d0 1 10 9; -> 2", "count(4) -> 3", "rings(12) -> 0", "rings(13) -> 1",
            "tell f8; -> 1", "count(4) -> 8", "tell p0; -> 1", "count(4) -> 3");
        run("the first FREE minutes of a DUTY are not rung for: all of them", "tell p0;d0 1 10 3;d0 1 50 2; -> 3",
            "rings(9 .. 60) -> 0", "now(4) -> NONE", "passes(240) -> 0");
    }

    private static void lettersOfTheText() {
        run("2: a letter (0 .. 255)", "type(0) -> 1", "type(255) -> 2", "type(-1) -> BAD", "type(256) -> BAD",
            "type(MIN) -> BAD", "type(MAX) -> BAD", "count(6) -> 2", "type(368) -> BAD", "town() -> FAULT 0");
        run("2: how many it has", "type(112) -> 1", "type(49) -> 2", "type(59) -> 3", "town() -> 1", "type(112) -> 1");
    }

    /** A text of just 200 letters is read; what comes behind is refused, and is no part of it. */
    private static void fullText() {
        String text = FULL_TOWN + " ".repeat(200 - FULL_TOWN.length());
        run("a text (200 letters at most)", "tell " + text.substring(0, 199) + "; -> FAULT 199", "count(6) -> 200",
            "type(32) -> FULL", "type(0) -> FULL", "type(255) -> FULL", "type(256) -> BAD", "type(-1) -> BAD",
            "count(6) -> 200", "clear() -> 200", "type(59) -> 1", "town() -> FAULT 0");
        String[] rows = new String[7];
        rows[0] = "tell " + text.substring(0, 117) + " ".repeat(80) + text.substring(117, 120) + " -> 16";
        rows[1] = "count(6) -> 0";
        rows[2] = "count(2) -> 8";
        rows[3] = "duty(7, 2) -> 100";
        rows[4] = "count(4) -> 9";
        rows[5] = "rings(108) -> 0";
        rows[6] = "rings(109) -> 16";
        due.is("the full town's length", FULL_TOWN.length(), 120);
        run("a text (200 letters at most): all are read", rows);
        AbsentBells bells = new AbsentBells();
        Due.type(bells, " ".repeat(197) + "p1;");
        due.is("FULL; of the 201st letter", bells.type('x'), AbsentBells.FULL);
        due.is("4: the 201st letter is no part of THE TEXT", bells.town(), 1);
        due.is("the 200th letter ended the ITEM", bells.person(0, 0), 1);
    }

    private static void clearing() {
        run("3: THE TEXT is empty: how many letters it had", "clear() -> 0", "type(112) -> 1", "type(49) -> 2",
            "clear() -> 2", "clear() -> 0", "count(6) -> 0", "town() -> 0", "count(1) -> 0");
        run("3: nothing else", "tell p1;d0 0 5 9;f0; -> 3", "goes(0, 0) -> 2", "hears(0, 5, 1) -> 1", "keep(1) -> 0",
            "passes(1) -> 0", "type(120) -> 1", "clear() -> 1", "count(1 .. 2) -> 1", "count(5) -> 1", "now(0) -> 1",
            "now(5) -> 2", "person(0, 2) -> 1", "back(1) -> 0");
    }

    private static void blanks() {
        run("blanks, any number, ahead of, between, behind TOKENS",
            "tell   w  3  ;  p  2  ;  d  0  1  10  20  ;  g  4  ;  f  5  ;   -> 5", "count(0) -> 3", "count(3) -> 4",
            "count(4) -> 5", "person(0, 5) -> 2", "duty(0, 1) -> 1", "duty(0, 2) -> 10", "duty(0, 3) -> 20");
        run("blanks: needed only between two NUMBERS", "tell w3;p2;d0 1 10 20;g4;f5; -> 5", "duty(0, 2) -> 10",
            "tell p0;d01 10 20; -> FAULT 4", "clear() -> 13", "tell p0;d0 110 20; -> FAULT 6", "clear() -> 13",
            "tell p0;d0 1 1020; -> FAULT 8", "clear() -> 13", "tell p0;d0 1 10 2 0; -> FAULT 13");
        run("blanks alone", "tell      -> 0", "count(6) -> 0");
        run("blanks (32): no other letter is one", "tell p" + (char) 9 + "0; -> FAULT 1", "clear() -> 4",
            "tell p0" + (char) 160 + "; -> FAULT 2", "clear() -> 4", "tell " + (char) 10 + "p0; -> FAULT 0", "clear() -> 4",
            "tell p0;" + (char) 13 + " -> FAULT 3", "clear() -> 4", "tell p0;" + (char) 0 + " -> FAULT 3");
    }

    private static void items() {
        run("ITEMS (none, too)", "tell p1; -> 1", "town() -> 0", "count(1) -> 0", "count(0) -> 2");
        run("each ended by ;", "tell p0;p0 -> FAULT 5", "clear() -> 5", "tell p0 p0; -> FAULT 3", "clear() -> 6",
            "tell p0;; -> FAULT 3", "clear() -> 4", "tell ; -> FAULT 0", "count(1) -> 0");
        run("w: the first of all, if it is told", "tell p0;w3; -> FAULT 3", "clear() -> 6", "tell g1;w3; -> FAULT 3",
            "clear() -> 6", "tell f1;w3; -> FAULT 3", "clear() -> 6", "tell w3;w3; -> FAULT 3", "clear() -> 6",
            "tell p0;d0 0 0 9; w3; -> FAULT 13", "count(0) -> 2");
        run("g, f: once at most each", "tell g1;g1; -> FAULT 3", "clear() -> 6", "tell f0;f0; -> FAULT 3", "clear() -> 6",
            "tell g2;f3;g2; -> FAULT 6", "clear() -> 9", "tell f3;g2;p0;f3; -> FAULT 9", "clear() -> 12",
            "tell g2;f3; -> 2", "tell g2;f3; -> 2");
        run("g, f, p, d in any order behind w", "tell f1;p0;g9;d0 1 7 8;p1;d1 0 9 9; -> 6", "count(4) -> 1",
            "count(3) -> 9", "count(1 .. 2) -> 2", "duty(1, 0) -> 1", "person(1, 0) -> 1");
    }

    /** Each wrong token at each place of a text: the fault is its own place, whatever is told behind it. */
    private static void wrongTokens() {
        String[][] mayStand = {
            {"", "wpdgf"}, {"w", "#"}, {"w3", ";"}, {"w3;", "pdgf"}, {"p", "#"}, {"p0", ";"}, {"p0;", "pdgf"},
            {"p0;d", "#"}, {"p0;d0 ", "#"}, {"p0;d0 1 ", "#"}, {"p0;d0 1 5 ", "#"}, {"p0;d0 1 5 9", ";"},
            {"p0;d0 1 5 9;", "pdgf"}, {"g", "#"}, {"g3", ";"}, {"g3;", "pdf"}, {"f", "#"}, {"f3", ";"}, {"f3;", "pdg"},
            {"g3;f3;", "pd"}, {"p0;p0;p0;p0;p0;", "dgf"}, {"p0;" + "d0 0 0 1;".repeat(8), "pgf"}};
        String[] tokens = {"w", "p", "d", "g", "f", ";", "#", "01", "00", "240", "999", "W", "x", "-", ".", "" + (char) 255};
        for (String[] place : mayStand) {
            for (String token : tokens) {
                if (place[1].contains(token)) {
                    continue;
                }
                String blank = place[0].matches(".*\\d") ? " " : "";
                String text = place[0] + blank + token.replace("#", "1") + " ;x";
                due.is("FAULT: the first letter of the first TOKEN that can't stand there: \"" + text + "\"",
                    Due.tell(new AbsentBells(), text), -10 - place[0].length() - blank.length());
            }
        }
    }

    private static void textsThatEndTooEarly() {
        String whole = "w3;p2;d0 1 100 20;g4;f5;";
        for (int end = 0; end <= whole.length(); end++) {
            for (String blanks : new String[] {"", " ", "   "}) {
                String text = whole.substring(0, end) + blanks;
                boolean ended = end == 0 || whole.charAt(end - 1) == ';';
                long items = text.chars().filter(letter -> letter == ';').count();
                due.is("the text's length, if it ends too early: \"" + text + "\"",
                    Due.tell(new AbsentBells(), text), ended ? items : -10 - text.length());
            }
        }
        due.is("the text's length, 200", Due.tell(new AbsentBells(), " ".repeat(198) + "p0"), -210);
    }

    private static void numbersBeyond() {
        bounds("w", ";", 2, 6);
        bounds("p", ";", 0, 1);
        bounds("w3;p", ";", 0, 2);
        bounds("w6;p", ";", 0, 5);
        bounds("p0;d", " 0 0 1;", 0, 0);
        bounds("p0;p0;p0;p0;p0;d", " 0 0 1;", 0, 4);
        bounds("p0;d0 ", " 0 1;", 0, 1);
        bounds("w6;p0;d0 ", " 0 1;", 0, 5);
        bounds("p0;d0 0 ", " 1;", 0, 239);
        bounds("p0;d0 0 0 ", ";", 1, 60);
        bounds("g", ";", 1, 9);
        bounds("f", ";", 0, 9);
    }

    /** All numbers around a number's bounds, and those that a byte or an int would take for smaller ones. */
    private static void bounds(String ahead, String behind, int low, int high) {
        for (int number = 0; number <= 300; number++) {
            String text = ahead + number + behind;
            long items = text.chars().filter(letter -> letter == ';').count();
            due.is("a NUMBER beyond what it may be: \"" + text + "\"", Due.tell(new AbsentBells(), text),
                number >= low && number <= high ? items : -10 - ahead.length());
        }
        String[] large = {"65536", "65538", "4294967296", "4294967298", "18446744073709551618", "1".repeat(100)};
        for (String number : large) {
            due.is("a NUMBER above 239: " + ahead + number, Due.tell(new AbsentBells(), ahead + number + behind),
                -10 - ahead.length());
        }
        String[] zeros = {"00", "01", "02", "002", "05", "000000000001", "0".repeat(100)};
        for (String number : zeros) {
            due.is("a NUMBER with a 0 ahead of others: " + ahead + number,
                Due.tell(new AbsentBells(), ahead + number + behind), -10 - ahead.length());
        }
    }

    private static void wrongNumbers() {
        run("a NUMBER above 239", "tell p0;d0 0 239 1; -> 2", "tell p0;d0 0 240 1; -> FAULT 8", "clear() -> 14",
            "tell p240; -> FAULT 1", "clear() -> 5", "tell p0 240; -> FAULT 3", "clear() -> 7", "tell 240 -> FAULT 0");
        run("a NUMBER with a 0 ahead of others", "tell p0; -> 1", "tell p00; -> FAULT 1", "clear() -> 4",
            "tell p01; -> FAULT 1", "clear() -> 4", "tell p0;d0 0 010 1; -> FAULT 8", "clear() -> 14",
            "tell p0;d0 0 10 1; -> 2", "duty(0, 2) -> 10");
        run("of any other letter", "tell q -> FAULT 0", "clear() -> 1", "tell p0;q -> FAULT 3", "clear() -> 4",
            "tell p0q; -> FAULT 2", "clear() -> 4", "tell P0; -> FAULT 0", "clear() -> 3", "tell p-1; -> FAULT 1",
            "clear() -> 4", "tell p+1; -> FAULT 1", "clear() -> 4", "tell p0: -> FAULT 2", "clear() -> 3",
            "tell p0/ -> FAULT 2");
    }

    private static void firstFaultOfSeveral() {
        run("the first TOKEN that can't stand there", "tell p9;x240 00; -> FAULT 1", "clear() -> 11",
            "tell x;p9; -> FAULT 0", "clear() -> 5", "tell p0;d7 9 240 61; -> FAULT 4", "clear() -> 15",
            "tell p0;d0 9 240 61; -> FAULT 6", "clear() -> 15", "tell p0;d0 1 240 61; -> FAULT 8", "clear() -> 15",
            "tell p0;d0 1 239 61; -> FAULT 12", "clear() -> 15", "tell p0;d0 1 239 60x -> FAULT 14");
    }

    private static void readAnew() {
        run("Read anew: as told, MINUTE 0, nobody TOLLED for, nothing HEARD, IMAGES are gone, nothing can be UNDONE",
            "tell w6;p5;p1;d0 0 0 60;d1 3 9 9;g7;f0; -> 7", "goes(1, 2) -> 7", "excuses(0, 1) -> 1", "swaps(0, 1) -> 1",
            "excuses(0, 0) -> 0", "passes(9) -> 9", "hears(0, 3, 1) -> 1", "keep(0 .. 1) -> 9", "rate(1, 0) -> 60",
            "now(5) -> 5",
            "tell w6;p5;p1;d0 0 0 60;d1 3 9 9;g7;f0; -> 7", "now(0 .. 2) -> 0", "now(3) -> NONE", "now(4) -> 0", "now(5) -> 0",
            "count(5 .. 6) -> 0", "person(1, 0) -> 1", "person(1, 2 .. 3) -> 0", "duty(0, 0) -> 0", "duty(1, 0) -> 1",
            "duty(0 .. 1, 4) -> 0", "undo() -> STATE", "back(0 .. 1) -> STATE", "can(0) -> 63", "trace() -> 11");
        run("Read anew: nobody is on his way", "tell w3;p0; -> 2", "goes(0, 2) -> 4", "passes(1) -> 0", "person(0, 2) -> 3",
            "tell w3;p0; -> 2", "person(0, 0 .. 2) -> 0", "goes(0, 1) -> 2");
        run("what is not told as at first", "tell w6;p5;p1;d0 0 0 60;g7;f0; -> 6", "tell  -> 0", "count(0) -> 2",
            "count(1 .. 2) -> 0", "count(3) -> 2", "count(4) -> 3", "person(0, 0) -> BAD", "duty(0, 0) -> BAD",
            "now(4) -> NONE", "chord(0, 0) -> 240");
        run("4: THE TEXT is empty then", "tell p0; -> 1", "count(6) -> 0", "clear() -> 0", "type(112) -> 1");
    }

    private static void faultyTexts() {
        run("4: -10 less FAULT: nothing changes (THE TEXT stays, too)",
            "tell w6;p5;p1;d0 0 0 60;d1 3 9 9;g7;f0; -> 7", "goes(1, 2) -> 7", "excuses(1, 1) -> 1", "passes(9) -> 9",
            "hears(0, 3, 1) -> 1", "keep(1) -> 9", "swaps(0, 1) -> 1", "rate(5, 0) -> 60",
            "tell w2;p0;p0;p1;d2 1 0 1;g1;f9 -> FAULT 26", "count(6) -> 26", "town() -> FAULT 26", "type(59) -> 27",
            "town() -> 7", "count(0) -> 2", "count(6) -> 0", "person(2, 0) -> 1");
        run("4: a fault in the last of many ITEMS", "tell p1;f7; -> 2", "passes(3) -> 0",
            "tell w6;p5;p5;g9;f0;d1 5 0 60;d0 5 0 0; -> FAULT 32", "count(0) -> 2", "count(1) -> 1", "count(2) -> 0",
            "count(3) -> 2", "count(4) -> 7", "now(0) -> 3", "person(0, 5) -> 1", "clear() -> 34");
        run("4: g, f that a faulty text told may be told again", "tell g1;f1;x -> FAULT 6", "clear() -> 7",
            "tell f2;g3; -> 2", "count(3) -> 3", "count(4) -> 2");
    }

    private static void counts() {
        run("25: 0 PLACES, 1 PEOPLE, 2 DUTIES, 3 WALK, 4 FREE, 5 HEARD, 6 letters of THE TEXT; BAD",
            "tell w5;p4;p0;p1;d2 4 0 1;d1 0 0 1;g8;f7; -> 8", "hears(0, 0, 0) -> 1", "hears(0, 0, 0) -> 2",
            "hears(0, 0, 0) -> 3", "hears(0, 0, 0) -> 4", "type(112) -> 1", "count(0) -> 5", "count(1) -> 3", "count(2) -> 2",
            "count(3) -> 8", "count(4) -> 7", "count(5) -> 4", "count(6) -> 1", "count(-1) -> BAD", "count(7) -> BAD",
            "count(MIN) -> BAD", "count(MAX) -> BAD");
    }
}
