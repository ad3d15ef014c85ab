/** Promises 13 rings, 14 chord, 15 silence. */
public final class BellsTest {
    private static final Due due = new Due();

    public static void main(String[] args) {
        rings();
        ringsOnTheWay();
        chord();
        silence();
        silenceOverMinutes();
        silenceFromNowOn();
        due.end();
    }

    private static void rings() {
        AbsentBells bells = Due.told("p0;p1;p0;d0 1 10 20;d1 0 20 20;d2 0 0 60;f2;");
        for (int minute = 0; minute < 240; minute++) {
            int want = (minute >= 12 && minute < 30 ? 1 : 0) + (minute >= 22 && minute < 40 ? 2 : 0);
            due.is("rings(" + minute + ")", bells.rings(minute), want);
        }
        due.is("rings(-1)", bells.rings(-1), AbsentBells.BAD);
        due.is("rings(240)", bells.rings(240), AbsentBells.BAD);
        due.is("rings(least int)", bells.rings(Integer.MIN_VALUE), AbsentBells.BAD);
        due.is("nothing is changed", bells.now(2), 0);
        bells.passes(25);
        due.is("rings(24)", bells.rings(24), AbsentBells.BAD);
        due.is("rings(25)", bells.rings(25), 3);
        due.is("rings(30)", bells.rings(30), 2);
        bells.excuses(1, 1);
        due.is("excused", bells.rings(30), 0);
        bells.passes(215);
        due.is("no minute is left", bells.rings(240), AbsentBells.BAD);
        due.is("no minute is left", bells.rings(239), AbsentBells.BAD);
        AbsentBells edge = Due.told("p0;d0 1 239 60;f0;");
        due.is("rings(238)", edge.rings(238), 0);
        due.is("rings(239)", edge.rings(239), 1);
    }

    private static void ringsOnTheWay() {
        AbsentBells bells = Due.told("w4;p0;d0 3 0 20;d0 0 30 9;f0;g3;");
        bells.goes(0, 3);
        due.is("the last minute of the way", bells.rings(8), 1);
        due.is("he is there", bells.rings(9), 0);
        due.is("the other place", bells.rings(30), 1);
        bells.passes(4);
        due.is("the last minute of the way", bells.rings(8), 1);
        due.is("he is there", bells.rings(9), 0);
    }

    private static void chord() {
        AbsentBells bells = Due.told("p0;p1;p0;d0 1 10 20;d1 0 20 20;d2 0 0 60;f2;");
        long[][] want = {{240 - 28, 0}, {10, 12}, {10, 30}, {8, 22}, {0, AbsentBells.NONE}};
        for (int set = 0; set < want.length; set++) {
            due.is("chord(" + set + ", 0)", bells.chord(set, 0), want[set][0]);
            due.is("chord(" + set + ", 1)", bells.chord(set, 1), want[set][1]);
        }
        bells.passes(25);
        due.is("from now on", bells.chord(3, 0), 5);
        due.is("the first from now on", bells.chord(3, 1), 25);
        due.is("gone by", bells.chord(1, 1), AbsentBells.NONE);
        int[][] bad = {{8, 0}, {-1, 0}, {0, 2}, {0, -1}, {1 << 31, 1}, {32, 1}};
        for (int[] b : bad) {
            due.is("chord(" + b[0] + ", " + b[1] + ")", bells.chord(b[0], b[1]), AbsentBells.BAD);
        }
        due.is("all of them is fine", bells.chord(7, 0), 0);
        bells.passes(215);
        due.is("no minute", bells.chord(0, 0), 0);
        due.is("no first", bells.chord(0, 1), AbsentBells.NONE);
        AbsentBells five = Due.told("p0;p0;p0;p0;p0;");
        due.is("chord(31, 0)", five.chord(31, 0), 0);
        due.is("chord(32, 0)", five.chord(32, 0), AbsentBells.BAD);
    }

    private static void silence() {
        AbsentBells bells = Due.told("p0;p0;p0;d0 1 0 9;d1 1 0 9;d1 1 5 9;d0 0 0 60;f0;");
        due.is("one duty", bells.silence(1), 1);
        due.is("two duties", bells.silence(2), 6);
        due.is("as few: the least", bells.silence(3), 1);
        due.is("never rung for", bells.silence(4), 0);
        due.is("one of them never", bells.silence(7), 0);
        due.is("nothing is changed", bells.now(1), 0);
        due.is("silence(0)", bells.silence(0), AbsentBells.BAD);
        due.is("silence(8)", bells.silence(8), AbsentBells.BAD);
        due.is("silence(-1)", bells.silence(-1), AbsentBells.BAD);
        due.is("silence(least int)", bells.silence(Integer.MIN_VALUE), AbsentBells.BAD);
        bells.excuses(2, 1);
        due.is("besides those that are excused", bells.silence(2), 2);
        AbsentBells fewer = Due.told("p0;p0;d0 1 0 9;d0 1 0 9;d1 1 0 9;f0;");
        due.is("fewer, though not the least", fewer.silence(3), 4);
    }

    /** Two chords apart: 0 with 1, then 2 with 1; one duty that is in both. */
    private static void silenceOverMinutes() {
        AbsentBells bells = Due.told("p0;p0;d0 1 0 9;d1 1 0 60;d0 1 20 9;f0;");
        due.is("one for both chords", bells.silence(3), 2);
        AbsentBells apart = Due.told("p0;p0;d0 1 0 9;d1 1 0 9;d0 1 20 9;d1 1 20 9;f0;");
        due.is("one for each chord", apart.silence(3), 5);
        AbsentBells all = Due.told("p0;" + Due.repeat("d0 1 0 9;", 8) + "f0;");
        due.is("all eight", all.silence(1), 255);
        all.excuses(0, 1);
        all.excuses(7, 1);
        due.is("all that are left", all.silence(1), 126);
        AbsentBells same = Due.told("p0;p0;d0 1 0 9;d0 1 9 9;d0 1 18 9;d1 1 0 20;d1 1 20 20;f0;");
        // The third with both of the other's, the fourth with all three: these two.
        due.is("one of each", same.silence(3), 12);
    }

    private static void silenceFromNowOn() {
        AbsentBells bells = Due.told("p0;d0 1 0 9;d0 1 20 9;f0;");
        due.is("both", bells.silence(1), 3);
        bells.passes(9);
        due.is("the first is over", bells.silence(1), 2);
        bells.goes(0, 1);
        due.is("he arrives in time", bells.silence(1), 0);
        bells.passes(231);
        due.is("the day is over", bells.silence(1), 0);
    }
}
