/** Promises 5 person, 6 duty, 7 now. */
public final class LooksTest {
    private static final Due due = new Due();

    public static void main(String[] args) {
        people();
        rungInTheMinute();
        duties();
        nows();
        worst();
        next();
        due.end();
    }

    private static void looks(AbsentBells bells, int p, long... want) {
        for (int what = 0; what < want.length; what++) {
            due.is("person(" + p + ", " + what + ") at " + bells.now(0), bells.person(p, what), want[what]);
        }
    }

    private static void people() {
        AbsentBells bells = Due.told("w6;p5;p1;d0 0 0 10;d1 1 0 60;g9;f0;");
        looks(bells, 0, 5, 5, 0, 0, 1, 5);
        looks(bells, 1, 1, 1, 0, 0, 0, 1);
        bells.goes(0, 0);
        looks(bells, 0, AbsentBells.NONE, 0, 45, 0, 1, 5);
        bells.passes(10);
        looks(bells, 0, AbsentBells.NONE, 0, 35, 10, 0, 5);
        bells.goes(1, 0);
        looks(bells, 1, AbsentBells.NONE, 0, 9, 0, 1, 1);
        bells.passes(34);
        looks(bells, 0, AbsentBells.NONE, 0, 1, 10, 0, 5);
        bells.passes(1);
        looks(bells, 0, 0, 0, 0, 10, 0, 5);
        looks(bells, 1, 0, 0, 0, 35, 1, 1);
        int[][] bad = {{2, 0}, {-1, 0}, {5, 0}, {0, 6}, {0, -1}, {Integer.MAX_VALUE, 0}, {0, Integer.MIN_VALUE}};
        for (int[] b : bad) {
            due.is("person(" + b[0] + ", " + b[1] + ")", bells.person(b[0], b[1]), AbsentBells.BAD);
        }
    }

    /** Free minutes, the duty's end, the day's end, excuses. */
    private static void rungInTheMinute() {
        AbsentBells bells = Due.told("p0;d0 1 10 6;d0 1 236 60;");
        int[] rung = new int[241];
        for (int minute = 0; minute <= 240; minute++) {
            rung[minute] = bells.person(0, 4);
            if (minute < 240) {
                bells.passes(1);
            }
        }
        for (int minute = 0; minute <= 240; minute++) {
            boolean want = minute >= 13 && minute <= 15 || minute == 239;
            due.is("rung for in " + minute, rung[minute], want ? 1 : 0);
        }
        AbsentBells other = Due.told("p0;d0 1 0 3;d0 1 0 4;");
        other.passes(3);
        due.is("a duty as long as FREE alone is never rung for", other.person(0, 4), 1);
        other.excuses(1, 1);
        due.is("excused", other.person(0, 4), 0);
        AbsentBells two = Due.told("w3;p0;d0 1 0 9;d0 2 0 5;f0;");
        two.goes(0, 1);
        two.passes(2);
        due.is("at one duty's place, not the other's", two.person(0, 4), 1);
        two.passes(3);
        due.is("the other one is over", two.person(0, 4), 0);
    }

    private static void duties() {
        AbsentBells bells = Due.told("w4;p0;p1;d1 3 239 60;d0 0 0 1;");
        long[][] want = {{1, 3, 239, 60, 0}, {0, 0, 0, 1, 0}};
        for (int d = 0; d < want.length; d++) {
            for (int what = 0; what < want[d].length; what++) {
                due.is("duty(" + d + ", " + what + ")", bells.duty(d, what), want[d][what]);
            }
        }
        bells.swaps(0, 1);
        bells.excuses(1, 1);
        due.is("swapped: duty(0, 0)", bells.duty(0, 0), 0);
        due.is("swapped: duty(1, 0)", bells.duty(1, 0), 1);
        due.is("its place stays", bells.duty(0, 1), 3);
        due.is("not excused: duty(0, 4)", bells.duty(0, 4), 0);
        due.is("excused: duty(1, 4)", bells.duty(1, 4), 1);
        int[][] bad = {{2, 0}, {-1, 0}, {8, 0}, {0, 5}, {0, -1}, {Integer.MIN_VALUE, 0}, {0, Integer.MAX_VALUE}};
        for (int[] b : bad) {
            due.is("duty(" + b[0] + ", " + b[1] + ")", bells.duty(b[0], b[1]), AbsentBells.BAD);
        }
    }

    private static void nows() {
        AbsentBells bells = Due.told("p0;p0;d0 1 5 10;d1 1 7 10;f0;d1 1 100 1;");
        due.is("next", bells.now(4), 5);
        bells.excuses(2, 1);
        bells.excuses(0, 1);
        due.is("excused bits", bells.now(1), 5);
        due.is("next, excused", bells.now(4), 7);
        bells.excuses(0, 0);
        bells.passes(9);
        due.is("minute", bells.now(0), 9);
        due.is("tolled", bells.now(2), 4 + 2);
        due.is("worst", bells.now(3), 0);
        due.is("next is now", bells.now(4), 9);
        due.is("undone", bells.now(5), 4);
        due.is("now(6)", bells.now(6), AbsentBells.BAD);
        due.is("now(-1)", bells.now(-1), AbsentBells.BAD);
    }

    private static void worst() {
        AbsentBells bells = Due.told("p0;p0;p0;d1 1 0 4;d2 1 2 5;f0;");
        due.is("nobody", bells.now(3), AbsentBells.NONE);
        bells.passes(1);
        due.is("one", bells.now(3), 1);
        bells.passes(5);
        due.is("as often: the lowest", bells.now(3), 1);
        bells.passes(1);
        due.is("more often", bells.now(3), 2);
        bells.undo();
        due.is("undone", bells.now(3), 1);
    }

    private static void next() {
        AbsentBells bells = Due.told("w3;p0;d0 2 3 20;d0 0 50 1;f0;g2;");
        due.is("next", bells.now(4), 3);
        bells.goes(0, 2);
        due.is("on his way until minute 4", bells.now(4), 3);
        bells.passes(4);
        due.is("there", bells.now(4), 50);
        bells.passes(46);
        due.is("now itself", bells.now(4), 50);
        bells.passes(1);
        due.is("none", bells.now(4), AbsentBells.NONE);
        bells.passes(189);
        due.is("at the day's end", bells.now(4), AbsentBells.NONE);
    }
}
