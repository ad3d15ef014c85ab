/** Promises 17 hears, 18 forget, 19 can, 20 tells, 21 odds. */
public final class HeardTest {
    private static final Due due = new Due();

    public static void main(String[] args) {
        hears();
        can();
        canAsNow();
        tells();
        odds();
        oddsOfMany();
        wrongOdds();
        due.end();
    }

    private static void hears() {
        AbsentBells bells = Due.told("p0;p0;");
        int[][] bad = {{2, 0, 0}, {-1, 0, 0}, {0, 240, 0}, {0, -1, 0}, {0, 0, 2}, {0, 0, -1}};
        for (int[] b : bad) {
            due.is("hears(" + b[0] + ", " + b[1] + ", " + b[2] + ")", bells.hears(b[0], b[1], b[2]), AbsentBells.BAD);
        }
        for (int i = 1; i <= 6; i++) {
            due.is("hears", bells.hears(i % 2, i == 6 ? 239 : 0, 0), i);
        }
        due.is("a seventh", bells.hears(0, 0, 0), AbsentBells.FULL);
        due.is("BAD is ahead of FULL", bells.hears(0, 0, 2), AbsentBells.BAD);
        due.is("count(5)", bells.count(5), 6);
        due.is("now(5)", bells.now(5), 0);
        due.is("forget()", bells.forget(), 6);
        due.is("forget() again", bells.forget(), 0);
        due.is("count(5)", bells.count(5), 0);
        due.is("hears", bells.hears(1, 0, 1), 1);
        bells.passes(240);
        due.is("a minute that is gone", bells.hears(1, 0, 0), 2);
    }

    private static void can() {
        AbsentBells bells = Due.told("w4;p0;p3;d0 1 10 20;d0 2 20 20;d1 0 0 60;f5;");
        due.is("nothing was heard", bells.can(0), 15);
        bells.hears(0, 14, 0);
        due.is("within FREE", bells.can(0), 15);
        bells.hears(0, 15, 1);
        due.is("not at 1", bells.can(0), 13);
        due.is("of another one", bells.can(1), 15);
        bells.hears(0, 30, 0);
        due.is("at 2", bells.can(0), 4);
        bells.hears(0, 26, 0);
        due.is("nowhere", bells.can(0), 0);
        bells.forget();
        due.is("forgotten", bells.can(0), 15);
        bells.hears(0, 26, 1);
        due.is("two duties at once", bells.can(0), 15);
        bells.hears(1, 50, 0);
        due.is("can(1)", bells.can(1), 1);
        bells.hears(1, 50, 1);
        due.is("both can't be", bells.can(1), 0);
        due.is("can(2)", bells.can(2), AbsentBells.BAD);
        due.is("can(-1)", bells.can(-1), AbsentBells.BAD);
    }

    private static void canAsNow() {
        AbsentBells bells = Due.told("p0;p0;d0 1 10 20;d1 0 10 20;f0;");
        bells.hears(0, 10, 0);
        due.is("as told", bells.can(0), 2);
        bells.swaps(0, 1);
        due.is("swapped", bells.can(0), 1);
        bells.excuses(1, 1);
        due.is("excused", bells.can(0), 3);
        bells.passes(200);
        bells.goes(0, 1);
        due.is("wherever he is now", bells.can(0), 3);
    }

    private static void tells() {
        AbsentBells bells = Due.told("w4;p0;p3;d0 1 10 20;d0 2 10 40;d1 0 239 60;f1;");
        due.is("rung for at both, then at 1", bells.tells(0, 1, 2), 30);
        due.is("the other way round", bells.tells(0, 2, 1), 30);
        due.is("rung for at 0", bells.tells(0, 0, 2), 30);
        due.is("alike", bells.tells(0, 0, 3), AbsentBells.NONE);
        due.is("the same", bells.tells(0, 2, 2), AbsentBells.NONE);
        due.is("never rung for", bells.tells(1, 0, 1), AbsentBells.NONE);
        bells.excuses(1, 1);
        due.is("excused", bells.tells(0, 1, 2), 11);
        due.is("excused", bells.tells(0, 0, 2), AbsentBells.NONE);
        bells.passes(200);
        due.is("minutes that are gone, too", bells.tells(0, 1, 0), 11);
        bells.swaps(0, 2);
        due.is("swapped", bells.tells(1, 1, 0), 11);
        int[][] bad = {{2, 0, 1}, {-1, 0, 1}, {0, 4, 1}, {0, -1, 1}, {0, 0, 4}, {0, 0, -1}, {0, 4, 4}};
        for (int[] b : bad) {
            due.is("tells(" + b[0] + ", " + b[1] + ", " + b[2] + ")", bells.tells(b[0], b[1], b[2]), AbsentBells.BAD);
        }
        AbsentBells last = Due.told("p0;d0 1 239 60;f0;");
        due.is("the last minute", last.tells(0, 0, 1), 239);
    }

    private static void fraction(AbsentBells bells, int p, int minute, int x, long upper, long lower) {
        String call = "odds(" + p + ", " + minute + ", " + x;
        due.is(call + ", 0)", bells.odds(p, minute, x, 0), upper);
        due.is(call + ", 1)", bells.odds(p, minute, x, 1), lower);
    }

    private static void odds() {
        AbsentBells bells = Due.told("w3;p0;p1;d0 1 10 20;d0 2 20 20;d0 0 0 60;d1 1 0 60;f5;");
        fraction(bells, 0, 14, 5, 0, 1);
        fraction(bells, 0, 15, 5, 1, 2);
        fraction(bells, 0, 25, 5, 3, 4);
        fraction(bells, 0, 25, 4, 21, 25);
        fraction(bells, 0, 25, 0, 1, 1);
        fraction(bells, 0, 25, 10, 0, 1);
        fraction(bells, 0, 30, 3, 7, 10);
        fraction(bells, 0, 40, 3, 0, 1);
        fraction(bells, 0, 5, 0, 0, 1);
        fraction(bells, 1, 25, 0, 0, 1);
        bells.goes(0, 1);
        bells.passes(100);
        fraction(bells, 0, 25, 5, 3, 4);
        bells.excuses(0, 1);
        fraction(bells, 0, 25, 4, 3, 5);
        bells.swaps(1, 3);
        fraction(bells, 1, 25, 4, 3, 5);
        fraction(bells, 0, 25, 4, 3, 5);
        fraction(bells, 0, 239, 4, 0, 1);
    }

    private static void oddsOfMany() {
        AbsentBells bells = Due.told("p0;" + Due.repeat("d0 1 0 60;", 8) + "f0;");
        fraction(bells, 0, 0, 5, 255, 256);
        fraction(bells, 0, 59, 3, 100000000 - 6561, 100000000);
        fraction(bells, 0, 59, 9, 100000000 - 43046721, 100000000);
        fraction(bells, 0, 59, 8, 390625 - 65536, 390625);
        fraction(bells, 0, 60, 8, 0, 1);
    }

    private static void wrongOdds() {
        AbsentBells bells = Due.told("p0;");
        int[][] bad = {{1, 0, 0, 0}, {-1, 0, 0, 0}, {0, 240, 0, 0}, {0, -1, 0, 0}, {0, 0, 11, 0}, {0, 0, -1, 0},
            {0, 0, 0, 2}, {0, 0, 0, -1}};
        for (int[] b : bad) {
            due.is("odds(" + b[0] + ", " + b[1] + ", " + b[2] + ", " + b[3] + ")",
                bells.odds(b[0], b[1], b[2], b[3]), AbsentBells.BAD);
        }
    }
}
