/** Promise 16 least. */
public final class WaysTest {
    private static final Due due = new Due();

    public static void main(String[] args) {
        inTime();
        choice();
        bothPlacesAtOnce();
        endOfDay();
        onTheWay();
        wrong();
        due.end();
    }

    private static void least(AbsentBells bells, int p, int tolls, int to) {
        due.is("least(" + p + ", 0) at " + bells.now(0), bells.least(p, 0), tolls);
        due.is("least(" + p + ", 1) at " + bells.now(0), bells.least(p, 1), to);
    }

    private static void inTime() {
        AbsentBells bells = Due.told("w3;p0;d0 2 10 20;g2;f0;");
        least(bells, 0, 0, 0);
        bells.passes(5);
        least(bells, 0, 0, 0);
        bells.passes(1);
        // Gone to 1 in minute 6 he is there in 8, and gone on at once in 2 in 10.
        least(bells, 0, 0, 1);
        bells.passes(1);
        least(bells, 0, 1, 1);
        due.is("nothing is changed", bells.person(0, 2), 0);
        bells.goes(0, 2);
        least(bells, 0, 1, 2);
        bells.passes(10);
        due.is("one toll", bells.person(0, 3), 1);
        least(bells, 0, 0, 2);
    }

    /** A duty here, a longer one far off in the same minutes: he leaves the shorter one. */
    private static void choice() {
        AbsentBells bells = Due.told("p0;d0 0 10 5;d0 1 10 9;g9;f0;");
        // At 0 all day he tolls 10 .. 18 for the other one; at 1 from 10 on, 10 .. 14 for the first one.
        least(bells, 0, 5, 0);
        bells.passes(5);
        least(bells, 0, 5, 0);
        bells.passes(1);
        // Gone in minute 6 he arrives in 15, when the first one is over: tolls 10 .. 14.
        least(bells, 0, 5, 1);
        bells.passes(1);
        least(bells, 0, 6, 1);
        bells.excuses(1, 1);
        least(bells, 0, 0, 0);
        AbsentBells free = Due.told("p0;d0 1 10 20;g1;");
        free.passes(12);
        least(free, 0, 0, 1);
        AbsentBells later = Due.told("p0;d0 1 10 20;g1;");
        later.passes(11);
        least(later, 0, 0, 0);
    }

    private static void bothPlacesAtOnce() {
        AbsentBells bells = Due.told("w3;p1;d0 0 0 10;d0 2 0 10;f0;g1;");
        least(bells, 0, 10, 0);
        AbsentBells stay = Due.told("w3;p1;d0 1 0 60;f0;g1;");
        least(stay, 0, 0, 1);
    }

    private static void endOfDay() {
        AbsentBells bells = Due.told("w6;p5;p5;d1 5 239 60;d1 0 235 1;g9;f0;");
        least(bells, 0, 0, 0);
        bells.passes(235);
        // The way is longer than the day: for one without duties as good as any other.
        least(bells, 0, 0, 0);
        least(bells, 1, 1, 5);
        bells.passes(4);
        least(bells, 1, 0, 5);
        bells.passes(1);
        least(bells, 0, 0, 5);
        least(bells, 1, 0, 5);
        bells.goes(0, 3);
        least(bells, 0, 0, 3);
    }

    private static void onTheWay() {
        AbsentBells bells = Due.told("p0;d0 0 5 10;g9;f0;");
        bells.goes(0, 1);
        // There in minute 9, gone back at once he would be there in 18: tolls 5 .. 14.
        least(bells, 0, 10, 1);
        AbsentBells back = Due.told("p0;d0 0 5 10;g2;f0;");
        back.goes(0, 1);
        back.passes(1);
        least(back, 0, 0, 1);
        AbsentBells late = Due.told("p0;d0 1 230 10;g9;f0;");
        late.passes(235);
        late.goes(0, 1);
        least(late, 0, 5, 1);
    }

    private static void wrong() {
        AbsentBells bells = Due.told("p0;p0;");
        int[][] bad = {{2, 0}, {-1, 0}, {0, 2}, {0, -1}, {Integer.MAX_VALUE, 0}, {0, Integer.MIN_VALUE}};
        for (int[] b : bad) {
            due.is("least(" + b[0] + ", " + b[1] + ")", bells.least(b[0], b[1]), AbsentBells.BAD);
        }
    }
}
