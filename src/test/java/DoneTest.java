/** Promises 8 goes, 9 passes, 10 excuses, 11 swaps, 12 undo. */
public final class DoneTest {
    private static final Due due = new Due();

    public static void main(String[] args) {
        goes();
        passes();
        tolls();
        excuses();
        swaps();
        undo();
        tenAreKnown();
        refusedAreNotUndone();
        due.end();
    }

    private static void goes() {
        AbsentBells bells = Due.told("w6;p1;p5;g4;");
        due.is("goes(0, 4)", bells.goes(0, 4), 12);
        due.is("goes(1, 0)", bells.goes(1, 0), 20);
        due.is("on his way", bells.goes(0, 1), AbsentBells.STATE);
        due.is("on his way, to the same", bells.goes(0, 4), AbsentBells.STATE);
        due.is("BAD is ahead of STATE", bells.goes(0, 6), AbsentBells.BAD);
        int[][] bad = {{2, 0}, {-1, 0}, {0, -1}, {1, 6}, {Integer.MIN_VALUE, 0}, {0, Integer.MAX_VALUE}};
        for (int[] b : bad) {
            due.is("goes(" + b[0] + ", " + b[1] + ")", bells.goes(b[0], b[1]), AbsentBells.BAD);
        }
        bells.passes(11);
        due.is("one minute to go", bells.goes(0, 1), AbsentBells.STATE);
        bells.passes(1);
        due.is("is there", bells.goes(0, 4), AbsentBells.STATE);
        due.is("goes on", bells.goes(0, 3), 4);
        bells.passes(228);
        due.is("when the day is over", bells.goes(1, 1), 4);
    }

    private static void passes() {
        AbsentBells bells = Due.told("p0;");
        int[] bad = {0, -1, 241, Integer.MIN_VALUE, Integer.MAX_VALUE};
        for (int n : bad) {
            due.is("passes(" + n + ")", bells.passes(n), AbsentBells.BAD);
        }
        due.is("passes(1)", bells.passes(1), 0);
        due.is("more than over", bells.passes(240), AbsentBells.STATE);
        due.is("minute", bells.now(0), 1);
        due.is("just over", bells.passes(239), 0);
        due.is("minute", bells.now(0), 240);
        due.is("it is over", bells.passes(1), AbsentBells.STATE);
        due.is("BAD is ahead of STATE", bells.passes(241), AbsentBells.BAD);
        due.is("a day", Due.told("").passes(240), 0);
    }

    private static void tolls() {
        AbsentBells two = Due.told("w3;p0;d0 1 0 9;d0 2 0 9;f0;");
        due.is("once in a minute for two duties", two.passes(9), 9);
        AbsentBells way = Due.told("w3;p0;d0 2 0 9;f0;g2;");
        way.goes(0, 2);
        due.is("on his way", way.passes(4), 4);
        due.is("there", way.passes(5), 0);
        AbsentBells last = Due.told("p0;p0;d0 1 239 60;d1 1 230 60;f0;");
        due.is("those before 240 alone", last.passes(240), 1 + 10);
        due.is("person(0, 3)", last.person(0, 3), 1);
        due.is("person(1, 3)", last.person(1, 3), 10);
        AbsentBells free = Due.told("p0;d0 1 20 10;f9;");
        due.is("the first FREE minutes", free.passes(29), 0);
        due.is("the last minute", free.passes(1), 1);
        due.is("behind it", free.passes(1), 0);
        AbsentBells arrives = Due.told("p0;d0 1 3 5;g5;");
        arrives.goes(0, 1);
        due.is("arrives within FREE", arrives.passes(20), 0);
    }

    private static void excuses() {
        AbsentBells bells = Due.told("p0;d0 1 0 9;d0 1 0 9;d0 1 0 9;f0;");
        due.is("it is so", bells.excuses(1, 0), AbsentBells.STATE);
        due.is("excuses(1, 1)", bells.excuses(1, 1), 1);
        due.is("it is so", bells.excuses(1, 1), AbsentBells.STATE);
        due.is("excuses(2, 1)", bells.excuses(2, 1), 2);
        due.is("two are left out", bells.passes(3), 3);
        due.is("excuses(0, 1)", bells.excuses(0, 1), 3);
        due.is("all are left out", bells.passes(3), 0);
        due.is("excuses(2, 0)", bells.excuses(2, 0), 2);
        due.is("it rings again", bells.passes(3), 3);
        int[][] bad = {{3, 1}, {-1, 1}, {8, 0}, {0, 2}, {0, -1}, {Integer.MAX_VALUE, 1}, {32, 1}};
        for (int[] b : bad) {
            due.is("excuses(" + b[0] + ", " + b[1] + ")", bells.excuses(b[0], b[1]), AbsentBells.BAD);
        }
    }

    private static void swaps() {
        AbsentBells bells = Due.told("p0;p1;d0 1 0 9;d1 1 0 9;d0 0 0 9;f0;");
        due.is("swaps(0, 1)", bells.swaps(0, 1), 1);
        due.is("duty(1, 0)", bells.duty(1, 0), 0);
        due.is("rings are alike", bells.rings(0), 1);
        due.is("swaps(1, 2)", bells.swaps(1, 2), AbsentBells.STATE);
        due.is("swaps(2, 0)", bells.swaps(2, 0), 1);
        due.is("both are away from home", bells.rings(0), 3);
        due.is("swaps(0, 0)", bells.swaps(0, 0), AbsentBells.STATE);
        int[][] bad = {{3, 0}, {0, 3}, {-1, 0}, {0, -1}, {3, 3}, {Integer.MAX_VALUE, 0}, {0, Integer.MIN_VALUE}};
        for (int[] b : bad) {
            due.is("swaps(" + b[0] + ", " + b[1] + ")", bells.swaps(b[0], b[1]), AbsentBells.BAD);
        }
    }

    private static void undo() {
        AbsentBells bells = Due.told("w3;p0;p1;d0 2 0 9;d1 0 0 9;f0;");
        bells.goes(0, 2);
        bells.passes(3);
        bells.swaps(0, 1);
        bells.excuses(1, 1);
        bells.hears(0, 0, 1);
        bells.keep(0);
        bells.rate(0, 0);
        bells.type('p');
        due.is("undo excuses", bells.undo(), 3);
        due.is("now(1)", bells.now(1), 0);
        due.is("undo swaps", bells.undo(), 2);
        due.is("duty(0, 0)", bells.duty(0, 0), 0);
        due.is("duty(1, 0)", bells.duty(1, 0), 1);
        due.is("undo passes", bells.undo(), 1);
        due.is("now(0)", bells.now(0), 0);
        due.is("now(2)", bells.now(2), 0);
        due.is("person(0, 2)", bells.person(0, 2), 4);
        due.is("undo goes", bells.undo(), 0);
        due.is("person(0, 0)", bells.person(0, 0), 0);
        due.is("person(0, 2)", bells.person(0, 2), 0);
        due.is("none", bells.undo(), AbsentBells.STATE);
        due.is("what was heard stays", bells.count(5), 1);
        due.is("the text stays", bells.count(6), 1);
        due.is("the trace goes on", bells.trace(), 1);
        due.is("the image stays", bells.back(0), 3);
        due.is("as kept", bells.now(1), 2);
    }

    private static void tenAreKnown() {
        AbsentBells bells = Due.told("p0;");
        for (int i = 1; i <= 25; i++) {
            bells.passes(1);
            due.is("now(5)", bells.now(5), Math.min(i, 10));
        }
        for (int i = 9; i >= 3; i--) {
            due.is("undo()", bells.undo(), i);
        }
        due.is("now(0)", bells.now(0), 18);
        bells.passes(5);
        due.is("now(5)", bells.now(5), 4);
        for (int i = 3; i >= 0; i--) {
            due.is("undo()", bells.undo(), i);
        }
        due.is("older ones are lost", bells.undo(), AbsentBells.STATE);
        due.is("now(0)", bells.now(0), 15);
    }

    private static void refusedAreNotUndone() {
        AbsentBells bells = Due.told("p0;d0 0 0 1;");
        bells.goes(0, 0);
        bells.goes(0, 2);
        bells.passes(0);
        bells.excuses(0, 0);
        bells.excuses(0, 2);
        bells.swaps(0, 0);
        bells.swaps(0, 1);
        due.is("now(5)", bells.now(5), 0);
        bells.passes(240);
        bells.passes(1);
        due.is("now(5)", bells.now(5), 1);
        due.is("undo()", bells.undo(), 0);
    }
}
