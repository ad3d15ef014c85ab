/** Promises 22 rate, 23 keep, 24 back, 26 trace. */
public final class KindsTest {
    private static final Due due = new Due();

    public static void main(String[] args) {
        rate();
        wrongRate();
        trace();
        keepAndBack();
        imagesApart();
        backEndsUndo();
        due.end();
    }

    private static void rates(AbsentBells bells, int d, long... want) {
        for (int kind = 0; kind < want.length; kind++) {
            due.is("rate(" + kind + ", " + d + ")", bells.rate(kind, d), want[kind]);
        }
    }

    private static void rate() {
        AbsentBells bells = Due.told("w5;p0;p0;d0 4 5 20;d1 3 0 1;f0;");
        rates(bells, 0, 20, 24, 20, 48, 20, 20);
        rates(bells, 1, 1, 4, 1, 8, 2, 1);
        bells.excuses(1, 1);
        rates(bells, 1, 1, 4, -6, 8, -5, 1);
        bells.passes(10);
        rates(bells, 0, 20, 24, 20, 48, 20, 25);
        bells.swaps(0, 1);
        rates(bells, 0, 20, 24, 20, 48, 20, 20);
        rates(bells, 1, 1, 4, -6, 8, -5, 6);
    }

    private static void wrongRate() {
        AbsentBells bells = Due.told("p0;d0 1 0 9;");
        int[][] bad = {{6, 0}, {-1, 0}, {0, 1}, {0, -1}, {Integer.MAX_VALUE, 0}, {0, Integer.MIN_VALUE}, {5, 8}};
        for (int[] b : bad) {
            due.is("rate(" + b[0] + ", " + b[1] + ")", bells.rate(b[0], b[1]), AbsentBells.NO);
        }
        due.is("trace()", bells.trace(), 0);
    }

    private static void trace() {
        AbsentBells bells = Due.told("p0;d0 1 0 9;");
        long[] added = {1, 11, 101, 1011, 10101, 100001};
        long sum = 0;
        for (int kind = 0; kind < added.length; kind++) {
            bells.rate(kind, 0);
            sum += added[kind];
            due.is("trace() behind kind " + kind, bells.trace(), sum);
        }
        bells.passes(1);
        bells.keep(0);
        bells.rate(0, 0);
        bells.undo();
        due.is("trace() behind undo()", bells.trace(), sum + 1);
        bells.back(0);
        due.is("trace() behind back()", bells.trace(), sum + 1);
        Due.tell(bells, "p0;");
        due.is("trace() behind town()", bells.trace(), sum + 1);
        bells.rate(0, 0);
        due.is("trace() behind what was refused", bells.trace(), sum + 1);
    }

    private static void keepAndBack() {
        AbsentBells bells = Due.told("w3;p0;p1;d0 2 0 60;d1 1 0 60;f0;g5;");
        bells.goes(0, 2);
        bells.passes(3);
        bells.excuses(1, 1);
        due.is("keep(1)", bells.keep(1), 3);
        due.is("keep is not undone", bells.now(5), 3);
        bells.passes(20);
        bells.goes(0, 1);
        bells.goes(1, 0);
        bells.excuses(0, 1);
        bells.swaps(0, 1);
        bells.hears(0, 1, 1);
        due.is("back(0)", bells.back(0), AbsentBells.STATE);
        due.is("back(1)", bells.back(1), 3);
        long[] first = {AbsentBells.NONE, 2, 7, 3, 1, 0};
        long[] second = {1, 1, 0, 0, 0, 1};
        for (int what = 0; what < first.length; what++) {
            due.is("person(0, " + what + ")", bells.person(0, what), first[what]);
            due.is("person(1, " + what + ")", bells.person(1, what), second[what]);
        }
        due.is("now(0)", bells.now(0), 3);
        due.is("now(1)", bells.now(1), 2);
        due.is("duty(0, 0)", bells.duty(0, 0), 0);
        due.is("duty(1, 0)", bells.duty(1, 0), 1);
        due.is("what was heard stays", bells.count(5), 1);
        bells.passes(1);
        due.is("an image lasts", bells.back(1), 3);
    }

    private static void imagesApart() {
        AbsentBells bells = Due.told("p0;");
        int[] bad = {-1, 2, Integer.MAX_VALUE, Integer.MIN_VALUE};
        for (int image : bad) {
            due.is("keep(" + image + ")", bells.keep(image), AbsentBells.BAD);
            due.is("back(" + image + ")", bells.back(image), AbsentBells.BAD);
        }
        due.is("keep(0)", bells.keep(0), 0);
        bells.passes(5);
        due.is("keep(1)", bells.keep(1), 5);
        bells.passes(5);
        due.is("back(0)", bells.back(0), 0);
        due.is("back(1)", bells.back(1), 5);
        due.is("kept over it", bells.keep(0), 5);
        bells.passes(235);
        due.is("back(0)", bells.back(0), 5);
        bells.passes(235);
        due.is("keep(1)", bells.keep(1), 240);
    }

    private static void backEndsUndo() {
        AbsentBells bells = Due.told("p0;");
        bells.passes(1);
        due.is("refused", bells.back(0), AbsentBells.STATE);
        due.is("undo is left", bells.now(5), 1);
        bells.keep(0);
        bells.passes(1);
        bells.back(0);
        due.is("now(5)", bells.now(5), 0);
        due.is("undo()", bells.undo(), AbsentBells.STATE);
        bells.passes(2);
        due.is("undo()", bells.undo(), 0);
        due.is("now(0)", bells.now(0), 1);
    }
}
