/** Promises 2 type, 3 clear, 4 town, 25 count. */
public final class TextTest {
    private static final Due due = new Due();

    public static void main(String[] args) {
        letters();
        clearing();
        goodTexts();
        faults();
        lists();
        numbers();
        readAnew();
        nothingOldIsLeft();
        fullTown();
        faultChangesNothing();
        counts();
        due.end();
    }

    private static void letters() {
        AbsentBells bells = new AbsentBells();
        due.is("type(0)", bells.type(0), 1);
        due.is("type(255)", bells.type(255), 2);
        due.is("type(-1)", bells.type(-1), AbsentBells.BAD);
        due.is("type(256)", bells.type(256), AbsentBells.BAD);
        due.is("type(least int)", bells.type(Integer.MIN_VALUE), AbsentBells.BAD);
        due.is("type(greatest int)", bells.type(Integer.MAX_VALUE), AbsentBells.BAD);
        for (int i = 3; i <= 200; i++) {
            due.is("type(32)", bells.type(32), i);
        }
        due.is("the 201st", bells.type(32), AbsentBells.FULL);
        due.is("BAD is ahead of FULL", bells.type(256), AbsentBells.BAD);
        due.is("count(6)", bells.count(6), 200);
    }

    private static void clearing() {
        AbsentBells bells = Due.told("p1;");
        Due.type(bells, "p0;p0");
        due.is("clear()", bells.clear(), 5);
        due.is("clear() again", bells.clear(), 0);
        due.is("count(6)", bells.count(6), 0);
        due.is("the town stays", bells.count(1), 1);
        due.is("type behind clear", bells.type('p'), 1);
    }

    private static void tells(String text, int want) {
        due.is("town() of \"" + text + "\"", Due.tell(new AbsentBells(), text), want);
    }

    private static void goodTexts() {
        tells("", 0);
        tells("   ", 0);
        tells("w2;", 1);
        tells("w6;", 1);
        tells("p1;", 1);
        tells("w3;p2;", 2);
        tells("  w  3  ;  p  2  ;  ", 2);
        tells("g1;", 1);
        tells("g9;", 1);
        tells("f0;", 1);
        tells("f9;g1;", 2);
        tells("p0;f1;d0 1 239 60;g2;p1;", 5);
        tells("p0;d0 0 0 1;", 2);
        tells("p0;p0;p0;p0;p0;", 5);
        tells("p0;" + Due.repeat("d0 1 0 60;", 8), 9);
        tells(Due.repeat(" ", 197) + "p0;", 1);
    }

    private static void faults() {
        tells(";", -10);
        tells("2;", -10);
        tells("x", -10);
        tells("W2;", -10);
        tells(" " + (char) 255, -11);
        tells((char) 0 + "p0;", -10);
        tells("p\t0;", -11);
        tells("p-1;", -11);
        tells("w", -11);
        tells("w;", -11);
        tells("w2", -12);
        tells("w 2 ", -14);
        tells("w2 3;", -13);
        tells("p;", -11);
        tells("p0p0;", -12);
        tells("p0;;", -13);
        tells("p0; x", -14);
        tells("p5;x", -11);
        tells("p0 x;", -13);
        tells("pp0;", -11);
        tells("d", -11);
        tells("g", -11);
        tells("f 1", -13);
        tells(Due.repeat(" ", 199) + "p", -10 - 200);
        tells(Due.repeat(" ", 199) + "x", -10 - 199);
    }

    private static void lists() {
        tells("p0;w3;", -13);
        tells("w3;w3;", -13);
        tells("g1;w3;", -13);
        tells("w3;p2;w", -16);
        tells("g1;g1;", -13);
        tells("g1;p0;g2;", -16);
        tells("f1;f1;", -13);
        tells("f0;g1;f0;", -16);
        tells(Due.repeat("p0;", 5) + "p", -25);
        tells(Due.repeat("p0;", 5) + " p0;", -26);
        tells("p0;" + Due.repeat("d0 0 0 1;", 8) + "d", -85);
        tells("d0 0 0 1;p0;", -11);
        tells("p0;d1 0 0 1;", -14);
        tells("p0;d1 0 0 1;p0;", -14);
        tells("p0;p0;d1 0 0 1;", 3);
    }

    private static void numbers() {
        tells("w1;", -11);
        tells("w7;", -11);
        tells("w0;", -11);
        tells("p2;", -11);
        tells("w4;p4;", -14);
        tells("w4;p3;", 2);
        tells("p00;", -11);
        tells("p01;", -11);
        tells("w02;", -11);
        tells("p240;", -11);
        tells("p 4294967296;", -12);
        tells("p" + Due.repeat("9", 150) + ";", -11);
        tells("p" + Due.repeat("0", 150) + ";", -11);
        tells("g0;", -11);
        tells("g10;", -11);
        tells("f10;", -11);
        tells("g257;", -11);
        tells("p0;d0 2 0 1;", -16);
        tells("p0;d0 0 240 1;", -18);
        tells("p0;d0 0 239 1;", 2);
        tells("p0;d0 0 00 1;", -18);
        tells("p0;d0 0 0 0;", -20);
        tells("p0;d0 0 0 61;", -20);
        tells("p0;d0 0 0 60;", 2);
        tells("p0;d0 0 0;", -19);
        tells("p0;d0 0 0 1 1;", -22);
        tells("p0;d0 0 0 1", -21);
        tells("p0;d00 0 1;", -14);
        tells("p0;d0;", -15);
        tells("p0;d240 0 0 1;", -14);
        tells("x240", -10);
    }

    private static void readAnew() {
        AbsentBells bells = Due.told("w6;p5;p1;d0 0 0 60;g7;f0;");
        bells.goes(1, 2);
        bells.excuses(0, 1);
        bells.excuses(0, 0);
        bells.passes(9);
        bells.hears(0, 3, 1);
        bells.keep(0);
        bells.keep(1);
        bells.rate(1, 0);
        due.is("town()", Due.tell(bells, "p1;"), 1);
        long[] counts = {2, 1, 0, 2, 3, 0, 0};
        for (int what = 0; what < counts.length; what++) {
            due.is("anew: count(" + what + ")", bells.count(what), counts[what]);
        }
        due.is("anew: now(0)", bells.now(0), 0);
        due.is("anew: now(1)", bells.now(1), 0);
        due.is("anew: now(2)", bells.now(2), 0);
        due.is("anew: now(3)", bells.now(3), AbsentBells.NONE);
        due.is("anew: now(5)", bells.now(5), 0);
        due.is("anew: undo()", bells.undo(), AbsentBells.STATE);
        due.is("anew: back(0)", bells.back(0), AbsentBells.STATE);
        due.is("anew: back(1)", bells.back(1), AbsentBells.STATE);
        due.is("anew: person(0, 0)", bells.person(0, 0), 1);
        due.is("anew: person(1, 0)", bells.person(1, 0), AbsentBells.BAD);
        due.is("anew: trace() goes on", bells.trace(), 11);
    }

    /** A smaller town behind a larger one, in the midst of things. */
    private static void nothingOldIsLeft() {
        AbsentBells bells = Due.told("w6;p5;p5;p5;" + Due.repeat("d0 1 0 60;", 4) + Due.repeat("d2 1 0 60;", 4) + "f0;");
        bells.excuses(0, 1);
        bells.goes(0, 2);
        bells.swaps(1, 7);
        bells.passes(1);
        due.is("town()", Due.tell(bells, "p0;p1;d1 1 0 9;f0;"), 4);
        due.is("duty(0, 0)", bells.duty(0, 0), 1);
        due.is("duty(0, 4)", bells.duty(0, 4), 0);
        due.is("duty(1, 0)", bells.duty(1, 0), AbsentBells.BAD);
        due.is("person(0, 0)", bells.person(0, 0), 0);
        due.is("person(0, 2)", bells.person(0, 2), 0);
        due.is("person(2, 0)", bells.person(2, 0), AbsentBells.BAD);
        due.is("now(4)", bells.now(4), AbsentBells.NONE);
        due.is("silence(1)", bells.silence(1), 0);
        due.is("least(0, 0)", bells.least(0, 0), 0);
        due.is("tells(0, 0, 1)", bells.tells(0, 0, 1), AbsentBells.NONE);
        due.is("odds(0, 0, 0, 0)", bells.odds(0, 0, 0, 0), 0);
        due.is("passes(240)", bells.passes(240), 0);
        due.is("now(2)", bells.now(2), 0);
    }

    /** As many of all as may be: nothing is looked for behind the last one. */
    private static void fullTown() {
        AbsentBells bells = Due.told("w6;" + Due.repeat("p0;", 5) + Due.repeat("d4 5 0 60;", 8) + "g9;f0;");
        due.is("count(2)", bells.count(2), 8);
        due.is("rings(0)", bells.rings(0), 16);
        due.is("chord(16, 0)", bells.chord(16, 0), 60);
        due.is("silence(16)", bells.silence(16), 255);
        due.is("least(4, 0)", bells.least(4, 0), 45);
        due.is("least(4, 1)", bells.least(4, 1), 1);
        due.is("can(4)", bells.can(4), 63);
        due.is("tells(4, 4, 5)", bells.tells(4, 4, 5), 0);
        due.is("odds(4, 0, 1, 1)", bells.odds(4, 0, 1, 1), 100000000);
        due.is("passes(240)", bells.passes(240), 60);
        due.is("now(2)", bells.now(2), 60);
        due.is("now(3)", bells.now(3), 4);
        due.is("now(4)", bells.now(4), AbsentBells.NONE);
        due.is("rate(5, 7)", bells.rate(5, 7), 120);
    }

    private static void faultChangesNothing() {
        AbsentBells bells = Due.told("w6;p5;p1;d0 0 0 60;g7;f0;");
        bells.goes(1, 2);
        bells.passes(9);
        bells.excuses(0, 1);
        bells.hears(0, 3, 1);
        bells.keep(1);
        due.is("a fault", Due.tell(bells, "w2;p0;d0 1 5 9;g1;f9;p0;p0;p2;"), -10 - 28);
        long[] counts = {6, 2, 1, 7, 0, 1, 30};
        for (int what = 0; what < counts.length; what++) {
            due.is("fault: count(" + what + ")", bells.count(what), counts[what]);
        }
        due.is("fault again", bells.town(), -10 - 28);
        due.is("fault: person(0, 5)", bells.person(0, 5), 5);
        due.is("fault: person(0, 3)", bells.person(0, 3), 9);
        due.is("fault: person(1, 0)", bells.person(1, 0), 2);
        due.is("fault: duty(0, 3)", bells.duty(0, 3), 60);
        due.is("fault: now(0)", bells.now(0), 9);
        due.is("fault: now(1)", bells.now(1), 1);
        due.is("fault: back(0)", bells.back(0), AbsentBells.STATE);
        due.is("fault: undo()", bells.undo(), 2);
        due.is("fault: back(1)", bells.back(1), 9);
        due.is("clear()", bells.clear(), 30);
        due.is("the text is mended", Due.tell(bells, "p0;"), 1);
    }

    private static void counts() {
        AbsentBells bells = Due.told("w5;p4;p4;p0;d2 4 0 1;d2 3 7 60;g8;f1;");
        bells.hears(2, 0, 0);
        bells.type('w');
        long[] counts = {5, 3, 2, 8, 1, 1, 1};
        for (int what = 0; what < counts.length; what++) {
            due.is("count(" + what + ")", bells.count(what), counts[what]);
        }
        due.is("count(-1)", bells.count(-1), AbsentBells.BAD);
        due.is("count(7)", bells.count(7), AbsentBells.BAD);
        due.is("count(least int)", bells.count(Integer.MIN_VALUE), AbsentBells.BAD);
    }
}
