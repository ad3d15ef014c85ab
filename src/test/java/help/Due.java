/** What the tests share: compares answers, tells the wrong ones, ends with exit code 1 if there was one. */
final class Due {
    private int asked;
    private int wrong;

    void is(String call, long got, long want) {
        asked++;
        if (got != want) {
            wrong++;
            System.out.println(call + " answered " + got + ", due is " + want);
        }
    }

    void end() {
        System.out.println(asked + " answers, " + wrong + " not as due");
        if (asked == 0 || wrong != 0) {
            System.exit(1);
        }
    }

    static void type(AbsentBells bells, String text) {
        for (int i = 0; i < text.length(); i++) {
            bells.type(text.charAt(i));
        }
    }

    /** A new object that was told a text. */
    static AbsentBells told(String text) {
        AbsentBells bells = new AbsentBells();
        tell(bells, text);
        return bells;
    }

    static int tell(AbsentBells bells, String text) {
        bells.clear();
        type(bells, text);
        return bells.town();
    }

    static String repeat(String part, int times) {
        return part.repeat(times);
    }
}
