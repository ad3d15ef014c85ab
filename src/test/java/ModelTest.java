import java.util.Random;

/** Long runs of chosen calls, the same ones for every run of the test, compared with the slow model. */
public final class ModelTest {
    private static final int RUNS = 600;
    private static final Due due = new Due();

    private static AbsentBells bells;
    private static Model model;
    private static Random random;
    private static int run;

    public static void main(String[] args) {
        for (run = 0; run < RUNS; run++) {
            random = new Random(run);
            bells = new AbsentBells();
            model = new Model();
            tell(goodText());
            for (int call = 0; call < 120; call++) {
                call();
            }
            looks();
            if (random.nextInt(3) == 0) {
                tell(spoilt(goodText()));
                looks();
            }
        }
        for (run = RUNS; run < RUNS + 20000; run++) {
            random = new Random(run);
            bells = new AbsentBells();
            model = new Model();
            tell(spoilt(goodText()));
        }
        due.end();
    }

    private static int to(int bound) {
        return random.nextInt(bound);
    }

    /** Mostly a number that there is, seldom one beyond. */
    private static int about(int bound) {
        int chance = to(40);
        if (chance == 0) return -1;
        if (chance == 1) return bound;
        if (chance == 2) return random.nextInt();
        return to(Math.max(1, bound));
    }

    private static String blanks() {
        return to(4) == 0 ? " ".repeat(to(3)) : "";
    }

    private static String goodText() {
        StringBuilder text = new StringBuilder(blanks());
        int places = 2;
        if (to(5) > 0) {
            places = 2 + to(5);
            text.append("w").append(blanks()).append(places).append(blanks()).append(";");
        }
        int people = to(8) == 0 ? to(6) : 2 + to(4);
        int first = Math.min(people, 1 + to(5));
        for (int p = 0; p < first; p++) text.append("p").append(to(places)).append(";");
        if (to(3) > 0) text.append("g").append(blanks()).append(1 + to(9)).append(";");
        int duties = to(6) == 0 ? to(9) : 4 + to(5);
        boolean crowded = to(2) == 0;
        for (int d = 0; d < duties && first > 0; d++) {
            int from = crowded ? to(60) : to(8) == 0 ? 200 + to(40) : to(240);
            text.append("d").append(to(first)).append(" ").append(blanks()).append(to(places)).append(" ")
                .append(from).append(" ").append(1 + to(60)).append(blanks()).append(";");
        }
        for (int p = first; p < people; p++) text.append("p").append(to(places)).append(";");
        if (to(3) > 0) text.append("f").append(to(10)).append(";").append(blanks());
        return text.toString();
    }

    private static String spoilt(String good) {
        StringBuilder text = new StringBuilder(good);
        String letters = "wpdgf;; 0123456789x" + (char) 0 + (char) 255 + (char) 9 + (char) 10 + (char) 160;
        for (int times = 1 + to(2); times > 0; times--) {
            int place = to(text.length() + 1);
            char letter = letters.charAt(to(letters.length()));
            switch (to(4)) {
                case 0:
                    text.insert(place, letter);
                    break;
                case 1:
                    if (place < text.length()) text.deleteCharAt(place);
                    break;
                case 2:
                    if (place < text.length()) text.setCharAt(place, letter);
                    break;
                default:
                    text.setLength(place);
                    break;
            }
        }
        return text.toString();
    }

    private static void tell(String text) {
        same("clear()", bells.clear(), model.clear());
        for (char letter : text.toCharArray()) same("type(" + (int) letter + ")", bells.type(letter), model.type(letter));
        same("town() of \"" + text + "\"", bells.town(), model.town());
    }

    private static void same(String call, long got, long want) {
        due.is("run " + run + ": " + call, got, want);
    }

    private static void call() {
        int people = bells.count(1), places = bells.count(0), duties = bells.count(2);
        int p = about(people), a = about(places), b = about(places), d = about(duties), e = about(duties);
        int minute = about(240), what = about(2), set = about(1 << people), x = about(11), is = about(2);
        int n = to(6) == 0 ? about(241) : 1 + to(12), kind = about(6), image = about(2);
        int later = Math.min(239, bells.now(0) + to(60));
        switch (to(31)) {
            case 0: case 1: case 2: same("goes(" + p + ", " + a + ")", bells.goes(p, a), model.goes(p, a)); break;
            case 3: case 4: case 5: same("passes(" + n + ")", bells.passes(n), model.passes(n)); break;
            case 6: same("excuses(" + d + ", " + is + ")", bells.excuses(d, is), model.excuses(d, is)); break;
            case 7: case 8: same("swaps(" + d + ", " + e + ")", bells.swaps(d, e), model.swaps(d, e)); break;
            case 9: case 10: same("undo()", bells.undo(), model.undo()); break;
            case 11: same("rings(" + minute + ")", bells.rings(minute), model.rings(minute)); break;
            case 12: case 13: same("rings(" + later + ")", bells.rings(later), model.rings(later)); break;
            case 14: same("chord(" + set + ", " + what + ")", bells.chord(set, what), model.chord(set, what)); break;
            case 15: same("silence(" + set + ")", bells.silence(set), model.silence(set)); break;
            case 16: case 17: case 18: least(p, what); break;
            case 19: case 20:
                same("hears(" + p + ", " + minute + ", " + is + ")", bells.hears(p, minute, is),
                    model.hears(p, minute, is));
                break;
            case 21: if (to(4) == 0) same("forget()", bells.forget(), model.forget()); break;
            case 22: same("can(" + p + ")", bells.can(p), model.can(p)); break;
            case 23: same("tells(" + p + ", " + a + ", " + b + ")", bells.tells(p, a, b), model.tells(p, a, b)); break;
            case 24:
                same("odds(" + p + ", " + minute + ", " + x + ", " + what + ")", bells.odds(p, minute, x, what),
                    model.odds(p, minute, x, what));
                break;
            case 25: same("rate(" + kind + ", " + d + ")", bells.rate(kind, d), model.rate(kind, d)); break;
            case 26: same("keep(" + image + ")", bells.keep(image), model.keep(image)); break;
            case 27: same("back(" + image + ")", bells.back(image), model.back(image)); break;
            case 28: if (to(6) == 0) tell(goodText()); break;
            case 29: same("trace()", bells.trace(), model.trace()); break;
            default: looks(); break;
        }
    }

    private static void least(int p, int what) {
        same("least(" + p + ", " + what + ")", bells.least(p, what), model.least(p, what));
    }

    private static void looks() {
        for (int what = -1; what <= 7; what++) {
            same("count(" + what + ")", bells.count(what), model.count(what));
            same("now(" + what + ")", bells.now(what), model.now(what));
            for (int p = -1; p <= 5; p++) same("person(" + p + ", " + what + ")", bells.person(p, what), model.person(p, what));
            for (int d = -1; d <= 8; d++) same("duty(" + d + ", " + what + ")", bells.duty(d, what), model.duty(d, what));
        }
        same("trace()", bells.trace(), model.trace());
    }
}
