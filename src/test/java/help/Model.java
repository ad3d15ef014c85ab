import java.util.ArrayDeque;
import java.util.ArrayList;
import java.util.Deque;
import java.util.HashMap;
import java.util.List;
import java.util.Map;
import java.util.function.IntPredicate;
import java.util.regex.Matcher;
import java.util.regex.Pattern;

/** The document written down a second time, as slowly and plainly as can be, to compare answers with. */
final class Model {
    private static final int BAD = -1, STATE = -2, FULL = -3, NONE = -9, NO = -1000000, DAY = 240;

    private record Duty(int teller, int place, int from, int lasts) { }

    private record Report(int p, int minute, int is) { }

    private static final class Now {
        int minute;
        List<Integer> place = new ArrayList<>();
        List<Integer> toGo = new ArrayList<>();
        List<Integer> tolled = new ArrayList<>();
        List<Integer> owner = new ArrayList<>();
        List<Boolean> excused = new ArrayList<>();

        Now copy() {
            Now other = new Now();
            other.minute = minute;
            other.place.addAll(place);
            other.toGo.addAll(toGo);
            other.tolled.addAll(tolled);
            other.owner.addAll(owner);
            other.excused.addAll(excused);
            return other;
        }
    }

    private String text = "";
    private int places = 2;
    private int walk = 2;
    private int free = 3;
    private List<Integer> homes = new ArrayList<>();
    private List<Duty> duties = new ArrayList<>();
    private Now now = new Now();
    private final Deque<Now> undo = new ArrayDeque<>();
    private final Now[] images = new Now[2];
    private final List<Report> heard = new ArrayList<>();
    private long trace;

    int type(int letter) {
        if (letter < 0 || letter > 255) return BAD;
        if (text.length() == 200) return FULL;
        text += (char) letter;
        return text.length();
    }

    int clear() {
        int length = text.length();
        text = "";
        return length;
    }

    // ---- reading: a list of tokens first, then item by item

    private record Token(String word, int at) { }

    private static final class Fault extends RuntimeException {
        private static final long serialVersionUID = 1;
        final int at;

        Fault(int at) {
            this.at = at;
        }
    }

    private List<Token> tokens;
    private int next;

    int town() {
        tokens = new ArrayList<>();
        Matcher matcher = Pattern.compile("[0-9]+|[^ ]", Pattern.DOTALL).matcher(text);
        while (matcher.find()) tokens.add(new Token(matcher.group(), matcher.start()));
        tokens.add(new Token("", text.length()));
        next = 0;
        int newPlaces = 2, newWalk = -1, newFree = -1, items = 0;
        List<Integer> newHomes = new ArrayList<>();
        List<Duty> newDuties = new ArrayList<>();
        try {
            while (next < tokens.size() - 1) {
                Token token = tokens.get(next++);
                String word = token.word;
                if (word.equals("w") && items == 0) newPlaces = number(2, 6);
                else if (word.equals("p") && newHomes.size() < 5) newHomes.add(number(0, newPlaces - 1));
                else if (word.equals("d") && newDuties.size() < 8) newDuties.add(new Duty(
                    number(0, newHomes.size() - 1), number(0, newPlaces - 1), number(0, 239), number(1, 60)));
                else if (word.equals("g") && newWalk < 0) newWalk = number(1, 9);
                else if (word.equals("f") && newFree < 0) newFree = number(0, 9);
                else throw new Fault(token.at);
                if (!tokens.get(next).word.equals(";")) throw new Fault(tokens.get(next).at);
                next++;
                items++;
            }
        } catch (Fault fault) {
            return -10 - fault.at;
        }
        text = "";
        places = newPlaces;
        walk = newWalk < 0 ? 2 : newWalk;
        free = newFree < 0 ? 3 : newFree;
        homes = newHomes;
        duties = newDuties;
        now = new Now();
        for (int home : homes) {
            now.place.add(home);
            now.toGo.add(0);
            now.tolled.add(0);
        }
        for (Duty duty : duties) {
            now.owner.add(duty.teller);
            now.excused.add(false);
        }
        undo.clear();
        heard.clear();
        images[0] = null;
        images[1] = null;
        return items;
    }

    private int number(int low, int high) {
        Token token = tokens.get(next++);
        if (!token.word.matches("0|[1-9][0-9]{0,2}")) throw new Fault(token.at);
        int value = Integer.parseInt(token.word);
        if (value > 239 || value < low || value > high) throw new Fault(token.at);
        return value;
    }

    // ---- what the calls are made of

    private boolean person(int p) {
        return p >= 0 && p < homes.size();
    }

    private boolean duty(int d) {
        return d >= 0 && d < duties.size();
    }

    private boolean place(int a) {
        return a >= 0 && a < places;
    }

    private static boolean bit(int is) {
        return is == 0 || is == 1;
    }

    private boolean on(int d, int minute) {
        Duty duty = duties.get(d);
        int behind = minute - duty.from;
        return minute < DAY && behind >= free && behind < duty.lasts;
    }

    /** Whether p is rung for in a minute, at a place (-1: none), but for duties that are left out. */
    private boolean rung(int p, int minute, int at, IntPredicate out) {
        for (int d = 0; d < duties.size(); d++) {
            if (now.owner.get(d) == p && !now.excused.get(d) && !out.test(d) && on(d, minute)
                && duties.get(d).place != at) return true;
        }
        return false;
    }

    private int where(int p, int minute) {
        return minute - now.minute < now.toGo.get(p) ? -1 : now.place.get(p);
    }

    private int rungBits(int minute, IntPredicate out) {
        int bits = 0;
        for (int p = 0; p < homes.size(); p++) if (rung(p, minute, where(p, minute), out)) bits |= 1 << p;
        return bits;
    }

    private static final IntPredicate NOTHING = d -> false;

    // ---- looks

    int person(int p, int what) {
        if (!person(p)) return BAD;
        int[] answers = {
            now.toGo.get(p) > 0 ? NONE : now.place.get(p), now.place.get(p), now.toGo.get(p), now.tolled.get(p),
            rung(p, now.minute, where(p, now.minute), NOTHING) ? 1 : 0, homes.get(p)};
        return what < 0 || what > 5 ? BAD : answers[what];
    }

    int duty(int d, int what) {
        if (!duty(d) || what < 0 || what > 4) return BAD;
        Duty duty = duties.get(d);
        return new int[] {now.owner.get(d), duty.place, duty.from, duty.lasts, now.excused.get(d) ? 1 : 0}[what];
    }

    int now(int what) {
        if (what < 0 || what > 5) return BAD;
        int bits = 0;
        for (int d = 0; d < duties.size(); d++) if (now.excused.get(d)) bits += 1 << d;
        int sum = now.tolled.stream().mapToInt(t -> t).sum();
        int most = now.tolled.stream().mapToInt(t -> t).max().orElse(0);
        int first = NONE;
        for (int m = DAY - 1; m >= now.minute; m--) if (rungBits(m, NOTHING) != 0) first = m;
        return new int[] {now.minute, bits, sum, most == 0 ? NONE : now.tolled.indexOf(most), first, undo.size()}[what];
    }

    int count(int what) {
        if (what < 0 || what > 6) return BAD;
        return new int[] {places, homes.size(), duties.size(), walk, free, heard.size(), text.length()}[what];
    }

    // ---- what is done

    private void remember() {
        undo.push(now.copy());
        if (undo.size() > 10) undo.removeLast();
    }

    int goes(int p, int to) {
        if (!person(p) || !place(to)) return BAD;
        if (now.toGo.get(p) > 0 || now.place.get(p) == to) return STATE;
        remember();
        int minutes = walk * Math.abs(to - now.place.get(p));
        now.toGo.set(p, minutes);
        now.place.set(p, to);
        return minutes;
    }

    int passes(int n) {
        if (n < 1 || n > 240) return BAD;
        if (now.minute + n > DAY) return STATE;
        remember();
        int tolls = 0;
        while (n-- > 0) {
            for (int p = 0; p < homes.size(); p++) {
                boolean tolled = rung(p, now.minute, now.toGo.get(p) > 0 ? -1 : now.place.get(p), NOTHING);
                if (tolled) {
                    tolls++;
                    now.tolled.set(p, now.tolled.get(p) + 1);
                }
                if (now.toGo.get(p) > 0) now.toGo.set(p, now.toGo.get(p) - 1);
            }
            now.minute++;
        }
        return tolls;
    }

    int excuses(int d, int is) {
        if (!duty(d) || !bit(is)) return BAD;
        if (now.excused.get(d) == (is == 1)) return STATE;
        remember();
        now.excused.set(d, is == 1);
        return (int) now.excused.stream().filter(e -> e).count();
    }

    int swaps(int d, int e) {
        if (!duty(d) || !duty(e)) return BAD;
        int first = now.owner.get(d), second = now.owner.get(e);
        if (first == second) return STATE;
        remember();
        now.owner.set(d, second);
        now.owner.set(e, first);
        return second;
    }

    int undo() {
        if (undo.isEmpty()) return STATE;
        now = undo.pop();
        return undo.size();
    }

    // ---- bells

    int rings(int minute) {
        return minute < now.minute || minute > 239 ? BAD : rungBits(minute, NOTHING);
    }

    int chord(int set, int what) {
        if (set < 0 || set >= Math.pow(2, homes.size()) || !bit(what)) return BAD;
        List<Integer> minutes = new ArrayList<>();
        for (int m = now.minute; m < DAY; m++) if (rungBits(m, NOTHING) == set) minutes.add(m);
        return what == 0 ? minutes.size() : minutes.isEmpty() ? NONE : minutes.get(0);
    }

    int silence(int set) {
        if (set < 1 || set >= Math.pow(2, homes.size())) return BAD;
        for (int few = 0; few <= duties.size(); few++) {
            for (int chosen = 0; chosen < 1 << duties.size(); chosen++) {
                if (Integer.bitCount(chosen) == few && silent(set, chosen)) return chosen;
            }
        }
        throw new IllegalStateException("no duty is left, and it rings");
    }

    private boolean silent(int set, int chosen) {
        for (int m = now.minute; m < DAY; m++) {
            if ((rungBits(m, d -> (chosen >> d & 1) == 1) & set) == set) return false;
        }
        return true;
    }

    // ---- ways: minute by minute, on the way as well as at a place

    int least(int p, int what) {
        if (!person(p) || !bit(what)) return BAD;
        Map<Integer, Integer> known = new HashMap<>();
        int place = now.place.get(p), toGo = now.toGo.get(p);
        int best = rest(p, now.minute, place, toGo, known);
        if (what == 0) return best;
        if (toGo > 0 || now.minute == DAY) return place;
        for (int to = 0; to < places; to++) {
            if (step(p, now.minute, to, walk * Math.abs(to - place), known) == best) return to;
        }
        throw new IllegalStateException("no way is the best");
    }

    /** The fewest tolls from a minute on, of one who may choose where to go, if he is at a place. */
    private int rest(int p, int minute, int place, int toGo, Map<Integer, Integer> known) {
        if (minute == DAY) return 0;
        if (toGo > 0) return step(p, minute, place, toGo, known);
        int key = minute * 6 + place;
        Integer answer = known.get(key);
        if (answer != null) return answer;
        int best = Integer.MAX_VALUE;
        for (int to = 0; to < places; to++) {
            best = Math.min(best, step(p, minute, to, walk * Math.abs(to - place), known));
        }
        known.put(key, best);
        return best;
    }

    private int step(int p, int minute, int place, int toGo, Map<Integer, Integer> known) {
        int toll = rung(p, minute, toGo > 0 ? -1 : place, NOTHING) ? 1 : 0;
        return toll + rest(p, minute + 1, place, Math.max(0, toGo - 1), known);
    }

    // ---- what was heard

    int hears(int p, int minute, int is) {
        if (!person(p) || minute < 0 || minute > 239 || !bit(is)) return BAD;
        if (heard.size() == 6) return FULL;
        heard.add(new Report(p, minute, is));
        return heard.size();
    }

    int forget() {
        int size = heard.size();
        heard.clear();
        return size;
    }

    int can(int p) {
        if (!person(p)) return BAD;
        int bits = 0;
        for (int a = 0; a < places; a++) {
            int at = a;
            if (heard.stream().allMatch(h -> h.p != p || rung(p, h.minute, at, NOTHING) == (h.is == 1))) bits += 1 << a;
        }
        return bits;
    }

    int tells(int p, int a, int b) {
        if (!person(p) || !place(a) || !place(b)) return BAD;
        for (int m = 0; m < DAY; m++) if (rung(p, m, a, NOTHING) ^ rung(p, m, b, NOTHING)) return m;
        return NONE;
    }

    /** Every way in which duties may be excused, weighed by x and 10 - x. */
    int odds(int p, int minute, int x, int what) {
        if (!person(p) || minute < 0 || minute > 239 || x < 0 || x > 10 || !bit(what)) return BAD;
        long upper = 0, lower = 0;
        for (int out = 0; out < 1 << duties.size(); out++) {
            int chosen = out;
            long weight = 1;
            for (int d = 0; d < duties.size(); d++) weight *= (out >> d & 1) == 1 ? x : 10 - x;
            lower += weight;
            if (rung(p, minute, homes.get(p), d -> (chosen >> d & 1) == 1)) upper += weight;
        }
        long divisor = 1;
        for (long n : new long[] {2, 5}) while (upper % (divisor * n) == 0 && lower % (divisor * n) == 0) divisor *= n;
        if (upper == 0) divisor = lower;
        return (int) ((what == 0 ? upper : lower) / divisor);
    }

    // ---- kinds, images

    private class Kind {
        int rate(int d) {
            trace += 1;
            return duties.get(d).lasts;
        }
    }

    private class Watch extends Kind {
        @Override int rate(int d) {
            trace += 10;
            return super.rate(d) + duties.get(d).place;
        }
    }

    private class School extends Kind {
        @Override int rate(int d) {
            trace += 100;
            return super.rate(d) - (now.excused.get(d) ? 7 : 0);
        }
    }

    private final class Church extends Watch {
        @Override int rate(int d) {
            trace += 1000;
            return 2 * super.rate(d);
        }
    }

    private final class Hearth extends School {
        @Override int rate(int d) {
            trace += 10000;
            return super.rate(d) + d;
        }
    }

    private final class Market extends Kind {
        @Override int rate(int d) {
            trace += 100000;
            return super.rate(d) + now.tolled.get(now.owner.get(d));
        }
    }

    int rate(int kind, int d) {
        if (kind < 0 || kind > 5 || !duty(d)) return NO;
        Kind[] kinds = {new Kind(), new Watch(), new School(), new Church(), new Hearth(), new Market()};
        return kinds[kind].rate(d);
    }

    int keep(int image) {
        if (!bit(image)) return BAD;
        images[image] = now.copy();
        return now.minute;
    }

    int back(int image) {
        if (!bit(image)) return BAD;
        if (images[image] == null) return STATE;
        now = images[image].copy();
        undo.clear();
        return now.minute;
    }

    long trace() {
        return trace;
    }
}
