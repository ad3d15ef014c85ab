/**
 * Bells that toll whenever one who ought to be somewhere is not there.
 * Every call answers a number; a refused call answers BAD, STATE, FULL (rate: NO) and changes nothing.
 */
public final class AbsentBells {
    public static final int BAD = -1, STATE = -2, FULL = -3, NONE = -9;
    public static final int NO = -1000000;

    private static final int DAY = 240;
    private static final int MOST_LETTERS = 200;
    private static final int MOST_PLACES = 6;
    private static final int MOST_PEOPLE = 5;
    private static final int MOST_DUTIES = 8;
    private static final int MOST_UNDONE = 10;
    private static final int MOST_HEARD = 6;
    private static final int IMAGES = 2;
    private static final int KINDS = 6;

    private final Reader reader;
    private final Day day;
    private final History history;
    private final Heard heard;
    private final Ways ways;
    private final Silencer silencer;
    private final Rates rates;
    private final Moment[] images;
    private final boolean[] kept;

    public AbsentBells() {
        reader = new Reader();
        day = new Day();
        history = new History();
        heard = new Heard();
        ways = new Ways();
        silencer = new Silencer();
        rates = new Rates();
        images = new Moment[IMAGES];
        for (int i = 0; i < IMAGES; i++) {
            images[i] = new Moment();
        }
        kept = new boolean[IMAGES];
    }

    // ---- the town

    public int type(int letter) {
        if (letter < 0 || letter > 255) {
            return BAD;
        }
        return reader.addLetter(letter) ? reader.length : FULL;
    }

    public int clear() {
        return reader.dropLetters();
    }

    public int town() {
        int items = reader.read();
        if (reader.hasFault()) {
            return -10 - reader.fault;
        }
        reader.dropLetters();
        day.begin(reader.draft);
        history.lose();
        heard.drop();
        for (int i = 0; i < IMAGES; i++) {
            kept[i] = false;
        }
        return items;
    }

    public int person(int p, int what) {
        if (!day.plan.isPerson(p)) {
            return BAD;
        }
        Moment moment = day.moment;
        switch (what) {
            case 0: return moment.toGo[p] > 0 ? NONE : moment.place[p];
            case 1: return moment.place[p];
            case 2: return moment.toGo[p];
            case 3: return moment.tolled[p];
            case 4: return bit(day.rung(moment.minute), p);
            case 5: return day.plan.home[p];
            default: return BAD;
        }
    }

    public int duty(int d, int what) {
        if (!day.plan.isDuty(d)) {
            return BAD;
        }
        switch (what) {
            case 0: return day.moment.owner[d];
            case 1: return day.plan.place[d];
            case 2: return day.plan.from[d];
            case 3: return day.plan.lasts[d];
            case 4: return bit(day.moment.excused, d);
            default: return BAD;
        }
    }

    public int now(int what) {
        switch (what) {
            case 0: return day.moment.minute;
            case 1: return day.moment.excused;
            case 2: return day.tolledInAll();
            case 3: return day.worst();
            case 4: return day.nextRung();
            case 5: return history.known;
            default: return BAD;
        }
    }

    // ---- what is done

    public int goes(int p, int place) {
        if (!day.plan.isPerson(p) || !day.plan.isPlace(place)) {
            return BAD;
        }
        Moment moment = day.moment;
        if (moment.toGo[p] > 0 || moment.place[p] == place) {
            return STATE;
        }
        history.remember(moment);
        moment.toGo[p] = day.plan.minutesBetween(moment.place[p], place);
        moment.place[p] = place;
        return moment.toGo[p];
    }

    public int passes(int n) {
        if (n < 1 || n > DAY) {
            return BAD;
        }
        if (day.moment.minute + n > DAY) {
            return STATE;
        }
        history.remember(day.moment);
        int tolls = 0;
        for (int i = 0; i < n; i++) {
            tolls += day.passMinute();
        }
        return tolls;
    }

    public int excuses(int d, int is) {
        if (!day.plan.isDuty(d) || !isBit(is)) {
            return BAD;
        }
        Moment moment = day.moment;
        if (bit(moment.excused, d) == is) {
            return STATE;
        }
        history.remember(moment);
        moment.excused ^= 1 << d;
        return Integer.bitCount(moment.excused);
    }

    public int swaps(int d, int e) {
        if (!day.plan.isDuty(d) || !day.plan.isDuty(e)) {
            return BAD;
        }
        int[] owner = day.moment.owner;
        if (owner[d] == owner[e]) {
            return STATE;
        }
        history.remember(day.moment);
        int first = owner[d];
        owner[d] = owner[e];
        owner[e] = first;
        return owner[d];
    }

    public int undo() {
        if (history.known == 0) {
            return STATE;
        }
        history.restore(day.moment);
        return history.known;
    }

    // ---- bells

    public int rings(int minute) {
        if (minute < day.moment.minute || minute >= DAY) {
            return BAD;
        }
        return day.rung(minute);
    }

    public int chord(int set, int what) {
        if (!day.plan.isSet(set) || !isBit(what)) {
            return BAD;
        }
        return what == 0 ? day.chordMinutes(set) : day.chordFirst(set);
    }

    public int silence(int set) {
        if (set == 0 || !day.plan.isSet(set)) {
            return BAD;
        }
        return silencer.fewest(day, set);
    }

    // ---- ways

    public int least(int p, int what) {
        if (!day.plan.isPerson(p) || !isBit(what)) {
            return BAD;
        }
        ways.weigh(day, p);
        return what == 0 ? ways.fewestTolls(day.moment, p) : ways.bestPlace(day, p);
    }

    // ---- what was heard

    public int hears(int p, int minute, int is) {
        if (!day.plan.isPerson(p) || !isMinute(minute) || !isBit(is)) {
            return BAD;
        }
        return heard.add(p, minute, is) ? heard.size : FULL;
    }

    public int forget() {
        return heard.drop();
    }

    public int can(int p) {
        return day.plan.isPerson(p) ? heard.placesFor(day, p) : BAD;
    }

    public int tells(int p, int a, int b) {
        if (!day.plan.isPerson(p) || !day.plan.isPlace(a) || !day.plan.isPlace(b)) {
            return BAD;
        }
        return day.firstUnlike(p, a, b);
    }

    public int odds(int p, int minute, int x, int what) {
        if (!day.plan.isPerson(p) || !isMinute(minute) || x < 0 || x > 10 || !isBit(what)) {
            return BAD;
        }
        int missed = day.missedAtHome(p, minute);
        int lower = power(10, missed);
        int upper = lower - power(x, missed);
        int shared = greatestDivisor(lower, upper);
        return (what == 0 ? upper : lower) / shared;
    }

    // ---- kinds, images

    public int rate(int kind, int d) {
        if (kind < 0 || kind >= KINDS || !day.plan.isDuty(d)) {
            return NO;
        }
        return rates.as(kind, day, d);
    }

    public int keep(int image) {
        if (!isImage(image)) {
            return BAD;
        }
        images[image].take(day.moment);
        kept[image] = true;
        return day.moment.minute;
    }

    public int back(int image) {
        if (!isImage(image)) {
            return BAD;
        }
        if (!kept[image]) {
            return STATE;
        }
        day.moment.take(images[image]);
        history.lose();
        return day.moment.minute;
    }

    public int count(int what) {
        switch (what) {
            case 0: return day.plan.places;
            case 1: return day.plan.people;
            case 2: return day.plan.duties;
            case 3: return day.plan.walk;
            case 4: return day.plan.free;
            case 5: return heard.size;
            case 6: return reader.length;
            default: return BAD;
        }
    }

    public long trace() {
        return rates.traced;
    }

    // ---- what several calls need

    private static int bit(int bits, int number) {
        return bits >> number & 1;
    }

    private static boolean isBit(int number) {
        return number == 0 || number == 1;
    }

    private static boolean isMinute(int minute) {
        return minute >= 0 && minute < DAY;
    }

    private static boolean isImage(int image) {
        return image >= 0 && image < IMAGES;
    }

    private static int power(int base, int times) {
        int product = 1;
        for (int i = 0; i < times && i < MOST_DUTIES; i++) {
            product *= base;
        }
        return product;
    }

    /** Of a number above 0 and one not below 0: so the answer is above 0, and may divide. */
    private static int greatestDivisor(int above, int other) {
        int divisor = Math.max(1, above);
        int rest = other;
        // Euclid's steps on two ints are fewer than 50; 100 is far above.
        for (int i = 0; i < 100 && rest > 0; i++) {
            int next = divisor % rest;
            divisor = rest;
            rest = next;
        }
        return divisor;
    }

    /** What a text tells: it stays as it is until the next text is read. */
    private static final class Plan {
        int places = 2;
        int people;
        int duties;
        int walk = 2;
        int free = 3;
        final int[] home = new int[MOST_PEOPLE];
        final int[] teller = new int[MOST_DUTIES];
        final int[] place = new int[MOST_DUTIES];
        final int[] from = new int[MOST_DUTIES];
        final int[] lasts = new int[MOST_DUTIES];

        void reset() {
            places = 2;
            people = 0;
            duties = 0;
            walk = 2;
            free = 3;
        }

        void take(Plan other) {
            places = other.places;
            people = other.people;
            duties = other.duties;
            walk = other.walk;
            free = other.free;
            System.arraycopy(other.home, 0, home, 0, MOST_PEOPLE);
            System.arraycopy(other.teller, 0, teller, 0, MOST_DUTIES);
            System.arraycopy(other.place, 0, place, 0, MOST_DUTIES);
            System.arraycopy(other.from, 0, from, 0, MOST_DUTIES);
            System.arraycopy(other.lasts, 0, lasts, 0, MOST_DUTIES);
        }

        boolean isPlace(int number) {
            return number >= 0 && number < places;
        }

        boolean isPerson(int number) {
            return number >= 0 && number < people;
        }

        boolean isDuty(int number) {
            return number >= 0 && number < duties;
        }

        boolean isSet(int bits) {
            return bits >= 0 && bits < 1 << people;
        }

        int minutesBetween(int a, int b) {
            return walk * Math.abs(a - b);
        }
    }

    /** THE TEXT, and the reading of it into a draft, so that a faulty text changes nothing else. */
    private static final class Reader {
        private static final int END = -1;
        private static final int NUMBER = -2;
        private static final int WRONG = -3;
        private static final int HIGHEST = 239;

        final int[] letters = new int[MOST_LETTERS];
        int length;
        final Plan draft = new Plan();
        int fault = NONE;

        // The token that is looked at: its kind (or its letter), where it starts, its number, what is behind it.
        private int token;
        private int start;
        private int number;
        private int ahead;

        private boolean walkTold;
        private boolean freeTold;

        boolean addLetter(int letter) {
            if (length >= MOST_LETTERS) {
                return false;
            }
            letters[length] = letter;
            length++;
            return true;
        }

        int dropLetters() {
            int dropped = length;
            length = 0;
            return dropped;
        }

        boolean hasFault() {
            return fault != NONE;
        }

        /** How many items the draft was told by; of no meaning if there is a fault. */
        int read() {
            draft.reset();
            walkTold = false;
            freeTold = false;
            fault = NONE;
            ahead = 0;
            nextToken();
            int items = 0;
            while (items < MOST_LETTERS && token != END && !hasFault()) {
                readItem(items == 0);
                items++;
            }
            return items;
        }

        private void readItem(boolean first) {
            switch (token) {
                case 'w': readPlaces(first); break;
                case 'p': readPerson(); break;
                case 'd': readDuty(); break;
                case 'g': readWalk(); break;
                case 'f': readFree(); break;
                default: refuseToken(); break;
            }
            if (token != ';') {
                refuseToken();
            } else {
                nextToken();
            }
        }

        private void readPlaces(boolean first) {
            readWord(first);
            draft.places = readNumber(2, MOST_PLACES);
        }

        private void readPerson() {
            readWord(draft.people < MOST_PEOPLE);
            int home = readNumber(0, draft.places - 1);
            if (!hasFault()) {
                draft.home[draft.people] = home;
                draft.people++;
            }
        }

        private void readDuty() {
            readWord(draft.duties < MOST_DUTIES);
            int teller = readNumber(0, draft.people - 1);
            int place = readNumber(0, draft.places - 1);
            int from = readNumber(0, DAY - 1);
            int lasts = readNumber(1, 60);
            if (!hasFault()) {
                draft.teller[draft.duties] = teller;
                draft.place[draft.duties] = place;
                draft.from[draft.duties] = from;
                draft.lasts[draft.duties] = lasts;
                draft.duties++;
            }
        }

        private void readWalk() {
            readWord(!walkTold);
            walkTold = true;
            draft.walk = readNumber(1, 9);
        }

        private void readFree() {
            readWord(!freeTold);
            freeTold = true;
            draft.free = readNumber(0, 9);
        }

        private void readWord(boolean mayStand) {
            if (mayStand) {
                nextToken();
            } else {
                refuseToken();
            }
        }

        private int readNumber(int low, int high) {
            if (hasFault()) {
                return low;
            }
            if (token != NUMBER || number < low || number > high) {
                refuseToken();
                return low;
            }
            int found = number;
            nextToken();
            return found;
        }

        /** The first fault stays: what is looked at behind it says nothing any more. */
        private void refuseToken() {
            if (!hasFault()) {
                fault = start;
            }
        }

        private void nextToken() {
            while (ahead < length && letters[ahead] == ' ') {
                ahead++;
            }
            start = ahead;
            number = 0;
            while (ahead < length && isDigit(letters[ahead])) {
                // Held just above the highest, so that two hundred digits don't wrap around.
                number = Math.min(HIGHEST + 1, number * 10 + letters[ahead] - '0');
                ahead++;
            }
            if (start >= length) {
                token = END;
            } else if (ahead > start) {
                boolean zeroAhead = letters[start] == '0' && ahead - start > 1;
                token = zeroAhead || number > HIGHEST ? WRONG : NUMBER;
            } else {
                token = isWord(letters[start]) ? letters[start] : WRONG;
                ahead++;
            }
        }

        private static boolean isDigit(int letter) {
            return letter >= '0' && letter <= '9';
        }

        private static boolean isWord(int letter) {
            return letter == 'w' || letter == 'p' || letter == 'd' || letter == 'g' || letter == 'f' || letter == ';';
        }
    }

    /** NOW: just what images keep and what undo brings back. */
    private static final class Moment {
        int minute;
        int excused;
        // Where he is, if he has no minutes to go; else where he goes to.
        final int[] place = new int[MOST_PEOPLE];
        final int[] toGo = new int[MOST_PEOPLE];
        final int[] tolled = new int[MOST_PEOPLE];
        final int[] owner = new int[MOST_DUTIES];

        void begin(Plan plan) {
            minute = 0;
            excused = 0;
            for (int p = 0; p < MOST_PEOPLE; p++) {
                place[p] = plan.home[p];
                toGo[p] = 0;
                tolled[p] = 0;
            }
            System.arraycopy(plan.teller, 0, owner, 0, MOST_DUTIES);
        }

        void take(Moment other) {
            minute = other.minute;
            excused = other.excused;
            System.arraycopy(other.place, 0, place, 0, MOST_PEOPLE);
            System.arraycopy(other.toGo, 0, toGo, 0, MOST_PEOPLE);
            System.arraycopy(other.tolled, 0, tolled, 0, MOST_PEOPLE);
            System.arraycopy(other.owner, 0, owner, 0, MOST_DUTIES);
        }
    }

    /** The latest moments ahead of what was done, in a ring: the oldest is written over. */
    private static final class History {
        final Moment[] past = new Moment[MOST_UNDONE];
        int known;
        private int next;

        History() {
            for (int i = 0; i < MOST_UNDONE; i++) {
                past[i] = new Moment();
            }
        }

        void remember(Moment moment) {
            past[next].take(moment);
            next = (next + 1) % MOST_UNDONE;
            known = Math.min(known + 1, MOST_UNDONE);
        }

        void restore(Moment moment) {
            if (known == 0) {
                return;
            }
            next = (next + MOST_UNDONE - 1) % MOST_UNDONE;
            known--;
            moment.take(past[next]);
        }

        void lose() {
            known = 0;
        }
    }

    /** What was told and how things are now: who is rung for when. */
    private static final class Day {
        final Plan plan = new Plan();
        final Moment moment = new Moment();

        void begin(Plan told) {
            plan.take(told);
            moment.begin(plan);
        }

        /** Whether one who is not at this duty's place is rung for in a minute. */
        boolean isDue(int d, int minute) {
            return bit(moment.excused, d) == 0
                && minute >= plan.from[d] + plan.free
                && minute < Math.min(DAY, plan.from[d] + plan.lasts[d]);
        }

        /** Places (bits) of a person's duties in a minute: he is rung for unless he is at all of them. */
        int dueAt(int p, int minute) {
            int bits = 0;
            for (int d = 0; d < plan.duties; d++) {
                if (moment.owner[d] == p && isDue(d, minute)) {
                    bits |= 1 << plan.place[d];
                }
            }
            return bits;
        }

        boolean isRungAt(int place, int p, int minute) {
            return (dueAt(p, minute) & ~(1 << place)) != 0;
        }

        /** Duties (bits) that are rung for in a minute from now on, if nobody is gone. */
        int dutiesRung(int minute) {
            int bits = 0;
            for (int d = 0; d < plan.duties; d++) {
                if (isDue(d, minute) && !willBeThere(moment.owner[d], plan.place[d], minute)) {
                    bits |= 1 << d;
                }
            }
            return bits;
        }

        private boolean willBeThere(int p, int place, int minute) {
            return moment.place[p] == place && minute >= moment.minute + moment.toGo[p];
        }

        /** People (bits) who are rung for in a minute from now on, if nobody is gone. */
        int rung(int minute) {
            return owners(dutiesRung(minute));
        }

        int owners(int duties) {
            int people = 0;
            for (int d = 0; d < plan.duties; d++) {
                if (bit(duties, d) == 1) {
                    people |= 1 << moment.owner[d];
                }
            }
            return people;
        }

        int dutiesOf(int p) {
            int bits = 0;
            for (int d = 0; d < plan.duties; d++) {
                if (moment.owner[d] == p) {
                    bits |= 1 << d;
                }
            }
            return bits;
        }

        int passMinute() {
            int people = rung(moment.minute);
            for (int p = 0; p < plan.people; p++) {
                moment.tolled[p] += bit(people, p);
                moment.toGo[p] = Math.max(0, moment.toGo[p] - 1);
            }
            moment.minute++;
            return Integer.bitCount(people);
        }

        int tolledInAll() {
            int sum = 0;
            for (int p = 0; p < plan.people; p++) {
                sum += moment.tolled[p];
            }
            return sum;
        }

        int worst() {
            int most = 0;
            int who = NONE;
            for (int p = 0; p < plan.people; p++) {
                if (moment.tolled[p] > most) {
                    most = moment.tolled[p];
                    who = p;
                }
            }
            return who;
        }

        int nextRung() {
            for (int minute = moment.minute; minute < DAY; minute++) {
                if (dutiesRung(minute) != 0) {
                    return minute;
                }
            }
            return NONE;
        }

        int chordMinutes(int set) {
            int minutes = 0;
            for (int minute = moment.minute; minute < DAY; minute++) {
                if (rung(minute) == set) {
                    minutes++;
                }
            }
            return minutes;
        }

        int chordFirst(int set) {
            for (int minute = moment.minute; minute < DAY; minute++) {
                if (rung(minute) == set) {
                    return minute;
                }
            }
            return NONE;
        }

        int firstUnlike(int p, int a, int b) {
            for (int minute = 0; minute < DAY; minute++) {
                if (isRungAt(a, p, minute) != isRungAt(b, p, minute)) {
                    return minute;
                }
            }
            return NONE;
        }

        /** How many duties would each alone ring for a person who is at home all day. */
        int missedAtHome(int p, int minute) {
            int missed = 0;
            for (int d = 0; d < plan.duties; d++) {
                if (moment.owner[d] == p && plan.place[d] != plan.home[p] && isDue(d, minute)) {
                    missed++;
                }
            }
            return missed;
        }
    }

    /** The fewest duties to excuse so that some people are never rung for all at once. */
    private static final class Silencer {
        // The duties rung for in the minutes to be silenced; the same ones in a row are noted once.
        private final int[] notes = new int[DAY];
        private int size;

        int fewest(Day day, int set) {
            int ofSet = dutiesOfSet(day, set);
            noteMinutes(day, set, ofSet);
            int best = ofSet;
            // Counted upwards and bettered by fewer duties alone: of as few the least stays.
            for (int chosen = 0; chosen < ofSet; chosen++) {
                boolean fewer = Integer.bitCount(chosen) < Integer.bitCount(best);
                if ((chosen & ~ofSet) == 0 && fewer && silencesAll(day, set, chosen)) {
                    best = chosen;
                }
            }
            return best;
        }

        private int dutiesOfSet(Day day, int set) {
            int bits = 0;
            for (int p = 0; p < day.plan.people; p++) {
                if (bit(set, p) == 1) {
                    bits |= day.dutiesOf(p);
                }
            }
            return bits;
        }

        private void noteMinutes(Day day, int set, int ofSet) {
            size = 0;
            for (int minute = day.moment.minute; minute < DAY; minute++) {
                int rung = day.dutiesRung(minute) & ofSet;
                boolean same = size > 0 && notes[size - 1] == rung;
                if (!same && !silences(day, set, rung, 0)) {
                    notes[size] = rung;
                    size++;
                }
            }
        }

        private boolean silencesAll(Day day, int set, int chosen) {
            for (int i = 0; i < size; i++) {
                if (!silences(day, set, notes[i], chosen)) {
                    return false;
                }
            }
            return true;
        }

        /** Whether one of the set has no duty left that is rung for. */
        private boolean silences(Day day, int set, int rung, int chosen) {
            return (day.owners(rung & ~chosen) & set) != set;
        }
    }

    /** How one goes through the rest of his day: weighed from its end back to now. */
    private static final class Ways {
        // By minute, for one person: places of his duties; tolls to come, if he is nowhere to the end.
        private final int[] due = new int[DAY];
        private final int[] astray = new int[DAY + 1];
        // By minute and place: the fewest tolls to come for one who is there.
        private final int[] fewest = new int[(DAY + 1) * MOST_PLACES];

        void weigh(Day day, int p) {
            for (int minute = DAY - 1; minute >= day.moment.minute; minute--) {
                due[minute] = day.dueAt(p, minute);
                astray[minute] = astray[minute + 1] + (due[minute] != 0 ? 1 : 0);
                for (int place = 0; place < day.plan.places; place++) {
                    fewest[minute * MOST_PLACES + place] = fewestFrom(day.plan, minute, place);
                }
            }
        }

        /** A far way is as long as ways to the next place, each gone on at once: so these alone are weighed. */
        private int fewestFrom(Plan plan, int minute, int place) {
            int best = tolls(plan, minute, place, place);
            if (place > 0) {
                best = Math.min(best, tolls(plan, minute, place, place - 1));
            }
            if (place + 1 < plan.places) {
                best = Math.min(best, tolls(plan, minute, place, place + 1));
            }
            return best;
        }

        /** Tolls to come for one who goes (or stays, if both places are the same) in a minute of the day. */
        private int tolls(Plan plan, int minute, int place, int to) {
            if (place == to) {
                int rung = (due[minute] & ~(1 << place)) != 0 ? 1 : 0;
                return rung + fewest[(minute + 1) * MOST_PLACES + place];
            }
            return tollsArriving(minute, plan.minutesBetween(place, to), to);
        }

        /** Nothing tolls behind the day's end, so whoever arrives later arrives then. */
        private int tollsArriving(int minute, int toGo, int to) {
            int arrival = Math.min(DAY, minute + toGo);
            return astray[minute] - astray[arrival] + fewest[arrival * MOST_PLACES + to];
        }

        int fewestTolls(Moment moment, int p) {
            return tollsArriving(moment.minute, moment.toGo[p], moment.place[p]);
        }

        int bestPlace(Day day, int p) {
            int minute = day.moment.minute;
            int own = day.moment.place[p];
            if (day.moment.toGo[p] > 0 || minute >= DAY) {
                return own;
            }
            int best = fewestTolls(day.moment, p);
            for (int to = 0; to < day.plan.places; to++) {
                if (tolls(day.plan, minute, own, to) == best) {
                    return to;
                }
            }
            return own;
        }
    }

    /** What was heard of people. */
    private static final class Heard {
        int size;
        private final int[] of = new int[MOST_HEARD];
        private final int[] minutes = new int[MOST_HEARD];
        private final int[] was = new int[MOST_HEARD];

        boolean add(int p, int minute, int is) {
            if (size >= MOST_HEARD) {
                return false;
            }
            of[size] = p;
            minutes[size] = minute;
            was[size] = is;
            size++;
            return true;
        }

        int drop() {
            int dropped = size;
            size = 0;
            return dropped;
        }

        int placesFor(Day day, int p) {
            int bits = 0;
            for (int place = 0; place < day.plan.places; place++) {
                if (fits(day, p, place)) {
                    bits |= 1 << place;
                }
            }
            return bits;
        }

        private boolean fits(Day day, int p, int place) {
            for (int i = 0; i < size; i++) {
                if (of[i] == p && day.isRungAt(place, p, minutes[i]) != (was[i] == 1)) {
                    return false;
                }
            }
            return true;
        }
    }

    /** Duties by kinds; each kind's body adds its own number to THE TRACE whenever it is asked. */
    private static final class Rates {
        private static final int WATCH = 1, SCHOOL = 2, CHURCH = 3, HEARTH = 4, MARKET = 5;

        long traced;

        int as(int kind, Day day, int d) {
            switch (kind) {
                case WATCH: return asWatch(day, d);
                case SCHOOL: return asSchool(day, d);
                case CHURCH: return asChurch(day, d);
                case HEARTH: return asHearth(day, d);
                case MARKET: return asMarket(day, d);
                default: return asDuty(day, d);
            }
        }

        private int asDuty(Day day, int d) {
            traced += 1;
            return day.plan.lasts[d];
        }

        private int asWatch(Day day, int d) {
            traced += 10;
            return asDuty(day, d) + day.plan.place[d];
        }

        private int asSchool(Day day, int d) {
            traced += 100;
            int up = asDuty(day, d);
            return bit(day.moment.excused, d) == 1 ? up - 7 : up;
        }

        private int asChurch(Day day, int d) {
            traced += 1000;
            return 2 * asWatch(day, d);
        }

        private int asHearth(Day day, int d) {
            traced += 10000;
            return asSchool(day, d) + d;
        }

        private int asMarket(Day day, int d) {
            traced += 100000;
            return asDuty(day, d) + day.moment.tolled[day.moment.owner[d]];
        }
    }
}
