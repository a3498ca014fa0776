/** A house where tea is given only to who has got up to go. */
public final class PouredForLeaving {
    // What a call answers that is refused, or that has no answer.
    private static final int FINE = 0;
    private static final int NOBODY = -1;
    private static final int OTHER = -2;
    private static final int WRONG_STATE = -3;
    private static final int BELOW = -4;
    private static final int ROOM = -6;
    private static final int NONE = -9;
    private static final int REFUSALS = 6;
    private static final int INT_REFUSED = 1000000000;
    private static final long LONG_REFUSED = 4000000000000000000L;

    // KINDS.
    private static final int CURATE = 1;
    private static final int STILL = 2;
    private static final int AUNT = 3;
    private static final int HASTY = 4;
    private static final int CRAY = 5;
    private static final int KINDS = 6;

    // STATES.
    private static final int SITS = 0;
    private static final int STANDS = 1;
    private static final int DRINKS = 2;
    private static final int GONE = 3;
    private static final int STATES = 4;

    // What of a GUEST: the numbers that guestOf() knows.
    private static final int KIND = 0;
    private static final int FIGURE = 1;
    private static final int THIRST = 2;

    // Bounds that the document names.
    private static final int MOST_GUESTS = 6;
    private static final int MOST_FIGURE = 9;
    private static final int MOST_THIRST = 30;
    private static final int MOST_CUPS = 5;
    private static final int RULES = 4;
    private static final int MOST_MINUTE = 999;
    private static final int MOST_AT_ONCE = 60;
    private static final int MOST_LETTERS = 96;
    private static final int MOST_LETTER = 255;
    private static final int MOST_IN_ROW = 12;
    private static final int MOST_NUMBER = 99;
    private static final int MOST_BACK = 8;
    private static final int MOST_AWAY = 8;
    private static final int LEAST_ODDS = 2;
    private static final int MOST_ODDS = 20;
    private static final int MOST_LOTS = 20;
    private static final int LOT_MINUTES = 60;
    private static final int WITHOUT_SIGN = 0x7fffffff;
    private static final int FAR = 99;
    private static final int NEVER = 100;
    private static final int LATEST_RISE = 30;
    private static final int SETS = 64;
    private static final int NO_ONE = -1;

    private final Afternoon now = new Afternoon();
    private final Afternoon then = new Afternoon();
    private final Afternoon picture = new Afternoon();
    private final Numbers letters = new Numbers(MOST_LETTERS);
    private final Numbers told = new Numbers(MOST_IN_ROW);
    private final Changes changes = new Changes();
    private final Outlook outlook = new Outlook(now, then);
    private final Choices choices = new Choices(now, then);
    private final Guesses guesses = new Guesses(now, then);
    private final int[] refusals = new int[REFUSALS];
    private boolean pictured = false;

    public PouredForLeaving() {
    }

    public int feed(int letter) {
        if (letter < 0) return refuse(BELOW);
        if (letter > MOST_LETTER || letters.isFull()) return refuse(ROOM);
        return letters.add(letter);
    }

    public int house() {
        int answer = Telling.follow(letters, now, then);
        letters.empty();
        if (answer > 0) {
            now.copyFrom(then);
            changes.forget();
        }
        return answer;
    }

    public int guestOf(int guest, int what) {
        if (!now.has(guest)) return refuse(NOBODY);
        if (isOther(what, 10)) return refuse(OTHER);
        return now.tellOf(guest, what);
    }

    public int guest(int kind, int figure, int thirst) {
        int why = now.whyNotCome(kind, figure, thirst);
        if (why != FINE) return refuse(why);
        changes.forget();
        return now.come(kind, figure, thirst);
    }

    public int rises(int guest) {
        int why = now.whyNotRise(guest);
        if (why != FINE) return refuse(why);
        changes.keep(now, guest);
        now.rise(guest);
        return now.howMany(STANDS);
    }

    public int slips(int guest) {
        int why = now.whyNotSlip(guest);
        if (why != FINE) return refuse(why);
        changes.keep(now, guest);
        now.state[guest] = GONE;
        return now.howMany(GONE);
    }

    public int cups(int v) {
        int why = now.whyNotCups(v);
        if (why != FINE) return refuse(why);
        int before = now.cups;
        changes.keep(now, NO_ONE);
        now.cups = v;
        return before;
    }

    public int rule(int v) {
        if (isOther(v, RULES)) return refuse(OTHER);
        int before = now.rule;
        changes.keep(now, NO_ONE);
        now.rule = v;
        return before;
    }

    public int minutes(int n) {
        int why = now.whyNotPass(n);
        if (why != FINE) return refuse(why);
        changes.forget();
        now.pass(n);
        return now.howMany(GONE);
    }

    public int back() {
        if (changes.size == 0) return refuse(WRONG_STATE);
        return changes.takeBack(now);
    }

    public int behind(int guest, int n, int what) {
        if (!now.has(guest)) return refuse(NOBODY);
        int why = whyNotFar(n, what, 3);
        if (why != FINE) return refuse(why);
        return outlook.ofOne(guest, n, what);
    }

    public int all(int n, int what) {
        int why = whyNotFar(n, what, 6);
        if (why != FINE) return refuse(why);
        return outlook.ofAll(n, what);
    }

    public int leaves(int guest) {
        if (!now.has(guest)) return refuse(NOBODY);
        return noneIfNever(outlook.whenGone(guest));
    }

    public int gone(int what) {
        if (isOther(what, 2)) return refuse(OTHER);
        return what == 0 ? outlook.firstGone() : noneIfNever(outlook.whenAllGone());
    }

    public int tastes(int guest) {
        if (!now.has(guest)) return refuse(NOBODY);
        return outlook.whenDrinking(guest);
    }

    public int thirsty(int what) {
        if (isOther(what, 2)) return refuse(OTHER);
        return what == 0 ? outlook.neverServed() : outlook.staying();
    }

    public int cupsWanted(int v) {
        int why = whyNotFar(v);
        if (why != FINE) return refuse(why);
        return choices.fewestCups(v);
    }

    public int bestRule(int what) {
        if (isOther(what, 2)) return refuse(OTHER);
        return what == 0 ? choices.soonestRule() : choices.mostPouredRule();
    }

    public int rising(int what) {
        if (isOther(what, 2)) return refuse(OTHER);
        return choices.soonestRising(what);
    }

    public int bestRise(int guest, int what) {
        if (!now.has(guest)) return refuse(NOBODY);
        if (isOther(what, 2)) return refuse(OTHER);
        return choices.soonestRiseOf(guest, what);
    }

    public int two(int one, int other) {
        if (!now.areTwo(one, other)) return refuse(NOBODY);
        if (now.state[one] != SITS || now.state[other] != SITS) return refuse(WRONG_STATE);
        return choices.balanceOf(one, other);
    }

    public int rest(int what) {
        if (isOther(what, 2)) return refuse(OTHER);
        return choices.atRest(what);
    }

    public int garden(int guest) {
        if (!now.has(guest)) return refuseLoudly(NOBODY);
        if (now.state[guest] == GONE) return refuseLoudly(WRONG_STATE);
        return choices.gainWithout(guest);
    }

    public int served(int i) {
        if (i < 0) return refuse(BELOW);
        return outlook.servedAs(i);
    }

    public int who(int guest, int what) {
        if (!now.has(guest)) return refuse(NOBODY);
        if (isOther(what, 3)) return refuse(OTHER);
        int fitting = guesses.fitting(guest, what, told);
        return what == THIRST ? Integer.bitCount(fitting) : fitting;
    }

    public int look(int guest, int what) {
        if (!now.has(guest)) return refuse(NOBODY);
        if (isOther(what, 2)) return refuse(OTHER);
        return guesses.mostUnlike(guest, what);
    }

    public long away(int guest, int n, int t, int part) {
        if (!now.has(guest)) return refuseLong(NOBODY);
        if (n < 0 || t < LEAST_ODDS) return refuseLong(BELOW);
        if (n > MOST_AWAY || t > MOST_ODDS) return refuseLong(ROOM);
        if (isOther(part, 2)) return refuseLong(OTHER);
        return guesses.likelyServed(guest, n, t, part);
    }

    public int crowd(int n, int what) {
        int why = whyNotFar(n, what, 2);
        if (why != FINE) return refuse(why);
        return outlook.mostStanding(n, what);
    }

    public int caller(int what) {
        if (isOther(what, 2)) return refuse(OTHER);
        if (now.guests >= MOST_GUESTS) return refuse(WRONG_STATE);
        return choices.soonestCaller(what);
    }

    public int stuck() {
        return outlook.isStuck() ? 1 : 0;
    }

    public int longest(int n, int what) {
        int why = whyNotFar(n, what, 2);
        if (why != FINE) return refuse(why);
        return outlook.longestStanding(n, what);
    }

    public int leaver(int i) {
        if (i < 0) return refuse(BELOW);
        return outlook.leaverAt(i);
    }

    public int waited(int n, int what) {
        int why = whyNotFar(n, what, 2);
        if (why != FINE) return refuse(why);
        return what == 0 ? outlook.minutesStood(n) : outlook.cupsIdle(n);
    }

    public int bestOf(int guest, int what) {
        if (!now.has(guest)) return refuse(NOBODY);
        if (isOther(what, 2)) return refuse(OTHER);
        return what == 0
            ? choices.soonestAs(guest, FIGURE, MOST_FIGURE)
            : choices.soonestAs(guest, THIRST, MOST_THIRST);
    }

    public int kept(int guest) {
        if (!now.has(guest)) return refuseLoudly(NOBODY);
        int state = now.state[guest];
        if (state == GONE || state == DRINKS) return refuseLoudly(WRONG_STATE);
        return choices.gainWithCray(guest);
    }

    public int dry(int n) {
        int why = whyNotFar(n);
        if (why != FINE) return refuse(why);
        return outlook.goneWithoutTea(n);
    }

    public int company(int one, int other, int n) {
        if (!now.areTwo(one, other)) return refuse(NOBODY);
        int why = whyNotFar(n);
        if (why != FINE) return refuse(why);
        return outlook.bothDrinking(one, other, n);
    }

    public long mean(int part) {
        if (isOther(part, 2)) return refuseLong(OTHER);
        return outlook.meanOfLeaving(part);
    }

    public int hostess(int n) {
        int why = whyNotFar(n);
        if (why != FINE) return refuse(why);
        return choices.leastThirst(n);
    }

    public int row(int v) {
        if (v < 0) return refuse(BELOW);
        if (v > MOST_NUMBER || told.isFull()) return refuse(ROOM);
        return told.add(v);
    }

    public int judge(int guest) {
        if (!now.has(guest)) return refuse(NOBODY);
        int place = guesses.firstWrongThirst(guest, told);
        told.empty();
        return place;
    }

    public int clear() {
        int before = told.size;
        told.empty();
        return before;
    }

    public int lots(int n, int z, int what) {
        if (n < 1) return refuse(BELOW);
        if (n > MOST_LOTS) return refuse(ROOM);
        if (isOther(what, 2)) return refuse(OTHER);
        return guesses.drawn(n, z, what);
    }

    public int image() {
        picture.copyFrom(now);
        pictured = true;
        return now.minute;
    }

    public int restore() {
        if (!pictured) return refuse(WRONG_STATE);
        now.copyFrom(picture);
        changes.forget();
        return now.minute;
    }

    public int count(int what) {
        if (what >= 5 && what <= 8) return now.howMany(what - 5);
        if (what >= 11 && what <= 16) return refusals[what - 11];
        switch (what) {
            case 0: return now.guests;
            case 1: return now.minute;
            case 2: return now.cups;
            case 3: return now.rule;
            case 4: return now.poured;
            case 9: return letters.size;
            case 10: return told.size;
            case 17: return changes.size;
            default: return NONE;
        }
    }

    private int refuse(int number) {
        int place = -1 - number;
        if (place >= 0 && place < REFUSALS) refusals[place]++;
        return number;
    }

    private int refuseLoudly(int number) {
        return INT_REFUSED - refuse(number);
    }

    private long refuseLong(int number) {
        return LONG_REFUSED - refuse(number);
    }

    private static boolean isOther(int what, int many) {
        return what < 0 || what >= many;
    }

    private static int whyNotFar(int n) {
        if (n < 0) return BELOW;
        return n > FAR ? ROOM : FINE;
    }

    private static int whyNotFar(int n, int what, int many) {
        int why = whyNotFar(n);
        if (why != FINE) return why;
        return isOther(what, many) ? OTHER : FINE;
    }

    private static int noneIfNever(int when) {
        return when >= NEVER ? NONE : when;
    }

    /** What the KINDS make of a FIGURE. */
    private static final class Kinds {
        private Kinds() {
        }

        static int limit(int kind, int figure) {
            int plain = 4 + figure;
            switch (kind) {
                case CURATE: return plain / 2;
                case STILL: return plain + 10;
                case AUNT: return plain / 2 + 2;
                case HASTY: return 1;
                case CRAY: return 99;
                default: return plain;
            }
        }

        static int patience(int kind, int figure) {
            switch (kind) {
                case CURATE:
                case AUNT: return 3 + figure;
                case STILL:
                case CRAY: return 6;
                case HASTY: return 2;
                default: return 3;
            }
        }

        static int sip(int kind) {
            switch (kind) {
                case AUNT: return 1;
                case HASTY: return 5;
                default: return 2;
            }
        }

        static int enough(int kind, int figure) {
            switch (kind) {
                case CURATE: return 1 + figure / 3;
                case AUNT: return 2 + figure / 3;
                default: return 1;
            }
        }
    }

    /** All that there is of part I: as it is, in mind, or as THE IMAGE. */
    private static final class Afternoon {
        private final int[] kind = new int[MOST_GUESTS];
        private final int[] figure = new int[MOST_GUESTS];
        private final int[] thirst = new int[MOST_GUESTS];
        private final int[] state = new int[MOST_GUESTS];
        private final int[] stood = new int[MOST_GUESTS];
        private final int[] had = new int[MOST_GUESTS];
        private int guests = 0;
        private int cups = 1;
        private int rule = 0;
        private int minute = 0;
        private int poured = 0;

        void copyFrom(Afternoon other) {
            System.arraycopy(other.kind, 0, kind, 0, MOST_GUESTS);
            System.arraycopy(other.figure, 0, figure, 0, MOST_GUESTS);
            System.arraycopy(other.thirst, 0, thirst, 0, MOST_GUESTS);
            System.arraycopy(other.state, 0, state, 0, MOST_GUESTS);
            System.arraycopy(other.stood, 0, stood, 0, MOST_GUESTS);
            System.arraycopy(other.had, 0, had, 0, MOST_GUESTS);
            guests = other.guests;
            cups = other.cups;
            rule = other.rule;
            minute = other.minute;
            poured = other.poured;
        }

        boolean has(int guest) {
            return guest >= 0 && guest < guests;
        }

        boolean areTwo(int one, int other) {
            return has(one) && has(other) && one != other;
        }

        int whyNotCome(int newKind, int newFigure, int newThirst) {
            if (isOther(newKind, KINDS)) return OTHER;
            if (newFigure < 0 || newThirst < 0) return BELOW;
            if (newFigure > MOST_FIGURE || newThirst > MOST_THIRST) return ROOM;
            return guests >= MOST_GUESTS ? ROOM : FINE;
        }

        int whyNotRise(int guest) {
            if (!has(guest)) return NOBODY;
            return state[guest] == SITS ? FINE : WRONG_STATE;
        }

        int whyNotSlip(int guest) {
            if (!has(guest)) return NOBODY;
            return state[guest] == SITS || state[guest] == STANDS ? FINE : WRONG_STATE;
        }

        int whyNotCups(int v) {
            if (v < 1) return BELOW;
            if (v > MOST_CUPS) return ROOM;
            return howMany(DRINKS) > v ? WRONG_STATE : FINE;
        }

        int whyNotPass(int n) {
            if (n < 1) return BELOW;
            return n > MOST_AT_ONCE || minute > MOST_MINUTE - n ? ROOM : FINE;
        }

        /** Only where whyNotCome() tells no reason. */
        int come(int newKind, int newFigure, int newThirst) {
            int guest = guests;
            kind[guest] = newKind;
            figure[guest] = newFigure;
            thirst[guest] = newThirst;
            state[guest] = SITS;
            stood[guest] = 0;
            had[guest] = 0;
            guests++;
            return guest;
        }

        void rise(int guest) {
            state[guest] = STANDS;
            stood[guest] = 0;
        }

        /** All of a set who SIT rise. */
        void riseAll(int set) {
            for (int guest = 0; guest < guests; guest++) {
                if (((set >> guest) & 1) == 1 && state[guest] == SITS) rise(guest);
            }
        }

        /** Makes one of another KIND, FIGURE or THIRST than he is. */
        void remake(int guest, int what, int value) {
            switch (what) {
                case KIND:
                    kind[guest] = value;
                    break;
                case FIGURE:
                    figure[guest] = value;
                    break;
                default:
                    thirst[guest] = value;
                    break;
            }
        }

        int tellOf(int guest, int what) {
            switch (what) {
                case KIND: return kind[guest];
                case FIGURE: return figure[guest];
                case THIRST: return thirst[guest];
                case 3: return state[guest];
                case 4: return stood[guest];
                case 5: return had[guest];
                case 6: return Kinds.limit(kind[guest], figure[guest]);
                case 7: return Kinds.patience(kind[guest], figure[guest]);
                case 8: return Kinds.sip(kind[guest]);
                default: return Kinds.enough(kind[guest], figure[guest]);
            }
        }

        int howMany(int inState) {
            int many = 0;
            for (int guest = 0; guest < guests; guest++) {
                if (state[guest] == inState) many++;
            }
            return many;
        }

        /** The set (bits) of those in a STATE. */
        int setOf(int inState) {
            int set = 0;
            for (int guest = 0; guest < guests; guest++) {
                if (state[guest] == inState) set |= 1 << guest;
            }
            return set;
        }

        int wholeThirst() {
            int whole = 0;
            for (int guest = 0; guest < guests; guest++) {
                if (state[guest] != GONE) whole += thirst[guest];
            }
            return whole;
        }

        boolean allGoneBut(int one) {
            for (int guest = 0; guest < guests; guest++) {
                if (guest != one && state[guest] != GONE) return false;
            }
            return true;
        }

        void pass(int n) {
            for (int i = 0; i < n; i++) passOne();
        }

        void passOne() {
            passUnserved();
            for (int i = 0; i < MOST_GUESTS; i++) {
                if (pourOne() == NO_ONE) break;
            }
        }

        /** A MINUTE but for the pouring. */
        void passUnserved() {
            minute++;
            for (int guest = 0; guest < guests; guest++) passFor(guest);
        }

        private void passFor(int guest) {
            switch (state[guest]) {
                case SITS:
                    thirst[guest] = Math.min(thirst[guest] + 1, MOST_THIRST);
                    if (thirst[guest] >= Kinds.limit(kind[guest], figure[guest])) rise(guest);
                    break;
                case STANDS:
                    stood[guest]++;
                    if (stood[guest] > Kinds.patience(kind[guest], figure[guest])) state[guest] = GONE;
                    break;
                case DRINKS:
                    thirst[guest] = Math.max(thirst[guest] - Kinds.sip(kind[guest]), 0);
                    if (thirst[guest] > 0) break;
                    had[guest]++;
                    state[guest] = had[guest] >= Kinds.enough(kind[guest], figure[guest]) ? GONE : SITS;
                    break;
                default:
                    break;
            }
        }

        /** Who gets the next cup of this MINUTE; NO_ONE if none is left, or nobody STANDS. */
        int pourOne() {
            if (howMany(DRINKS) >= cups) return NO_ONE;
            int next = NO_ONE;
            for (int guest = 0; guest < guests; guest++) {
                if (state[guest] != STANDS) continue;
                if (next == NO_ONE || isAhead(guest, next)) next = guest;
            }
            if (next == NO_ONE) return NO_ONE;
            state[next] = DRINKS;
            poured++;
            return next;
        }

        /** Whether a later one goes ahead of one with a smaller number. */
        private boolean isAhead(int later, int earlier) {
            switch (rule) {
                case 0: return stood[later] > stood[earlier];
                case 1: return thirst[later] > thirst[earlier];
                case 3: return true;
                default: return false;
            }
        }

        /** Lets MINUTES pass until one is GONE: how many, or NEVER. */
        int passTillGone(int guest) {
            for (int n = 0; n <= FAR; n++) {
                if (state[guest] == GONE) return n;
                passOne();
            }
            return NEVER;
        }

        /** Lets MINUTES pass until all others than one are GONE: how many, or NEVER. */
        int passTillAllGoneBut(int one) {
            for (int n = 0; n <= FAR; n++) {
                if (allGoneBut(one)) return n;
                passOne();
            }
            return NEVER;
        }
    }

    /** Numbers that come one by one, so many at most. */
    private static final class Numbers {
        private final int[] numbers;
        private int size = 0;

        Numbers(int most) {
            numbers = new int[Math.max(most, 0)];
        }

        boolean isFull() {
            return size >= numbers.length;
        }

        int add(int number) {
            if (!isFull()) {
                numbers[size] = number;
                size++;
            }
            return size;
        }

        /** The number at a place, below 0 where there is none. */
        int at(int place) {
            return place >= 0 && place < size ? numbers[place] : -1;
        }

        void empty() {
            size = 0;
        }
    }

    /** Follows a HOUSE that is told in letters. */
    private static final class Telling {
        private static final int OF_FORM = -1000;
        private static final int OF_SENSE = -2000;

        private Telling() {
        }

        /** How many STATEMENTS, with what they lead to; or the FAULT. */
        static int follow(Numbers letters, Afternoon start, Afternoon end) {
            int wrong = placeOfWrongLetter(letters);
            if (wrong >= 0) return OF_FORM - wrong;
            end.copyFrom(start);
            int statements = 0;
            for (int place = 0; place < letters.size; place += lengthOf(letters.at(place))) {
                if (!comesTrue(letters, place, end)) return OF_SENSE - place;
                statements++;
            }
            return statements;
        }

        /** Below 0 if the letters have the form of a HOUSE. */
        private static int placeOfWrongLetter(Numbers letters) {
            if (letters.size == 0) return 0;
            for (int place = 0; place < letters.size; place += lengthOf(letters.at(place))) {
                int wrong = placeOfWrongLetterFrom(letters, place);
                if (wrong >= 0) return wrong;
            }
            return -1;
        }

        private static int placeOfWrongLetterFrom(Numbers letters, int start) {
            int last = start + lengthOf(letters.at(start)) - 1;
            if (last == start) return start;
            for (int place = start + 1; place < last; place++) {
                if (!isDigit(letters.at(place))) return place;
            }
            return letters.at(last) == ';' ? -1 : last;
        }

        /** The length of a STATEMENT with its ";", 1 for a letter that begins none. */
        private static int lengthOf(int letter) {
            switch (letter) {
                case 'g': return 6;
                case 'm': return 4;
                case 'r':
                case 'o':
                case 'c':
                case 'u': return 3;
                default: return 1;
            }
        }

        private static boolean isDigit(int letter) {
            return letter >= '0' && letter <= '9';
        }

        private static int digitAt(Numbers letters, int place) {
            return letters.at(place) - '0';
        }

        private static int twoDigitsAt(Numbers letters, int place) {
            return 10 * digitAt(letters, place) + digitAt(letters, place + 1);
        }

        /** Whether the STATEMENT at a place is as it must be; then it comes. */
        private static boolean comesTrue(Numbers letters, int place, Afternoon end) {
            int digit = digitAt(letters, place + 1);
            switch (letters.at(place)) {
                case 'g': return guestComes(letters, place, end);
                case 'r':
                    if (end.whyNotRise(digit) != FINE) return false;
                    end.rise(digit);
                    return true;
                case 'o':
                    if (end.whyNotSlip(digit) != FINE) return false;
                    end.state[digit] = GONE;
                    return true;
                case 'c':
                    if (end.whyNotCups(digit) != FINE) return false;
                    end.cups = digit;
                    return true;
                case 'u':
                    if (isOther(digit, RULES)) return false;
                    end.rule = digit;
                    return true;
                default:
                    int n = twoDigitsAt(letters, place + 1);
                    if (end.whyNotPass(n) != FINE) return false;
                    end.pass(n);
                    return true;
            }
        }

        private static boolean guestComes(Numbers letters, int place, Afternoon end) {
            int kind = digitAt(letters, place + 1);
            int figure = digitAt(letters, place + 2);
            int thirst = twoDigitsAt(letters, place + 3);
            if (end.whyNotCome(kind, figure, thirst) != FINE) return false;
            end.come(kind, figure, thirst);
            return true;
        }
    }

    /** What can be TAKEN BACK, the latest first. */
    private static final class Changes {
        private final int[] guest = new int[MOST_BACK];
        private final int[] state = new int[MOST_BACK];
        private final int[] stood = new int[MOST_BACK];
        private final int[] cups = new int[MOST_BACK];
        private final int[] rule = new int[MOST_BACK];
        private int next = 0;
        private int size = 0;

        /** Keeps how all is before a change of one, or of the house (NO_ONE). */
        void keep(Afternoon now, int changed) {
            guest[next] = changed;
            if (now.has(changed)) {
                state[next] = now.state[changed];
                stood[next] = now.stood[changed];
            }
            cups[next] = now.cups;
            rule[next] = now.rule;
            next = (next + 1) % MOST_BACK;
            size = Math.min(size + 1, MOST_BACK);
        }

        /** Only where there is something; how many can still be. */
        int takeBack(Afternoon now) {
            next = (next + MOST_BACK - 1) % MOST_BACK;
            size--;
            int changed = guest[next];
            if (now.has(changed)) {
                now.state[changed] = state[next];
                now.stood[changed] = stood[next];
            }
            now.cups = cups[next];
            now.rule = rule[next];
            return size;
        }

        void forget() {
            size = 0;
        }
    }

    /** What comes if nobody changes anything. */
    private static final class Outlook {
        private final Afternoon now;
        private final Afternoon then;

        Outlook(Afternoon now, Afternoon then) {
            this.now = now;
            this.then = then;
        }

        private void lookOn(int n) {
            then.copyFrom(now);
            then.pass(n);
        }

        int ofOne(int guest, int n, int what) {
            lookOn(n);
            switch (what) {
                case 0: return then.state[guest];
                case 1: return then.thirst[guest];
                default: return then.had[guest];
            }
        }

        int ofAll(int n, int what) {
            lookOn(n);
            if (what < STATES) return then.howMany(what);
            return what == STATES ? then.poured - now.poured : then.wholeThirst();
        }

        int whenGone(int guest) {
            then.copyFrom(now);
            return then.passTillGone(guest);
        }

        int whenAllGone() {
            then.copyFrom(now);
            return then.passTillAllGoneBut(NO_ONE);
        }

        int firstGone() {
            then.copyFrom(now);
            for (int n = 0; n <= FAR; n++) {
                for (int guest = 0; guest < then.guests; guest++) {
                    if (then.state[guest] == GONE) return guest;
                }
                then.passOne();
            }
            return NONE;
        }

        int whenDrinking(int guest) {
            then.copyFrom(now);
            for (int n = 0; n <= FAR; n++) {
                if (then.state[guest] == DRINKS) return n;
                then.passOne();
            }
            return NONE;
        }

        int neverServed() {
            int never = 0;
            for (int guest = 0; guest < now.guests; guest++) {
                if (now.had[guest] == 0) never |= 1 << guest;
            }
            then.copyFrom(now);
            for (int n = 0; n <= FAR; n++) {
                never &= ~then.setOf(DRINKS);
                then.passOne();
            }
            return never;
        }

        int staying() {
            lookOn(FAR);
            return then.setOf(SITS) | then.setOf(STANDS) | then.setOf(DRINKS);
        }

        int servedAs(int i) {
            int ahead = i;
            then.copyFrom(now);
            for (int n = 1; n <= FAR; n++) {
                then.passUnserved();
                for (int k = 0; k < MOST_GUESTS; k++) {
                    int guest = then.pourOne();
                    if (guest == NO_ONE) break;
                    if (ahead == 0) return guest;
                    ahead--;
                }
            }
            return NONE;
        }

        int mostStanding(int n, int what) {
            int most = 0;
            int when = 0;
            then.copyFrom(now);
            for (int i = 0; i <= n; i++) {
                int standing = then.howMany(STANDS);
                if (standing > most) {
                    most = standing;
                    when = i;
                }
                then.passOne();
            }
            return what == 0 ? most : when;
        }

        boolean isStuck() {
            lookOn(FAR);
            return then.howMany(STANDS) == 0 && then.howMany(DRINKS) == 0 && then.howMany(SITS) > 0;
        }

        int longestStanding(int n, int what) {
            int longest = NONE;
            // Below all that one can have STOOD: who STOOD 0 is the longest where nobody STOOD more.
            int most = NONE;
            for (int guest = 0; guest < now.guests; guest++) {
                int standing = minutesStoodBy(guest, n);
                if (standing > most) {
                    most = standing;
                    longest = guest;
                }
            }
            return what == 0 ? longest : most;
        }

        private int minutesStoodBy(int guest, int n) {
            int many = 0;
            then.copyFrom(now);
            for (int i = 1; i <= n; i++) {
                then.passOne();
                if (then.state[guest] == STANDS) many++;
            }
            return many;
        }

        int leaverAt(int i) {
            int ahead = i;
            then.copyFrom(now);
            for (int n = 1; n <= FAR; n++) {
                int before = then.setOf(GONE);
                then.passOne();
                int leaving = then.setOf(GONE) & ~before;
                for (int guest = 0; guest < then.guests; guest++) {
                    if (((leaving >> guest) & 1) == 0) continue;
                    if (ahead == 0) return guest;
                    ahead--;
                }
            }
            return NONE;
        }

        int minutesStood(int n) {
            int many = 0;
            then.copyFrom(now);
            for (int i = 1; i <= n; i++) {
                then.passOne();
                many += then.howMany(STANDS);
            }
            return many;
        }

        int cupsIdle(int n) {
            int many = 0;
            then.copyFrom(now);
            for (int i = 1; i <= n; i++) {
                then.passOne();
                many += then.cups - then.howMany(DRINKS);
            }
            return many;
        }

        int goneWithoutTea(int n) {
            int many = 0;
            lookOn(n);
            for (int guest = 0; guest < then.guests; guest++) {
                if (then.state[guest] == GONE && then.had[guest] == 0) many++;
            }
            return many;
        }

        int bothDrinking(int one, int other, int n) {
            int many = 0;
            then.copyFrom(now);
            for (int i = 1; i <= n; i++) {
                then.passOne();
                if (then.state[one] == DRINKS && then.state[other] == DRINKS) many++;
            }
            return many;
        }

        long meanOfLeaving(int part) {
            int sum = 0;
            int many = 0;
            for (int guest = 0; guest < now.guests; guest++) {
                int when = whenGone(guest);
                if (when == NEVER) continue;
                sum += when;
                many++;
            }
            return Fractions.part(sum, Math.max(many, 1), part);
        }
    }

    /** What would come, were one thing done otherwise. */
    private static final class Choices {
        private final Afternoon now;
        private final Afternoon then;
        private final int[] leaving = new int[SETS * MOST_GUESTS];

        Choices(Afternoon now, Afternoon then) {
            this.now = now;
            this.then = then;
        }

        int fewestCups(int v) {
            for (int cups = Math.max(now.howMany(DRINKS), 1); cups <= MOST_CUPS; cups++) {
                then.copyFrom(now);
                then.cups = cups;
                if (then.passTillAllGoneBut(NO_ONE) <= v) return cups;
            }
            return NONE;
        }

        int soonestRule() {
            int best = 0;
            int soonest = NEVER;
            for (int rule = 0; rule < RULES; rule++) {
                then.copyFrom(now);
                then.rule = rule;
                int when = then.passTillAllGoneBut(NO_ONE);
                if (when < soonest) {
                    soonest = when;
                    best = rule;
                }
            }
            return best;
        }

        int mostPouredRule() {
            int best = 0;
            int most = NONE;
            for (int rule = 0; rule < RULES; rule++) {
                then.copyFrom(now);
                then.rule = rule;
                then.pass(FAR);
                if (then.poured > most) {
                    most = then.poured;
                    best = rule;
                }
            }
            return best;
        }

        int soonestRising(int what) {
            int sitting = now.setOf(SITS);
            int best = NONE;
            int soonest = NEVER;
            for (int set = 0; set < SETS; set++) {
                if ((set & ~sitting) != 0) continue;
                then.copyFrom(now);
                then.riseAll(set);
                int when = then.passTillAllGoneBut(NO_ONE);
                if (when < soonest) {
                    soonest = when;
                    best = set;
                }
            }
            return what == 0 ? best : noneIfNever(soonest);
        }

        int soonestRiseOf(int guest, int what) {
            int best = NONE;
            int soonest = NEVER;
            for (int m = 0; m <= LATEST_RISE; m++) {
                int when = whenGoneRisingBehind(guest, m);
                if (when < soonest) {
                    soonest = when;
                    best = m;
                }
            }
            return what == 0 ? best : noneIfNever(soonest);
        }

        private int whenGoneRisingBehind(int guest, int m) {
            then.copyFrom(now);
            for (int n = 0; n <= FAR; n++) {
                if (n == m && then.state[guest] == SITS) then.rise(guest);
                if (then.state[guest] == GONE) return n;
                then.passOne();
            }
            return NEVER;
        }

        /** Notes when each is GONE, if a set of those who SIT rises now. */
        private void noteLeaving(int set) {
            then.copyFrom(now);
            then.riseAll(set);
            for (int guest = 0; guest < then.guests; guest++) leaving[placeOf(set, guest)] = NEVER;
            for (int n = 0; n <= FAR; n++) {
                for (int guest = 0; guest < then.guests; guest++) {
                    int place = placeOf(set, guest);
                    if (then.state[guest] == GONE && leaving[place] == NEVER) leaving[place] = n;
                }
                if (then.allGoneBut(NO_ONE)) break;
                then.passOne();
            }
        }

        private static int placeOf(int set, int guest) {
            return (set & (SETS - 1)) * MOST_GUESTS + guest;
        }

        /** Whether none of a group is GONE sooner by doing otherwise alone. */
        private boolean isAtRest(int set, int group) {
            for (int guest = 0; guest < now.guests; guest++) {
                int bit = 1 << guest;
                if ((group & bit) == 0) continue;
                if (leaving[placeOf(set ^ bit, guest)] < leaving[placeOf(set, guest)]) return false;
            }
            return true;
        }

        int balanceOf(int one, int other) {
            int group = (1 << one) | (1 << other);
            for (int pair = 0; pair < 4; pair++) noteLeaving(setOfPair(pair, one, other));
            for (int pair = 0; pair < 4; pair++) {
                if (isAtRest(setOfPair(pair, one, other), group)) return 10 * (pair / 2) + pair % 2;
            }
            return NONE;
        }

        private static int setOfPair(int pair, int one, int other) {
            return ((pair / 2) << one) | ((pair % 2) << other);
        }

        int atRest(int what) {
            int sitting = now.setOf(SITS);
            int many = 0;
            int least = NONE;
            for (int set = 0; set < SETS; set++) {
                if ((set & ~sitting) == 0) noteLeaving(set);
            }
            for (int set = SETS - 1; set >= 0; set--) {
                if ((set & ~sitting) != 0 || !isAtRest(set, sitting)) continue;
                many++;
                least = set;
            }
            return what == 0 ? many : least;
        }

        int gainWithout(int guest) {
            int before = whenOthersGone(guest);
            then.copyFrom(now);
            then.state[guest] = GONE;
            return before - then.passTillAllGoneBut(guest);
        }

        int gainWithCray(int guest) {
            int before = whenOthersGone(guest);
            then.copyFrom(now);
            then.kind[guest] = CRAY;
            then.state[guest] = SITS;
            return before - then.passTillAllGoneBut(guest);
        }

        private int whenOthersGone(int guest) {
            then.copyFrom(now);
            return then.passTillAllGoneBut(guest);
        }

        /** Only where there is room for one more. */
        int soonestCaller(int what) {
            int best = NONE;
            int soonest = NEVER;
            for (int kind = 0; kind < KINDS; kind++) {
                then.copyFrom(now);
                int when = then.passTillGone(then.come(kind, 5, 5));
                if (when < soonest) {
                    soonest = when;
                    best = kind;
                }
            }
            return what == 0 ? best : noneIfNever(soonest);
        }

        /** The FIGURE or THIRST with which one is GONE soonest. */
        int soonestAs(int guest, int what, int most) {
            int best = NONE;
            int soonest = NEVER;
            for (int value = 0; value <= most; value++) {
                then.copyFrom(now);
                then.remake(guest, what, value);
                int when = then.passTillGone(guest);
                if (when < soonest) {
                    soonest = when;
                    best = value;
                }
            }
            return best;
        }

        int leastThirst(int n) {
            int best = NONE;
            int least = MOST_GUESTS * MOST_THIRST + 1;
            for (int cups = Math.max(now.howMany(DRINKS), 1); cups <= MOST_CUPS; cups++) {
                for (int rule = 0; rule < RULES; rule++) {
                    then.copyFrom(now);
                    then.cups = cups;
                    then.rule = rule;
                    then.pass(n);
                    if (then.wholeThirst() >= least) continue;
                    least = then.wholeThirst();
                    best = 10 * rule + cups;
                }
            }
            return best;
        }
    }

    /** What is told or left to chance, held against what would come. */
    private static final class Guesses {
        private final Afternoon now;
        private final Afternoon then;
        private final int[] seen = new int[LATEST_RISE + 1];

        Guesses(Afternoon now, Afternoon then) {
            this.now = now;
            this.then = then;
        }

        /** KINDS, FIGURES or THIRSTS (bits) by which one's STATES are as told. */
        int fitting(int guest, int what, Numbers told) {
            int most = what == KIND ? KINDS - 1 : what == FIGURE ? MOST_FIGURE : MOST_THIRST;
            int fitting = 0;
            for (int value = 0; value <= most; value++) {
                then.copyFrom(now);
                then.remake(guest, what, value);
                if (goesAsTold(guest, told)) fitting |= 1 << value;
            }
            return fitting;
        }

        private boolean goesAsTold(int guest, Numbers told) {
            for (int i = 0; i < told.size; i++) {
                if (then.state[guest] != told.at(i)) return false;
                then.passOne();
            }
            return true;
        }

        int mostUnlike(int guest, int what) {
            for (int n = 0; n <= LATEST_RISE; n++) seen[n] = 0;
            for (int kind = 0; kind < KINDS; kind++) noteStates(guest, kind);
            int best = 0;
            for (int n = 1; n <= LATEST_RISE; n++) {
                if (Integer.bitCount(seen[n]) > Integer.bitCount(seen[best])) best = n;
            }
            return what == 0 ? best : Integer.bitCount(seen[best]);
        }

        private void noteStates(int guest, int kind) {
            then.copyFrom(now);
            then.remake(guest, KIND, kind);
            for (int n = 0; n <= LATEST_RISE; n++) {
                seen[n] |= 1 << then.state[guest];
                then.passOne();
            }
        }

        /** Every way for the hostess to be away or not has t - 1 parts for each MINUTE that she is there. */
        long likelyServed(int guest, int n, int t, int part) {
            long above = 0;
            long below = 1;
            for (int i = 0; i < n; i++) below *= t;
            for (int way = 0; way < (1 << n); way++) {
                long weight = passAway(way, n, t);
                if (then.had[guest] > now.had[guest] || then.state[guest] == DRINKS) above += weight;
            }
            return Fractions.part(above, below, part);
        }

        private long passAway(int way, int n, int t) {
            long weight = 1;
            then.copyFrom(now);
            for (int i = 0; i < n; i++) {
                if (((way >> i) & 1) == 1) {
                    then.passUnserved();
                } else {
                    then.passOne();
                    weight *= t - 1;
                }
            }
            return weight;
        }

        int firstWrongThirst(int guest, Numbers told) {
            then.copyFrom(now);
            for (int i = 0; i < told.size; i++) {
                if (then.thirst[guest] != told.at(i)) return i;
                then.passOne();
            }
            return NONE;
        }

        int drawn(int n, int z, int what) {
            int seed = z;
            int gone = 0;
            int poured = 0;
            for (int i = 0; i < n; i++) {
                then.copyFrom(now);
                for (int guest = 0; guest < then.guests; guest++) {
                    seed = seed * 1103515245 + 12345;
                    then.thirst[guest] = ((seed & WITHOUT_SIGN) / 65536) % (MOST_THIRST + 1);
                }
                then.pass(LOT_MINUTES);
                gone += then.howMany(GONE);
                poured += then.poured - now.poured;
            }
            return what == 0 ? gone : poured;
        }
    }

    /** Fractions in lowest terms. */
    private static final class Fractions {
        // No two longs need as many steps to their common divisor.
        private static final int STEPS = 100;

        private Fractions() {
        }

        static long part(long above, long below, int part) {
            long divisor = commonDivisor(above, below);
            if (divisor == 0) return 0;
            return (part == 0 ? above : below) / divisor;
        }

        private static long commonDivisor(long one, long other) {
            long a = one;
            long b = other;
            for (int i = 0; i < STEPS && b != 0; i++) {
                long rest = a % b;
                a = b;
                b = rest;
            }
            return a;
        }
    }
}
