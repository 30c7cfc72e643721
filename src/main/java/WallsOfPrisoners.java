/**
 * A prison whose walls are its prisoners, who stand round in a ring and hold one another.
 * The words in capitals are those of the document.
 */
public final class WallsOfPrisoners {
    public static final int NONE = -1, BAD = -2, STATE = -3, FULL = -4;
    public static final long NO = -4611686018427387904L;

    private static final int NOTHING = -11, OUTSIDE = -12, UNLIKE = -13, BELOW_ZERO = -14;
    private static final int NO_SUCH = -1000;
    private static final int FAULT_BASE = -100;

    private static final int MEN_ROOM = 6;
    private static final int LAST_NUMBER = 9;
    private static final int HARDEST = 99;
    private static final int LAST_HOUR = 999;
    private static final int SNEEZES_HANDED = 60;
    private static final int HOURS_THOUGHT = 40;
    private static final int FIRST_RUN_OF_ONE = 10;
    private static final int HOURS_TO_OPEN = 60;
    private static final int DRAWS = 40;
    private static final int DRAWS_OF_A_CHANCE = 6;
    private static final int SEEDS = 40;
    private static final int MOST_CHANGES = 2;

    private static final int MAN = 0, BROTHER = 1, NEWCOMER = 2, TWIN = 3, LONGER = 4, GIANT = 5;
    private static final int KINDS = 6;
    private static final int LONGEST = 20, LITTLE = 5, GIANT_MORE = 10, COLD_BORNE = 20;
    private static final int[] KIND_ABOVE = {NONE, MAN, MAN, BROTHER, NEWCOMER, MAN};

    private static final int OF_HOUR = 0, OF_COLD = 1, OF_NUMBER = 2, OF_STRENGTH = 3;
    private static final int OF_KIND = 4, OF_PLACE = 5, OF_SPENT = 6, OF_STANDING = 7, OF_HOLD = 8;
    private static final int OF_RULE = 9;

    private static final int SHEETS = 4;
    private static final int SHEET_ROOM = 40;
    private static final int MISSING = -1, BYTES = 0, SHORTS = 1, INTS = 2;
    private static final int FIELDS_OF_A_MAN = 3;

    private static final int TAPE_ROOM = 160;
    private static final int TEXTS = 6;
    private static final int PARTS = 3;
    private static final int GRIPS_PART = 0, HANDS_PART = 1, TIRES_PART = 2;
    private static final int OPEN_AT_MOST = 5;
    private static final int STACK_ROOM = 64;
    private static final String FIRST_TEXT = "grips strength - cold ; hands 3 ; tires 1 ;";

    private static final int STRENGTH = 0, NEXT = 1, NUMBER = 2, HOUR = 3, COLD = 4, MANY = 5;
    private static final int NAMES = 6;
    private static final int WORDS = 12;

    /**
     * TOKENS: a SIGN is its own byte, a WORD stands behind FIRST_WORD, the rest below all SIGNS.
     * NEGATION is no TOKEN: a code of its own tells a - ahead of a ONE from one between two.
     */
    private static final int END = 0, FAULTY = 1, DIGITS = 2, NEGATION = 3, FIRST_WORD = 256;
    private static final int GRIPS = FIRST_WORD + 6;
    private static final int OR = FIRST_WORD + 9, AND = FIRST_WORD + 10, NOT = FIRST_WORD + 11;

    /** CODES: a NUMBER is its own code, a NAME stands behind NAMED, what is done behind DONE. */
    private static final int NAMED = 10000, DONE = 20000;

    private final Texts texts;
    private final Reader reader;
    private final Marsh marsh;
    private final Marsh thought;
    private final Marsh kept;
    private final Orders orders;
    private final Sheet[] sheets;
    private boolean isKept;

    public WallsOfPrisoners() {
        Texts all = new Texts();
        texts = all;
        reader = new Reader(all);
        marsh = new Marsh(all);
        thought = new Marsh(all);
        kept = new Marsh(all);
        orders = new Orders();
        sheets = new Sheet[SHEETS];
        for (int i = 0; i < SHEETS; i++) {
            sheets[i] = new Sheet();
        }
        for (int i = 0; i < FIRST_TEXT.length(); i++) {
            reader.add(FIRST_TEXT.charAt(i));
        }
        reader.read();
    }

    // ---- men, the ring

    public int set(int what, int of, int v) {
        if (what < OF_HOUR || what > OF_STRENGTH || v < 0 || v > greatest(what)) {
            return BAD;
        }
        if (what >= OF_NUMBER && !marsh.has(of)) {
            return BAD;
        }
        int was = marsh.trait(what, of);
        marsh.suppose(what, of, v);
        return was;
    }

    public int man(int kind, int number, int strength) {
        return marsh.join(kind, number, strength);
    }

    public int told(int of, int what) {
        switch (what) {
            case OF_HOUR:
            case OF_COLD:
                return marsh.trait(what, of);
            case OF_NUMBER:
            case OF_STRENGTH:
            case OF_KIND:
                return marsh.has(of) ? marsh.trait(what, of) : NO_SUCH;
            case OF_PLACE:
                return marsh.has(of) ? marsh.placeOf(of) : NO_SUCH;
            case OF_SPENT:
                return marsh.has(of) ? marsh.spentBy(of) : NO_SUCH;
            case OF_STANDING:
                return marsh.who(of) != NONE ? marsh.who(of) : NO_SUCH;
            case OF_HOLD:
                return of >= 0 && of < marsh.holds() ? marsh.holdFrom(of) : NO_SUCH;
            default:
                return NO_SUCH;
        }
    }

    public int grips(int one, int other) {
        if (!marsh.has(one) || !marsh.has(other) || one == other) {
            return BAD;
        }
        return marsh.gripOf(one, other);
    }

    public int hands(int one, int come) {
        if (!marsh.has(one) || come < 0 || come > HARDEST) {
            return BAD;
        }
        return marsh.handedOn(one, come);
    }

    // ---- texts

    public int feed(int letter) {
        if (letter < 0 || letter > 255) {
            return BAD;
        }
        return reader.add(letter) ? reader.size : FULL;
    }

    public int text() {
        if (texts.many >= TEXTS) {
            return FULL;
        }
        int fault = reader.read();
        return fault == NONE ? texts.many - 1 : FAULT_BASE - fault;
    }

    public int force(int text) {
        if (text < 0 || text >= texts.many) {
            return BAD;
        }
        int was = marsh.rule;
        marsh.rule = text;
        return was;
    }

    // ---- standing, hours

    public int out(int one) {
        if (!marsh.has(one)) {
            return BAD;
        }
        int place = marsh.placeOf(one);
        if (place == NONE) {
            return STATE;
        }
        marsh.leave(place);
        return place;
    }

    public int into(int one, int place) {
        if (!marsh.has(one) || place < 0 || place > marsh.standing) {
            return BAD;
        }
        if (marsh.placeOf(one) != NONE) {
            return STATE;
        }
        marsh.enter(one, place);
        return marsh.standing;
    }

    public int swap(int one, int other) {
        int place = marsh.placeOf(one);
        int otherPlace = marsh.placeOf(other);
        if (one == other || place == NONE || otherPlace == NONE) {
            return BAD;
        }
        marsh.exchange(place, otherPlace);
        return marsh.weakest();
    }

    public int hour() {
        if (marsh.hour >= LAST_HOUR) {
            return STATE;
        }
        marsh.passHour();
        return marsh.weakest();
    }

    public int wall(int what) {
        switch (what) {
            case 0:
                return marsh.weakest();
            case 1:
                return marsh.gates();
            case 2:
                return marsh.firstGate();
            case 3:
                return marsh.standing;
            default:
                return BAD;
        }
    }

    public int sneeze(int one, int hard, int what) {
        int place = marsh.placeOf(one);
        if (place == NONE || hard < 0 || hard > HARDEST || what < 0 || what > 2) {
            return BAD;
        }
        int got = 0;
        int last = NONE;
        int lastHard = 0;
        int coming = marsh.standing < 2 ? 0 : hard;
        for (; got < SNEEZES_HANDED && coming > 0; got++) {
            place = marsh.placeBehind(place);
            last = marsh.who(place);
            lastHard = coming;
            coming = marsh.handedOn(last, coming);
        }
        return what == 0 ? got : what == 1 ? last : lastHard;
    }

    public int run(int n, int what) {
        int one = what - FIRST_RUN_OF_ONE;
        boolean ofOne = what >= FIRST_RUN_OF_ONE && marsh.has(one);
        if (n < 0 || n > HOURS_THOUGHT || what != 0 && what != 1 && !ofOne) {
            return NO_SUCH;
        }
        thought.takeFrom(marsh);
        for (int i = 0; i < n; i++) {
            thought.passHour();
        }
        if (ofOne) {
            return thought.trait(OF_STRENGTH, one);
        }
        return what == 0 ? thought.weakest() : thought.gates();
    }

    public int opens() {
        thought.takeFrom(marsh);
        for (int hours = 0; hours <= HOURS_TO_OPEN; hours++) {
            if (thought.firstGate() != NONE) {
                return hours;
            }
            thought.passHour();
        }
        return NONE;
    }

    // ---- what would be best

    public int order(int what) {
        if (what != 0 && what != 1) {
            return BAD;
        }
        orders.look(marsh);
        orders.seekBest();
        return what == 0 ? orders.bestDigits() : orders.bestHard;
    }

    public int let(int what) {
        if (what != 0 && what != 1) {
            return BAD;
        }
        int best = NONE;
        int bestHard = NONE;
        for (int one = 0; one < marsh.men && marsh.standing > 2; one++) {
            int place = marsh.placeOf(one);
            if (place != NONE) {
                thought.takeFrom(marsh);
                thought.leave(place);
                int hard = thought.weakest();
                if (hard > bestHard) {
                    best = one;
                    bestHard = hard;
                }
            }
        }
        return what == 0 ? best : bestHard;
    }

    public int letsIn(int one, int what) {
        if (!marsh.has(one) || what != 0 && what != 1) {
            return BAD;
        }
        if (marsh.placeOf(one) != NONE) {
            return STATE;
        }
        int best = NONE;
        int bestHard = NONE;
        for (int place = 1; place <= marsh.standing; place++) {
            thought.takeFrom(marsh);
            thought.enter(one, place);
            int hard = thought.weakest();
            if (hard > bestHard) {
                best = place;
                bestHard = hard;
            }
        }
        return what == 0 ? best : bestHard;
    }

    public int swaps() {
        orders.look(marsh);
        return orders.fewestChanges();
    }

    public long mean(int part) {
        if (part != 0 && part != 1 || marsh.standing < 1) {
            return NO;
        }
        int together = 0;
        for (int place = 0; place < marsh.standing; place++) {
            together += marsh.trait(OF_STRENGTH, marsh.who(place));
        }
        return lowestTerm(together, marsh.standing, part);
    }

    // ---- holds that were told

    public int tells(int sheet, int one, int what) {
        if (!isSheet(sheet) || !marsh.has(one) || what < 0 || what > 7) {
            return BAD;
        }
        Sheet told = sheets[sheet];
        if (told.sort == MISSING) {
            return NOTHING;
        }
        if (told.size > MEN_ROOM) {
            return BAD;
        }
        return what == 0 ? marsh.firstUnlike(told) : readBack(told, one, what);
    }

    public int film(int sheet) {
        if (!isSheet(sheet)) {
            return BAD;
        }
        int n = marsh.holds();
        Sheet filmed = sheets[sheet];
        filmed.become(BYTES, n);
        for (int place = 0; place < n; place++) {
            filmed.put(place, marsh.holdFrom(place));
        }
        return n;
    }

    public int drawn(int seed, int n) {
        if (n < 0 || n > DRAWS) {
            return BAD;
        }
        orders.look(marsh);
        return orders.weakestDrawn(seed, n);
    }

    public long chance(int seed, int m, int k, int part) {
        if (m < 1 || m > SEEDS || k < 0 || k > HARDEST || part != 0 && part != 1) {
            return NO;
        }
        orders.look(marsh);
        int good = 0;
        for (int i = 0; i < m; i++) {
            if (orders.weakestDrawn(seed + i, DRAWS_OF_A_CHANCE) >= k) {
                good++;
            }
        }
        return lowestTerm(good, m, part);
    }

    public int image() {
        kept.takeFrom(marsh);
        isKept = true;
        return marsh.men;
    }

    public int back() {
        if (!isKept) {
            return STATE;
        }
        marsh.takeFrom(kept);
        return marsh.men;
    }

    public int count(int what) {
        switch (what) {
            case 0:
                return marsh.men;
            case 1:
                return marsh.standing;
            case 2:
                return marsh.hour;
            case 3:
                return texts.many;
            case 4:
                return reader.size;
            case 5:
                return marsh.rule;
            default:
                return BAD;
        }
    }

    // ---- the host

    public int sheet(int sheet, int sort, int n) {
        if (!isSheet(sheet) || sort < MISSING || sort > INTS) {
            return BAD;
        }
        if (sort != MISSING && n > SHEET_ROOM) {
            return BAD;
        }
        if (sort != MISSING && n < 0) {
            return BELOW_ZERO;
        }
        sheets[sheet].become(sort, sort == MISSING ? 0 : n);
        return 1;
    }

    public int cell(int sheet, int i, int v) {
        if (!isSheet(sheet)) {
            return BAD;
        }
        Sheet changed = sheets[sheet];
        if (changed.sort == MISSING) {
            return NOTHING;
        }
        if (!changed.has(i)) {
            return OUTSIDE;
        }
        changed.put(i, v);
        return 1;
    }

    public int copy(int sheet, int i, int other, int j, int n) {
        if (!isSheet(sheet) || !isSheet(other)) {
            return BAD;
        }
        Sheet from = sheets[sheet];
        Sheet to = sheets[other];
        if (from.sort == MISSING || to.sort == MISSING) {
            return NOTHING;
        }
        if (from.sort != to.sort) {
            return UNLIKE;
        }
        if (!from.hasRun(i, n) || !to.hasRun(j, n)) {
            return OUTSIDE;
        }
        System.arraycopy(from.row, i, to.row, j, n);
        return n;
    }

    public int chain(int sheet, int sort, int from, int n) {
        if (!isSheet(sheet) || sort < BYTES || sort > INTS || n < 0 || n > MEN_ROOM) {
            return BAD;
        }
        Sheet read = sheets[sheet];
        if (read.sort == MISSING) {
            return NOTHING;
        }
        if (read.sort != sort) {
            return UNLIKE;
        }
        int came = 0;
        int at = from;
        for (int i = 0; i < n; i++) {
            if (!read.hasRun(at, FIELDS_OF_A_MAN)) {
                return OUTSIDE;
            }
            if (marsh.join(read.row[at], read.row[at + 1], read.row[at + 2]) >= 0) {
                came++;
            }
            at += FIELDS_OF_A_MAN;
        }
        return came;
    }

    public int taken(int one, int k) {
        if (k < MAN || k >= KINDS) {
            return BAD;
        }
        if (!marsh.has(one)) {
            return NOTHING;
        }
        return isUnder(marsh.trait(OF_KIND, one), k) ? marsh.trait(OF_NUMBER, one) : UNLIKE;
    }

    // ---- what several calls need

    private static boolean isSheet(int sheet) {
        return sheet >= 0 && sheet < SHEETS;
    }

    private static int greatest(int what) {
        return what == OF_HOUR ? LAST_HOUR : what == OF_NUMBER ? LAST_NUMBER : HARDEST;
    }

    private static int bounded(int v) {
        return v < 0 ? 0 : v > HARDEST ? HARDEST : v;
    }

    /** Whether a KIND is another one or stands under it. */
    private static boolean isUnder(int kind, int above) {
        int at = kind;
        for (int i = 0; i < KINDS && at >= 0 && at < KINDS; i++) {
            if (at == above) {
                return true;
            }
            at = KIND_ABOVE[at];
        }
        return false;
    }

    private static long lowestTerm(int above, int below, int part) {
        int a = above;
        int b = below;
        for (int i = 0; i < 64 && b != 0; i++) {
            int rest = a % b;
            a = b;
            b = rest;
        }
        int term = part == 0 ? above : below;
        return a > 0 ? term / a : term;
    }

    /** What was told is read back: all values of one trait are tried, in thought. */
    private int readBack(Sheet told, int one, int what) {
        int trait = traitReadBack(what);
        int tried = trait == OF_KIND ? KINDS : trait == OF_RULE ? texts.many : greatest(trait) + 1;
        int bits = 0;
        int fitting = 0;
        int least = NONE;
        thought.takeFrom(marsh);
        for (int v = 0; v < tried; v++) {
            thought.suppose(trait, one, v);
            if (thought.firstUnlike(told) == NONE) {
                bits |= 1 << v;
                fitting++;
                least = least == NONE ? v : least;
            }
        }
        switch (what) {
            case 3:
            case 5:
                return fitting;
            case 4:
            case 6:
                return least;
            default:
                return bits;
        }
    }

    private static int traitReadBack(int what) {
        switch (what) {
            case 1:
                return OF_KIND;
            case 2:
                return OF_NUMBER;
            case 3:
            case 4:
                return OF_STRENGTH;
            case 5:
            case 6:
                return OF_COLD;
            default:
                return OF_RULE;
        }
    }

    /** MEN, THE RING and the weather: once as it is, once in thought, once as AN IMAGE. */
    private static final class Marsh {
        final Texts texts;
        final int[] kind = new int[MEN_ROOM];
        final int[] number = new int[MEN_ROOM];
        final int[] strength = new int[MEN_ROOM];
        final int[] ring = new int[MEN_ROOM];
        int men;
        int standing;
        int hour;
        int cold;
        int rule;

        Marsh(Texts texts) {
            this.texts = texts;
        }

        void takeFrom(Marsh from) {
            System.arraycopy(from.kind, 0, kind, 0, MEN_ROOM);
            System.arraycopy(from.number, 0, number, 0, MEN_ROOM);
            System.arraycopy(from.strength, 0, strength, 0, MEN_ROOM);
            System.arraycopy(from.ring, 0, ring, 0, MEN_ROOM);
            men = from.men;
            standing = from.standing;
            hour = from.hour;
            cold = from.cold;
            rule = from.rule;
        }

        boolean has(int one) {
            return one >= 0 && one < men && one < MEN_ROOM;
        }

        int join(int itsKind, int itsNumber, int itsStrength) {
            if (itsKind < MAN || itsKind >= KINDS || itsNumber < 0 || itsNumber > LAST_NUMBER
                    || itsStrength < 0 || itsStrength > HARDEST) {
                return BAD;
            }
            if (men >= MEN_ROOM) {
                return FULL;
            }
            int one = men;
            kind[one] = itsKind;
            number[one] = itsNumber;
            strength[one] = itsStrength;
            men++;
            enter(one, standing);
            return one;
        }

        int trait(int what, int one) {
            if (what == OF_HOUR || what == OF_COLD) {
                return what == OF_HOUR ? hour : cold;
            }
            if (!has(one)) {
                return NO_SUCH;
            }
            return what == OF_NUMBER ? number[one] : what == OF_STRENGTH ? strength[one] : kind[one];
        }

        void suppose(int what, int one, int v) {
            if (what == OF_HOUR) {
                hour = v;
            } else if (what == OF_COLD) {
                cold = v;
            } else if (what == OF_RULE) {
                rule = v;
            } else if (has(one)) {
                int[] row = what == OF_NUMBER ? number : what == OF_STRENGTH ? strength : kind;
                row[one] = v;
            }
        }

        int who(int place) {
            return place >= 0 && place < standing && place < MEN_ROOM ? ring[place] : NONE;
        }

        int placeOf(int one) {
            for (int place = 0; place < standing && place < MEN_ROOM; place++) {
                if (ring[place] == one) {
                    return place;
                }
            }
            return NONE;
        }

        int placeBehind(int place) {
            return place + 1 < standing ? place + 1 : 0;
        }

        void leave(int place) {
            if (place < 0 || place >= standing || standing > MEN_ROOM) {
                return;
            }
            standing--;
            for (int i = place; i < standing; i++) {
                ring[i] = ring[i + 1];
            }
        }

        void enter(int one, int place) {
            if (place < 0 || place > standing || standing >= MEN_ROOM) {
                return;
            }
            for (int i = standing; i > place; i--) {
                ring[i] = ring[i - 1];
            }
            ring[place] = one;
            standing++;
        }

        void exchange(int place, int other) {
            int one = who(place);
            int two = who(other);
            if (one != NONE && two != NONE) {
                ring[place] = two;
                ring[other] = one;
            }
        }

        /** Nobody's being SPENT hangs on another one, so that all are told ahead though one by one. */
        void passHour() {
            for (int place = 0; place < standing; place++) {
                int one = who(place);
                if (has(one)) {
                    strength[one] = Math.max(0, strength[one] - spentBy(one));
                }
            }
            hour++;
        }

        int holds() {
            return standing < 2 ? 0 : standing;
        }

        int holdFrom(int place) {
            int one = who(place);
            int other = who(placeBehind(place));
            return Math.min(gripOf(one, other), gripOf(other, one));
        }

        int weakest() {
            int n = holds();
            int least = NONE;
            for (int place = 0; place < n; place++) {
                int hold = holdFrom(place);
                least = least == NONE || hold < least ? hold : least;
            }
            return least;
        }

        int gates() {
            int n = holds();
            int gates = 0;
            for (int place = 0; place < n; place++) {
                if (holdFrom(place) == 0) {
                    gates++;
                }
            }
            return gates;
        }

        int firstGate() {
            int n = holds();
            for (int place = 0; place < n; place++) {
                if (holdFrom(place) == 0) {
                    return place;
                }
            }
            return NONE;
        }

        int firstUnlike(Sheet told) {
            int n = holds();
            for (int i = 0; i < told.size && i < SHEET_ROOM; i++) {
                if (i >= n || holdFrom(i) != told.row[i]) {
                    return i;
                }
            }
            return NONE;
        }

        int gripOf(int one, int other) {
            if (!has(one) || !has(other)) {
                return 0;
            }
            int v = bounded(texts.value(GRIPS_PART, this, one, other));
            int asNewcomer = v - number[one];
            switch (kind[one]) {
                case BROTHER:
                    return bounded(asBrother(v, other));
                case NEWCOMER:
                    return bounded(asNewcomer);
                case TWIN:
                    return number[one] == number[other] ? HARDEST : bounded(asBrother(v, other));
                case LONGER:
                    return bounded(asNewcomer + Math.min(hour, LONGEST));
                case GIANT:
                    return strength[one];
                default:
                    return v;
            }
        }

        private int asBrother(int v, int other) {
            return isUnder(kind[other], BROTHER) ? 2 * v : v;
        }

        int handedOn(int one, int come) {
            if (!has(one)) {
                return 0;
            }
            int asMan = come - bounded(texts.value(HANDS_PART, this, one, NONE));
            switch (kind[one]) {
                case BROTHER:
                    return bounded(come);
                case NEWCOMER:
                    return bounded(asMan / 2);
                case TWIN:
                    return bounded(hour % 2 == 0 ? come : asMan);
                case LONGER:
                    return bounded(come < LITTLE ? come : asMan / 2);
                case GIANT:
                    return bounded(asMan + GIANT_MORE);
                default:
                    return bounded(asMan);
            }
        }

        int spentBy(int one) {
            if (!has(one)) {
                return 0;
            }
            int v = bounded(texts.value(TIRES_PART, this, one, NONE));
            switch (kind[one]) {
                case BROTHER:
                case TWIN:
                    return v / 2;
                case NEWCOMER:
                    return bounded(v + 1);
                case LONGER:
                    return cold > COLD_BORNE ? bounded(v + 1) : 0;
                case GIANT:
                    return 0;
                default:
                    return v;
            }
        }

        int named(int name, int one, int other) {
            switch (name) {
                case STRENGTH:
                    return one >= 0 && one < MEN_ROOM ? strength[one] : 0;
                case NEXT:
                    return other >= 0 && other < MEN_ROOM ? strength[other] : 0;
                case NUMBER:
                    return one >= 0 && one < MEN_ROOM ? number[one] : 0;
                case HOUR:
                    return hour;
                case COLD:
                    return cold;
                default:
                    return standing;
            }
        }
    }

    /** Orders of those who stand there. All grips are told once, for no order changes them. */
    private static final class Orders {
        final int[] hardness = new int[MEN_ROOM * MEN_ROOM];
        final int[] ring = new int[MEN_ROOM];
        final int[] atFirst = new int[MEN_ROOM];
        final int[] best = new int[MEN_ROOM];
        int standing;
        int bestHard;

        void look(Marsh marsh) {
            standing = Math.min(marsh.standing, MEN_ROOM);
            System.arraycopy(marsh.ring, 0, atFirst, 0, MEN_ROOM);
            System.arraycopy(marsh.ring, 0, ring, 0, MEN_ROOM);
            for (int one = 0; one < MEN_ROOM; one++) {
                for (int other = 0; other < one; other++) {
                    int hold = Math.min(marsh.gripOf(one, other), marsh.gripOf(other, one));
                    hardness[one * MEN_ROOM + other] = hold;
                    hardness[other * MEN_ROOM + one] = hold;
                }
            }
        }

        private int between(int one, int other) {
            boolean known = one >= 0 && one < MEN_ROOM && other >= 0 && other < MEN_ROOM;
            return known ? hardness[one * MEN_ROOM + other] : 0;
        }

        private int weakestNow() {
            if (standing < 2) {
                return NONE;
            }
            int least = between(ring[standing - 1], ring[0]);
            for (int place = 1; place < standing; place++) {
                least = Math.min(least, between(ring[place - 1], ring[place]));
            }
            return least;
        }

        private void change(int place, int other) {
            if (place >= 0 && place < standing && other >= 0 && other < standing) {
                int one = ring[place];
                ring[place] = ring[other];
                ring[other] = one;
            }
        }

        void seekBest() {
            bestHard = NONE;
            System.arraycopy(ring, 0, best, 0, MEN_ROOM);
            int left = 0;
            for (int place = 1; place < standing; place++) {
                left |= 1 << ring[place];
            }
            if (standing > 1) {
                seekFrom(1, left, HARDEST);
            }
        }

        /** Who is left is tried by numbers, so that of like orders the first one is found first. */
        private void seekFrom(int place, int left, int least) {
            if (least <= bestHard) {
                return;
            }
            if (place >= standing || place >= MEN_ROOM) {
                int hard = Math.min(least, between(ring[standing - 1], ring[0]));
                if (hard > bestHard) {
                    bestHard = hard;
                    System.arraycopy(ring, 0, best, 0, MEN_ROOM);
                }
                return;
            }
            for (int one = 0; one < MEN_ROOM; one++) {
                if ((left >> one & 1) == 1) {
                    ring[place] = one;
                    int hold = between(ring[place - 1], one);
                    seekFrom(place + 1, left & ~(1 << one), Math.min(least, hold));
                }
            }
        }

        int bestDigits() {
            int digits = 0;
            for (int place = 0; place < standing; place++) {
                digits = digits * 10 + best[place] + 1;
            }
            return digits;
        }

        int fewestChanges() {
            for (int changes = 0; changes <= MOST_CHANGES; changes++) {
                if (closesBy(changes)) {
                    return changes;
                }
            }
            return NONE;
        }

        /** Whether there is no GATE behind so many changes of places; THE RING is laid back then. */
        private boolean closesBy(int changes) {
            if (changes <= 0) {
                return weakestNow() != 0;
            }
            boolean closed = false;
            for (int place = 0; place < standing && !closed; place++) {
                for (int other = 0; other < place && !closed; other++) {
                    change(place, other);
                    closed = closesBy(changes - 1);
                    change(place, other);
                }
            }
            return closed;
        }

        int weakestDrawn(int seed, int n) {
            System.arraycopy(atFirst, 0, ring, 0, MEN_ROOM);
            int y = seed;
            for (int i = 0; i < n; i++) {
                int z = y * 1103515245 + 12345;
                y = z * 1103515245 + 12345;
                change((z >>> 9) % 8, (y >>> 9) % 8);
            }
            return weakestNow();
        }
    }

    /** All TEXTS, each as the CODES of its three parts, what is done standing behind what it is done to. */
    private static final class Texts {
        final int[] codes = new int[TEXTS * TAPE_ROOM];
        final int[] ends = new int[TEXTS * PARTS];
        final int[] stack = new int[STACK_ROOM];
        int many;
        int written;

        void begin() {
            written = many * TAPE_ROOM;
        }

        void put(int code) {
            if (written >= 0 && written < codes.length) {
                codes[written] = code;
                written++;
            }
        }

        void endPart(int part) {
            int at = many * PARTS + part;
            if (at >= 0 && at < ends.length) {
                ends[at] = written;
            }
        }

        int value(int part, Marsh marsh, int one, int other) {
            int text = marsh.rule;
            if (text < 0 || text >= many || text >= TEXTS || part < 0 || part >= PARTS) {
                return 0;
            }
            int at = text * PARTS + part;
            int end = Math.min(ends[at], codes.length);
            int top = 0;
            for (int i = part == 0 ? text * TAPE_ROOM : ends[at - 1]; i < end; i++) {
                int code = codes[i];
                if (code < DONE) {
                    if (top >= STACK_ROOM) {
                        return 0;
                    }
                    stack[top] = code < NAMED ? code : marsh.named(code - NAMED, one, other);
                    top++;
                } else {
                    int from = code == DONE + NEGATION || code == DONE + NOT ? 1 : 2;
                    if (top < from) {
                        return 0;
                    }
                    top -= from;
                    stack[top] = done(code - DONE, stack[top], stack[top + from - 1]);
                    top++;
                }
            }
            return stack[0];
        }

        private static int done(int what, int a, int b) {
            switch (what) {
                case '+':
                    return a + b;
                case '-':
                    return a - b;
                case '*':
                    return a * b;
                case '<':
                    return a < b ? 1 : 0;
                case '=':
                    return a == b ? 1 : 0;
                case OR:
                    return a != 0 || b != 0 ? 1 : 0;
                case AND:
                    return a != 0 && b != 0 ? 1 : 0;
                case NOT:
                    return a == 0 ? 1 : 0;
                default:
                    return -a;
            }
        }
    }

    /** THE TAPE, and how a TEXT is read from it, TOKEN by TOKEN. */
    private static final class Reader {
        final Texts texts;
        final int[] tape = new int[TAPE_ROOM];
        int size;
        private int at;
        private int start;
        private int token;
        private int worth;

        Reader(Texts texts) {
            this.texts = texts;
        }

        boolean add(int letter) {
            if (size >= TAPE_ROOM) {
                return false;
            }
            tape[size] = letter;
            size++;
            return true;
        }

        /** THE TAPE becomes the next TEXT and is emptied: the place of the FAULT, or NONE. */
        int read() {
            at = 0;
            texts.begin();
            advance();
            boolean right = true;
            for (int part = 0; part < PARTS && right; part++) {
                right = readPart(part);
            }
            right = right && token == END;
            if (right) {
                texts.many++;
            }
            size = 0;
            return right ? NONE : start;
        }

        private boolean readPart(int part) {
            if (token != GRIPS + part) {
                return false;
            }
            advance();
            if (!readEither(0) || token != ';') {
                return false;
            }
            advance();
            texts.endPart(part);
            return true;
        }

        /** E; like all that read on, it stops at the TOKEN that can't stand there. */
        private boolean readEither(int open) {
            boolean right = readBoth(open);
            for (int i = 0; i < TAPE_ROOM && right && token == OR; i++) {
                advance();
                right = readBoth(open);
                texts.put(DONE + OR);
            }
            return right;
        }

        private boolean readBoth(int open) {
            boolean right = readDenial(open);
            for (int i = 0; i < TAPE_ROOM && right && token == AND; i++) {
                advance();
                right = readDenial(open);
                texts.put(DONE + AND);
            }
            return right;
        }

        private boolean readDenial(int open) {
            if (token != NOT) {
                return readComparison(open);
            }
            if (open >= OPEN_AT_MOST) {
                return false;
            }
            advance();
            boolean right = readDenial(open + 1);
            texts.put(DONE + NOT);
            return right;
        }

        private boolean readComparison(int open) {
            boolean right = readSum(open);
            if (right && (token == '<' || token == '=')) {
                int sign = token;
                advance();
                right = readSum(open);
                texts.put(DONE + sign);
            }
            return right;
        }

        private boolean readSum(int open) {
            boolean right = readTerm(open);
            for (int i = 0; i < TAPE_ROOM && right && (token == '+' || token == '-'); i++) {
                int sign = token;
                advance();
                right = readTerm(open);
                texts.put(DONE + sign);
            }
            return right;
        }

        private boolean readTerm(int open) {
            boolean right = readOne(open);
            for (int i = 0; i < TAPE_ROOM && right && token == '*'; i++) {
                advance();
                right = readOne(open);
                texts.put(DONE + '*');
            }
            return right;
        }

        private boolean readOne(int open) {
            if (token == DIGITS) {
                texts.put(worth);
                advance();
                return true;
            }
            if (token >= FIRST_WORD && token < FIRST_WORD + NAMES) {
                texts.put(NAMED + token - FIRST_WORD);
                advance();
                return true;
            }
            if (open >= OPEN_AT_MOST || token != '-' && token != '(') {
                return false;
            }
            return token == '-' ? readNegation(open + 1) : readBrackets(open + 1);
        }

        private boolean readNegation(int open) {
            advance();
            boolean right = readOne(open);
            texts.put(DONE + NEGATION);
            return right;
        }

        private boolean readBrackets(int open) {
            advance();
            if (!readEither(open) || token != ')') {
                return false;
            }
            advance();
            return true;
        }

        private void advance() {
            for (int i = 0; i < TAPE_ROOM && (letterAt(at) == ' ' || letterAt(at) == '\n'); i++) {
                at++;
            }
            start = at;
            int letter = letterAt(at);
            if (letter == NONE) {
                token = END;
            } else if (isDigit(letter)) {
                readDigits();
            } else if (isSmall(letter)) {
                readWord();
            } else {
                token = isSign(letter) ? letter : FAULTY;
                at++;
            }
        }

        private int letterAt(int place) {
            return place >= 0 && place < size && place < TAPE_ROOM ? tape[place] : NONE;
        }

        private void readDigits() {
            worth = 0;
            for (int i = 0; i < TAPE_ROOM && isDigit(letterAt(at)); i++) {
                worth = worth * 10 + letterAt(at) - '0';
                at++;
            }
            token = at - start > 4 ? FAULTY : DIGITS;
        }

        private void readWord() {
            for (int i = 0; i < TAPE_ROOM && isSmall(letterAt(at)); i++) {
                at++;
            }
            token = FAULTY;
            for (int w = 0; w < WORDS && token == FAULTY; w++) {
                if (isHere(word(w))) {
                    token = FIRST_WORD + w;
                }
            }
        }

        private boolean isHere(String word) {
            if (word.length() != at - start) {
                return false;
            }
            for (int i = start; i < at && i < TAPE_ROOM; i++) {
                if (word.charAt(i - start) != tape[i]) {
                    return false;
                }
            }
            return true;
        }

        private static boolean isDigit(int letter) {
            return letter >= '0' && letter <= '9';
        }

        private static boolean isSmall(int letter) {
            return letter >= 'a' && letter <= 'z';
        }

        private static boolean isSign(int letter) {
            return letter == '(' || letter == ')' || letter == ';' || letter == '+'
                    || letter == '-' || letter == '*' || letter == '<' || letter == '=';
        }

        /** NAMES first, in the order of their numbers, then KEYS. */
        private static String word(int w) {
            switch (w) {
                case STRENGTH:
                    return "strength";
                case NEXT:
                    return "next";
                case NUMBER:
                    return "number";
                case HOUR:
                    return "hour";
                case COLD:
                    return "cold";
                case MANY:
                    return "many";
                case 6:
                    return "grips";
                case 7:
                    return "hands";
                case 8:
                    return "tires";
                case 9:
                    return "or";
                case 10:
                    return "and";
                default:
                    return "not";
            }
        }
    }

    /** A row of numbers, already cut to its sort. */
    private static final class Sheet {
        final int[] row = new int[SHEET_ROOM];
        int sort = MISSING;
        int size;

        void become(int newSort, int newSize) {
            sort = newSort;
            size = newSize;
            for (int i = 0; i < SHEET_ROOM; i++) {
                row[i] = 0;
            }
        }

        boolean has(int i) {
            return i >= 0 && i < size && i < SHEET_ROOM;
        }

        /** The bound is taken off first, for a sum of the two could wrap. */
        boolean hasRun(int i, int n) {
            return i >= 0 && n >= 0 && n <= size && i <= size - n;
        }

        void put(int i, int v) {
            if (has(i)) {
                row[i] = sort == BYTES ? (byte) v : sort == SHORTS ? (short) v : v;
            }
        }
    }
}
