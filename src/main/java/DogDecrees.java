import java.util.Arrays;

/**
 * A village whose mayor is a dog: what it does where it goes is what is decreed.
 *
 * <p>All rows are made with the object and used again, so that no call makes anything: all the
 * calls of a run live in one room.
 */
public final class DogDecrees {
    public static final int NONE = -1;
    public static final int GAP = -1000000;

    private static final int TAPE_BYTES = 1600;
    private static final int FEED_BYTES = 20;
    private static final int DEEDS = 4;
    private static final int PLACES = 8;
    private static final int PATHS = 16;
    private static final int CASES = 4;
    private static final int TABLE_ROWS = 16;
    private static final int UNITS = 30;
    private static final int DEPTH = 7;
    // each unit is a step, each but one is joined to another, and each has DEPTH nots around it at most
    private static final int STEPS = UNITS + UNITS - 1 + UNITS * DEPTH;

    private static final int FAULT_TOKEN = 1;
    private static final int FAULT_STAND = 2;
    private static final int FAULT_TOLD = 3;
    private static final int FAULT_NUMBER = 4;
    private static final int FAULT_NAME = 5;

    // Kinds of TOKENS: a sign's is its byte, a word that stands for itself has its place in WORDS.
    private static final int KIND_END = 0;
    private static final int KIND_NO_TOKEN = 1;
    private static final int KIND_NAME = 2;
    private static final int KIND_NUMBER = 3;
    private static final int FIRST_WORD = 200;
    private static final int WORD_DEED = 200;
    private static final int WORD_PLACE = 201;
    private static final int WORD_PATH = 202;
    private static final int WORD_CASE = 203;
    private static final int WORD_WHEN = 204;
    private static final int WORD_PULL = 205;
    private static final int WORD_DAY = 206;
    private static final int WORD_HEARS = 207;
    private static final int WORD_START = 208;
    private static final int WORD_AGE = 209;
    private static final int WORD_DRAW = 210;
    private static final int WORD_SMELL = 211;
    private static final int WORD_DOES = 212;
    private static final int WORD_TO = 213;
    private static final int WORD_BAR = 214;
    private static final int WORD_OR = 215;
    private static final int WORD_AND = 216;
    private static final int WORD_NOT = 217;
    private static final int WORD_BONES = 218;
    private static final int WORD_HOUR = 219;
    private static final int WORD_HERE = 220;
    private static final int WORD_COUNT = 21;
    private static final String WORDS =
            "deed place path case when pull day hears start age draw smell does to bar or and not bones hour here ";
    private static final int WORD_LETTERS = 8;
    private static final int NUMBER_DIGITS = 4;
    private static final int NO_BYTE = -1;

    private static final int OPEN = 0;
    private static final int PASSED = 1;
    private static final int FALLEN = 2;

    private static final int DRAWS = 60;
    private static final int SEEDS = 1000;
    private static final int MOST_HOURS = 2000;
    private static final int MOST_AGE = 99;
    private static final int MOST_PULL = 99;
    private static final int MOST_BONES = 9;
    private static final int WALK = 60;
    private static final int ACTS = 40;
    private static final int BOXES = 3;

    private static final int ALL_PLACES = 255;
    private static final int AHEAD = 8;
    private static final int LAY_AHEAD = 6;
    private static final int LAID = 4;
    private static final int MOST_SCORE = 15;
    private static final int SCORES = 31;
    private static final int MOST_COUNT = 3;
    /** 60 to the n, for n of 0 to 8. */
    private static final long[] POWERS = {
        1L, 60L, 3600L, 216000L, 12960000L, 777600000L, 46656000000L, 2799360000000L, 167961600000000L
    };

    private static final int COUNTS = 30;
    private static final int MOST_TIMES = 9;
    private static final int MOST_TOGETHER = 99;
    private static final int VALUES = 7;
    private static final int MOST_LATER = 1000;
    private static final int MOST_TIME = 100000;

    private final Tape tape;
    private final Reader reader;
    private final Telling telling;
    private final Village draft;
    private final Village village;
    private final State now;
    private final Acts acts;
    private final State[] boxes;
    private int boxesKept;
    private final Odds odds;
    private final Laying laying;
    private final Ledger ledger;
    private final int[] lying;
    private int lyingCount;

    public DogDecrees() {
        tape = new Tape();
        reader = new Reader(tape);
        draft = new Village();
        telling = new Telling(reader, draft);
        village = new Village();
        now = new State();
        acts = new Acts();
        boxes = new State[BOXES];
        for (int i = 0; i < BOXES; i++) {
            boxes[i] = new State();
        }
        boxesKept = 0;
        odds = new Odds(village, now);
        laying = new Laying(village, now, odds);
        ledger = new Ledger();
        lying = new int[PLACES];
        lyingCount = 0;
        now.begin(village);
    }

    // ---- the text

    public int feed(int a, int b, int c, int d, int e) {
        if (tape.length > TAPE_BYTES - FEED_BYTES) {
            return NONE;
        }
        tape.addNumber(a);
        tape.addNumber(b);
        tape.addNumber(c);
        tape.addNumber(d);
        tape.addNumber(e);
        return tape.length;
    }

    public int end(int n) {
        if (n < 0 || n > tape.length) {
            return NONE;
        }
        tape.length = n;
        return n;
    }

    public int village() {
        boolean told = telling.tellAll();
        tape.length = 0;
        if (!told) {
            return NONE;
        }
        village.copyFrom(draft);
        now.begin(village);
        acts.forget();
        ledger.clear();
        lyingCount = 0;
        boxesKept = 0;
        return village.places;
    }

    public int fault(int what) {
        switch (what) {
            case 0:
                return reader.fault;
            case 1:
                return reader.faultPlace;
            default:
                return NONE;
        }
    }

    // ---- what is told and how it is now

    public int place(int place, int what) {
        if (!village.hasPlace(place)) {
            return NONE;
        }
        switch (what) {
            case 0:
                return village.smell[place];
            case 1:
                return now.bones[place];
            case 2:
                return village.does[place];
            case 3:
                return village.leads[place];
            case 4:
                return village.pullOf(place, now.bones[place], now.hours, now.dog == place ? 1 : 0);
            default:
                return NONE;
        }
    }

    public int hearing(int which, int what) {
        if (!village.hasCase(which)) {
            return GAP;
        }
        switch (what) {
            case 0:
                return now.scores[which];
            case 1:
                return village.bar[which];
            case 2:
                return now.standing[which];
            case 3:
                return village.heardAt(now.hours) == which ? 1 : 0;
            default:
                return GAP;
        }
    }

    public int table(int deed, int which) {
        if (!village.hasDeed(deed) || !village.hasCase(which)) {
            return GAP;
        }
        return village.counts[deed * CASES + which];
    }

    public int draws(int place) {
        if (!village.hasPlace(place) || !village.hasPlace(now.dog)) {
            return NONE;
        }
        odds.look(now.dogBit(), 1);
        return odds.waysTo(0, now.dog, place);
    }

    // ---- acts

    public int hour() {
        if (!village.hasPlace(now.dog) || now.hours >= MOST_HOURS) {
            return NONE;
        }
        acts.keep(now);
        now.seed = (now.seed * 137 + 71) % SEEDS;
        odds.look(now.dogBit(), 1);
        now.comeTo(village, odds.goal(now.dog, now.seed % DRAWS));
        return now.dog;
    }

    public int lay(int place) {
        if (!village.hasPlace(place) || now.bones[place] >= MOST_BONES) {
            return NONE;
        }
        acts.keep(now);
        now.bones[place]++;
        return now.bones[place];
    }

    public int take(int place) {
        if (!village.hasPlace(place) || now.bones[place] <= 0) {
            return NONE;
        }
        acts.keep(now);
        now.bones[place]--;
        return now.bones[place];
    }

    public boolean undo() {
        return acts.goBack(now);
    }

    public boolean redo() {
        return acts.goOn(now);
    }

    // ---- what will be

    public long where(int place, int n, int part) {
        if (!village.hasPlace(place) || !within(n, 0, AHEAD) || !within(part, 0, 1)) {
            return NONE;
        }
        odds.look(now.dogBit(), n);
        odds.roam(now.dog, n);
        return partOf(odds.weightOf(place), POWERS[n], part);
    }

    public long pass(int which, int n, int part) {
        if (!village.hasCase(which) || !within(n, 0, AHEAD) || !within(part, 0, 1)) {
            return NONE;
        }
        odds.look(now.dogBit(), n);
        odds.aimAt(which);
        return partOf(odds.waysToPass(now.dog, n), POWERS[n], part);
    }

    public int likely(int n) {
        if (!within(n, 0, AHEAD)) {
            return NONE;
        }
        odds.look(now.dogBit(), n);
        odds.roam(now.dog, n);
        int likeliest = NONE;
        long greatest = -1;
        for (int place = 0; place < village.places; place++) {
            long weight = odds.weightOf(place);
            if (weight > greatest) {
                greatest = weight;
                likeliest = place;
            }
        }
        return likeliest;
    }

    public int soon(int which) {
        if (!village.hasCase(which)) {
            return NONE;
        }
        odds.look(now.dogBit(), AHEAD);
        odds.aimAt(which);
        for (int n = 0; n <= AHEAD; n++) {
            if (moreThanHalf(odds.waysToPass(now.dog, n), n)) {
                return n;
            }
        }
        return NONE;
    }

    // ---- where to lay

    public long best(int which, int n, int k, int part) {
        lyingCount = 0;
        if (!village.hasCase(which) || !within(n, 1, LAY_AHEAD) || !within(k, 0, LAID) || !within(part, 0, 1)) {
            return NONE;
        }
        laying.prepare(which, n, k);
        if (!laying.choose(k)) {
            return NONE;
        }
        showLaid();
        return partOf(laying.greatest, POWERS[n], part);
    }

    public int least(int which, int n) {
        lyingCount = 0;
        if (!village.hasCase(which) || !within(n, 1, LAY_AHEAD)) {
            return NONE;
        }
        laying.prepare(which, n, LAID);
        for (int k = 0; k <= LAID; k++) {
            if (laying.choose(k) && moreThanHalf(laying.greatest, n)) {
                showLaid();
                return k;
            }
        }
        return NONE;
    }

    public int byTurns(int which, int n, int what) {
        if (!village.hasCase(which) || !within(n, 1, LAY_AHEAD) || !within(what, 0, 1)) {
            return NONE;
        }
        laying.prepare(which, n, 2);
        laying.takeTurns();
        return what == 0 ? laying.first : laying.other;
    }

    public int council(int which, int n) {
        if (!village.hasCase(which) || !within(n, 0, AHEAD)) {
            return NONE;
        }
        odds.look(ALL_PLACES, n);
        odds.aimAt(which);
        int bits = 0;
        for (int place = 0; place < village.places; place++) {
            if (moreThanHalf(odds.waysToPass(place, n), n)) {
                bits |= 1 << place;
            }
        }
        return bits;
    }

    public int haunt() {
        odds.look(now.dogBit(), AHEAD);
        return odds.mostHaunted();
    }

    // ---- who fed it

    public int walk(int i) {
        return now.cameTo(i);
    }

    public int fed(int n) {
        if (!within(n, 1, AHEAD) || n > now.hours) {
            return NONE;
        }
        odds.weighPulls(1, 1);
        int likeliest = NONE;
        long greatest = -1;
        for (int place = 0; place < village.places; place++) {
            odds.layNone();
            odds.more[place] = 1;
            odds.countWays(ALL_PLACES, 0, 1);
            long weight = odds.waysOfWalk(n);
            if (weight > greatest) {
                greatest = weight;
                likeliest = place;
            }
        }
        return likeliest;
    }

    public int lies(int i) {
        if (i < 0 || i >= lyingCount || i >= PLACES) {
            return GAP;
        }
        return lying[i];
    }

    // ---- what the table means

    public int count(int which, int deed, int times, int other, int otherTimes, int v) {
        boolean known = village.hasCase(which) && village.hasDeed(deed) && village.hasDeed(other);
        if (!known || !within(times, 0, MOST_TIMES) || !within(otherTimes, 0, MOST_TIMES)
                || !within(v, -MOST_TOGETHER, MOST_TOGETHER)) {
            return NONE;
        }
        return ledger.add(which, deed, times, other, otherTimes, v);
    }

    public boolean untell(int count) {
        return ledger.takeBack(count);
    }

    public int later(int by) {
        if (!within(by, 0, MOST_LATER) || ledger.time + by > MOST_TIME) {
            return NONE;
        }
        ledger.time += by;
        return ledger.time;
    }

    public int meant(int which, int k) {
        if (!village.hasCase(which)) {
            return NONE;
        }
        return ledger.tally(which, k, village.deeds);
    }

    public int sure(int which, int deed, int k) {
        if (!village.hasCase(which) || !village.hasDeed(deed)) {
            return GAP;
        }
        int tables = ledger.tally(which, k, village.deeds);
        return ledger.onlyValue(deed, tables);
    }

    public int ask(int which, int what, int k) {
        if (!village.hasCase(which) || !within(what, 0, 1)) {
            return NONE;
        }
        if (ledger.tally(which, k, village.deeds) == 0) {
            return NONE;
        }
        int asked = NONE;
        int fewest = NONE;
        for (int deed = 0; deed < village.deeds; deed++) {
            int left = ledger.mostLeft(deed);
            if (asked == NONE || left < fewest) {
                asked = deed;
                fewest = left;
            }
        }
        return what == 0 ? asked : fewest;
    }

    // ---- images

    public int image(int box) {
        if (!within(box, 0, BOXES - 1)) {
            return NONE;
        }
        boxes[box].copyFrom(now);
        boxesKept |= 1 << box;
        return now.hours;
    }

    public int back(int box) {
        if (!within(box, 0, BOXES - 1) || (boxesKept >> box & 1) == 0) {
            return NONE;
        }
        now.copyFrom(boxes[box]);
        acts.forget();
        return now.hours;
    }

    public int about(int what) {
        switch (what) {
            case 0:
                return village.places;
            case 1:
                return village.deeds;
            case 2:
                return village.cases;
            case 3:
                return village.paths;
            case 4:
                return now.dog;
            case 5:
                return village.hourAt(now.hours);
            case 6:
                return now.hours;
            case 7:
                return village.ageAt(now.hours);
            case 8:
                return now.seed;
            case 9:
                return now.allBones();
            case 10:
                return acts.done;
            case 11:
                return acts.undone;
            case 12:
                return ledger.length;
            case 13:
                return ledger.time;
            case 14:
                return tape.length;
            case 15:
                return village.pull.units;
            case 16:
                return lyingCount;
            case 17:
                return village.day;
            default:
                return NONE;
        }
    }

    // ---- helpers of the face

    private void showLaid() {
        System.arraycopy(laying.chosen, 0, lying, 0, PLACES);
        lyingCount = village.places;
    }

    private static boolean within(int number, int least, int most) {
        return number >= least && number <= most;
    }

    private static boolean moreThanHalf(long ways, int n) {
        return within(n, 0, AHEAD) && 2 * ways > POWERS[n];
    }

    /** One part (0 the upper one) of upper / lower in lowest terms. */
    private static long partOf(long upper, long lower, int part) {
        long divisor = commonDivisor(upper, lower);
        if (divisor <= 0) {
            return NONE;
        }
        return (part == 0 ? upper : lower) / divisor;
    }

    /** By Euclid: longs need fewer than a hundred rounds. */
    private static long commonDivisor(long one, long other) {
        for (int round = 0; round < 200 && other != 0; round++) {
            long rest = one % other;
            one = other;
            other = rest;
        }
        return one;
    }

    /** The bytes that were fed. */
    private static final class Tape {
        final byte[] bytes = new byte[TAPE_BYTES];
        int length = 0;

        void addNumber(int number) {
            for (int shift = 24; shift >= 0; shift -= 8) {
                if (length < TAPE_BYTES) {
                    bytes[length] = (byte) (number >> shift);
                    length++;
                }
            }
        }

        int byteAt(int i) {
            if (i < 0 || i >= length || i >= TAPE_BYTES) {
                return NO_BYTE;
            }
            return bytes[i] & 255;
        }
    }

    /** Reads the tape by TOKENS and keeps the first FAULT. */
    private static final class Reader {
        final Tape tape;
        final long[] words = new long[WORD_COUNT];
        int kind = KIND_END;
        int start = 0;
        int number = 0;
        long name = 0;
        int next = 0;
        int fault = 0;
        int faultPlace = NONE;

        Reader(Tape tape) {
            this.tape = tape;
            long packed = 0;
            int filled = 0;
            for (int i = 0; i < WORDS.length(); i++) {
                char sign = WORDS.charAt(i);
                if (sign != ' ') {
                    packed = packed * 32 + (sign - 'a' + 1);
                } else if (filled < WORD_COUNT) {
                    words[filled] = packed;
                    filled++;
                    packed = 0;
                }
            }
        }

        void begin() {
            fault = 0;
            faultPlace = NONE;
            next = 0;
            advance();
        }

        void advance() {
            while (next < tape.length && isBlank(tape.byteAt(next))) {
                next++;
            }
            start = next;
            int first = tape.byteAt(next);
            if (first == NO_BYTE) {
                kind = KIND_END;
            } else if (isLetter(first)) {
                readWord();
            } else if (isDigit(first)) {
                readNumber();
            } else {
                kind = isSign(first) ? first : KIND_NO_TOKEN;
                next++;
            }
        }

        private void readWord() {
            name = 0;
            while (next < tape.length && isLetter(tape.byteAt(next))) {
                if (next - start < WORD_LETTERS) {
                    name = name * 32 + (tape.byteAt(next) - 'a' + 1);
                }
                next++;
            }
            kind = next - start > WORD_LETTERS ? KIND_NO_TOKEN : kindOfWord(name);
        }

        private void readNumber() {
            number = 0;
            while (next < tape.length && isDigit(tape.byteAt(next))) {
                if (next - start < NUMBER_DIGITS) {
                    number = number * 10 + (tape.byteAt(next) - '0');
                }
                next++;
            }
            boolean whole = next - start <= NUMBER_DIGITS && !isLetter(tape.byteAt(next));
            kind = whole ? KIND_NUMBER : KIND_NO_TOKEN;
        }

        private int kindOfWord(long packed) {
            for (int i = 0; i < WORD_COUNT; i++) {
                if (words[i] == packed) {
                    return FIRST_WORD + i;
                }
            }
            return KIND_NAME;
        }

        /** Goes on behind a TOKEN of this kind; a FAULT if another one stands here. */
        boolean passBy(int wanted) {
            if (kind != wanted) {
                return refuse(FAULT_STAND);
            }
            advance();
            return true;
        }

        /** A FAULT at this TOKEN; what is no TOKEN is the least of all. Always false. */
        boolean refuse(int what) {
            return refuseAt(kind == KIND_NO_TOKEN ? FAULT_TOKEN : what, start);
        }

        boolean refuseAt(int what, int place) {
            fault = what;
            faultPlace = place;
            return false;
        }

        private static boolean isBlank(int b) {
            return b == ' ' || b == 10;
        }

        private static boolean isLetter(int b) {
            return b >= 'a' && b <= 'z';
        }

        private static boolean isDigit(int b) {
            return b >= '0' && b <= '9';
        }

        private static boolean isSign(int b) {
            switch (b) {
                case ';':
                case '(':
                case ')':
                case '<':
                case '>':
                case '=':
                case '+':
                case '-':
                case '*':
                case '/':
                case '%':
                    return true;
                default:
                    return false;
            }
        }
    }

    /** Tells a draft of a VILLAGE from the lines of a text. */
    private static final class Telling {
        final Reader reader;
        final Village draft;
        final PullTelling pullTelling;
        final long[] deedNames = new long[DEEDS];
        final long[] placeNames = new long[PLACES];
        final long[] caseNames = new long[CASES];
        int onceTold = 0;
        int tableTold = 0;

        Telling(Reader reader, Village draft) {
            this.reader = reader;
            this.draft = draft;
            this.pullTelling = new PullTelling(reader, draft.pull);
        }

        boolean tellAll() {
            draft.clear();
            onceTold = 0;
            tableTold = 0;
            reader.begin();
            for (int i = 0; i < TAPE_BYTES && reader.kind != KIND_END; i++) {
                if (!tellLine()) {
                    return false;
                }
            }
            return true;
        }

        private boolean tellLine() {
            switch (reader.kind) {
                case WORD_DEED:
                    return tellDeed();
                case WORD_PLACE:
                    return tellPlace();
                case WORD_PATH:
                    return tellPath();
                case WORD_CASE:
                    return tellCase();
                case WORD_WHEN:
                    return tellWhen();
                case WORD_PULL:
                case WORD_DAY:
                case WORD_HEARS:
                case WORD_START:
                case WORD_AGE:
                case WORD_DRAW:
                    return tellOnce(reader.kind);
                default:
                    return reader.refuse(FAULT_STAND);
            }
        }

        private boolean tellDeed() {
            if (draft.deeds >= DEEDS) {
                return reader.refuse(FAULT_STAND);
            }
            reader.advance();
            if (!newName(deedNames, draft.deeds)) {
                return false;
            }
            draft.deeds++;
            return reader.passBy(';');
        }

        private boolean tellPlace() {
            if (draft.places >= PLACES) {
                return reader.refuse(FAULT_STAND);
            }
            reader.advance();
            if (!newName(placeNames, draft.places) || !reader.passBy(WORD_SMELL)) {
                return false;
            }
            int smell = readNumber(0, 9);
            if (smell == NONE || !reader.passBy(WORD_DOES)) {
                return false;
            }
            int deed = knownName(deedNames, draft.deeds);
            if (deed == NONE) {
                return false;
            }
            draft.addPlace(smell, deed);
            reader.advance();
            return reader.passBy(';');
        }

        private boolean tellPath() {
            if (draft.paths >= PATHS) {
                return reader.refuse(FAULT_STAND);
            }
            reader.advance();
            int one = knownName(placeNames, draft.places);
            if (one == NONE) {
                return false;
            }
            reader.advance();
            if (!reader.passBy(WORD_TO)) {
                return false;
            }
            int other = knownName(placeNames, draft.places);
            if (other == NONE) {
                return false;
            }
            if (one == other || draft.pathBetween(one, other)) {
                return reader.refuse(FAULT_TOLD);
            }
            draft.addPath(one, other);
            reader.advance();
            return reader.passBy(';');
        }

        private boolean tellCase() {
            if (draft.cases >= CASES) {
                return reader.refuse(FAULT_STAND);
            }
            reader.advance();
            if (!newName(caseNames, draft.cases) || !reader.passBy(WORD_BAR)) {
                return false;
            }
            int bar = readNumber(1, 15);
            if (bar == NONE) {
                return false;
            }
            draft.addCase(bar);
            return reader.passBy(';');
        }

        private boolean tellWhen() {
            if (Integer.bitCount(tableTold) >= TABLE_ROWS) {
                return reader.refuse(FAULT_STAND);
            }
            reader.advance();
            int deed = knownName(deedNames, draft.deeds);
            if (deed == NONE) {
                return false;
            }
            reader.advance();
            int which = knownName(caseNames, draft.cases);
            if (which == NONE) {
                return false;
            }
            int bit = 1 << (deed * CASES + which);
            if ((tableTold & bit) != 0) {
                return reader.refuse(FAULT_TOLD);
            }
            tableTold |= bit;
            reader.advance();
            return tellValue(deed, which) && reader.passBy(';');
        }

        /** V may have a sign, and is then at fault at its sign. */
        private boolean tellValue(int deed, int which) {
            int place = reader.start;
            boolean below = reader.kind == '-';
            if (below) {
                reader.advance();
            }
            if (reader.kind != KIND_NUMBER) {
                return reader.refuse(FAULT_STAND);
            }
            if (reader.number > MOST_COUNT) {
                return reader.refuseAt(FAULT_NUMBER, place);
            }
            draft.setCount(deed, which, below ? -reader.number : reader.number);
            reader.advance();
            return true;
        }

        private boolean tellOnce(int word) {
            int bit = 1 << (word - FIRST_WORD);
            if ((onceTold & bit) != 0) {
                return reader.refuse(FAULT_STAND);
            }
            onceTold |= bit;
            reader.advance();
            boolean told;
            switch (word) {
                case WORD_PULL:
                    told = pullTelling.tellOr(0);
                    break;
                case WORD_START:
                    told = tellStart();
                    break;
                case WORD_DAY:
                    draft.day = readNumber(1, 24);
                    told = draft.day != NONE;
                    break;
                case WORD_HEARS:
                    draft.hears = readNumber(1, 24);
                    told = draft.hears != NONE;
                    break;
                case WORD_AGE:
                    draft.age = readNumber(0, MOST_AGE);
                    told = draft.age != NONE;
                    break;
                default:
                    draft.seed = readNumber(0, SEEDS - 1);
                    told = draft.seed != NONE;
                    break;
            }
            return told && reader.passBy(';');
        }

        private boolean tellStart() {
            int place = knownName(placeNames, draft.places);
            if (place == NONE) {
                return false;
            }
            draft.start = place;
            reader.advance();
            return true;
        }

        /** The number that stands here, and on behind it; NONE with a FAULT if it can't be. */
        private int readNumber(int least, int most) {
            if (reader.kind != KIND_NUMBER) {
                reader.refuse(FAULT_STAND);
                return NONE;
            }
            int number = reader.number;
            if (!within(number, least, most)) {
                reader.refuse(FAULT_NUMBER);
                return NONE;
            }
            reader.advance();
            return number;
        }

        private boolean newName(long[] names, int told) {
            if (reader.kind != KIND_NAME || told < 0 || told >= names.length) {
                return reader.refuse(FAULT_STAND);
            }
            if (indexOfName(names, told) != NONE) {
                return reader.refuse(FAULT_TOLD);
            }
            names[told] = reader.name;
            reader.advance();
            return true;
        }

        /** Which NAME stands here; not yet behind it, as it may still be told already. */
        private int knownName(long[] names, int told) {
            if (reader.kind != KIND_NAME) {
                reader.refuse(FAULT_STAND);
                return NONE;
            }
            int index = indexOfName(names, told);
            if (index == NONE) {
                reader.refuse(FAULT_NAME);
            }
            return index;
        }

        private int indexOfName(long[] names, int told) {
            for (int i = 0; i < told && i < names.length; i++) {
                if (names[i] == reader.name) {
                    return i;
                }
            }
            return NONE;
        }
    }

    /** Tells the formula of pull; depth is how many brackets and nots stand around. */
    private static final class PullTelling {
        final Reader reader;
        final Formula formula;

        PullTelling(Reader reader, Formula formula) {
            this.reader = reader;
            this.formula = formula;
        }

        boolean tellOr(int depth) {
            if (!tellAnd(depth)) {
                return false;
            }
            for (int i = 0; i < TAPE_BYTES && reader.kind == WORD_OR; i++) {
                reader.advance();
                if (!tellAnd(depth)) {
                    return false;
                }
                formula.addStep(-WORD_OR);
            }
            return true;
        }

        private boolean tellAnd(int depth) {
            if (!tellOne(depth)) {
                return false;
            }
            for (int i = 0; i < TAPE_BYTES && reader.kind == WORD_AND; i++) {
                reader.advance();
                if (!tellOne(depth)) {
                    return false;
                }
                formula.addStep(-WORD_AND);
            }
            return true;
        }

        private boolean tellOne(int depth) {
            if (reader.kind == WORD_NOT) {
                return tellNot(depth);
            }
            if (!tellSum(depth)) {
                return false;
            }
            int relation = reader.kind;
            if (relation != '<' && relation != '>' && relation != '=') {
                return true;
            }
            reader.advance();
            if (!tellSum(depth)) {
                return false;
            }
            formula.addStep(-relation);
            return true;
        }

        private boolean tellNot(int depth) {
            if (depth >= DEPTH) {
                return reader.refuse(FAULT_STAND);
            }
            reader.advance();
            if (!tellOne(depth + 1)) {
                return false;
            }
            formula.addStep(-WORD_NOT);
            return true;
        }

        private boolean tellSum(int depth) {
            if (!tellTerm(depth)) {
                return false;
            }
            for (int i = 0; i < TAPE_BYTES && (reader.kind == '+' || reader.kind == '-'); i++) {
                int sign = reader.kind;
                reader.advance();
                if (!tellTerm(depth)) {
                    return false;
                }
                formula.addStep(-sign);
            }
            return true;
        }

        private boolean tellTerm(int depth) {
            if (!tellUnit(depth)) {
                return false;
            }
            for (int i = 0; i < TAPE_BYTES && isTimes(reader.kind); i++) {
                int sign = reader.kind;
                reader.advance();
                if (!tellUnit(depth)) {
                    return false;
                }
                formula.addStep(-sign);
            }
            return true;
        }

        private boolean tellUnit(int depth) {
            int kind = reader.kind;
            boolean bracket = kind == '(';
            if (!bracket && kind != KIND_NUMBER && !isQuantity(kind)) {
                return reader.refuse(FAULT_STAND);
            }
            if (formula.units >= UNITS || bracket && depth >= DEPTH) {
                return reader.refuse(FAULT_STAND);
            }
            formula.units++;
            if (!bracket) {
                formula.addStep(kind == KIND_NUMBER ? reader.number : -kind);
            }
            reader.advance();
            if (!bracket) {
                return true;
            }
            if (!tellOr(depth + 1)) {
                return false;
            }
            if (reader.kind != ')') {
                return reader.refuse(FAULT_STAND);
            }
            reader.advance();
            return true;
        }

        private static boolean isTimes(int kind) {
            return kind == '*' || kind == '/' || kind == '%';
        }

        private static boolean isQuantity(int kind) {
            return kind == WORD_SMELL || kind == WORD_BONES || kind == WORD_HOUR
                    || kind == WORD_AGE || kind == WORD_HERE;
        }
    }

    /** A formula as steps over a stack: a number is itself, all else its TOKEN's kind below 0. */
    private static final class Formula {
        final int[] steps = new int[STEPS];
        final int[] stack = new int[UNITS];
        int length = 0;
        int units = 0;

        void clear() {
            length = 0;
            units = 0;
        }

        void addStep(int step) {
            if (length < STEPS) {
                steps[length] = step;
                length++;
            }
        }

        void copyFrom(Formula other) {
            System.arraycopy(other.steps, 0, steps, 0, STEPS);
            length = other.length;
            units = other.units;
        }

        int valueOf(int smell, int bones, int hour, int age, int here) {
            int top = 0;
            for (int i = 0; i < length && i < STEPS; i++) {
                int step = steps[i];
                if (step == -WORD_NOT) {
                    if (top > 0) {
                        stack[top - 1] = truth(stack[top - 1] == 0);
                    }
                } else if (joinsTwo(step)) {
                    if (top > 1) {
                        top--;
                        stack[top - 1] = join(-step, stack[top - 1], stack[top]);
                    }
                } else if (top < UNITS) {
                    stack[top] = step >= 0 ? step : quantity(-step, smell, bones, hour, age, here);
                    top++;
                }
            }
            return top > 0 ? stack[0] : 1;
        }

        /** Signs and the words and, or join two; NOT is looked at ahead of this. */
        private static boolean joinsTwo(int step) {
            return step < 0 && step > -FIRST_WORD || step == -WORD_AND || step == -WORD_OR;
        }

        private static int quantity(int word, int smell, int bones, int hour, int age, int here) {
            switch (word) {
                case WORD_SMELL:
                    return smell;
                case WORD_BONES:
                    return bones;
                case WORD_HOUR:
                    return hour;
                case WORD_AGE:
                    return age;
                default:
                    return here;
            }
        }

        private static int join(int sign, int one, int other) {
            switch (sign) {
                case '+':
                    return one + other;
                case '-':
                    return one - other;
                case '*':
                    return one * other;
                case '/':
                    return other == 0 ? 0 : one / other;
                case '%':
                    return other == 0 ? 0 : one % other;
                case '<':
                    return truth(one < other);
                case '>':
                    return truth(one > other);
                case '=':
                    return truth(one == other);
                case WORD_AND:
                    return truth(one != 0 && other != 0);
                default:
                    return truth(one != 0 || other != 0);
            }
        }

        private static int truth(boolean so) {
            return so ? 1 : 0;
        }
    }

    /** What was told. */
    private static final class Village {
        int deeds = 0;
        int places = 0;
        int paths = 0;
        int cases = 0;
        int day = 8;
        int hears = 1;
        int start = 0;
        int age = 0;
        int seed = 0;
        final int[] smell = new int[PLACES];
        final int[] does = new int[PLACES];
        final int[] leads = new int[PLACES];
        final int[] bar = new int[CASES];
        final int[] counts = new int[DEEDS * CASES];
        final Formula pull = new Formula();

        void clear() {
            deeds = 0;
            places = 0;
            paths = 0;
            cases = 0;
            day = 8;
            hears = 1;
            start = 0;
            age = 0;
            seed = 0;
            Arrays.fill(leads, 0);
            Arrays.fill(counts, 0);
            pull.clear();
        }

        void copyFrom(Village other) {
            deeds = other.deeds;
            places = other.places;
            paths = other.paths;
            cases = other.cases;
            day = other.day;
            hears = other.hears;
            start = other.start;
            age = other.age;
            seed = other.seed;
            System.arraycopy(other.smell, 0, smell, 0, PLACES);
            System.arraycopy(other.does, 0, does, 0, PLACES);
            System.arraycopy(other.leads, 0, leads, 0, PLACES);
            System.arraycopy(other.bar, 0, bar, 0, CASES);
            System.arraycopy(other.counts, 0, counts, 0, DEEDS * CASES);
            pull.copyFrom(other.pull);
        }

        boolean hasPlace(int place) {
            return place >= 0 && place < places && place < PLACES;
        }

        boolean hasCase(int which) {
            return which >= 0 && which < cases && which < CASES;
        }

        boolean hasDeed(int deed) {
            return deed >= 0 && deed < deeds && deed < DEEDS;
        }

        void addPlace(int smells, int deed) {
            if (places < PLACES) {
                smell[places] = smells;
                does[places] = deed;
                places++;
            }
        }

        boolean pathBetween(int one, int other) {
            return hasPlace(one) && (leads[one] >> other & 1) != 0;
        }

        void addPath(int one, int other) {
            if (hasPlace(one) && hasPlace(other)) {
                leads[one] |= 1 << other;
                leads[other] |= 1 << one;
                paths++;
            }
        }

        void addCase(int height) {
            if (cases < CASES) {
                bar[cases] = height;
                cases++;
            }
        }

        void setCount(int deed, int which, int value) {
            if (hasDeed(deed) && hasCase(which)) {
                counts[deed * CASES + which] = value;
            }
        }

        /** What the DEED of a PLACE counts for a CASE. */
        int countAt(int place, int which) {
            if (!hasPlace(place) || !hasCase(which) || !hasDeed(does[place])) {
                return 0;
            }
            return counts[does[place] * CASES + which];
        }

        int hourAt(int hours) {
            return day > 0 ? hours % day : 0;
        }

        int dayAt(int hours) {
            return day > 0 ? hours / day : 0;
        }

        int ageAt(int hours) {
            return Math.min(MOST_AGE, age + dayAt(hours));
        }

        int heardAt(int hours) {
            return hears > 0 && cases > 0 ? hours / hears % cases : NONE;
        }

        int pullOf(int place, int bones, int hours, int here) {
            if (!hasPlace(place)) {
                return 0;
            }
            int value = pull.valueOf(smell[place], bones, hourAt(hours), ageAt(hours), here);
            return Math.max(0, Math.min(MOST_PULL, value));
        }
    }

    /** What is now, in earnest; the HOUR and the age come of the HOURS that were. */
    private static final class State {
        int dog = NONE;
        int hours = 0;
        int seed = 0;
        final int[] bones = new int[PLACES];
        final int[] scores = new int[CASES];
        final int[] standing = new int[CASES];
        final int[] walk = new int[WALK];

        void begin(Village village) {
            dog = village.hasPlace(village.start) ? village.start : NONE;
            hours = 0;
            seed = village.seed;
            Arrays.fill(bones, 0);
            Arrays.fill(scores, 0);
            Arrays.fill(standing, OPEN);
        }

        void copyFrom(State other) {
            dog = other.dog;
            hours = other.hours;
            seed = other.seed;
            System.arraycopy(other.bones, 0, bones, 0, PLACES);
            System.arraycopy(other.scores, 0, scores, 0, CASES);
            System.arraycopy(other.standing, 0, standing, 0, CASES);
            System.arraycopy(other.walk, 0, walk, 0, WALK);
        }

        /** An HOUR in which the dog comes to a PLACE. */
        void comeTo(Village village, int place) {
            dog = place;
            walk[hours % WALK] = place;
            countDeed(village, village.heardAt(hours));
            hours++;
            if (village.hourAt(hours) == 0) {
                Arrays.fill(bones, 0);
            }
        }

        private void countDeed(Village village, int which) {
            if (!village.hasCase(which) || standing[which] != OPEN) {
                return;
            }
            scores[which] += village.countAt(dog, which);
            if (scores[which] >= village.bar[which]) {
                standing[which] = PASSED;
            } else if (scores[which] <= -village.bar[which]) {
                standing[which] = FALLEN;
            }
        }

        /** The WALK from its latest PLACE (0) on; NONE beyond it. */
        int cameTo(int i) {
            if (i < 0 || i >= WALK || i >= hours) {
                return NONE;
            }
            return walk[(hours - 1 - i) % WALK];
        }

        /** Where the dog is, as a bit. */
        int dogBit() {
            return within(dog, 0, PLACES - 1) ? 1 << dog : 0;
        }

        int allBones() {
            int all = 0;
            for (int place = 0; place < PLACES; place++) {
                all += bones[place];
            }
            return all;
        }
    }

    /** The states ahead of and behind the latest ACTS: kept[done] is for what is now. */
    private static final class Acts {
        final State[] kept = new State[ACTS + 1];
        int done = 0;
        int undone = 0;

        Acts() {
            for (int i = 0; i <= ACTS; i++) {
                kept[i] = new State();
            }
        }

        void forget() {
            done = 0;
            undone = 0;
        }

        /** To be called ahead of an ACT. */
        void keep(State now) {
            if (done >= ACTS) {
                dropOldest();
            }
            kept[done].copyFrom(now);
            done++;
            undone = 0;
        }

        private void dropOldest() {
            State oldest = kept[0];
            for (int i = 0; i < ACTS; i++) {
                kept[i] = kept[i + 1];
            }
            kept[ACTS] = oldest;
            done = ACTS - 1;
        }

        boolean goBack(State now) {
            if (done <= 0 || done > ACTS) {
                return false;
            }
            kept[done].copyFrom(now);
            done--;
            undone++;
            now.copyFrom(kept[done]);
            return true;
        }

        boolean goOn(State now) {
            if (undone <= 0 || done >= ACTS) {
                return false;
            }
            done++;
            undone--;
            now.copyFrom(kept[done]);
            return true;
        }
    }

    /** How many of all ways, by 60 for each HOUR, the dog can go from what is now. */
    private static final class Odds {
        final Village village;
        final State now;
        /** Bones laid on trial at each PLACE, beside those that lie there. */
        final int[] more = new int[PLACES];
        // By HOUR ahead, PLACE, bones laid on trial, here.
        final int[] pulls = new int[AHEAD * PLACES * (LAID + 1) * 2];
        // By HOUR ahead, PLACE from, PLACE to: of 60 DRAWS.
        final int[] ways = new int[AHEAD * PLACES * PLACES];
        // Of the CASE aimed at: what the DEED of each PLACE counts.
        final int[] gains = new int[PLACES];
        int aim = NONE;
        int leastGain = 0;
        int mostGain = 0;
        // By PLACE and SCORE.
        long[] weights = new long[PLACES * SCORES];
        long[] weightsThen = new long[PLACES * SCORES];
        final long[] haunts = new long[PLACES];
        // Weights are 0 at other PLACES (bits) and beyond these SCORES.
        int occupied = 0;
        int low = 0;
        int high = 0;

        Odds(Village village, State now) {
            this.village = village;
            this.now = now;
        }

        /** Makes all ready to look so many HOURS ahead from some PLACES, with the bones that lie there. */
        void look(int places, int hours) {
            layNone();
            weighPulls(hours, 0);
            countWays(places, 0, hours);
        }

        void layNone() {
            Arrays.fill(more, 0);
        }

        /** PULLS for each HOUR ahead, with 0 .. most bones laid on trial. */
        void weighPulls(int hours, int most) {
            for (int step = 0; step < hours && step < AHEAD; step++) {
                int then = now.hours + step;
                boolean gone = village.dayAt(then) > village.dayAt(now.hours);
                for (int place = 0; place < village.places; place++) {
                    for (int laid = 0; laid <= most && laid <= LAID; laid++) {
                        int bones = gone ? 0 : now.bones[place] + laid;
                        int slot = ((step * PLACES + place) * (LAID + 1) + laid) * 2;
                        pulls[slot] = village.pullOf(place, bones, then, 0);
                        pulls[slot + 1] = village.pullOf(place, bones, then, 1);
                    }
                }
            }
        }

        /**
         * Of 60 DRAWS to where, for the HOURS ahead first .. end - 1, if the dog is now at one of some
         * PLACES (bits): where it can't be by then, nothing is counted.
         */
        void countWays(int places, int first, int end) {
            int near = places;
            for (int step = 0; step < end && step < AHEAD; step++) {
                int wider = near;
                for (int place = 0; place < village.places; place++) {
                    if ((near >> place & 1) != 0) {
                        wider |= village.leads[place];
                        if (step >= first) {
                            countRow(step, place);
                        }
                    }
                }
                near = wider;
            }
        }

        private void countRow(int step, int from) {
            int row = (step * PLACES + from) * PLACES;
            int reach = village.leads[from] | 1 << from;
            int all = 0;
            for (int to = 0; to < village.places; to++) {
                if ((reach >> to & 1) != 0) {
                    all += pullAt(step, from, to);
                }
                ways[row + to] = 0;
            }
            if (all <= 0) {
                ways[row + from] = DRAWS;
                return;
            }
            int together = 0;
            int drawn = 0;
            for (int to = 0; to < village.places; to++) {
                if ((reach >> to & 1) != 0) {
                    together += pullAt(step, from, to);
                    // the DRAWS of which all PULLS by 60 are below those together
                    int upTo = (DRAWS * together + all - 1) / all;
                    ways[row + to] = upTo - drawn;
                    drawn = upTo;
                }
            }
        }

        private int pullAt(int step, int from, int to) {
            int laid = more[to];
            if (laid < 0 || laid > LAID) {
                return 0;
            }
            return pulls[((step * PLACES + to) * (LAID + 1) + laid) * 2 + (from == to ? 1 : 0)];
        }

        int waysTo(int step, int from, int to) {
            if (step < 0 || step >= AHEAD || !village.hasPlace(from) || !village.hasPlace(to)) {
                return 0;
            }
            return ways[(step * PLACES + from) * PLACES + to];
        }

        /** Where a DRAW leads: the DRAWS for each PLACE stand by its number. */
        int goal(int from, int draw) {
            int drawn = 0;
            for (int to = 0; to < village.places; to++) {
                drawn += waysTo(0, from, to);
                if (drawn > draw) {
                    return to;
                }
            }
            return from;
        }

        private void standAt(int place, int score) {
            Arrays.fill(weights, 0L);
            occupied = 0;
            low = score;
            high = score;
            if (village.hasPlace(place) && within(score, -MOST_SCORE, MOST_SCORE)) {
                weights[place * SCORES + MOST_SCORE + score] = 1L;
                occupied = 1 << place;
            }
        }

        /** Goes on from a PLACE for so many HOURS with no CASE in mind. */
        void roam(int place, int hours) {
            standAt(place, 0);
            for (int step = 0; step < hours && step < AHEAD; step++) {
                moveAll(step, NONE);
            }
        }

        long weightOf(int place) {
            return village.hasPlace(place) ? weights[place * SCORES + MOST_SCORE] : 0L;
        }

        int mostHaunted() {
            Arrays.fill(haunts, 0L);
            standAt(now.dog, 0);
            for (int step = 0; step < AHEAD; step++) {
                moveAll(step, NONE);
                for (int place = 0; place < village.places; place++) {
                    haunts[place] += weightOf(place) * POWERS[AHEAD - 1 - step];
                }
            }
            int most = NONE;
            for (int place = 0; place < village.places; place++) {
                if (most == NONE || haunts[place] > haunts[most]) {
                    most = place;
                }
            }
            return most;
        }

        /** From here on it is this CASE of which the ways to PASS are counted. */
        void aimAt(int which) {
            aim = which;
            leastGain = 0;
            mostGain = 0;
            for (int place = 0; place < village.places; place++) {
                gains[place] = village.countAt(place, which);
                leastGain = Math.min(leastGain, gains[place]);
                mostGain = Math.max(mostGain, gains[place]);
            }
        }

        /** Of all ways of n HOURS from a PLACE, those by which the CASE aimed at is PASSED. */
        long waysToPass(int place, int n) {
            if (!village.hasCase(aim) || !within(n, 0, AHEAD) || now.standing[aim] == FALLEN) {
                return 0L;
            }
            if (now.standing[aim] == PASSED) {
                return POWERS[n];
            }
            standAt(place, now.scores[aim]);
            int left = heardWithin(n);
            long passed = 0;
            for (int step = 0; step < n; step++) {
                // SCORES from which the bar can't be reached any more are not gone on with
                low = Math.max(low, village.bar[aim] - left * mostGain);
                if (low > high) {
                    return passed * POWERS[n - step];
                }
                boolean heard = village.heardAt(now.hours + step) == aim;
                passed = passed * DRAWS + moveAll(step, heard ? aim : NONE);
                left -= heard ? 1 : 0;
            }
            return passed;
        }

        /** In how many of the next n HOURS the CASE aimed at is HEARD. */
        private int heardWithin(int n) {
            int heard = 0;
            for (int step = 0; step < n; step++) {
                heard += village.heardAt(now.hours + step) == aim ? 1 : 0;
            }
            return heard;
        }

        /** An HOUR of all weights, in which a CASE is HEARD (or NONE): those by which it is PASSED. */
        private long moveAll(int step, int heard) {
            Arrays.fill(weightsThen, 0L);
            int bar = village.hasCase(heard) ? village.bar[heard] : MOST_SCORE + 1;
            long passed = 0;
            int occupiedThen = 0;
            for (int from = 0; from < village.places; from++) {
                for (int to = 0; to < village.places && (occupied >> from & 1) != 0; to++) {
                    int drawn = ways[(step * PLACES + from) * PLACES + to];
                    if (drawn != 0) {
                        passed += moveOne(from, to, drawn, heard == NONE ? 0 : gains[to], bar);
                        occupiedThen |= 1 << to;
                    }
                }
            }
            long[] freed = weights;
            weights = weightsThen;
            weightsThen = freed;
            occupied = occupiedThen;
            if (heard != NONE) {
                low = Math.max(low + leastGain, 1 - bar);
                high = Math.min(high + mostGain, bar - 1);
            }
            return passed;
        }

        /** The weights of one PLACE go to another one: those by which the bar is reached. */
        private long moveOne(int from, int to, int drawn, int gain, int bar) {
            int fromRow = from * SCORES + MOST_SCORE;
            int toRow = to * SCORES + MOST_SCORE + gain;
            long passed = 0;
            for (int score = low; score <= high; score++) {
                long weight = weights[fromRow + score];
                if (weight != 0) {
                    if (score + gain >= bar) {
                        passed += weight * drawn;
                    } else if (score + gain > -bar) {
                        weightsThen[toRow + score] += weight * drawn;
                    }
                }
            }
            return passed;
        }

        /** Of all ways those of the latest n of the WALK, by the DRAWS of now. */
        long waysOfWalk(int n) {
            long all = 1;
            int from = now.cameTo(n);
            if (from == NONE) {
                from = village.start;
            }
            for (int i = n - 1; i >= 0; i--) {
                int to = now.cameTo(i);
                all *= waysTo(0, from, to);
                from = to;
            }
            return all;
        }
    }

    /** Tries where to lay bones, for a CASE and some HOURS. */
    private static final class Laying {
        final Village village;
        final State now;
        final Odds odds;
        /** How many are laid at each PLACE by what choose found. */
        final int[] chosen = new int[PLACES];
        long greatest = -1;
        int first = NONE;
        int other = NONE;
        int hours = 0;
        int hoursToday = 0;

        Laying(Village village, State now, Odds odds) {
            this.village = village;
            this.now = now;
            this.odds = odds;
        }

        /** Bones are gone behind the DAY: the ways of later HOURS are the same for all layings. */
        void prepare(int which, int n, int most) {
            hours = n;
            hoursToday = Math.min(n, village.day - village.hourAt(now.hours));
            odds.layNone();
            odds.weighPulls(n, most);
            odds.countWays(now.dogBit(), hoursToday, n);
            odds.aimAt(which);
        }

        private long measure() {
            odds.countWays(now.dogBit(), 0, hoursToday);
            return odds.waysToPass(now.dog, hours);
        }

        /** Finds how to lay just k; false if so many can't be laid. */
        boolean choose(int k) {
            greatest = -1;
            odds.layNone();
            layFrom(0, k);
            return greatest >= 0;
        }

        /** Lays what is left from a PLACE on, the most first. */
        private void layFrom(int place, int left) {
            if (place >= village.places || place >= PLACES) {
                if (left == 0) {
                    compare();
                }
                return;
            }
            int most = Math.min(left, MOST_BONES - now.bones[place]);
            for (int laid = most; laid >= 0; laid--) {
                odds.more[place] = laid;
                layFrom(place + 1, left - laid);
            }
        }

        private void compare() {
            long ways = measure();
            if (ways > greatest) {
                greatest = ways;
                System.arraycopy(odds.more, 0, chosen, 0, PLACES);
            }
        }

        void takeTurns() {
            first = NONE;
            other = NONE;
            greatest = -1;
            for (int place = 0; place < village.places; place++) {
                answerTo(place);
            }
        }

        /** Where the other one lays, if the first one lays at a PLACE. */
        private void answerTo(int place) {
            long least = -1;
            int answer = NONE;
            for (int second = 0; second < village.places; second++) {
                odds.layNone();
                odds.more[place]++;
                odds.more[second]++;
                if (fits(place) && fits(second)) {
                    long ways = measure();
                    if (answer == NONE || ways < least) {
                        least = ways;
                        answer = second;
                    }
                }
            }
            if (answer != NONE && least > greatest) {
                greatest = least;
                first = place;
                other = answer;
            }
        }

        private boolean fits(int place) {
            return now.bones[place] + odds.more[place] <= MOST_BONES;
        }
    }

    /** The COUNTS, each told at a TIME and perhaps untold at another. */
    private static final class Ledger {
        final int[] which = new int[COUNTS];
        final int[] deed = new int[COUNTS];
        final int[] times = new int[COUNTS];
        final int[] other = new int[COUNTS];
        final int[] otherTimes = new int[COUNTS];
        final int[] together = new int[COUNTS];
        final int[] told = new int[COUNTS];
        final int[] untold = new int[COUNTS];
        int length = 0;
        int time = 0;
        final int[] known = new int[COUNTS];
        int knownLength = 0;
        /** A table on trial, by DEED. */
        final int[] values = new int[DEEDS];
        /** How many tables there are by DEED and what it counts in them. */
        final int[] left = new int[DEEDS * VALUES];

        void clear() {
            length = 0;
        }

        int add(int forCase, int one, int oneTimes, int second, int secondTimes, int v) {
            if (length >= COUNTS) {
                return NONE;
            }
            which[length] = forCase;
            deed[length] = one;
            times[length] = oneTimes;
            other[length] = second;
            otherTimes[length] = secondTimes;
            together[length] = v;
            told[length] = time;
            untold[length] = NONE;
            length++;
            return length - 1;
        }

        boolean takeBack(int i) {
            if (i < 0 || i >= length || i >= COUNTS || untold[i] != NONE) {
                return false;
            }
            untold[i] = time;
            return true;
        }

        /** How many tables of a CASE agree with what is known of it at k; left has them by DEED. */
        int tally(int forCase, int k, int deeds) {
            int used = Math.max(0, Math.min(DEEDS, deeds));
            gather(forCase, k);
            Arrays.fill(left, 0);
            Arrays.fill(values, -MOST_COUNT);
            int tables = 1;
            for (int i = 0; i < used; i++) {
                tables *= VALUES;
            }
            int agreeing = 0;
            for (int i = 0; i < tables; i++) {
                if (agrees()) {
                    agreeing++;
                    note(used);
                }
                turnOn(used);
            }
            return agreeing;
        }

        private void gather(int forCase, int k) {
            knownLength = 0;
            for (int i = 0; i < length && i < COUNTS; i++) {
                boolean taken = untold[i] != NONE && untold[i] <= k;
                if (which[i] == forCase && told[i] <= k && !taken) {
                    known[knownLength] = i;
                    knownLength++;
                }
            }
        }

        private boolean agrees() {
            for (int j = 0; j < knownLength; j++) {
                int i = known[j];
                if (times[i] * values[deed[i]] + otherTimes[i] * values[other[i]] != together[i]) {
                    return false;
                }
            }
            return true;
        }

        private void note(int used) {
            for (int i = 0; i < used; i++) {
                left[i * VALUES + values[i] + MOST_COUNT]++;
            }
        }

        /** To the next table, as a counter's wheels turn. */
        private void turnOn(int used) {
            for (int i = 0; i < used; i++) {
                if (values[i] < MOST_COUNT) {
                    values[i]++;
                    return;
                }
                values[i] = -MOST_COUNT;
            }
        }

        /** What a DEED counts in all of so many tables; GAP if it is not the same. */
        int onlyValue(int one, int tables) {
            for (int value = 0; value < VALUES; value++) {
                if (tables > 0 && leftBy(one, value) == tables) {
                    return value - MOST_COUNT;
                }
            }
            return GAP;
        }

        /** How many tables are left at the most, if it is seen what a DEED counts. */
        int mostLeft(int one) {
            int most = 0;
            for (int value = 0; value < VALUES; value++) {
                most = Math.max(most, leftBy(one, value));
            }
            return most;
        }

        private int leftBy(int one, int value) {
            if (one < 0 || one >= DEEDS || value < 0 || value >= VALUES) {
                return 0;
            }
            return left[one * VALUES + value];
        }
    }
}
