import java.util.Arrays;

/** A chart drawn by ear: what travellers told of a sea, and what can be drawn, sailed and bet by it. */
public final class SighChart {
    public static final int NONE = -1;

    private static final int OPEN_SEA = 0;
    private static final int ROCK = 1;
    private static final int ISLAND = 3;
    private static final int KINDS = 4;
    private static final int WHITE = 4;

    private static final int SIXTEENTHS = 16;
    private static final int MOST_SIDE = 6;
    private static final int MOST_CELLS = 36;
    private static final int MOST_TRAVELLERS = 5;
    private static final int MOST_TELLINGS = 12;
    private static final int MOST_TELLINGS_OF_CELL = 5;
    private static final int MOST_MISSED = 9;
    private static final int MOST_MARKS = 3;
    private static final int MOST_YEARS_BYTES = 300;
    private static final int MOST_HOURS = 60;
    private static final int MOST_TURNS = 4;
    private static final int MOST_CAPTAINS = 12;
    private static final int MOST_SEED = 9999;
    private static final int MOST_SEEDS = 20;
    /** 16 to the 15th still fits a long, 16 to the 16th does not. */
    private static final int MOST_CELLS_OF_ODDS = 15;

    private static final int FINE = 0;
    private static final int NO_TRAY = 1;
    private static final int NO_SUCH = 2;
    private static final int MISSING = 3;
    private static final int NO_PLACE = 4;
    private static final int BAD_NUMBER = 5;
    private static final int BELOW_ZERO = 6;
    private static final int TOO_MANY = 7;
    private static final int THERE_IS_NONE = 8;
    private static final int CAN_NOT_BE = 9;
    private static final int FAULTY = 10;
    private static final int UNLIKE_SORTS = 11;

    private final Trays trays = new Trays();
    private final Tape tape = new Tape();
    private final DuchyReader duchyReader = new DuchyReader();
    private final YearsReader yearsReader = new YearsReader();
    private final Survey survey = new Survey();
    private final Route route = new Route();
    private final Belief belief = new Belief();
    private final Council council = new Council();
    private final Life life = new Life();
    private final Duchy[] marks = new Duchy[MOST_MARKS];
    private int marked;
    private Duchy now = new Duchy();
    private Duchy spareDuchy = new Duchy();
    private Almanac spareYears = new Almanac();
    private int statusNow;
    private long fractionTop;
    private long fractionBottom = 1;
    private int faultKind = NONE;
    private int faultPlace = NONE;

    public SighChart() {
        for (int i = 0; i < marks.length; i++) {
            marks[i] = new Duchy();
        }
    }

    public int status() {
        return statusNow;
    }

    public long top() {
        return fractionTop;
    }

    public long bottom() {
        return fractionBottom;
    }

    // ---- TRAYS

    public boolean tray(int tray, int sort, int many) {
        if (!trays.isTray(tray) || !within(sort, 0, Trays.MOST_SORT)) {
            return denied(NO_TRAY);
        }
        if (many > Trays.MOST_NUMBERS) {
            return denied(BAD_NUMBER);
        }
        if (many < 0) {
            return denied(BELOW_ZERO);
        }
        trays.lay(tray, sort, many);
        return done();
    }

    public boolean write(int tray, int place, long v) {
        int why = trays.whyNoPlace(tray, place);
        if (why != FINE) {
            return denied(why);
        }
        trays.put(tray, place, v);
        return done();
    }

    public long read(int tray, int place) {
        int why = trays.whyNoPlace(tray, place);
        if (why != FINE) {
            return refused(why);
        }
        statusNow = FINE;
        return trays.get(tray, place);
    }

    public boolean pour(int tray, int i, int to, int j, int many) {
        if (!trays.isTray(tray) || !trays.isTray(to)) {
            return denied(NO_TRAY);
        }
        if (trays.isMissing(tray) || trays.isMissing(to)) {
            return denied(MISSING);
        }
        if (trays.sortOf(tray) != trays.sortOf(to)) {
            return denied(UNLIKE_SORTS);
        }
        if (many < 0) {
            return denied(BELOW_ZERO);
        }
        if (!trays.hasPlaces(tray, i, many) || !trays.hasPlaces(to, j, many)) {
            return denied(NO_PLACE);
        }
        trays.move(tray, i, to, j, many);
        return done();
    }

    // ---- texts

    public int feed(int a, int b, int c, int d, int e) {
        if (!tape.hasRoom()) {
            return NONE;
        }
        tape.add(a);
        tape.add(b);
        tape.add(c);
        tape.add(d);
        tape.add(e);
        return tape.length();
    }

    public int duchy(int n) {
        if (!within(n, 0, tape.length())) {
            return refused(BAD_NUMBER);
        }
        boolean taken = duchyReader.take(tape, n, spareDuchy);
        endReading();
        if (!taken) {
            return refused(FAULTY);
        }
        Duchy old = now;
        now = spareDuchy;
        spareDuchy = old;
        return answer(now.cellCount());
    }

    public int years(int n) {
        if (!within(n, 0, Math.min(tape.length(), MOST_YEARS_BYTES))) {
            return refused(BAD_NUMBER);
        }
        boolean taken = yearsReader.take(tape, n, now, spareYears);
        endReading();
        if (!taken) {
            return refused(FAULTY);
        }
        Almanac old = now.almanac;
        now.almanac = spareYears;
        spareYears = old;
        return answer(now.almanac.steps);
    }

    public int fault(int what) {
        if (what == 0) {
            return faultKind;
        }
        return what == 1 ? faultPlace : NONE;
    }

    public int many(int what) {
        switch (what) {
            case 0:
                return answer(now.rows);
            case 1:
                return answer(now.columns);
            case 2:
                return answer(now.travellers);
            case 3:
                return answer(now.tellings);
            case 4:
                return answer(now.odds);
            case 5:
                return now.cellCount() == 0 ? refused(THERE_IS_NONE) : answer(now.harbour);
            case 6:
                return answer(now.heard);
            case 7:
                return answer(now.cellCount() - knownNow());
            case 8:
                survey.take(now, now.heard);
                return answer(survey.rightCells(now));
            default:
                return refused(BAD_NUMBER);
        }
    }

    public int cell(int cell, int what) {
        if (!now.hasCell(cell)) {
            return refused(NO_SUCH);
        }
        survey.take(now, now.heard);
        switch (what) {
            case 0:
                return answer(now.kindAt(cell));
            case 1:
                return answer(survey.drawnAs(cell));
            case 2:
                return answer(survey.riskOf(cell));
            case 3:
                return answer(now.sizeOf(cell));
            case 4:
                return answer(now.tellingsOf(cell));
            default:
                return refused(BAD_NUMBER);
        }
    }

    public int votes(int cell, int kind) {
        if (!now.hasCell(cell)) {
            return refused(NO_SUCH);
        }
        if (!isKind(kind)) {
            return refused(BAD_NUMBER);
        }
        survey.take(now, now.heard);
        return answer(survey.votesFor(cell, kind));
    }

    public int traveller(int traveller, int what) {
        if (!now.hasTraveller(traveller)) {
            return refused(NO_SUCH);
        }
        switch (what) {
            case 0:
                return answer(now.lies[traveller]);
            case 1:
                return answer(now.isHeard(traveller) ? 1 : 0);
            case 2:
                return answer(now.tellingsBy(traveller));
            case 3:
                return answer(now.falseBy(traveller));
            default:
                return refused(BAD_NUMBER);
        }
    }

    public int telling(int telling, int what) {
        if (!within(telling, 0, now.tellings - 1)) {
            return refused(NO_SUCH);
        }
        switch (what) {
            case 0:
                return answer(now.tellers[telling]);
            case 1:
                return answer(now.toldCells[telling]);
            case 2:
                return answer(now.toldKinds[telling]);
            case 3:
                return answer(now.toldMissed[telling]);
            default:
                return refused(BAD_NUMBER);
        }
    }

    public int copyChart(int tray) {
        if (!trays.isTray(tray)) {
            return refused(NO_TRAY);
        }
        if (trays.isMissing(tray)) {
            return refused(MISSING);
        }
        int cells = now.cellCount();
        if (!trays.hasPlaces(tray, 0, cells)) {
            return refused(NO_PLACE);
        }
        survey.take(now, now.heard);
        for (int cell = 0; cell < cells; cell++) {
            trays.put(tray, cell, survey.drawnAs(cell));
        }
        return answer(cells);
    }

    // ---- what is done

    public int hear(int traveller) {
        if (!now.hasTraveller(traveller)) {
            return refused(NO_SUCH);
        }
        return now.setHeard(traveller, true) ? answer(knownNow()) : refused(CAN_NOT_BE);
    }

    public int forget(int traveller) {
        if (!now.hasTraveller(traveller)) {
            return refused(NO_SUCH);
        }
        return now.setHeard(traveller, false) ? answer(knownNow()) : refused(CAN_NOT_BE);
    }

    public int tell(int traveller, int cell, int kind, int missed) {
        if (!now.hasTraveller(traveller) || !now.hasCell(cell)) {
            return refused(NO_SUCH);
        }
        if (!isKind(kind) || !within(missed, 0, MOST_MISSED)) {
            return refused(BAD_NUMBER);
        }
        if (!now.addTelling(traveller, cell, kind, missed)) {
            return refused(TOO_MANY);
        }
        return answer(now.tellings - 1);
    }

    public int come(int lies) {
        if (!within(lies, 0, SIXTEENTHS)) {
            return refused(BAD_NUMBER);
        }
        if (!now.addTraveller(Duchy.NAMELESS, lies, false)) {
            return refused(TOO_MANY);
        }
        return answer(now.travellers - 1);
    }

    public int change(int cell, int kind) {
        if (!now.hasCell(cell)) {
            return refused(NO_SUCH);
        }
        if (!isKind(kind)) {
            return refused(BAD_NUMBER);
        }
        int old = now.sea[cell];
        now.sea[cell] = kind;
        return answer(old);
    }

    public int trust(int traveller, int lies) {
        if (!now.hasTraveller(traveller)) {
            return refused(NO_SUCH);
        }
        if (!within(lies, 0, SIXTEENTHS)) {
            return refused(BAD_NUMBER);
        }
        int old = now.lies[traveller];
        now.lies[traveller] = lies;
        return answer(old);
    }

    public int moor(int cell) {
        if (!now.hasCell(cell)) {
            return refused(NO_SUCH);
        }
        int old = now.harbour;
        now.harbour = cell;
        return answer(old);
    }

    public boolean rule(int odds) {
        if (!within(odds, 0, SIXTEENTHS)) {
            return denied(BAD_NUMBER);
        }
        now.odds = odds;
        return done();
    }

    // ---- what is there

    public boolean oddsThat(int cell, int kind) {
        if (!now.hasCell(cell)) {
            return denied(NO_SUCH);
        }
        if (!isKind(kind)) {
            return denied(BAD_NUMBER);
        }
        belief.weigh(now, cell);
        if (belief.sum() == 0) {
            return denied(CAN_NOT_BE);
        }
        return toldFraction(belief.weightOf(kind), belief.sum());
    }

    public int likeliest(int cell) {
        if (!now.hasCell(cell)) {
            return refused(NO_SUCH);
        }
        belief.weigh(now, cell);
        return belief.sum() == 0 ? refused(CAN_NOT_BE) : answer(belief.likeliestKind());
    }

    public int ask() {
        int cell = belief.leastSureCell(now);
        return cell == NONE ? refused(THERE_IS_NONE) : answer(cell);
    }

    public int liars() {
        return answer(Integer.bitCount(now.fewestLiars()));
    }

    public int liarSet() {
        return answer(now.fewestLiars());
    }

    public int clashes() {
        return answer(now.clashesWithout(0));
    }

    // ---- ways

    public int way(int cell) {
        int why = whyNoWay(cell);
        return why == FINE ? answer(route.risk()) : refused(why);
    }

    public int wayLong(int cell) {
        int why = whyNoWay(cell);
        return why == FINE ? answer(route.cells()) : refused(why);
    }

    public int wayAt(int cell, int k) {
        int why = whyNoWay(cell);
        if (why != FINE) {
            return refused(why);
        }
        return within(k, 0, route.cells()) ? answer(route.cellAt(k)) : refused(THERE_IS_NONE);
    }

    public boolean comesIn(int cell) {
        int why = whyNoWay(cell);
        if (why != FINE) {
            return denied(why);
        }
        if (route.cells() > MOST_CELLS_OF_ODDS) {
            return denied(CAN_NOT_BE);
        }
        long safe = 1;
        long all = 1;
        for (int k = 1; k <= route.cells(); k++) {
            safe *= SIXTEENTHS - survey.riskOf(route.cellAt(k));
            all *= SIXTEENTHS;
        }
        return toldFraction(safe, all);
    }

    public int sail(int cell) {
        int why = whyNoWay(cell);
        return why == FINE ? answer(route.sailedTo(now)) : refused(why);
    }

    // ---- whom to hear, games, odds

    public int plan(int h) {
        if (!within(h, 0, MOST_HOURS)) {
            return refused(BAD_NUMBER);
        }
        council.weigh(now, survey);
        int set = council.bestSet(now, h);
        return answer(now.cellCount() - council.knownBy(now.heard | set));
    }

    public int planSet(int h) {
        if (!within(h, 0, MOST_HOURS)) {
            return refused(BAD_NUMBER);
        }
        council.weigh(now, survey);
        return answer(council.bestSet(now, h));
    }

    public int game(int n) {
        if (!within(n, 0, MOST_TURNS)) {
            return refused(BAD_NUMBER);
        }
        council.weigh(now, survey);
        council.play(now, n);
        return answer(council.creditFrom(now.heard));
    }

    public int moveOf(int n) {
        if (!within(n, 1, MOST_TURNS)) {
            return refused(BAD_NUMBER);
        }
        council.weigh(now, survey);
        council.play(now, n - 1);
        int move = council.firstBestMove(now);
        return move == NONE ? refused(THERE_IS_NONE) : answer(move);
    }

    public boolean swear(int n, int k) {
        if (!within(n, 0, MOST_CAPTAINS) || !within(k, 0, MOST_CAPTAINS)) {
            return denied(BAD_NUMBER);
        }
        return toldFraction(belief.waysToSwear(n, k, now.odds), power(SIXTEENTHS, n));
    }

    public boolean share(int traveller) {
        if (!now.hasTraveller(traveller)) {
            return denied(NO_SUCH);
        }
        if (now.tellings == 0) {
            return denied(THERE_IS_NONE);
        }
        return toldFraction(now.tellingsBy(traveller), now.tellings);
    }

    // ---- YEARS

    public int live(int seed) {
        if (!within(seed, 0, MOST_SEED)) {
            return refused(BAD_NUMBER);
        }
        if (!now.almanac.told) {
            return refused(THERE_IS_NONE);
        }
        int steps = life.pass(now, seed);
        life.keepDeeds();
        return answer(steps);
    }

    public int lived(int what) {
        if (!within(what, 0, Life.DEEDS - 1)) {
            return refused(BAD_NUMBER);
        }
        return life.hasKept() ? answer(life.keptDeed(what)) : refused(THERE_IS_NONE);
    }

    public boolean mean(int seed, int many) {
        if (!within(many, 1, MOST_SEEDS) || !within(seed, 0, MOST_SEED - many + 1)) {
            return denied(BAD_NUMBER);
        }
        if (!now.almanac.told) {
            return denied(THERE_IS_NONE);
        }
        // Years change nothing but who is heard and what tellings come behind those that were.
        int heard = now.heard;
        int tellings = now.tellings;
        int right = 0;
        for (int i = 0; i < many; i++) {
            life.pass(now, seed + i);
            survey.take(now, now.heard);
            right += survey.rightCells(now);
            now.heard = heard;
            now.tellings = tellings;
        }
        return toldFraction(right, many);
    }

    // ---- MARKS

    public int mark() {
        if (marked >= marks.length) {
            return refused(TOO_MANY);
        }
        marks[marked].copyFrom(now);
        marked++;
        return answer(marked);
    }

    public int back() {
        if (marked <= 0 || marked > marks.length) {
            return refused(THERE_IS_NONE);
        }
        marked--;
        Duchy old = now;
        now = marks[marked];
        marks[marked] = old;
        return answer(marked);
    }

    // ---- how calls end, and what several of them ask

    private int answer(int value) {
        statusNow = FINE;
        return value;
    }

    private int refused(int why) {
        statusNow = why;
        return NONE;
    }

    private boolean done() {
        statusNow = FINE;
        return true;
    }

    private boolean denied(int why) {
        statusNow = why;
        return false;
    }

    private boolean toldFraction(long part, long whole) {
        long divisor = commonDivisor(part, whole);
        if (divisor > 0) {
            fractionTop = part / divisor;
            fractionBottom = whole / divisor;
        }
        return done();
    }

    private void endReading() {
        faultKind = tape.blamedFor();
        faultPlace = tape.blamedAt();
        tape.empty();
    }

    private int knownNow() {
        survey.take(now, now.heard);
        return survey.knownCells(now);
    }

    private int whyNoWay(int cell) {
        if (!now.hasCell(cell)) {
            return NO_SUCH;
        }
        survey.take(now, now.heard);
        return route.find(now, survey, cell) ? FINE : THERE_IS_NONE;
    }

    private static boolean within(int value, int low, int high) {
        return value >= low && value <= high;
    }

    private static boolean isKind(int kind) {
        return within(kind, 0, KINDS - 1);
    }

    private static long power(int base, int times) {
        long result = 1;
        for (int i = 0; i < times; i++) {
            result *= base;
        }
        return result;
    }

    private static long commonDivisor(long a, long b) {
        long large = a;
        long small = b;
        // Euclid needs fewer than a hundred rounds for any two longs.
        for (int round = 0; round < 200 && small != 0; round++) {
            long rest = large % small;
            large = small;
            small = rest;
        }
        return large;
    }

    /** The rows of numbers. */
    private static final class Trays {
        static final int MOST_SORT = 3;
        static final int MOST_NUMBERS = 60;
        private static final int MANY = 4;

        private final long[][] rows = new long[MANY][MOST_NUMBERS];
        private final int[] sorts = new int[MANY];
        private final int[] lengths = new int[MANY];

        Trays() {
            Arrays.fill(lengths, NONE);
        }

        boolean isTray(int tray) {
            return within(tray, 0, MANY - 1);
        }

        boolean isMissing(int tray) {
            return !isTray(tray) || lengths[tray] == NONE;
        }

        int sortOf(int tray) {
            return isTray(tray) ? sorts[tray] : NONE;
        }

        boolean hasPlaces(int tray, int from, int many) {
            if (isMissing(tray) || many < 0) {
                return false;
            }
            return within(from, 0, lengths[tray]) && many <= lengths[tray] - from;
        }

        int whyNoPlace(int tray, int place) {
            if (!isTray(tray)) {
                return NO_TRAY;
            }
            if (isMissing(tray)) {
                return MISSING;
            }
            return hasPlaces(tray, place, 1) ? FINE : NO_PLACE;
        }

        void lay(int tray, int sort, int many) {
            if (isTray(tray) && within(many, 0, MOST_NUMBERS)) {
                sorts[tray] = sort;
                lengths[tray] = many;
                Arrays.fill(rows[tray], 0L);
            }
        }

        void put(int tray, int place, long value) {
            if (hasPlaces(tray, place, 1)) {
                rows[tray][place] = cut(value, sorts[tray]);
            }
        }

        long get(int tray, int place) {
            return hasPlaces(tray, place, 1) ? rows[tray][place] : NONE;
        }

        void move(int tray, int from, int to, int behind, int many) {
            if (hasPlaces(tray, from, many) && hasPlaces(to, behind, many)) {
                System.arraycopy(rows[tray], from, rows[to], behind, many);
            }
        }

        private static long cut(long value, int sort) {
            switch (sort) {
                case 0:
                    return (byte) value;
                case 1:
                    return (short) value;
                case 2:
                    return (int) value;
                default:
                    return value;
            }
        }
    }

    /** The bytes that were fed, read as tokens; and the first fault that was found along them. */
    private static final class Tape {
        static final int END = 0;
        static final int WORD = 1;
        static final int NUMBER = 2;
        static final int SIGN = 3;
        static final int BAD = 4;

        static final int ROW = 0;
        static final int ODDS = 1;
        static final int HARBOUR = 2;
        static final int TRAVELLER = 3;
        static final int LIES = 4;
        static final int HEARD = 5;
        static final int TOLD = 6;
        static final int MISSED = 7;
        static final int CALM = 8;
        static final int SIGH = 11;
        static final int HEAR = 12;
        static final int FORGET = 13;
        static final int SAIL = 14;
        static final int ANY = 15;
        static final int WHEN = 16;
        static final int DRAWN = 17;
        static final int BLANK = 18;
        static final int KNOWN = 19;
        static final int LOOP = 20;
        static final int CLOSE = 21;
        static final int STOP = 22;
        private static final int WORDS = 23;
        /** In the order of the numbers above, each with a blank behind it. */
        private static final String SPELT = "row odds harbour traveller lies heard told missed calm fear tears sigh hear forget sail any when drawn white known loop end stop ";

        private static final int MOST_BYTES = 900;
        private static final int FED_AT_ONCE = 20;
        private static final int MOST_DIGITS = 4;
        private static final int MOST_NAME_LETTERS = 8;
        /** A word's code has its letters as digits, a as 1. */
        private static final long LETTER_UNIT = 32;
        private static final int BEFORE_A = 'a' - 1;
        /** A longer word would not fit a long, and is neither a word of the language nor a name. */
        private static final int MOST_CODED_LETTERS = 12;

        private final byte[] bytes = new byte[MOST_BYTES];
        private final long[] codes = new long[WORDS];
        private int length;
        private int end;
        private int kind;
        private int place;
        private int behind;
        private int value;
        private long code;
        private int fault;
        private int faultPlace;

        Tape() {
            int word = 0;
            for (int i = 0; i < SPELT.length() && word < WORDS; i++) {
                char letter = SPELT.charAt(i);
                if (letter == ' ') {
                    word++;
                } else {
                    codes[word] = codes[word] * LETTER_UNIT + letter - BEFORE_A;
                }
            }
        }

        int length() {
            return length;
        }

        boolean hasRoom() {
            return length + FED_AT_ONCE <= MOST_BYTES;
        }

        void empty() {
            length = 0;
        }

        void add(int four) {
            for (int shift = 24; shift >= 0; shift -= 8) {
                if (length < MOST_BYTES) {
                    bytes[length] = (byte) (four >> shift);
                    length++;
                }
            }
        }

        void begin(int bytesToRead) {
            end = Math.max(0, Math.min(bytesToRead, length));
            behind = 0;
            fault = 0;
            faultPlace = NONE;
            advance();
        }

        /** 0 without a fault. */
        int blamedFor() {
            return fault;
        }

        int blamedAt() {
            return faultPlace;
        }

        /** Notes a fault at the token that stands here; a token that is none at all is worse than any other fault. */
        boolean blame(int what) {
            fault = kind == BAD ? 1 : what;
            faultPlace = place;
            return false;
        }

        boolean atEnd() {
            return kind == END;
        }

        boolean isAnyWord() {
            return kind == WORD;
        }

        boolean isWord(int word) {
            return kind == WORD && value == word;
        }

        /** The number of the word that stands here, NONE if it is none of the language. */
        int word() {
            return kind == WORD ? value : NONE;
        }

        int letters() {
            return kind == WORD ? behind - place : 0;
        }

        int letter(int k) {
            return within(k, 0, letters() - 1) ? bytes[place + k] : 0;
        }

        boolean isName() {
            return kind == WORD && value == NONE && letters() <= MOST_NAME_LETTERS;
        }

        long nameCode() {
            return code;
        }

        boolean passSign(int sign) {
            if (kind != SIGN || value != sign) {
                return blame(2);
            }
            advance();
            return true;
        }

        /** One of < = > as -1, 0, 1; another number if none of these stands here. */
        int comparison() {
            return kind == SIGN && value != ';' ? value - '=' : 2;
        }

        boolean isNumber(int low, int high) {
            if (kind != NUMBER) {
                return blame(2);
            }
            return within(value, low, high) || blame(4);
        }

        int number() {
            return kind == NUMBER ? value : NONE;
        }

        /** The kind that is felt in the word that stands here, or NONE. */
        int feeling() {
            return kind == WORD && within(value, CALM, SIGH) ? value - CALM : NONE;
        }

        void advance() {
            place = behind;
            while (place < end && isBlank(bytes[place])) {
                place++;
            }
            behind = place;
            value = NONE;
            code = 0;
            if (place >= end) {
                kind = END;
                return;
            }
            kind = kindOf(bytes[place]);
            behind = place + 1;
            while (behind < end && isLong(kind) && kindOf(bytes[behind]) == kind) {
                behind++;
            }
            if (kind == WORD) {
                readWord();
            } else if (kind == NUMBER) {
                readNumber();
            } else {
                value = bytes[place];
            }
        }

        private void readWord() {
            for (int at = place; at < behind; at++) {
                code = code * LETTER_UNIT + bytes[at] - BEFORE_A;
            }
            if (behind - place > MOST_CODED_LETTERS) {
                code = 0;
            }
            for (int word = 0; word < WORDS && value == NONE; word++) {
                if (codes[word] == code) {
                    value = word;
                }
            }
        }

        private void readNumber() {
            value = 0;
            for (int at = place; at < behind; at++) {
                value = value * 10 + bytes[at] - '0';
            }
            if (behind - place > MOST_DIGITS) {
                kind = BAD;
            }
        }

        /** What kind of token a byte that is not blank is of. */
        private static int kindOf(int b) {
            if (b >= 'a' && b <= 'z') {
                return WORD;
            }
            if (b >= '0' && b <= '9') {
                return NUMBER;
            }
            return b == ';' || b == '<' || b == '>' || b == '=' ? SIGN : BAD;
        }

        private static boolean isLong(int kind) {
            return kind == WORD || kind == NUMBER;
        }

        private static boolean isBlank(int b) {
            return b == 10 || b == 32;
        }
    }

    /** The sea, the travellers and what they told, with the years that are kept beside. */
    private static final class Duchy {
        static final long NAMELESS = 0;
        private static final int ODDS_WITHOUT = 4;

        int rows;
        int columns;
        int odds = ODDS_WITHOUT;
        int harbour;
        int travellers;
        /** A set: 1 for traveller 0, 2 for traveller 1 .. */
        int heard;
        int tellings;
        final int[] sea = new int[MOST_CELLS];
        final int[] lies = new int[MOST_TRAVELLERS];
        final long[] names = new long[MOST_TRAVELLERS];
        final int[] tellers = new int[MOST_TELLINGS];
        final int[] toldCells = new int[MOST_TELLINGS];
        final int[] toldKinds = new int[MOST_TELLINGS];
        final int[] toldMissed = new int[MOST_TELLINGS];
        Almanac almanac = new Almanac();

        void clear() {
            rows = 0;
            columns = 0;
            odds = ODDS_WITHOUT;
            harbour = 0;
            travellers = 0;
            heard = 0;
            tellings = 0;
            almanac.clear();
        }

        void copyFrom(Duchy other) {
            rows = other.rows;
            columns = other.columns;
            odds = other.odds;
            harbour = other.harbour;
            travellers = other.travellers;
            heard = other.heard;
            tellings = other.tellings;
            System.arraycopy(other.sea, 0, sea, 0, MOST_CELLS);
            System.arraycopy(other.lies, 0, lies, 0, MOST_TRAVELLERS);
            System.arraycopy(other.names, 0, names, 0, MOST_TRAVELLERS);
            System.arraycopy(other.tellers, 0, tellers, 0, MOST_TELLINGS);
            System.arraycopy(other.toldCells, 0, toldCells, 0, MOST_TELLINGS);
            System.arraycopy(other.toldKinds, 0, toldKinds, 0, MOST_TELLINGS);
            System.arraycopy(other.toldMissed, 0, toldMissed, 0, MOST_TELLINGS);
            almanac.copyFrom(other.almanac);
        }

        int cellCount() {
            return rows * columns;
        }

        boolean hasCell(int cell) {
            return within(cell, 0, cellCount() - 1);
        }

        int kindAt(int cell) {
            return within(cell, 0, sea.length - 1) ? sea[cell] : OPEN_SEA;
        }

        boolean hasTraveller(int traveller) {
            return within(traveller, 0, travellers - 1);
        }

        /** How many sets of travellers there are. */
        int sets() {
            return 1 << travellers;
        }

        boolean isHeard(int traveller) {
            return isIn(traveller, heard);
        }

        /** False if he is so already. */
        boolean setHeard(int traveller, boolean heardThen) {
            if (!hasTraveller(traveller) || isHeard(traveller) == heardThen) {
                return false;
            }
            heard ^= 1 << traveller;
            return true;
        }

        boolean addTraveller(long name, int liesBy, boolean isHeard) {
            if (travellers >= MOST_TRAVELLERS) {
                return false;
            }
            names[travellers] = name;
            lies[travellers] = liesBy;
            if (isHeard) {
                heard |= 1 << travellers;
            }
            travellers++;
            return true;
        }

        int travellerNamed(long name) {
            for (int i = 0; i < travellers; i++) {
                if (names[i] == name && name != NAMELESS) {
                    return i;
                }
            }
            return NONE;
        }

        /** False if there are too many tellings, of this cell or of all. */
        boolean addTelling(int traveller, int cell, int kind, int missed) {
            if (tellings >= MOST_TELLINGS || tellingsOf(cell) >= MOST_TELLINGS_OF_CELL) {
                return false;
            }
            tellers[tellings] = traveller;
            toldCells[tellings] = cell;
            toldKinds[tellings] = kind;
            toldMissed[tellings] = missed;
            tellings++;
            return true;
        }

        int tellingsOf(int cell) {
            int count = 0;
            for (int i = 0; i < tellings; i++) {
                count += toldCells[i] == cell ? 1 : 0;
            }
            return count;
        }

        int tellingsBy(int traveller) {
            int count = 0;
            for (int i = 0; i < tellings; i++) {
                count += tellers[i] == traveller ? 1 : 0;
            }
            return count;
        }

        int falseBy(int traveller) {
            int count = 0;
            for (int i = 0; i < tellings; i++) {
                if (tellers[i] == traveller && toldKinds[i] != kindAt(toldCells[i])) {
                    count++;
                }
            }
            return count;
        }

        int sizeOf(int cell) {
            int size = 0;
            for (int i = 0; i < tellings; i++) {
                if (toldCells[i] == cell && toldKinds[i] == ISLAND && isHeard(tellers[i])) {
                    size += toldMissed[i];
                }
            }
            return size;
        }

        /** How many pairs of tellings by travellers outside a set clash. */
        int clashesWithout(int set) {
            int count = 0;
            for (int i = 0; i < tellings; i++) {
                for (int j = 0; j < i; j++) {
                    boolean clash = toldCells[i] == toldCells[j] && toldKinds[i] != toldKinds[j];
                    if (clash && !isIn(tellers[i], set) && !isIn(tellers[j], set)) {
                        count++;
                    }
                }
            }
            return count;
        }

        int fewestLiars() {
            int fewest = sets() - 1;
            for (int set = sets() - 1; set >= 0; set--) {
                boolean noMore = Integer.bitCount(set) <= Integer.bitCount(fewest);
                if (noMore && clashesWithout(set) == 0) {
                    fewest = set;
                }
            }
            return fewest;
        }

        private static boolean isIn(int traveller, int set) {
            return (set >> traveller & 1) == 1;
        }
    }

    /** The years, line by line: the steps and the ends of those that hold others. */
    private static final class Almanac {
        static final int MOST_STEPS = 30;
        static final int MOST_DEPTH = 3;
        private static final int MOST_LINES = 60;

        boolean told;
        int steps;
        int lines;
        /** The number of the word that a step begins with; of a when: that its test begins with. */
        private final int[] deeds = new int[MOST_LINES];
        private final int[] firsts = new int[MOST_LINES];
        private final int[] seconds = new int[MOST_LINES];
        private final int[] thirds = new int[MOST_LINES];
        /** From a when or loop to its end, and from an end to what it ends. */
        private final int[] partners = new int[MOST_LINES];

        void clear() {
            told = false;
            steps = 0;
            lines = 0;
        }

        void copyFrom(Almanac other) {
            told = other.told;
            steps = other.steps;
            lines = other.lines;
            System.arraycopy(other.deeds, 0, deeds, 0, lines);
            System.arraycopy(other.firsts, 0, firsts, 0, lines);
            System.arraycopy(other.seconds, 0, seconds, 0, lines);
            System.arraycopy(other.thirds, 0, thirds, 0, lines);
            System.arraycopy(other.partners, 0, partners, 0, lines);
        }

        boolean addStep(int deed, int first, int second, int third) {
            steps++;
            return addLine(deed, first, second, third);
        }

        void addEnd(int beginning) {
            if (hasLine(beginning) && addLine(Tape.CLOSE, 0, 0, 0)) {
                partners[lines - 1] = beginning;
                partners[beginning] = lines - 1;
            }
        }

        private boolean addLine(int deed, int first, int second, int third) {
            if (lines >= MOST_LINES) {
                return false;
            }
            deeds[lines] = deed;
            firsts[lines] = first;
            seconds[lines] = second;
            thirds[lines] = third;
            partners[lines] = lines;
            lines++;
            return true;
        }

        boolean hasLine(int line) {
            return within(line, 0, lines - 1);
        }

        int deed(int line) {
            return hasLine(line) ? deeds[line] : Tape.STOP;
        }

        int first(int line) {
            return hasLine(line) ? firsts[line] : 0;
        }

        int second(int line) {
            return hasLine(line) ? seconds[line] : 0;
        }

        int third(int line) {
            return hasLine(line) ? thirds[line] : 0;
        }

        int partner(int line) {
            return hasLine(line) ? partners[line] : line;
        }
    }

    /** Reads a duchy. */
    private static final class DuchyReader {
        private static final String CELL_LETTERS = "srbi";

        private boolean oddsTold;
        private boolean harbourTold;

        boolean take(Tape tape, int n, Duchy duchy) {
            duchy.clear();
            oddsTold = false;
            harbourTold = false;
            tape.begin(n);
            for (int part = 0; part < n && !tape.atEnd(); part++) {
                if (!takePart(tape, duchy)) {
                    return false;
                }
            }
            return true;
        }

        private boolean takePart(Tape tape, Duchy duchy) {
            switch (tape.word()) {
                case Tape.ROW:
                    return takeRow(tape, duchy) && tape.passSign(';');
                case Tape.ODDS:
                    return takeOdds(tape, duchy) && tape.passSign(';');
                case Tape.HARBOUR:
                    return takeHarbour(tape, duchy) && tape.passSign(';');
                case Tape.TRAVELLER:
                    return takeTraveller(tape, duchy) && tape.passSign(';');
                case Tape.TOLD:
                    return takeTold(tape, duchy) && tape.passSign(';');
                default:
                    return tape.blame(2);
            }
        }

        private boolean takeRow(Tape tape, Duchy duchy) {
            if (harbourTold || duchy.tellings > 0) {
                return tape.blame(5);
            }
            if (duchy.rows >= MOST_SIDE) {
                return tape.blame(6);
            }
            tape.advance();
            if (!tape.isAnyWord()) {
                return tape.blame(2);
            }
            int letters = tape.letters();
            if (letters > MOST_SIDE || duchy.rows > 0 && letters != duchy.columns) {
                return tape.blame(4);
            }
            for (int i = 0; i < letters; i++) {
                int kind = CELL_LETTERS.indexOf((char) tape.letter(i));
                if (!isKind(kind)) {
                    return tape.blame(4);
                }
                duchy.sea[duchy.rows * letters + i] = kind;
            }
            duchy.columns = letters;
            duchy.rows++;
            tape.advance();
            return true;
        }

        private boolean takeOdds(Tape tape, Duchy duchy) {
            if (oddsTold) {
                return tape.blame(5);
            }
            tape.advance();
            if (!tape.isNumber(0, SIXTEENTHS)) {
                return false;
            }
            duchy.odds = tape.number();
            oddsTold = true;
            tape.advance();
            return true;
        }

        private boolean takeHarbour(Tape tape, Duchy duchy) {
            if (harbourTold) {
                return tape.blame(5);
            }
            tape.advance();
            if (!tape.isNumber(0, duchy.rows - 1)) {
                return false;
            }
            int row = tape.number();
            tape.advance();
            if (!tape.isNumber(0, duchy.columns - 1)) {
                return false;
            }
            duchy.harbour = row * duchy.columns + tape.number();
            harbourTold = true;
            tape.advance();
            return true;
        }

        private boolean takeTraveller(Tape tape, Duchy duchy) {
            if (duchy.travellers >= MOST_TRAVELLERS) {
                return tape.blame(6);
            }
            tape.advance();
            if (!tape.isName()) {
                return tape.blame(2);
            }
            long name = tape.nameCode();
            if (duchy.travellerNamed(name) != NONE) {
                return tape.blame(3);
            }
            tape.advance();
            int lies = 0;
            if (tape.isWord(Tape.LIES)) {
                tape.advance();
                if (!tape.isNumber(0, SIXTEENTHS)) {
                    return false;
                }
                lies = tape.number();
                tape.advance();
            }
            boolean heard = tape.isWord(Tape.HEARD);
            if (heard) {
                tape.advance();
            }
            return duchy.addTraveller(name, lies, heard);
        }

        private boolean takeTold(Tape tape, Duchy duchy) {
            if (duchy.tellings >= MOST_TELLINGS) {
                return tape.blame(6);
            }
            tape.advance();
            if (!tape.isName()) {
                return tape.blame(2);
            }
            int traveller = duchy.travellerNamed(tape.nameCode());
            if (traveller == NONE) {
                return tape.blame(3);
            }
            tape.advance();
            if (!tape.isNumber(0, duchy.rows - 1)) {
                return false;
            }
            int row = tape.number();
            tape.advance();
            if (!tape.isNumber(0, duchy.columns - 1)) {
                return false;
            }
            int cell = row * duchy.columns + tape.number();
            if (duchy.tellingsOf(cell) >= MOST_TELLINGS_OF_CELL) {
                return tape.blame(5);
            }
            tape.advance();
            return takeFeeling(tape, duchy, traveller, cell);
        }

        private boolean takeFeeling(Tape tape, Duchy duchy, int traveller, int cell) {
            int kind = tape.feeling();
            if (kind == NONE) {
                return tape.blame(2);
            }
            tape.advance();
            int missed = 0;
            if (tape.isWord(Tape.MISSED)) {
                tape.advance();
                if (!tape.isNumber(0, MOST_MISSED)) {
                    return false;
                }
                missed = tape.number();
                tape.advance();
            }
            return duchy.addTelling(traveller, cell, kind, missed);
        }
    }

    /** Reads years, against the travellers and the sea of a duchy. */
    private static final class YearsReader {
        private static final int MOST_ROUNDS = 99;

        /** The lines of the steps that hold what is read now. */
        private final int[] open = new int[Almanac.MOST_DEPTH];
        private int depth;
        private int traveller;
        private int cell;
        private int kind;
        private int comparison;
        private int number;

        boolean take(Tape tape, int n, Duchy duchy, Almanac almanac) {
            almanac.clear();
            depth = 0;
            tape.begin(n);
            for (int step = 0; step < n && !tape.atEnd(); step++) {
                boolean taken = tape.isWord(Tape.CLOSE) ? takeEnd(tape, almanac) : takeStep(tape, duchy, almanac);
                if (!taken) {
                    return false;
                }
            }
            if (depth > 0) {
                return tape.blame(2);
            }
            almanac.told = true;
            return true;
        }

        private boolean takeEnd(Tape tape, Almanac almanac) {
            if (depth <= 0 || depth > open.length) {
                return tape.blame(2);
            }
            depth--;
            almanac.addEnd(open[depth]);
            tape.advance();
            return tape.passSign(';');
        }

        private boolean takeStep(Tape tape, Duchy duchy, Almanac almanac) {
            int word = tape.word();
            if (!beginsStep(word)) {
                return tape.blame(2);
            }
            if (almanac.steps >= Almanac.MOST_STEPS) {
                return tape.blame(6);
            }
            if (word == Tape.WHEN || word == Tape.LOOP) {
                if (depth >= open.length) {
                    return tape.blame(7);
                }
                open[depth] = almanac.lines;
                depth++;
            }
            tape.advance();
            boolean taken = word == Tape.WHEN ? takeTest(tape, duchy, almanac) : takeRest(tape, word, duchy, almanac);
            return taken && tape.passSign(';');
        }

        private static boolean beginsStep(int word) {
            return word == Tape.TOLD || within(word, Tape.HEAR, Tape.WHEN) || word == Tape.LOOP || word == Tape.STOP;
        }

        private boolean takeRest(Tape tape, int word, Duchy duchy, Almanac almanac) {
            switch (word) {
                case Tape.HEAR:
                case Tape.FORGET:
                    return takeName(tape, duchy) && almanac.addStep(word, traveller, 0, 0);
                case Tape.TOLD:
                    return takeName(tape, duchy) && takeCell(tape, duchy) && takeFeeling(tape) && almanac.addStep(word, traveller, cell, kind);
                case Tape.SAIL:
                    return takeCell(tape, duchy) && almanac.addStep(word, cell, 0, 0);
                case Tape.LOOP:
                    return takeNumber(tape, 1, MOST_ROUNDS) && almanac.addStep(word, number, 0, 0);
                default:
                    return almanac.addStep(word, 0, 0, 0);
            }
        }

        /** A when stands in the almanac as its test. */
        private boolean takeTest(Tape tape, Duchy duchy, Almanac almanac) {
            int test = tape.word();
            if (test != Tape.HEARD && test != Tape.BLANK && test != Tape.DRAWN && test != Tape.KNOWN) {
                return tape.blame(2);
            }
            tape.advance();
            switch (test) {
                case Tape.HEARD:
                    return takeName(tape, duchy) && almanac.addStep(test, traveller, 0, 0);
                case Tape.BLANK:
                    return takeCell(tape, duchy) && almanac.addStep(test, cell, 0, 0);
                case Tape.DRAWN:
                    return takeCell(tape, duchy) && takeFeeling(tape) && almanac.addStep(test, cell, kind, 0);
                default:
                    return takeComparison(tape) && takeNumber(tape, 0, MOST_CELLS)
                            && almanac.addStep(test, comparison, number, 0);
            }
        }

        private boolean takeName(Tape tape, Duchy duchy) {
            if (!tape.isName()) {
                return tape.blame(2);
            }
            traveller = duchy.travellerNamed(tape.nameCode());
            if (traveller == NONE) {
                return tape.blame(3);
            }
            tape.advance();
            return true;
        }

        private boolean takeCell(Tape tape, Duchy duchy) {
            if (!tape.isNumber(0, duchy.rows - 1)) {
                return false;
            }
            int row = tape.number();
            tape.advance();
            if (!tape.isNumber(0, duchy.columns - 1)) {
                return false;
            }
            cell = row * duchy.columns + tape.number();
            tape.advance();
            return true;
        }

        private boolean takeFeeling(Tape tape) {
            kind = tape.feeling();
            if (kind == NONE) {
                return tape.blame(2);
            }
            tape.advance();
            return true;
        }

        private boolean takeComparison(Tape tape) {
            comparison = tape.comparison();
            if (!within(comparison, -1, 1)) {
                return tape.blame(2);
            }
            tape.advance();
            return true;
        }

        private boolean takeNumber(Tape tape, int low, int high) {
            if (!tape.isNumber(low, high)) {
                return false;
            }
            number = tape.number();
            tape.advance();
            return true;
        }
    }

    /** The votes of all cells, as they are if some set of travellers is heard. */
    private static final class Survey {
        private static final int WHITE_RISK = 6;

        private final int[] tally = new int[MOST_CELLS * KINDS];

        void take(Duchy duchy, int heard) {
            Arrays.fill(tally, 0);
            for (int i = 0; i < duchy.tellings; i++) {
                int place = duchy.toldCells[i] * KINDS + duchy.toldKinds[i];
                if (Duchy.isIn(duchy.tellers[i], heard) && within(place, 0, tally.length - 1)) {
                    tally[place]++;
                }
            }
        }

        int votesFor(int cell, int kind) {
            int place = cell * KINDS + kind;
            return place >= 0 && place < tally.length ? tally[place] : 0;
        }

        int drawnAs(int cell) {
            int first = cell * KINDS;
            if (first < 0 || first + KINDS > tally.length) {
                return WHITE;
            }
            int drawn = WHITE;
            int most = 0;
            for (int kind = 0; kind < KINDS; kind++) {
                int votes = tally[first + kind];
                if (votes > most) {
                    most = votes;
                    drawn = kind;
                } else if (votes == most) {
                    drawn = WHITE;
                }
            }
            return drawn;
        }

        int riskOf(int cell) {
            int drawn = drawnAs(cell);
            if (drawn == ROCK) {
                return SIXTEENTHS;
            }
            int all = 0;
            for (int kind = 0; kind < KINDS; kind++) {
                all += votesFor(cell, kind);
            }
            if (drawn == WHITE || all == 0) {
                return WHITE_RISK;
            }
            return SIXTEENTHS * votesFor(cell, ROCK) / all;
        }

        int knownCells(Duchy duchy) {
            int known = 0;
            for (int cell = 0; cell < duchy.cellCount(); cell++) {
                known += drawnAs(cell) == WHITE ? 0 : 1;
            }
            return known;
        }

        int rightCells(Duchy duchy) {
            int right = 0;
            for (int cell = 0; cell < duchy.cellCount(); cell++) {
                right += drawnAs(cell) == duchy.kindAt(cell) ? 1 : 0;
            }
            return right;
        }
    }

    /** The way from the harbour to a cell. */
    private static final class Route {
        private static final int SIDES = 4;
        /** A way's cost is its risk times this and its cells, so that less risk comes before fewer cells. */
        private static final int RISK_UNIT = 64;
        private static final int FAR = 1000000;

        private final int[] entry = new int[MOST_CELLS];
        private final int[] cost = new int[MOST_CELLS];
        private final int[] path = new int[MOST_CELLS + 1];
        private int columns;
        private int count;
        private int cells;

        boolean find(Duchy duchy, Survey survey, int target) {
            columns = duchy.columns;
            count = duchy.cellCount();
            cells = 0;
            path[0] = duchy.harbour;
            if (!duchy.hasCell(target) || !duchy.hasCell(duchy.harbour)) {
                return false;
            }
            for (int cell = 0; cell < count; cell++) {
                boolean rock = survey.drawnAs(cell) == ROCK;
                entry[cell] = rock ? FAR : survey.riskOf(cell) * RISK_UNIT + 1;
                cost[cell] = FAR;
            }
            cost[target] = 0;
            boolean better = true;
            for (int round = 0; round <= count && better; round++) {
                better = lowerCosts();
            }
            return cost[duchy.harbour] < FAR && follow(duchy.harbour, target);
        }

        /** One round over all cells: what is left to pay from each of them to the target. */
        private boolean lowerCosts() {
            boolean better = false;
            for (int cell = 0; cell < count; cell++) {
                for (int side = 0; side < SIDES; side++) {
                    int next = neighbour(cell, side);
                    if (next != NONE && entry[next] + cost[next] < cost[cell]) {
                        cost[cell] = entry[next] + cost[next];
                        better = true;
                    }
                }
            }
            return better;
        }

        /** From cell to cell that keeps the cost, always the first of them. */
        private boolean follow(int harbour, int target) {
            int here = harbour;
            for (int step = 1; step < path.length && here != target; step++) {
                int first = NONE;
                for (int side = 0; side < SIDES && first == NONE; side++) {
                    int next = neighbour(here, side);
                    if (next != NONE && entry[next] + cost[next] == cost[here]) {
                        first = next;
                    }
                }
                if (first == NONE) {
                    return false;
                }
                here = first;
                path[step] = here;
                cells = step;
            }
            return here == target;
        }

        /** The sides are told such that the neighbours' numbers rise. */
        private int neighbour(int cell, int side) {
            int column = columns > 0 ? cell % columns : 0;
            int next;
            switch (side) {
                case 0:
                    next = cell - columns;
                    break;
                case 1:
                    next = column > 0 ? cell - 1 : NONE;
                    break;
                case 2:
                    next = column + 1 < columns ? cell + 1 : NONE;
                    break;
                default:
                    next = cell + columns;
                    break;
            }
            return next >= 0 && next < count ? next : NONE;
        }

        int cells() {
            return cells;
        }

        int cellAt(int k) {
            return within(k, 0, cells) ? path[k] : NONE;
        }

        int risk() {
            return within(path[0], 0, count - 1) ? cost[path[0]] / RISK_UNIT : 0;
        }

        int sailedTo(Duchy duchy) {
            for (int k = 1; k <= cells; k++) {
                if (duchy.kindAt(cellAt(k)) == ROCK) {
                    return cellAt(k);
                }
            }
            return cellAt(cells);
        }
    }

    /** How likely the kinds of a cell are, and how likely captains swear. */
    private static final class Belief {
        private static final int OTHER_KINDS = 3;

        private final long[] weights = new long[KINDS];
        private final long[] sworn = new long[MOST_CAPTAINS + 1];

        /** Each weight is the odds of all that was told of the cell, times 48 for each telling. */
        void weigh(Duchy duchy, int cell) {
            Arrays.fill(weights, 1L);
            for (int i = 0; i < duchy.tellings; i++) {
                int teller = duchy.tellers[i];
                if (duchy.toldCells[i] != cell || !duchy.isHeard(teller) || !duchy.hasTraveller(teller)) {
                    continue;
                }
                int lies = duchy.lies[teller];
                for (int kind = 0; kind < KINDS; kind++) {
                    weights[kind] *= duchy.toldKinds[i] == kind ? OTHER_KINDS * (SIXTEENTHS - lies) : lies;
                }
            }
        }

        long sum() {
            long sum = 0;
            for (int kind = 0; kind < KINDS; kind++) {
                sum += weights[kind];
            }
            return sum;
        }

        long weightOf(int kind) {
            return isKind(kind) ? weights[kind] : 0;
        }

        int likeliestKind() {
            int best = 0;
            for (int kind = 1; kind < KINDS; kind++) {
                if (weights[kind] > weights[best]) {
                    best = kind;
                }
            }
            return best;
        }

        int leastSureCell(Duchy duchy) {
            int least = NONE;
            long leastWeight = 1;
            long leastSum = 1;
            for (int cell = 0; cell < duchy.cellCount(); cell++) {
                weigh(duchy, cell);
                long sum = sum();
                long weight = weightOf(likeliestKind());
                // Sums stay below 4 times 48 to the 5th, so the products fit.
                boolean lessSure = least == NONE || weight * leastSum < leastWeight * sum;
                if (sum > 0 && lessSure) {
                    least = cell;
                    leastWeight = weight;
                    leastSum = sum;
                }
            }
            return least;
        }

        /** By how many of 16 to the n-th as likely ways k or more of n captains swear. */
        long waysToSwear(int n, int k, int odds) {
            Arrays.fill(sworn, 0L);
            sworn[0] = 1;
            for (int captain = 0; captain < n; captain++) {
                for (int swearing = sworn.length - 1; swearing >= 0; swearing--) {
                    long fewer = swearing > 0 ? sworn[swearing - 1] : 0;
                    sworn[swearing] = sworn[swearing] * (SIXTEENTHS - odds) + fewer * odds;
                }
            }
            long ways = 0;
            for (int swearing = Math.max(0, k); swearing < sworn.length; swearing++) {
                ways += sworn[swearing];
            }
            return ways;
        }
    }

    /** Whom to hear: plans, and games of two offices. */
    private static final class Council {
        private static final int MOST_SETS = 1 << MOST_TRAVELLERS;

        /** By the set of the heard: how many cells are not white, and what play is worth to whose turn it is. */
        private final int[] known = new int[MOST_SETS];
        private final int[] worth = new int[MOST_SETS];

        /** Only the sets with all who are heard already are of use. */
        void weigh(Duchy duchy, Survey survey) {
            for (int set = duchy.heard; set < duchy.sets() && set < MOST_SETS; set++) {
                if ((set & duchy.heard) == duchy.heard) {
                    survey.take(duchy, set);
                    known[set] = survey.knownCells(duchy);
                }
            }
        }

        int knownBy(int set) {
            return within(set, 0, MOST_SETS - 1) ? known[set] : 0;
        }

        int bestSet(Duchy duchy, int hours) {
            int best = 0;
            for (int set = 1; set < duchy.sets(); set++) {
                boolean fits = (set & duchy.heard) == 0 && hoursOf(duchy, set) <= hours;
                if (fits && knownBy(duchy.heard | set) > knownBy(duchy.heard | best)) {
                    best = set;
                }
            }
            return best;
        }

        private static int hoursOf(Duchy duchy, int set) {
            int hours = 0;
            for (int i = 0; i < duchy.tellings; i++) {
                hours += Duchy.isIn(duchy.tellers[i], set) ? 1 : 0;
            }
            return hours;
        }

        void play(Duchy duchy, int turns) {
            Arrays.fill(worth, 0);
            for (int turn = 0; turn < turns; turn++) {
                // A move leads to the same set or a greater one, so rising order never reads what this turn wrote.
                for (int set = duchy.heard; set < duchy.sets() && set < MOST_SETS; set++) {
                    if ((set & duchy.heard) == duchy.heard) {
                        worth[set] = bestCredit(duchy, set);
                    }
                }
            }
        }

        int creditFrom(int set) {
            return within(set, 0, MOST_SETS - 1) ? worth[set] : 0;
        }

        int firstBestMove(Duchy duchy) {
            int best = bestCredit(duchy, duchy.heard);
            for (int traveller = 0; traveller < duchy.travellers; traveller++) {
                if (!duchy.isHeard(traveller) && creditOfMove(duchy.heard, traveller) == best) {
                    return traveller;
                }
            }
            return NONE;
        }

        private int bestCredit(Duchy duchy, int set) {
            int best = -creditFrom(set);
            for (int traveller = 0; traveller < duchy.travellers; traveller++) {
                if (!Duchy.isIn(traveller, set)) {
                    best = Math.max(best, creditOfMove(set, traveller));
                }
            }
            return best;
        }

        private int creditOfMove(int set, int traveller) {
            int then = set | 1 << traveller;
            return knownBy(then) - knownBy(set) - creditFrom(then);
        }
    }

    /** The years as they pass by a seed. */
    private static final class Life {
        static final int DEEDS = 5;
        private static final int MISSED = 0;
        private static final int TOLD = 1;
        private static final int SAILED = 2;
        private static final int WRECKED = 3;
        private static final int LEFT = 4;
        private static final int MOST_STEPS = 300;
        /** Far more lines than 300 steps and the ends between them can be. */
        private static final int MOST_LINES_PASSED = 1000000;

        private final int[] deeds = new int[DEEDS];
        /** Those of the latest life that was lived for good. */
        private final int[] keptDeeds = new int[DEEDS];
        private boolean kept;
        private final int[] roundsLeft = new int[Almanac.MOST_LINES];
        private final Survey survey = new Survey();
        private final Route route = new Route();
        private int drawn;

        void keepDeeds() {
            System.arraycopy(deeds, 0, keptDeeds, 0, DEEDS);
            kept = true;
        }

        boolean hasKept() {
            return kept;
        }

        int keptDeed(int what) {
            return within(what, 0, DEEDS - 1) ? keptDeeds[what] : 0;
        }

        /** How many steps were come to. */
        int pass(Duchy duchy, int seed) {
            Arrays.fill(deeds, 0);
            drawn = seed;
            Almanac years = duchy.almanac;
            int steps = 0;
            int line = 0;
            for (int passed = 0; passed < MOST_LINES_PASSED && years.hasLine(line); passed++) {
                if (years.deed(line) == Tape.CLOSE) {
                    line = behindEnd(years, line);
                } else if (steps < MOST_STEPS) {
                    steps++;
                    line = behindStep(duchy, years, line);
                } else {
                    deeds[LEFT] = 1;
                    return steps;
                }
            }
            return steps;
        }

        private int behindEnd(Almanac years, int line) {
            int beginning = years.partner(line);
            boolean loops = years.deed(beginning) == Tape.LOOP && within(beginning, 0, roundsLeft.length - 1);
            if (loops && roundsLeft[beginning] > 0) {
                roundsLeft[beginning]--;
                return beginning + 1;
            }
            return line + 1;
        }

        private int behindStep(Duchy duchy, Almanac years, int line) {
            switch (years.deed(line)) {
                case Tape.HEAR:
                    count(duchy.setHeard(years.first(line), true));
                    return line + 1;
                case Tape.FORGET:
                    count(duchy.setHeard(years.first(line), false));
                    return line + 1;
                case Tape.TOLD:
                    countTelling(duchy.addTelling(years.first(line), years.second(line), years.third(line), 0));
                    return line + 1;
                case Tape.SAIL:
                    sailTo(duchy, years.first(line));
                    return line + 1;
                case Tape.ANY:
                    anyTells(duchy);
                    return line + 1;
                case Tape.LOOP:
                    if (within(line, 0, roundsLeft.length - 1)) {
                        roundsLeft[line] = years.first(line) - 1;
                    }
                    return line + 1;
                case Tape.STOP:
                    return years.lines;
                default:
                    return holds(duchy, years, line) ? line + 1 : years.partner(line) + 1;
            }
        }

        private void count(boolean came) {
            if (!came) {
                deeds[MISSED]++;
            }
        }

        private void countTelling(boolean came) {
            count(came);
            if (came) {
                deeds[TOLD]++;
            }
        }

        private void sailTo(Duchy duchy, int cell) {
            survey.take(duchy, duchy.heard);
            boolean found = route.find(duchy, survey, cell);
            count(found);
            if (found) {
                deeds[SAILED]++;
                // Only a wreck ends in a rock, be it at the very cell that was sailed to.
                boolean wrecked = route.cells() > 0 && duchy.kindAt(route.sailedTo(duchy)) == ROCK;
                deeds[WRECKED] += wrecked ? 1 : 0;
            }
        }

        private void anyTells(Duchy duchy) {
            if (duchy.travellers == 0 || duchy.cellCount() == 0) {
                count(false);
                return;
            }
            int traveller = draw(duchy.travellers);
            int cell = draw(duchy.cellCount());
            int kind = duchy.kindAt(cell);
            int luck = draw(SIXTEENTHS);
            if (duchy.hasTraveller(traveller) && luck < duchy.lies[traveller]) {
                int other = draw(KINDS - 1);
                kind = other < kind ? other : other + 1;
            }
            countTelling(duchy.addTelling(traveller, cell, kind, 0));
        }

        private boolean holds(Duchy duchy, Almanac years, int line) {
            int first = years.first(line);
            int second = years.second(line);
            survey.take(duchy, duchy.heard);
            switch (years.deed(line)) {
                case Tape.HEARD:
                    return duchy.isHeard(first);
                case Tape.BLANK:
                    return survey.drawnAs(first) == WHITE;
                case Tape.DRAWN:
                    return survey.drawnAs(first) == second;
                default:
                    return Integer.compare(survey.knownCells(duchy), second) == first;
            }
        }

        private int draw(int by) {
            drawn = (drawn * 2971 + 11003) % 65536;
            return by > 0 ? drawn / 8 % by : 0;
        }
    }
}
