/** Webs that are rented by the draught; the promises of each call stand in the document. */
public final class DraughtWebs {
    public static final int NONE = -1;

    /** Answers of calls that were taken, but found nothing, or bytes that tell nothing. */
    private static final int NOTHING = -2;
    private static final int BAD_BYTES = -3;
    private static final int NO_SPELL = -1000000;

    private static final int WEBS = 8;
    private static final int FLEETS = 8;
    private static final int SPOKES = 8;
    private static final int WIDTH = 24;
    private static final int HEIGHT = 16;
    private static final int PLACES = 384;
    private static final int TIGHT = 99;
    private static final int MOST_HOURS = 100;
    private static final int LAST_HOUR = 9999;
    private static final int NO_COURSE = 8;
    private static final int LAW_BYTES = 240;
    private static final int CHART_BYTES = 160;
    private static final int LOG_BYTES = 80;

    private final Tape tape;
    private final LawReader lawReader;
    private final ChartReader chartReader;
    private final LogBook logBook;
    private final Lookout lookout;
    private final Desk desk;
    private final TornWeb tornWeb;
    /** What a reader writes goes to the spare one, which takes the other's place if it has no fault. */
    private Law rules;
    private Law spareRules;
    private Sea sea;
    private Sea spareSea;
    private final Sea kept;
    private boolean anyKept;

    public DraughtWebs() {
        tape = new Tape();
        lawReader = new LawReader();
        chartReader = new ChartReader();
        logBook = new LogBook();
        lookout = new Lookout();
        desk = new Desk();
        tornWeb = new TornWeb();
        rules = new Law();
        spareRules = new Law();
        sea = new Sea();
        spareSea = new Sea();
        kept = new Sea();
        anyKept = false;
    }

    public boolean tension(int p, int spoke, int v) {
        if (!sea.hasWeb(p) || !within(spoke, 0, SPOKES - 1) || !within(v, 0, TIGHT)) {
            return false;
        }
        sea.tensions[p * SPOKES + spoke] = v;
        return true;
    }

    public int feed(int a, int b, int c, int d, int e) {
        if (!tape.hasRoomFor(20)) {
            return NONE;
        }
        tape.putInt(a);
        tape.putInt(b);
        tape.putInt(c);
        tape.putInt(d);
        tape.putInt(e);
        return tape.size();
    }

    public int law(int n) {
        if (!within(n, 1, LAW_BYTES) || !tape.has(n)) {
            return NONE;
        }
        int answer = lawReader.read(tape, n, spareRules);
        tape.empty();
        if (answer > 0) {
            Law before = rules;
            rules = spareRules;
            spareRules = before;
        }
        return answer;
    }

    public int chart(int n) {
        if (!within(n, 1, CHART_BYTES) || !tape.has(n)) {
            return NONE;
        }
        int answer = chartReader.read(tape, n, spareSea);
        tape.empty();
        if (answer > 0) {
            spareSea.hour = sea.hour;
            spareSea.drawn = sea.drawn;
            Sea before = sea;
            sea = spareSea;
            spareSea = before;
        }
        return answer;
    }

    public int hours(int n) {
        if (!within(n, 1, MOST_HOURS)) {
            return NONE;
        }
        return sea.passHours(rules, n);
    }

    public int tried(int n, int what) {
        if (!within(n, 1, MOST_HOURS) || !canBeTried(what)) {
            return NONE;
        }
        spareSea.copyFrom(sea);
        int touches = spareSea.passHours(rules, n);
        if (what == 0) {
            return touches;
        }
        if (what == 1) {
            return spareSea.allSlackSpokes();
        }
        if (what < 20) {
            return spareSea.tensionsOf(what - 10);
        }
        return what < 30 ? spareSea.placeOfFleet(what - 20) : spareSea.toldCourse(what - 30);
    }

    private boolean canBeTried(int what) {
        return what == 0 || what == 1 || sea.hasWeb(what - 10)
                || sea.hasFleet(what - 20) || sea.hasFleet(what - 30);
    }

    public int webIs(int p, int what) {
        if (!sea.hasWeb(p)) {
            return NONE;
        }
        if (within(what, 0, SPOKES - 1)) {
            return sea.tensions[p * SPOKES + what];
        }
        if (what == 10) {
            return Compass.place(sea.webX[p], sea.webY[p]);
        }
        return what == 11 ? sea.slackBits(p) : NONE;
    }

    public int fleetIs(int f, int what) {
        if (!sea.hasFleet(f)) {
            return NONE;
        }
        if (what == 0) {
            return sea.placeOfFleet(f);
        }
        if (what == 1) {
            return sea.forces[f];
        }
        return what == 2 ? sea.toldCourse(f) : NONE;
    }

    public int feels(int p, int what) {
        if (!sea.hasWeb(p) || !within(what, 0, 2)) {
            return NONE;
        }
        int f = sea.strongestFleet(p);
        if (f == NOTHING || what == 0) {
            return f;
        }
        return what == 1 ? sea.spokeTo(p, f) : sea.felt(p, f);
    }

    public int when(int p, int f, int n) {
        if (!sea.hasWeb(p) || !sea.hasFleet(f) || !within(n, 1, MOST_HOURS)) {
            return NONE;
        }
        spareSea.copyFrom(sea);
        for (int gone = 0; gone <= n; gone++) {
            if (spareSea.felt(p, f) > 0) {
                return gone;
            }
            spareSea.moveFleet(f);
        }
        return NOTHING;
    }

    public int fix(int n, int what) {
        if (!within(n, 1, 8) || !within(what, 0, 1) || !tape.has(2 * n)) {
            return NONE;
        }
        int answer = lookout.fixBy(sea, tape, n, what);
        tape.empty();
        return answer;
    }

    public int bearings(int p, int a, int q, int b) {
        if (!sea.hasWeb(p) || !sea.hasWeb(q) || p == q
                || !within(a, 0, SPOKES - 1) || !within(b, 0, SPOKES - 1)) {
            return NONE;
        }
        return lookout.crossing(sea, p, a, q, b);
    }

    public int allTheSea(int reach, int what) {
        if (!within(reach, 0, WIDTH - 1) || !within(what, 0, 1)) {
            return NONE;
        }
        int bits = lookout.fewestWebs(sea, reach);
        return bits == NOTHING || what == 1 ? bits : Integer.bitCount(bits);
    }

    public int quiet(int reach, int what) {
        if (!within(reach, 0, WIDTH - 1) || !within(what, 0, 1)) {
            return NONE;
        }
        return what == 0 ? lookout.quietPlaces(sea, reach) : lookout.firstQuiet(sea, reach);
    }

    public int nearest(int x, int y) {
        if (!Compass.onChart(x, y)) {
            return NONE;
        }
        return lookout.webNearTo(sea, x, y);
    }

    public int share(int p) {
        if (!sea.hasWeb(p)) {
            return NONE;
        }
        return lookout.placesNearTo(sea, p);
    }

    public int log(int n, int what) {
        boolean asked = within(what, 0, SPOKES - 1) || within(what, 100, 104);
        if (!within(n, 1, LOG_BYTES) || !asked || !tape.has(n)) {
            return NONE;
        }
        int fault = logBook.read(tape, n);
        tape.empty();
        return fault < 0 ? fault : logBook.answer(what);
    }

    public int inCommon(int n, int m) {
        if (!within(n, 1, 30) || !within(m, 1, 30) || !tape.has(n + m)) {
            return NONE;
        }
        int answer = desk.commonBytes(tape, n, m);
        tape.empty();
        return answer;
    }

    public int code(int n, int what) {
        if (!within(n, 2, 12) || !within(what, 0, 1) || !tape.has(n)) {
            return NONE;
        }
        int answer = desk.shortestCode(tape, n, what);
        tape.empty();
        return answer;
    }

    public int crawls(int n, int ring, int spoke) {
        if (!within(n, 1, 8) || !within(ring, 0, n - 1) || !within(spoke, 0, SPOKES - 1)
                || !tape.has(2 * n)) {
            return NONE;
        }
        int answer = tornWeb.threadsTo(tape, n, ring, spoke);
        tape.empty();
        return answer;
    }

    /** A web of one ring is a wheel: it has two less than the Lucas number of 2 n spanning trees. */
    public long hangs(int n) {
        if (!within(n, 3, 30)) {
            return NONE;
        }
        long lucas = 2;
        long next = 1;
        for (int k = 0; k < 2 * n; k++) {
            long sum = lucas + next;
            lucas = next;
            next = sum;
        }
        return lucas - 2;
    }

    public int smoothed(int n, int what) {
        if (!within(n, 3, 30) || !within(what, 0, 1) || !tape.has(n)) {
            return NONE;
        }
        int answer = desk.smooth(tape, n, what);
        tape.empty();
        return answer;
    }

    public int spell(int n, int what) {
        if (!within(n, 1, 40) || !within(what, 0, 2) || !tape.has(n)) {
            return NO_SPELL;
        }
        int answer = desk.worstSpell(tape, n, what);
        tape.empty();
        return answer;
    }

    public int salutes(int n) {
        if (!within(n, 1, 12) || !tape.has(2 * n)) {
            return NONE;
        }
        int answer = desk.mostSalutes(tape, n);
        tape.empty();
        return answer;
    }

    public int rent(int n, int what) {
        if (!within(n, 2, 12) || !within(what, 0, 1) || !tape.has(n)) {
            return NONE;
        }
        int answer = desk.highestOffer(tape, n, what);
        tape.empty();
        return answer;
    }

    public boolean seed(int x) {
        if (!within(x, 0, 65535)) {
            return false;
        }
        sea.drawn = x;
        return true;
    }

    public int keep() {
        kept.copyFrom(sea);
        anyKept = true;
        return sea.hour;
    }

    public boolean undo() {
        if (!anyKept) {
            return false;
        }
        sea.takeBack(kept);
        return true;
    }

    public int check(int n) {
        if (!within(n, 0, WEBS) || !tape.has(n)) {
            return NOTHING;
        }
        int answer = NONE;
        for (int p = 0; p < n && answer == NONE; p++) {
            int due = sea.hasWeb(p) ? sea.slackSpokes(p) : 255;
            if (tape.at(p) != due) {
                answer = p;
            }
        }
        tape.empty();
        return answer;
    }

    public int count(int what) {
        switch (what) {
            case 0:
                return sea.hour;
            case 1:
                return sea.webs;
            case 2:
                return sea.fleets;
            case 3:
                return rules.size();
            case 4:
                return tape.size();
            case 5:
                return sea.drawn;
            case 6:
                return sea.allTensions();
            default:
                return NONE;
        }
    }

    private static boolean within(int value, int least, int most) {
        return value >= least && value <= most;
    }

    /** Ways between places. */
    static final class Compass {
        private static final int[] ACROSS = {0, 1, 1, 1, 0, -1, -1, -1};
        private static final int[] ALONG = {-1, -1, 0, 1, 1, 1, 0, -1};

        private Compass() {
        }

        static int stepAcross(int spoke) {
            return within(spoke, 0, SPOKES - 1) ? ACROSS[spoke] : 0;
        }

        static int stepAlong(int spoke) {
            return within(spoke, 0, SPOKES - 1) ? ALONG[spoke] : 0;
        }

        static boolean onChart(int x, int y) {
            return within(x, 0, WIDTH - 1) && within(y, 0, HEIGHT - 1);
        }

        static int place(int x, int y) {
            return WIDTH * y + x;
        }

        static int distance(int across, int along) {
            return Math.max(Math.abs(across), Math.abs(along));
        }

        static int spokeTowards(int across, int along) {
            int a = Math.abs(across);
            int b = Math.abs(along);
            if (2 * b < a) {
                return across > 0 ? 2 : 6;
            }
            if (2 * a < b) {
                return along < 0 ? 0 : 4;
            }
            if (a == 0) {
                return 0;
            }
            if (across > 0) {
                return along < 0 ? 1 : 3;
            }
            return along < 0 ? 7 : 5;
        }
    }

    /** The bytes that were fed and not yet used. */
    static final class Tape {
        private static final int ROOM = 260;

        private final int[] bytes = new int[ROOM];
        private int size = 0;

        boolean hasRoomFor(int more) {
            return size + more <= ROOM;
        }

        boolean has(int n) {
            return n <= size;
        }

        int size() {
            return size;
        }

        void empty() {
            size = 0;
        }

        void putInt(int four) {
            put(four >>> 24);
            put(four >>> 16 & 255);
            put(four >>> 8 & 255);
            put(four & 255);
        }

        private void put(int one) {
            if (size < ROOM) {
                bytes[size] = one;
                size++;
            }
        }

        int at(int place) {
            return within(place, 0, size - 1) ? bytes[place] : 0;
        }
    }

    /** A text that is read from the left, with the first fault that was found in it. */
    static final class Text {
        static final int END = -1;

        private final int[] signs = new int[LAW_BYTES];
        private int length = 0;
        private int place = 0;
        private int fault = 0;

        void take(Tape tape, int n) {
            length = Math.min(n, LAW_BYTES);
            for (int k = 0; k < length; k++) {
                signs[k] = tape.at(k);
            }
            place = 0;
            fault = 0;
        }

        int peek() {
            return place < length ? signs[place] : END;
        }

        boolean isAt(int least, int most) {
            return place < length && signs[place] >= least && signs[place] <= most;
        }

        void step() {
            if (place < length) {
                place++;
            }
        }

        boolean stepOver(int sign) {
            if (peek() != sign) {
                return failAt(1, place);
            }
            step();
            return true;
        }

        boolean fail(int number) {
            return failAt(number, place);
        }

        /** Always false, so that a reader can hand it on. */
        boolean failAt(int number, int where) {
            if (fault == 0) {
                fault = -1000 * number - where;
            }
            return false;
        }

        /** NONE: there is a fault. */
        int number(int mostDigits) {
            int first = place;
            int value = 0;
            for (int k = 0; k < mostDigits && isAt('0', '9'); k++) {
                value = value * 10 + peek() - '0';
                step();
            }
            if (place == first) {
                failAt(1, place);
                return NONE;
            }
            if (isAt('0', '9')) {
                failAt(2, place);
                return NONE;
            }
            return value;
        }
    }

    /** Webs, fleets and the hour; what the hours do to them. */
    static final class Sea {
        private int webs = 0;
        private int fleets = 0;
        private final int[] webX = new int[WEBS];
        private final int[] webY = new int[WEBS];
        private final int[] tensions = new int[WEBS * SPOKES];
        private final int[] fleetX = new int[FLEETS];
        private final int[] fleetY = new int[FLEETS];
        private final int[] forces = new int[FLEETS];
        private final int[] courses = new int[FLEETS];
        private int hour = 0;
        private int drawn = 1;

        boolean hasWeb(int p) {
            return p >= 0 && p < WEBS && (webs >> p & 1) == 1;
        }

        boolean hasFleet(int f) {
            return f >= 0 && f < FLEETS && (fleets >> f & 1) == 1;
        }

        void clearChart() {
            webs = 0;
            fleets = 0;
        }

        void tellWeb(int p, int x, int y) {
            if (!within(p, 0, WEBS - 1)) {
                return;
            }
            webs |= 1 << p;
            webX[p] = x;
            webY[p] = y;
            for (int s = 0; s < SPOKES; s++) {
                tensions[p * SPOKES + s] = TIGHT;
            }
        }

        void tellFleet(int f, int x, int y, int force, int course) {
            if (!within(f, 0, FLEETS - 1)) {
                return;
            }
            fleets |= 1 << f;
            fleetX[f] = x;
            fleetY[f] = y;
            forces[f] = force;
            courses[f] = course;
        }

        void copyFrom(Sea other) {
            webs = other.webs;
            fleets = other.fleets;
            System.arraycopy(other.webX, 0, webX, 0, WEBS);
            System.arraycopy(other.webY, 0, webY, 0, WEBS);
            System.arraycopy(other.tensions, 0, tensions, 0, WEBS * SPOKES);
            System.arraycopy(other.fleetX, 0, fleetX, 0, FLEETS);
            System.arraycopy(other.fleetY, 0, fleetY, 0, FLEETS);
            System.arraycopy(other.forces, 0, forces, 0, FLEETS);
            System.arraycopy(other.courses, 0, courses, 0, FLEETS);
            hour = other.hour;
            drawn = other.drawn;
        }

        /** Which webs and fleets are told, where webs hang and what forces are is not taken back. */
        void takeBack(Sea then) {
            for (int p = 0; p < WEBS; p++) {
                if (then.hasWeb(p)) {
                    System.arraycopy(then.tensions, p * SPOKES, tensions, p * SPOKES, SPOKES);
                }
            }
            for (int f = 0; f < FLEETS; f++) {
                if (then.hasFleet(f)) {
                    fleetX[f] = then.fleetX[f];
                    fleetY[f] = then.fleetY[f];
                    courses[f] = then.courses[f];
                }
            }
            hour = then.hour;
            drawn = then.drawn;
        }

        int placeOfFleet(int f) {
            return hasFleet(f) ? Compass.place(fleetX[f], fleetY[f]) : NONE;
        }

        int toldCourse(int f) {
            if (!hasFleet(f)) {
                return NONE;
            }
            return courses[f] == NO_COURSE ? NOTHING : courses[f];
        }

        int slackBits(int p) {
            int bits = 0;
            for (int s = 0; s < SPOKES && hasWeb(p); s++) {
                if (tensions[p * SPOKES + s] == 0) {
                    bits |= 1 << s;
                }
            }
            return bits;
        }

        int slackSpokes(int p) {
            return Integer.bitCount(slackBits(p));
        }

        int allSlackSpokes() {
            int all = 0;
            for (int p = 0; p < WEBS; p++) {
                all += slackSpokes(p);
            }
            return all;
        }

        int tensionsOf(int p) {
            int sum = 0;
            for (int s = 0; s < SPOKES && hasWeb(p); s++) {
                sum += tensions[p * SPOKES + s];
            }
            return sum;
        }

        int allTensions() {
            int sum = 0;
            for (int p = 0; p < WEBS; p++) {
                sum += tensionsOf(p);
            }
            return sum;
        }

        int distanceTo(int p, int f) {
            return Compass.distance(fleetX[f] - webX[p], fleetY[f] - webY[p]);
        }

        int spokeTo(int p, int f) {
            return Compass.spokeTowards(fleetX[f] - webX[p], fleetY[f] - webY[p]);
        }

        int felt(int p, int f) {
            return forces[f] - distanceTo(p, f);
        }

        int strongestFleet(int p) {
            int best = NOTHING;
            int most = 0;
            for (int f = 0; f < FLEETS; f++) {
                if (hasFleet(f) && felt(p, f) > most) {
                    most = felt(p, f);
                    best = f;
                }
            }
            return best;
        }

        int passHours(Law law, int n) {
            int touches = 0;
            for (int k = 0; k < n && hour < LAST_HOUR; k++) {
                for (int f = 0; f < FLEETS; f++) {
                    moveFleet(f);
                }
                for (int p = 0; p < WEBS; p++) {
                    if (hasWeb(p)) {
                        touches += passWeb(law, p);
                    }
                }
                hour++;
            }
            return touches;
        }

        void moveFleet(int f) {
            if (!hasFleet(f) || courses[f] == NO_COURSE) {
                return;
            }
            int x = fleetX[f] + Compass.stepAcross(courses[f]);
            int y = fleetY[f] + Compass.stepAlong(courses[f]);
            if (Compass.onChart(x, y)) {
                fleetX[f] = x;
                fleetY[f] = y;
            } else {
                courses[f] = (courses[f] + SPOKES / 2) % SPOKES;
            }
        }

        private int passWeb(Law law, int p) {
            int touches = 0;
            int touched = 0;
            for (int f = 0; f < FLEETS; f++) {
                if (hasFleet(f) && felt(p, f) > 0) {
                    int s = spokeTo(p, f);
                    if (touch(law, p, f, s)) {
                        touches++;
                        touched |= 1 << s;
                    }
                }
            }
            mend(law, p, touched);
            return touches;
        }

        /** The number is drawn whatever becomes of the touch. */
        private boolean touch(Law law, int p, int f, int s) {
            drawn = (25173 * drawn + 13849) % 65536;
            int i = p * SPOKES + s;
            law.seeWeb(p, s, tensions[i], slackSpokes(p), hour % 24);
            law.seeFleet(f, distanceTo(p, f), felt(p, f), courses[f], drawn % 10);
            if (tensions[i] == 0 || law.firstRule('x') != NONE) {
                return false;
            }
            tensions[i] = Math.max(0, tensions[i] - law.worthOf(law.firstRule('t')));
            return true;
        }

        private void mend(Law law, int p, int touched) {
            for (int s = 0; s < SPOKES; s++) {
                if ((touched >> s & 1) == 0) {
                    int i = p * SPOKES + s;
                    law.seeWeb(p, s, tensions[i], slackSpokes(p), hour % 24);
                    law.seeNoFleet();
                    tensions[i] = Math.min(TIGHT, tensions[i] + law.worthOf(law.firstRule('m')));
                }
            }
        }
    }

    /**
     * Rules as rows of signs behind what they are used on, so that an hour reads no text:
     * a number or letter is put on the heap, a sign of reckoning takes two from it,
     * a comparison sets what holds, and the jumps of and, or lead over what does not matter.
     */
    static final class Law {
        private static final int MOST_RULES = 16;
        /** Of each byte of the text one sign at most comes. */
        private static final int MOST_SIGNS = LAW_BYTES;
        /** Two wait ahead of each of six brackets and one ahead of a comparison. */
        private static final int MOST_HEAPED = 32;
        private static final int NUMBER = 'n';
        private static final int LETTER = 'l';
        private static final int STOP = '.';
        private static final int[] LETTERS = {'p', 'f', 's', 'v', 'd', 'g', 'r', 'c', 'h', 'w'};

        private int ruleCount = 0;
        private final int[] kinds = new int[MOST_RULES];
        private final int[] worthStarts = new int[MOST_RULES];
        private final int[] conditionStarts = new int[MOST_RULES];
        private int signCount = 0;
        private final int[] signs = new int[MOST_SIGNS];
        private final int[] values = new int[MOST_SIGNS];
        private final int[] seen = new int[10];
        private final int[] heap = new int[MOST_HEAPED];
        private int heaped = 0;
        private boolean held = false;
        private boolean refused = false;

        int size() {
            return ruleCount;
        }

        boolean isFull() {
            return ruleCount >= MOST_RULES;
        }

        void clearRules() {
            ruleCount = 0;
            signCount = 0;
        }

        void beginRule(int kind) {
            if (ruleCount < MOST_RULES) {
                kinds[ruleCount] = kind;
                worthStarts[ruleCount] = signCount;
                conditionStarts[ruleCount] = signCount;
                ruleCount++;
            }
        }

        void endWorth() {
            write(STOP, 0);
            if (within(ruleCount, 1, MOST_RULES)) {
                conditionStarts[ruleCount - 1] = signCount;
            }
        }

        void endRule() {
            write(STOP, 0);
        }

        void writeNumber(int value) {
            write(NUMBER, value);
        }

        /** False: that is no letter of a rule. */
        boolean writeLetter(int letter) {
            for (int k = 0; k < LETTERS.length; k++) {
                if (LETTERS[k] == letter) {
                    write(LETTER, k);
                    return true;
                }
            }
            return false;
        }

        void writeSign(int sign) {
            write(sign, 0);
        }

        private void write(int sign, int value) {
            if (signCount < MOST_SIGNS) {
                signs[signCount] = sign;
                values[signCount] = value;
                signCount++;
            }
        }

        /** Where the last sign stands. */
        int lastSign() {
            return signCount - 1;
        }

        /** A jump that was written goes to what is written next. */
        void landJump(int jump) {
            if (within(jump, 0, signCount - 1)) {
                values[jump] = signCount;
            }
        }

        void seeWeb(int p, int s, int v, int r, int h) {
            seen[0] = p;
            seen[2] = s;
            seen[3] = v;
            seen[6] = r;
            seen[8] = h;
        }

        void seeFleet(int f, int d, int g, int c, int w) {
            seen[1] = f;
            seen[4] = d;
            seen[5] = g;
            seen[7] = c;
            seen[9] = w;
        }

        void seeNoFleet() {
            seeFleet(FLEETS, 0, 0, NO_COURSE, 0);
        }

        /** The first rule of a kind whose condition holds, or NONE. */
        int firstRule(int kind) {
            for (int k = 0; k < ruleCount; k++) {
                if (kinds[k] == kind) {
                    run(conditionStarts[k]);
                    if (held && !refused) {
                        return k;
                    }
                }
            }
            return NONE;
        }

        /** Of no rule it is 0. */
        int worthOf(int rule) {
            if (rule < 0 || rule >= ruleCount) {
                return 0;
            }
            run(worthStarts[rule]);
            return refused || heaped < 1 ? 0 : Math.max(0, Math.min(TIGHT, heap[0]));
        }

        /** Jumps lead forward only, so it takes no more steps than there are signs. */
        private void run(int start) {
            heaped = 0;
            held = false;
            refused = false;
            int at = start;
            for (int k = 0; k < signCount && !refused && at >= 0 && at < signCount; k++) {
                int sign = signs[at];
                int value = values[at];
                at++;
                switch (sign) {
                    case STOP:
                        return;
                    case NUMBER:
                        heapUp(value);
                        break;
                    case LETTER:
                        heapUp(value >= 0 && value < LETTERS.length ? seen[value] : 0);
                        break;
                    case '!':
                        held = !held;
                        break;
                    case '&':
                        at = held ? at : value;
                        break;
                    case '|':
                        at = held ? value : at;
                        break;
                    case '<':
                    case '>':
                    case '=':
                        compare(sign);
                        break;
                    default:
                        reckon(sign);
                }
            }
        }

        private void heapUp(int value) {
            if (heaped < MOST_HEAPED) {
                heap[heaped] = value;
                heaped++;
            }
        }

        private void compare(int sign) {
            if (heaped < 2 || heaped > MOST_HEAPED) {
                refused = true;
                return;
            }
            heaped -= 2;
            int a = heap[heaped];
            int b = heap[heaped + 1];
            if (sign == '=') {
                held = a == b;
            } else {
                held = sign == '<' ? a < b : a > b;
            }
        }

        private void reckon(int sign) {
            if (heaped < 2 || heaped > MOST_HEAPED) {
                refused = true;
                return;
            }
            heaped--;
            int a = heap[heaped - 1];
            int b = heap[heaped];
            if (sign == '+') {
                heap[heaped - 1] = a + b;
            } else if (sign == '-') {
                heap[heaped - 1] = a - b;
            } else if (sign == '*') {
                heap[heaped - 1] = a * b;
            } else if (b == 0) {
                refused = true;
            } else {
                heap[heaped - 1] = sign == '/' ? a / b : a % b;
            }
        }
    }

    /** Reads a law; a depth is how many of ( [ ! are open. */
    static final class LawReader {
        private static final int MOST_OPEN = 6;
        private static final int MOST_DIGITS = 5;

        private final Text text = new Text();

        /** How many rules, or the fault. */
        int read(Tape tape, int n, Law into) {
            text.take(tape, n);
            into.clearRules();
            for (int k = 0; k <= LAW_BYTES; k++) {
                if (!rule(into)) {
                    return text.fault;
                }
                if (text.peek() == Text.END) {
                    return into.size();
                }
                if (!text.stepOver(';')) {
                    return text.fault;
                }
            }
            return text.fault;
        }

        private boolean rule(Law into) {
            int kind = text.peek();
            if (kind != 't' && kind != 'm' && kind != 'x') {
                return text.fail(1);
            }
            if (into.isFull()) {
                return text.fail(4);
            }
            text.step();
            into.beginRule(kind);
            if (kind != 'x') {
                if (!sum(into, 0)) {
                    return false;
                }
                into.endWorth();
            }
            if (!text.stepOver('(') || !condition(into, 1, '|') || !text.stepOver(')')) {
                return false;
            }
            into.endRule();
            return true;
        }

        /** Parts with | between two; a part, by the sign &: tests with & between two. */
        private boolean condition(Law into, int depth, int sign) {
            int jump = NONE;
            for (int k = 0; k <= LAW_BYTES; k++) {
                boolean isRead = sign == '|' ? condition(into, depth, '&') : test(into, depth);
                if (!isRead) {
                    return false;
                }
                into.landJump(jump);
                if (text.peek() != sign) {
                    return true;
                }
                text.step();
                into.writeSign(sign);
                jump = into.lastSign();
            }
            return text.fail(1);
        }

        private boolean test(Law into, int depth) {
            int open = text.peek();
            if (open == '!' || open == '(') {
                if (depth >= MOST_OPEN) {
                    return text.fail(5);
                }
                text.step();
                if (open == '(') {
                    return condition(into, depth + 1, '|') && text.stepOver(')');
                }
                if (!test(into, depth + 1)) {
                    return false;
                }
                into.writeSign('!');
                return true;
            }
            if (!sum(into, depth)) {
                return false;
            }
            int sign = text.peek();
            if (sign != '<' && sign != '>' && sign != '=') {
                return text.fail(1);
            }
            text.step();
            if (!sum(into, depth)) {
                return false;
            }
            into.writeSign(sign);
            return true;
        }

        private boolean sum(Law into, int depth) {
            if (!term(into, depth)) {
                return false;
            }
            for (int k = 0; k <= LAW_BYTES; k++) {
                int sign = text.peek();
                if (sign != '+' && sign != '-') {
                    return true;
                }
                text.step();
                if (!term(into, depth)) {
                    return false;
                }
                into.writeSign(sign);
            }
            return text.fail(1);
        }

        private boolean term(Law into, int depth) {
            if (!factor(into, depth)) {
                return false;
            }
            for (int k = 0; k <= LAW_BYTES; k++) {
                int sign = text.peek();
                if (sign != '*' && sign != '/' && sign != '%') {
                    return true;
                }
                text.step();
                if (!factor(into, depth)) {
                    return false;
                }
                into.writeSign(sign);
            }
            return text.fail(1);
        }

        private boolean factor(Law into, int depth) {
            if (text.peek() == '[') {
                if (depth >= MOST_OPEN) {
                    return text.fail(5);
                }
                text.step();
                return sum(into, depth + 1) && text.stepOver(']');
            }
            if (text.isAt('0', '9')) {
                int value = text.number(MOST_DIGITS);
                into.writeNumber(value);
                return value != NONE;
            }
            if (!into.writeLetter(text.peek())) {
                return text.fail(1);
            }
            text.step();
            return true;
        }
    }

    /** Reads a chart. */
    static final class ChartReader {
        private static final int MOST_LINES = 24;
        private static final int MOST_DIGITS = 2;

        private final Text text = new Text();

        /** How many lines, or the fault. */
        int read(Tape tape, int n, Sea into) {
            text.take(tape, n);
            into.clearChart();
            for (int lines = 1; lines <= CHART_BYTES; lines++) {
                if (!line(into, lines)) {
                    return text.fault;
                }
                if (text.peek() == Text.END) {
                    return lines;
                }
                if (!text.stepOver(';')) {
                    return text.fault;
                }
            }
            return text.fault;
        }

        private boolean line(Sea into, int lines) {
            boolean isWeb = text.isAt('a', 'h');
            if (!isWeb && !text.isAt('A', 'H')) {
                return text.fail(1);
            }
            if (lines > MOST_LINES) {
                return text.fail(4);
            }
            int who = text.peek() - (isWeb ? 'a' : 'A');
            if (isWeb ? into.hasWeb(who) : into.hasFleet(who)) {
                return text.fail(6);
            }
            text.step();
            if (!text.stepOver('@')) {
                return false;
            }
            int x = coordinate(WIDTH - 1);
            if (x == NONE || !text.stepOver(',')) {
                return false;
            }
            int y = coordinate(HEIGHT - 1);
            if (y == NONE) {
                return false;
            }
            if (isWeb) {
                into.tellWeb(who, x, y);
                return true;
            }
            return fleet(into, who, x, y);
        }

        private int coordinate(int most) {
            int first = text.place;
            int value = text.number(MOST_DIGITS);
            if (value > most) {
                text.failAt(3, first);
                return NONE;
            }
            return value;
        }

        private boolean fleet(Sea into, int f, int x, int y) {
            if (!text.stepOver(':')) {
                return false;
            }
            int force = text.number(MOST_DIGITS);
            if (force == NONE) {
                return false;
            }
            int course = NO_COURSE;
            if (text.peek() == '>') {
                text.step();
                if (!text.isAt('0', '7')) {
                    return text.fail(1);
                }
                course = text.peek() - '0';
                text.step();
            }
            into.tellFleet(f, x, y, force, course);
            return true;
        }
    }

    /** Reads a log of spokes and answers what is asked of it. */
    static final class LogBook {
        private static final int MOST_SPOKES = 64;
        private static final int MOST_OPEN = 2;

        private final Text text = new Text();
        private final int[] spokes = new int[MOST_SPOKES];
        private int size = 0;

        /** The fault; 0: there is none. */
        int read(Tape tape, int n) {
            text.take(tape, n);
            size = 0;
            row(0);
            return text.fault;
        }

        private boolean row(int open) {
            int end = open == 0 ? Text.END : ')';
            for (int k = 0; k <= LOG_BYTES; k++) {
                if (k > 0 && text.peek() == end) {
                    return true;
                }
                if (text.peek() == '(') {
                    if (!innerRow(open)) {
                        return false;
                    }
                } else if (!spoke()) {
                    return false;
                }
            }
            return text.fail(1);
        }

        private boolean spoke() {
            if (!text.isAt('0', '7')) {
                return text.fail(1);
            }
            if (size >= MOST_SPOKES) {
                return text.fail(6);
            }
            spokes[size] = text.peek() - '0';
            size++;
            text.step();
            return true;
        }

        private boolean innerRow(int open) {
            if (open >= MOST_OPEN) {
                return text.fail(5);
            }
            int opened = text.place;
            int first = size;
            text.step();
            if (!row(open + 1) || !text.stepOver(')')) {
                return false;
            }
            if (text.peek() != '*') {
                return true;
            }
            text.step();
            if (!text.isAt('2', '9')) {
                return text.fail(1);
            }
            int times = text.peek() - '0';
            text.step();
            int length = size - first;
            if (first + length * times > MOST_SPOKES) {
                return text.failAt(6, opened);
            }
            repeat(length, length * (times - 1));
            return true;
        }

        private void repeat(int length, int more) {
            for (int k = 0; k < more && within(size, length, MOST_SPOKES - 1); k++) {
                spokes[size] = spokes[size - length];
                size++;
            }
        }

        int answer(int what) {
            switch (what) {
                case 100:
                    return size;
                case 101:
                    return commonest();
                case 102:
                    return longestRow();
                case 103:
                    return turns();
                case 104:
                    return period();
                default:
                    return timesOf(what);
            }
        }

        private int timesOf(int spoke) {
            int times = 0;
            for (int k = 0; k < size; k++) {
                if (spokes[k] == spoke) {
                    times++;
                }
            }
            return times;
        }

        private int commonest() {
            int best = 0;
            for (int s = 1; s < SPOKES; s++) {
                if (timesOf(s) > timesOf(best)) {
                    best = s;
                }
            }
            return best;
        }

        private int longestRow() {
            int longest = 0;
            int row = 0;
            for (int k = 0; k < size; k++) {
                row = k > 0 && spokes[k] == spokes[k - 1] ? row + 1 : 1;
                longest = Math.max(longest, row);
            }
            return longest;
        }

        private int turns() {
            int sum = 0;
            for (int k = 1; k < size; k++) {
                int on = (spokes[k] - spokes[k - 1] + SPOKES) % SPOKES;
                sum += on < SPOKES / 2 ? on : on - SPOKES;
            }
            return sum;
        }

        private int period() {
            for (int by = 1; by < size; by++) {
                if (goesOnBy(by)) {
                    return by;
                }
            }
            return size;
        }

        private boolean goesOnBy(int by) {
            for (int k = by; k < size; k++) {
                if (spokes[k] != spokes[k - by]) {
                    return false;
                }
            }
            return true;
        }
    }

    /** What is seen of the chart from the windows. */
    static final class Lookout {
        private static final int SETS = 256;

        /** Sets of webs, each of which has all the webs that reach some place. */
        private final int[] reachers = new int[SETS];
        private final boolean[] listed = new boolean[SETS];
        private int reacherCount = 0;

        int fixBy(Sea sea, Tape tape, int n, int what) {
            for (int k = 0; k < n; k++) {
                if (!sea.hasWeb(tape.at(2 * k)) || tape.at(2 * k + 1) >= SPOKES) {
                    return BAD_BYTES;
                }
            }
            int places = 0;
            for (int place = 0; place < PLACES; place++) {
                if (isToward(sea, tape, n, place)) {
                    if (what == 1) {
                        return place;
                    }
                    places++;
                }
            }
            return what == 1 ? NOTHING : places;
        }

        private boolean isToward(Sea sea, Tape tape, int n, int place) {
            for (int k = 0; k < n; k++) {
                int p = tape.at(2 * k);
                if (!sea.hasWeb(p)) {
                    return false;
                }
                int across = place % WIDTH - sea.webX[p];
                int along = place / WIDTH - sea.webY[p];
                if (Compass.spokeTowards(across, along) != tape.at(2 * k + 1)) {
                    return false;
                }
            }
            return true;
        }

        int crossing(Sea sea, int p, int a, int q, int b) {
            for (int k = 1; k < WIDTH; k++) {
                int x = sea.webX[p] + k * Compass.stepAcross(a);
                int y = sea.webY[p] + k * Compass.stepAlong(a);
                if (!Compass.onChart(x, y)) {
                    return NOTHING;
                }
                if (isOnWay(x - sea.webX[q], y - sea.webY[q], b)) {
                    return Compass.place(x, y);
                }
            }
            return NOTHING;
        }

        private static boolean isOnWay(int across, int along, int spoke) {
            int steps = Compass.distance(across, along);
            return steps > 0 && across == steps * Compass.stepAcross(spoke)
                    && along == steps * Compass.stepAlong(spoke);
        }

        /** Their bits; NOTHING: all do not do. */
        int fewestWebs(Sea sea, int reach) {
            listReachers(sea, reach);
            int best = NOTHING;
            int fewest = WEBS + 1;
            for (int bits = 1; bits < SETS; bits++) {
                if ((bits & ~sea.webs) == 0 && Integer.bitCount(bits) < fewest && meetsAll(bits)) {
                    best = bits;
                    fewest = Integer.bitCount(bits);
                }
            }
            return best;
        }

        /** Many places are reached by the same webs: each such set is asked once. */
        private void listReachers(Sea sea, int reach) {
            for (int k = 0; k < SETS; k++) {
                listed[k] = false;
            }
            reacherCount = 0;
            for (int place = 0; place < PLACES; place++) {
                int bits = reachersOf(sea, reach, place);
                if (within(bits, 0, SETS - 1) && !listed[bits] && reacherCount < SETS) {
                    listed[bits] = true;
                    reachers[reacherCount] = bits;
                    reacherCount++;
                }
            }
        }

        private boolean meetsAll(int bits) {
            for (int k = 0; k < reacherCount; k++) {
                if ((reachers[k] & bits) == 0) {
                    return false;
                }
            }
            return true;
        }

        private int reachersOf(Sea sea, int reach, int place) {
            int bits = 0;
            for (int p = 0; p < WEBS; p++) {
                if (sea.hasWeb(p) && wayTo(sea, p, place % WIDTH, place / WIDTH) <= reach) {
                    bits |= 1 << p;
                }
            }
            return bits;
        }

        private int wayTo(Sea sea, int p, int x, int y) {
            return Compass.distance(x - sea.webX[p], y - sea.webY[p]);
        }

        int quietPlaces(Sea sea, int reach) {
            int places = 0;
            for (int place = 0; place < PLACES; place++) {
                if (reachersOf(sea, reach, place) == 0) {
                    places++;
                }
            }
            return places;
        }

        int firstQuiet(Sea sea, int reach) {
            for (int place = 0; place < PLACES; place++) {
                if (reachersOf(sea, reach, place) == 0) {
                    return place;
                }
            }
            return NOTHING;
        }

        int webNearTo(Sea sea, int x, int y) {
            int best = NOTHING;
            int least = WIDTH;
            for (int p = 0; p < WEBS; p++) {
                if (sea.hasWeb(p) && wayTo(sea, p, x, y) < least) {
                    least = wayTo(sea, p, x, y);
                    best = p;
                }
            }
            return best;
        }

        int placesNearTo(Sea sea, int p) {
            int places = 0;
            for (int place = 0; place < PLACES; place++) {
                if (webNearTo(sea, place % WIDTH, place / WIDTH) == p) {
                    places++;
                }
            }
            return places;
        }
    }

    /** Sums over the bytes of the tape. */
    static final class Desk {
        private static final int MOST_READINGS = 30;
        private static final int MOST_WORDS = 23;

        private final int[] common = new int[MOST_READINGS + 1];
        private final int[] readings = new int[MOST_READINGS];
        private final int[] smoother = new int[MOST_READINGS];
        /** Kinds as they were told, then those put together, so that of like ones the first is due. */
        private final int[] weights = new int[MOST_WORDS];
        private final int[] lengths = new int[MOST_WORDS];
        private final boolean[] used = new boolean[MOST_WORDS];

        int commonBytes(Tape tape, int n, int m) {
            int width = Math.min(m, MOST_READINGS);
            for (int j = 0; j <= width; j++) {
                common[j] = 0;
            }
            for (int i = 0; i < n; i++) {
                int corner = 0;
                for (int j = 1; j <= width; j++) {
                    int before = common[j];
                    boolean same = tape.at(i) == tape.at(n + j - 1);
                    common[j] = same ? corner + 1 : Math.max(before, common[j - 1]);
                    corner = before;
                }
            }
            return common[width];
        }

        int shortestCode(Tape tape, int n, int what) {
            for (int k = 0; k < n && k < MOST_WORDS; k++) {
                if (tape.at(k) == 0) {
                    return BAD_BYTES;
                }
                weights[k] = tape.at(k);
                lengths[k] = 0;
                used[k] = false;
            }
            int signs = 0;
            int longest = 0;
            for (int k = n; k < 2 * n - 1 && k < MOST_WORDS; k++) {
                int a = takeRarest(k);
                int b = takeRarest(k);
                weights[k] = weights[a] + weights[b];
                lengths[k] = Math.max(lengths[a], lengths[b]) + 1;
                used[k] = false;
                signs += weights[k];
                longest = lengths[k];
            }
            return what == 0 ? signs : longest;
        }

        private int takeRarest(int size) {
            int best = 0;
            for (int k = 1; k < size; k++) {
                if (!used[k] && (used[best] || weights[k] < weights[best])) {
                    best = k;
                }
            }
            used[best] = true;
            return best;
        }

        int smooth(Tape tape, int n, int what) {
            int size = Math.min(n, MOST_READINGS);
            for (int k = 0; k < size; k++) {
                readings[k] = tape.at(k);
            }
            int rounds = 0;
            // each round brings rest to one more reading at each end, so there are fewer than readings
            while (rounds < MOST_READINGS && smoothOnce(size)) {
                rounds++;
            }
            if (what == 0) {
                return rounds;
            }
            int sum = 0;
            for (int k = 0; k < size; k++) {
                sum += readings[k];
            }
            return sum;
        }

        /** Whether something changed. */
        private boolean smoothOnce(int size) {
            boolean changed = false;
            for (int k = 1; k < size - 1; k++) {
                smoother[k] = middle(readings[k - 1], readings[k], readings[k + 1]);
                changed = changed || smoother[k] != readings[k];
            }
            for (int k = 1; k < size - 1; k++) {
                readings[k] = smoother[k];
            }
            return changed;
        }

        private static int middle(int a, int b, int c) {
            return Math.max(Math.min(a, b), Math.min(Math.max(a, b), c));
        }

        int worstSpell(Tape tape, int n, int what) {
            int best = NO_SPELL;
            int begin = 0;
            int length = 0;
            for (int first = 0; first < n; first++) {
                int sum = 0;
                for (int last = first; last < n; last++) {
                    sum += tape.at(last) - 128;
                    if (sum > best) {
                        best = sum;
                        begin = first;
                        length = last - first + 1;
                    }
                }
            }
            if (what == 0) {
                return best;
            }
            return what == 1 ? begin : length;
        }

        /** To take always the one that ends first leaves the most hours for the others. */
        int mostSalutes(Tape tape, int n) {
            for (int k = 0; k < n; k++) {
                if (tape.at(2 * k + 1) < tape.at(2 * k)) {
                    return BAD_BYTES;
                }
            }
            int salutes = 0;
            int over = -1;
            for (int k = 0; k < n; k++) {
                int next = firstEnd(tape, n, over);
                if (next == NONE) {
                    return salutes;
                }
                salutes++;
                over = next;
            }
            return salutes;
        }

        private int firstEnd(Tape tape, int n, int over) {
            int first = NONE;
            for (int k = 0; k < n; k++) {
                int end = tape.at(2 * k + 1);
                if (tape.at(2 * k) > over && (first == NONE || end < first)) {
                    first = end;
                }
            }
            return first;
        }

        int highestOffer(Tape tape, int n, int what) {
            int who = 0;
            int next = 0;
            for (int k = 1; k < n; k++) {
                if (tape.at(k) > tape.at(who)) {
                    next = tape.at(who);
                    who = k;
                } else {
                    next = Math.max(next, tape.at(k));
                }
            }
            return what == 0 ? who : next;
        }
    }

    /** Crawls from thread to thread; knot 0 is the middle, then those of each ring by spokes. */
    static final class TornWeb {
        private static final int KNOTS = 65;
        private static final int FAR = 1000;

        private final int[] ways = new int[KNOTS];
        private final int[] line = new int[KNOTS];
        private int lined = 0;

        int threadsTo(Tape tape, int n, int ring, int spoke) {
            for (int k = 0; k < KNOTS; k++) {
                ways[k] = FAR;
            }
            lined = 0;
            reach(0, 0);
            for (int k = 0; k < lined && k < KNOTS; k++) {
                if (line[k] == 0) {
                    leaveMiddle(tape);
                } else {
                    leaveKnot(tape, n, line[k]);
                }
            }
            int way = wayTo(1 + ring * SPOKES + spoke);
            return way == FAR ? NOTHING : way;
        }

        private void leaveMiddle(Tape tape) {
            for (int s = 0; s < SPOKES; s++) {
                if (!isTorn(tape, 0, s)) {
                    reach(1 + s, 1);
                }
            }
        }

        private void leaveKnot(Tape tape, int n, int knot) {
            int ring = (knot - 1) / SPOKES;
            int s = (knot - 1) % SPOKES;
            int on = (s + 1) % SPOKES;
            int back = (s + SPOKES - 1) % SPOKES;
            int way = wayTo(knot) + 1;
            if (ring > 0 && !isTorn(tape, 2 * ring, s)) {
                reach(knot - SPOKES, way);
            }
            if (ring < n - 1 && !isTorn(tape, 2 * ring + 2, s)) {
                reach(knot + SPOKES, way);
            }
            if (!isTorn(tape, 2 * ring + 1, s)) {
                reach(knot - s + on, way);
            }
            if (!isTorn(tape, 2 * ring + 1, back)) {
                reach(knot - s + back, way);
            }
        }

        private static boolean isTorn(Tape tape, int place, int bit) {
            return (tape.at(place) >> bit & 1) == 1;
        }

        private int wayTo(int knot) {
            return within(knot, 0, KNOTS - 1) ? ways[knot] : FAR;
        }

        private void reach(int knot, int way) {
            if (within(knot, 0, KNOTS - 1) && ways[knot] == FAR && lined < KNOTS) {
                ways[knot] = way;
                line[lined] = knot;
                lined++;
            }
        }
    }
}
