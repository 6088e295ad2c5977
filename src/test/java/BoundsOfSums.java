import java.util.Arrays;

/** Boundary cases of the sums over bytes and of HANGS: the Terms of IN COMMON to RENT, and promises 19 to 26. */
final class BoundsOfSums {
    private static final int NONE = DraughtWebs.NONE;
    private static final int NO_SPELL = -1000000;
    private static final int[] FAR_OFF = {Integer.MIN_VALUE, Integer.MAX_VALUE};
    private static final String TERMS = "Terms";
    private static final String TAPE_STAYS = "NONE: no such ones, it has not so many (the tape stays)";

    private final Bounds due;

    private BoundsOfSums(Bounds due) {
        this.due = due;
    }

    static void ask(Bounds due) {
        BoundsOfSums all = new BoundsOfSums(due);
        all.inCommon();
        all.inCommonLengths();
        all.signsOfCodes();
        all.longestWords();
        all.codeLengths();
        all.crawls();
        all.crawlLengths();
        all.hangs();
        all.smoothed();
        all.smoothedLengths();
        all.spells();
        all.spellLengths();
        all.salutes();
        all.saluteLengths();
        all.rents();
        all.rentLengths();
    }

    private static int[] fill(int n, int value) {
        int[] all = new int[n];
        Arrays.fill(all, value);
        return all;
    }

    /** A new object with a full tape of one byte again and again. */
    private static DraughtWebs full(int value) {
        return Due.feed(new DraughtWebs(), fill(260, value));
    }

    private void empty(String call, DraughtWebs x) {
        due.is("bytes of the tape behind " + call, x.count(4), 0);
    }

    private void common(String a, String b, int want) {
        DraughtWebs x = Due.feed(new DraughtWebs(), a + b);
        due.is("in common of " + a + " and " + b, x.inCommon(a.length(), b.length()), want);
        empty("inCommon", x);
    }

    private void inCommon() {
        due.says(TERMS, "IN COMMON: the most bytes (any) that two rows of n, m bytes both have, in order, others between them "
                + "perhaps");
        common("a", "a", 1);
        common("a", "b", 0);
        common("ab", "ba", 1);
        common("abc", "axbxc", 3);
        common("a", "bbba", 1);
        common("abba", "b", 1);
        common("0123", "0213", 3);
        common("(8)*", "8*(", 2);
        common("ab".repeat(15), "ba".repeat(15), 29);
        common("a".repeat(30), "a".repeat(30), 30);
        common("a".repeat(30), "b".repeat(30), 0);
        common("a".repeat(29) + "b", "b" + "a".repeat(29), 29);
        due.is("bytes of 0 and of 255", Due.feed(new DraughtWebs(), 0, 255, 128, 0, 128).inCommon(3, 2), 2);
    }

    private void inCommonLengths() {
        due.says("Promise 19", "(1 to 30 each, n and m one behind the other) of the tape (empty then)");
        due.range("inCommon, n", 1, 30, n -> full(7).inCommon(n, 30) == n);
        due.range("inCommon, m", 1, 30, m -> full(7).inCommon(30, m) == m);
        due.is("what is behind does not count", Due.feed(new DraughtWebs(), "abcb").inCommon(1, 2), 0);
        due.is("what is behind does not count", Due.feed(new DraughtWebs(), "abca").inCommon(1, 3), 1);
        DraughtWebs x = full(7);
        due.is("60 of 260", x.inCommon(30, 30), 30);
        empty("inCommon", x);
        due.is("nothing behind as much as there may be", Due.feed(x, "ab").inCommon(1, 1), 0);
        x = Due.feed(new DraughtWebs(), fill(60, 7));
        due.is("60 of 60", x.inCommon(30, 30), 30);
        empty("inCommon", x);
        due.says("Promise 19", TAPE_STAYS);
        for (int n : new int[] {0, -1, 31, Integer.MIN_VALUE, Integer.MAX_VALUE}) {
            due.refuses("inCommon of " + n, NONE, y -> y.inCommon(n, 5));
            due.refuses("inCommon and " + n, NONE, y -> y.inCommon(5, n));
            due.refuses("inCommon twice " + n, NONE, y -> y.inCommon(n, n));
        }
        due.refuses("inCommon 1 1 of none", NONE, 0, y -> y.inCommon(1, 1));
        due.refuses("inCommon 10 11 of 20", NONE, 1, y -> y.inCommon(10, 11));
        due.refuses("inCommon 20 1 of 20", NONE, 1, y -> y.inCommon(20, 1));
        due.refuses("inCommon 11 30 of 40", NONE, 2, y -> y.inCommon(11, 30));
        due.is("10 and 10 of 20", State.fed(new DraughtWebs(), 1).inCommon(10, 10) != NONE, true);
        due.is("10 and 30 of 40", State.fed(new DraughtWebs(), 2).inCommon(10, 30) != NONE, true);
    }

    private void codeIs(int signs, int longest, int... often) {
        DraughtWebs x = new DraughtWebs();
        String kinds = Arrays.toString(often);
        due.is("signs for " + kinds, Due.feed(x, often).code(often.length, 0), signs);
        empty("code", x);
        due.is("longest for " + kinds, Due.feed(x, often).code(often.length, 1), longest);
        empty("code", x);
    }

    private void signsOfCodes() {
        due.says(TERMS, "A CODE for 2 to 12 kinds of touches, each so often (1 to 255): the least signs in all by words of two "
                + "signs none of which begins another one");
        codeIs(2, 1, 1, 1);
        codeIs(510, 1, 255, 255);
        codeIs(256, 1, 1, 255);
        codeIs(5, 2, 1, 1, 1);
        codeIs(44, 4, fill(12, 1));
        codeIs(44 * 255, 4, fill(12, 255));
        codeIs(24, 3, fill(8, 1));
        codeIs(29, 4, fill(9, 1));
    }

    private void longestWords() {
        due.says(TERMS, "the length of the longest word, if always the two rarest are put together to one "
                + "(of like ones those that were told, by their order, then those put together, by theirs)");
        codeIs(12, 2, 1, 1, 2, 2);
        codeIs(12, 2, 2, 2, 1, 1);
        codeIs(28, 3, 1, 1, 2, 2, 2, 3);
        codeIs(28, 3, 3, 2, 2, 2, 1, 1);
        codeIs(971, 11, 1, 1, 2, 3, 5, 8, 13, 21, 34, 55, 89, 144);
        codeIs(971, 11, 144, 89, 55, 34, 21, 13, 8, 5, 3, 2, 1, 1);
    }

    private void codeLengths() {
        due.says("Promise 20", "A CODE by the first n bytes of the tape (n 2 to 12; empty then)");
        due.range("code", 2, 12, n -> full(1).code(n, 0) > 0);
        due.range("code's what", 0, 1, what -> full(1).code(2, what) > 0);
        due.is("what is behind does not count", Due.feed(new DraughtWebs(), 5, 3, 0).code(2, 0), 8);
        DraughtWebs x = full(1);
        due.is("12 of 260", x.code(12, 0), 44);
        empty("code", x);
        due.is("as long as there may be", Due.feed(x, 1, 1, 2, 3, 5, 8, 13, 21, 34, 55, 89, 144).code(12, 1), 11);
        due.is("as short as there may be behind it", Due.feed(x, 1, 1).code(2, 1), 1);
        due.is("six behind it", Due.feed(x, 1, 1, 2, 3, 5, 8).code(6, 1), 5);
        due.is("twelve like ones behind six", Due.feed(x, fill(12, 1)).code(12, 1), 4);
        due.says("Promise 20", "-3: one of 0");
        for (int what = 0; what < 2; what++) {
            int asked = what;
            due.empties("code, the first of 0", -3, y -> y.code(2, asked), 0, 5);
            due.empties("code, the last of 0", -3, y -> y.code(3, asked), 5, 5, 0);
            due.empties("code, the last of twelve of 0", -3, y -> y.code(12, asked), 1, 2, 3, 4, 5, 6, 7, 8, 9, 10, 11, 0);
            due.empties("code, all of 0", -3, y -> y.code(12, asked), new int[12]);
        }
        due.says("Promise 20", TAPE_STAYS);
        for (int n : new int[] {1, 0, -1, 13, 260, Integer.MIN_VALUE, Integer.MAX_VALUE}) {
            due.refuses("code " + n, NONE, y -> y.code(n, 0));
        }
        for (int what : new int[] {-1, 2, Integer.MIN_VALUE, Integer.MAX_VALUE}) {
            due.refuses("code what " + what, NONE, y -> y.code(2, what));
        }
        due.refuses("code 2 of none", NONE, 0, y -> y.code(2, 0));
        due.refuses("code 12 of none", NONE, 0, y -> y.code(12, 1));
    }

    private void crawl(int want, int n, int ring, int spoke, int... torn) {
        DraughtWebs x = Due.feed(new DraughtWebs(), torn);
        due.is("crawls in " + Arrays.toString(torn) + " to " + ring + " " + spoke, x.crawls(n, ring, spoke), want);
        empty("crawls", x);
    }

    /** Each ring can be entered by one spoke and is torn ahead of it, so that all of it must be crawled. */
    private static int[] spiral() {
        int[] torn = new int[16];
        for (int ring = 0; ring < 8; ring++) {
            int entry = (8 - ring) % 8;
            torn[2 * ring] = 255 - (1 << entry);
            torn[2 * ring + 1] = 1 << (entry + 7) % 8;
        }
        return torn;
    }

    private void crawls() {
        due.says(TERMS, "CRAWLS: a torn web of 1 to 8 rings by 8 SPOKES: of each ring two bytes: bits of SPOKES whose thread "
                + "from the ring inside (the middle for the first) is torn, bits of arcs that are torn (of each SPOKE the one to "
                + "the next SPOKE, of 7 to 0): the fewest threads from the middle to a ring's SPOKE");
        for (int s = 0; s < 8; s++) {
            crawl(1, 1, 0, s, 0, 0);
            crawl(1, 1, 0, s, 0, 255);
            crawl(8, 8, 7, s, new int[16]);
            crawl(2, 1, 0, s, 1 << s, 0);
            crawl(2, 1, 0, s, 1 << s, 1 << s);
            crawl(2, 1, 0, s, 1 << s, 1 << (s + 7) % 8);
            crawl(-2, 1, 0, s, 1 << s, 1 << s | 1 << (s + 7) % 8);
            crawl(-2, 1, 0, s, 255, 0);
            crawl(8, 1, 0, (s + 7) % 8, 255 - (1 << s), 1 << (s + 7) % 8);
            crawl(2, 1, 0, (s + 7) % 8, 255 - (1 << s), 1 << s);
            crawl(5, 1, 0, (s + 4) % 8, 255 - (1 << s), 0);
        }
        crawl(2, 1, 0, 7, 254, 0);
        crawl(2, 1, 0, 0, 127, 0);
        crawl(8, 1, 0, 0, 127, 128);
        crawl(64, 8, 7, 0, spiral());
        crawl(57, 8, 7, 1, spiral());
        crawl(8, 8, 0, 7, spiral());
        int[] torn = spiral();
        torn[15] = 255;
        crawl(-2, 8, 7, 0, torn);
        crawl(57, 8, 7, 1, torn);
        torn[0] = 255;
        crawl(-2, 8, 7, 1, torn);
        int[] inward = {254, 255, 0, 255, 222, 0};
        crawl(6, 3, 2, 5, inward);
        crawl(7, 3, 1, 5, inward);
        crawl(8, 3, 0, 5, inward);
        crawl(-2, 3, 1, 4, inward);
        crawl(-2, 3, 0, 4, inward);
        crawl(6, 2, 0, 3, 254, 255, 0, 0);
        crawl(-2, 1, 0, 3, 254, 255, 0, 0);
        crawl(-2, 8, 7, 7, fill(16, 255));
    }

    private void crawlLengths() {
        String promise = "Promise 21";
        due.says(promise, "CRAWLS in a web of n rings (1 to 8) by the first 2 n bytes of the tape (empty then) to a ring "
                + "(0 to n - 1) and SPOKE: threads");
        due.range("crawls", 1, 8, n -> full(0).crawls(n, 0, 0) == 1);
        for (int n = 1; n <= 8; n++) {
            int rings = n;
            due.range("crawls to ring", 0, n - 1, ring -> full(0).crawls(rings, ring, 0) > 0);
        }
        due.range("crawls to spoke", 0, 7, spoke -> full(0).crawls(1, 0, spoke) == 1);
        DraughtWebs x = full(0);
        due.is("16 of 260", x.crawls(8, 7, 7), 8);
        empty("crawls", x);
        due.is("as far as there may be", Due.feed(x, spiral()).crawls(8, 7, 0), 64);
        due.is("as near as there may be behind it", Due.feed(x, 0, 0).crawls(1, 0, 0), 1);
        due.is("all torn behind it", Due.feed(x, 255, 255).crawls(1, 0, 0), -2);
        due.is("all whole behind it", Due.feed(x, 0, 0).crawls(1, 0, 7), 1);
        due.says(promise, "-2: it can't");
        due.empties("crawls, all torn", -2, y -> y.crawls(8, 7, 7), fill(16, 255));
        due.empties("crawls, the last ring torn off", -2, y -> y.crawls(2, 1, 0), 0, 0, 255, 0);
        due.says(promise, TAPE_STAYS);
        for (int n : new int[] {0, -1, 9, Integer.MIN_VALUE, Integer.MIN_VALUE / 2, Integer.MAX_VALUE}) {
            due.refuses("crawls " + n, NONE, y -> y.crawls(n, 0, 0));
        }
        for (int k : new int[] {-1, 8, Integer.MIN_VALUE, Integer.MAX_VALUE}) {
            due.refuses("crawls to ring " + k, NONE, y -> y.crawls(8, k, 0));
            due.refuses("crawls to spoke " + k, NONE, y -> y.crawls(8, 0, k));
        }
        due.refuses("crawls to ring 1 of 1", NONE, y -> y.crawls(1, 1, 0));
        due.refuses("crawls to ring 7 of 7", NONE, y -> y.crawls(7, 7, 0));
        for (int n = 1; n <= 8; n++) {
            int rings = n;
            due.refuses("crawls of an empty tape", NONE, 0, y -> y.crawls(rings, 0, 0));
        }
    }

    private void hangs() {
        due.says(TERMS, "HANGS: in how many ways a web of n SPOKES (3 to 30), one ring, can hang together by as few threads as "
                + "will do (n SPOKES from the middle, n arcs)");
        long[] ways = {0, 0, 0, 16, 45, 121, 320, 841, 2205};
        for (int n = 3; n <= 8; n++) {
            due.is("hangs " + n, new DraughtWebs().hangs(n), ways[n]);
            due.is("counted one by one, " + n, countedTrees(n), ways[n]);
        }
        due.says("Promise 22", "HANGS, a web of n SPOKES (3 to 30): ways");
        due.range("hangs", 3, 30, n -> new DraughtWebs().hangs(n) > 0);
        due.is("more than 32 bits", new DraughtWebs().hangs(24), 10749957120L);
        due.is("the most", new DraughtWebs().hangs(30), 3461452808000L);
        due.says("Promise 22", "NONE: no such n");
        for (int n : new int[] {2, 1, 0, -1, 31, Integer.MIN_VALUE, Integer.MAX_VALUE}) {
            due.refuses("hangs " + n, NONE, x -> x.hangs(n));
        }
    }

    /** Every choice of n of the 2 n threads by which all n + 1 knots hang together. */
    private static int countedTrees(int n) {
        int trees = 0;
        for (int threads = 0; threads < 1 << 2 * n; threads++) {
            if (Integer.bitCount(threads) == n && hangsTogether(n, threads)) {
                trees++;
            }
        }
        return trees;
    }

    private static boolean hangsTogether(int n, int threads) {
        int[] knots = new int[n + 1];
        for (int k = 0; k <= n; k++) {
            knots[k] = k;
        }
        for (int t = 0; t < 2 * n; t++) {
            if ((threads >> t & 1) == 1) {
                int from = knots[t % n];
                int to = t < n ? knots[n] : knots[(t + 1) % n];
                for (int k = 0; k <= n; k++) {
                    knots[k] = knots[k] == from ? to : knots[k];
                }
            }
        }
        return Arrays.stream(knots).allMatch(knot -> knot == knots[0]);
    }

    private void smooth(int rounds, int sum, int... readings) {
        DraughtWebs x = new DraughtWebs();
        String all = Arrays.toString(readings);
        due.is("rounds of " + all, Due.feed(x, readings).smoothed(readings.length, 0), rounds);
        empty("smoothed", x);
        due.is("sum of " + all, Due.feed(x, readings).smoothed(readings.length, 1), sum);
        empty("smoothed", x);
    }

    private void smoothed() {
        due.says(TERMS, "SMOOTHED: of 3 to 30 readings (bytes) each but the first and last one becomes the middle one of three by "
                + "height (the one ahead, it, the one behind), all at once, again and again: how many rounds there are in which "
                + "something changes; the sum of all in the end");
        smooth(0, 0, 0, 0, 0);
        smooth(0, 765, 255, 255, 255);
        smooth(0, 6, 1, 2, 3);
        smooth(0, 6, 3, 2, 1);
        smooth(1, 765, 255, 0, 255);
        smooth(1, 0, 0, 255, 0);
        smooth(1, 12, 5, 9, 2, 0);
        smooth(1, 20, 5, 1, 9, 5);
        smooth(0, 30 * 255, fill(30, 255));
        int[] zigzag = new int[30];
        for (int k = 1; k < 30; k += 2) {
            zigzag[k] = 255;
        }
        smooth(14, 15 * 255, zigzag);
        smooth(14, 0, Arrays.copyOf(zigzag, 29));
    }

    private void smoothedLengths() {
        String promise = "Promise 23";
        due.says(promise, "SMOOTHED, the first n bytes of the tape (n 3 to 30; empty then), what 0 how often, 1 the sum");
        due.range("smoothed", 3, 30, n -> full(2).smoothed(n, 1) == 2 * n);
        due.range("smoothed what", 0, 1, what -> full(2).smoothed(3, what) == 6 * what);
        due.is("what is behind does not count", Due.feed(new DraughtWebs(), 1, 2, 9, 0).smoothed(3, 1), 12);
        DraughtWebs x = full(2);
        due.is("30 of 260", x.smoothed(30, 0), 0);
        empty("smoothed", x);
        due.says(promise, TAPE_STAYS);
        for (int n : new int[] {2, 1, 0, -1, 31, 260, Integer.MIN_VALUE, Integer.MAX_VALUE}) {
            due.refuses("smoothed " + n, NONE, y -> y.smoothed(n, 1));
        }
        for (int what : new int[] {-1, 2, Integer.MIN_VALUE, Integer.MAX_VALUE}) {
            due.refuses("smoothed what " + what, NONE, y -> y.smoothed(3, what));
        }
        due.refuses("smoothed 3 of none", NONE, 0, y -> y.smoothed(3, 1));
        due.refuses("smoothed 21 of 20", NONE, 1, y -> y.smoothed(21, 1));
        due.refuses("smoothed 30 of 20", NONE, 1, y -> y.smoothed(30, 0));
        due.is("20 of 20", State.fed(new DraughtWebs(), 1).smoothed(20, 0) != NONE, true);
    }

    private void spell(int sum, int begins, int length, int... bytes) {
        DraughtWebs x = new DraughtWebs();
        int[] want = {sum, begins, length};
        for (int what = 0; what < 3; what++) {
            due.is("spell " + what + " of " + Arrays.toString(bytes), Due.feed(x, bytes).spell(bytes.length, what), want[what]);
            empty("spell", x);
        }
    }

    private void spells() {
        due.says(TERMS, "A SPELL: of 1 to 40 readings (bytes, 128 less) the greatest sum of a row of them (one at least); where it "
                + "begins (of like ones the first, then the shortest)");
        spell(-128, 0, 1, 0);
        spell(0, 0, 1, 128);
        spell(127, 0, 1, 255);
        spell(-1, 0, 1, 127, 127);
        spell(-1, 1, 1, 126, 127, 126);
        spell(-128, 0, 1, fill(40, 0));
        spell(40 * 127, 0, 40, fill(40, 255));
        spell(0, 0, 1, fill(40, 128));
        spell(5, 0, 1, 133, 123, 133);
        spell(5, 0, 1, 133, 128, 128);
        spell(5, 0, 2, 128, 133, 128);
        spell(5, 1, 1, 127, 133, 128);
        spell(9, 0, 3, 133, 127, 133);
        spell(127, 39, 1, 0, 0, 0, 0, 0, 0, 0, 0, 0, 0, 0, 0, 0, 0, 0, 0, 0, 0, 0, 0, 0, 0, 0, 0, 0, 0, 0, 0, 0, 0, 0, 0, 0, 0, 0,
                0, 0, 0, 0, 255);
    }

    private void spellLengths() {
        String promise = "Promise 24";
        due.says(promise, "A SPELL of the first n bytes of the tape (n 1 to 40; empty then), what 0 the sum (may be below 0), "
                + "1 where it begins, 2 how long");
        due.range("spell", 1, 40, n -> full(129).spell(n, 0) == n);
        due.range("spell what", 0, 2, what -> full(129).spell(2, what) != NO_SPELL);
        due.is("below 0", full(0).spell(40, 0), -128);
        due.is("what is behind does not count", Due.feed(new DraughtWebs(), 129, 130).spell(1, 0), 1);
        DraughtWebs x = full(129);
        due.is("40 of 260", x.spell(40, 2), 40);
        empty("spell", x);
        due.says(promise, "-1000000: no such ones, it has not so many (the tape stays)");
        for (int n : new int[] {0, -1, 41, 260, Integer.MIN_VALUE, Integer.MAX_VALUE}) {
            due.refuses("spell " + n, NO_SPELL, y -> y.spell(n, 0));
        }
        for (int what : new int[] {-1, 3, Integer.MIN_VALUE, Integer.MAX_VALUE}) {
            due.refuses("spell what " + what, NO_SPELL, y -> y.spell(5, what));
        }
        due.refuses("spell 1 of none", NO_SPELL, 0, y -> y.spell(1, 0));
        due.refuses("spell 21 of 20", NO_SPELL, 1, y -> y.spell(21, 0));
        due.refuses("spell 40 of 20", NO_SPELL, 1, y -> y.spell(40, 2));
        due.is("20 of 20", State.fed(new DraughtWebs(), 1).spell(20, 0) != NO_SPELL, true);
        due.is("40 of 40", State.fed(new DraughtWebs(), 2).spell(40, 0) != NO_SPELL, true);
    }

    private void salute(int want, int... ends) {
        DraughtWebs x = Due.feed(new DraughtWebs(), ends);
        due.is("salutes of " + Arrays.toString(ends), x.salutes(ends.length / 2), want);
        empty("salutes", x);
    }

    private void salutes() {
        due.says(TERMS, "SALUTES: 1 to 12 (from, to: bytes, to no less): the most of which no two have an hour in common "
                + "(both ends count)");
        salute(1, 0, 0);
        salute(1, 255, 255);
        salute(1, 0, 255);
        salute(2, 0, 4, 5, 9);
        salute(1, 0, 5, 5, 9);
        salute(2, 5, 9, 0, 4);
        salute(1, 5, 9, 0, 5);
        salute(2, 0, 0, 255, 255);
        salute(2, 0, 0, 1, 1, 0, 1);
        salute(1, 7, 7, 7, 7, 7, 7);
        salute(2, 0, 9, 8, 12, 11, 20);
        salute(12, 0, 0, 1, 1, 2, 2, 3, 3, 4, 4, 5, 5, 6, 6, 7, 7, 8, 8, 9, 9, 10, 10, 255, 255);
        salute(1, fill(24, 200));
    }

    private void saluteLengths() {
        String promise = "Promise 25";
        due.says(promise, "SALUTES by the first 2 n bytes of the tape (from, to; n 1 to 12; empty then): how many");
        due.range("salutes", 1, 12, n -> full(7).salutes(n) == 1);
        due.is("what is behind does not count", Due.feed(new DraughtWebs(), 1, 2, 4, 3).salutes(1), 1);
        due.is("what is behind does not count", Due.feed(new DraughtWebs(), 1, 2, 3, 4).salutes(1), 1);
        DraughtWebs x = full(7);
        due.is("24 of 260", x.salutes(12), 1);
        empty("salutes", x);
        due.says(promise, "-3: to before from");
        due.empties("salutes, the only one", -3, y -> y.salutes(1), 1, 0);
        due.empties("salutes, the only one", -3, y -> y.salutes(1), 255, 254);
        due.empties("salutes, the last of twelve", -3, y -> y.salutes(12),
                0, 1, 0, 1, 0, 1, 0, 1, 0, 1, 0, 1, 0, 1, 0, 1, 0, 1, 0, 1, 0, 1, 1, 0);
        due.says(promise, "NONE: no such n, it has not so many (the tape stays)");
        for (int n : new int[] {0, -1, 13, 130, Integer.MIN_VALUE, Integer.MIN_VALUE / 2, Integer.MAX_VALUE}) {
            due.refuses("salutes " + n, NONE, y -> y.salutes(n));
        }
        due.refuses("salutes 1 of none", NONE, 0, y -> y.salutes(1));
        due.refuses("salutes 11 of 20", NONE, 1, y -> y.salutes(11));
        due.refuses("salutes 12 of 20", NONE, 1, y -> y.salutes(12));
        due.is("10 of 20", Due.feed(new DraughtWebs(), fill(20, 7)).salutes(10), 1);
    }

    private void rent(int who, int much, int... offers) {
        DraughtWebs x = new DraughtWebs();
        String all = Arrays.toString(offers);
        due.is("who of " + all, Due.feed(x, offers).rent(offers.length, 0), who);
        empty("rent", x);
        due.is("for how much of " + all, Due.feed(x, offers).rent(offers.length, 1), much);
        empty("rent", x);
    }

    private void rents() {
        due.says(TERMS, "RENT: 2 to 12 offers (bytes): the highest has it (of like ones the first) for what the next one offered");
        rent(0, 0, 0, 0);
        rent(0, 255, 255, 255);
        rent(1, 0, 0, 1);
        rent(0, 0, 1, 0);
        rent(1, 254, 254, 255);
        rent(1, 9, 5, 9, 9);
        rent(1, 9, 5, 9, 2, 9);
        rent(2, 5, 5, 5, 9);
        rent(11, 254, 0, 254, 0, 0, 0, 0, 0, 0, 0, 0, 0, 255);
        rent(0, 11, 12, 1, 2, 3, 4, 5, 6, 7, 8, 9, 10, 11);
    }

    private void rentLengths() {
        String promise = "Promise 26";
        due.says(promise, "RENT by the first n bytes of the tape (n 2 to 12; empty then), what 0 who, 1 for how much");
        due.range("rent", 2, 12, n -> full(7).rent(n, 1) == 7);
        due.range("rent what", 0, 1, what -> full(7).rent(2, what) == 7 * what);
        due.is("what is behind does not count", Due.feed(new DraughtWebs(), 5, 3, 9).rent(2, 0), 0);
        DraughtWebs x = full(7);
        due.is("12 of 260", x.rent(12, 0), 0);
        empty("rent", x);
        due.says(promise, TAPE_STAYS);
        for (int n : new int[] {1, 0, -1, 13, 260, Integer.MIN_VALUE, Integer.MAX_VALUE}) {
            due.refuses("rent " + n, NONE, y -> y.rent(n, 0));
        }
        for (int what : new int[] {-1, 2}) {
            due.refuses("rent what " + what, NONE, y -> y.rent(2, what));
        }
        for (int what : FAR_OFF) {
            due.refuses("rent what " + what, NONE, y -> y.rent(2, what));
        }
        due.refuses("rent 2 of none", NONE, 0, y -> y.rent(2, 0));
        due.refuses("rent 12 of none", NONE, 0, y -> y.rent(12, 1));
    }
}
