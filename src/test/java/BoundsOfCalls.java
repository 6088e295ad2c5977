import java.util.Map;
import java.util.TreeMap;
import java.util.function.ToLongFunction;

/** Boundary cases of what an object has: promises 1 to 3, 8, 9 and 27 to 31, and what the Terms say of all calls. */
final class BoundsOfCalls {
    private static final int NONE = DraughtWebs.NONE;
    private static final int[] BEYOND_EIGHT = {-1, 8, Integer.MIN_VALUE, Integer.MAX_VALUE};
    private static final String TERMS = "Terms";

    private final Bounds due;

    private BoundsOfCalls(Bounds due) {
        this.due = due;
    }

    static void ask(Bounds due) {
        BoundsOfCalls all = new BoundsOfCalls(due);
        all.aNewObject();
        all.refusedCalls();
        all.tension();
        all.feed();
        all.webIs();
        all.fleetIs();
        all.seed();
        all.kept();
        all.notToldThen();
        all.undo();
        all.check();
        all.checkLengths();
        all.count();
    }

    private void aNewObject() {
        due.says(TERMS, "The constants: `NONE = -1`: There is none");
        due.is("NONE", NONE, -1);
        due.says("Promise 1", "No CHART, LAW; THE SEED 1");
        DraughtWebs x = new DraughtWebs();
        int[] counts = {0, 0, 0, 0, 0, 1, 0};
        for (int what = 0; what < counts.length; what++) {
            due.is("count " + what, x.count(what), counts[what]);
        }
        for (int k = -1; k < 9; k++) {
            due.is("web " + k, x.webIs(k, 0), NONE);
            due.is("fleet " + k, x.fleetIs(k, 0), NONE);
            due.is("tension of " + k, x.tension(k, 0, 5), false);
            due.is("feels of " + k, x.feels(k, 0), NONE);
            due.is("when of " + k, x.when(k, 0, 1), NONE);
            due.is("share of " + k, x.share(k), NONE);
            due.is("bearings of " + k, x.bearings(k, 0, k + 1, 0), NONE);
        }
        due.is("touches", x.hours(100), 0);
        due.is("X without a touch", x.count(5), 1);
        DraughtWebs y = new DraughtWebs();
        Due.chart(x, "a@1,1");
        due.is("another object has its own chart", y.count(1), 0);
    }

    /** Every call that has numbers of its own, with numbers that it does not take, and what it answers then. */
    private static Map<String, ToLongFunction<DraughtWebs>> wild(int a) {
        Map<String, ToLongFunction<DraughtWebs>> calls = new TreeMap<>();
        calls.put("tension", x -> x.tension(a, a, a) ? 1 : NONE);
        calls.put("law", x -> x.law(a));
        calls.put("chart", x -> x.chart(a));
        calls.put("hours", x -> x.hours(a));
        calls.put("tried", x -> x.tried(a, a));
        calls.put("webIs", x -> x.webIs(a, a));
        calls.put("fleetIs", x -> x.fleetIs(a, a));
        calls.put("feels", x -> x.feels(a, a));
        calls.put("when", x -> x.when(a, a, a));
        calls.put("fix", x -> x.fix(a, a));
        calls.put("bearings", x -> x.bearings(a, a, a, a));
        calls.put("allTheSea", x -> x.allTheSea(a, a));
        calls.put("quiet", x -> x.quiet(a, a));
        calls.put("nearest", x -> x.nearest(a, a));
        calls.put("share", x -> x.share(a));
        calls.put("log", x -> x.log(a, a));
        calls.put("inCommon", x -> x.inCommon(a, a));
        calls.put("code", x -> x.code(a, a));
        calls.put("crawls", x -> x.crawls(a, a, a));
        calls.put("hangs", x -> x.hangs(a));
        calls.put("smoothed", x -> x.smoothed(a, a));
        calls.put("spell", x -> x.spell(a, a) == -1000000 ? NONE : 0);
        calls.put("salutes", x -> x.salutes(a));
        calls.put("rent", x -> x.rent(a, a));
        calls.put("seed", x -> x.seed(a) ? 1 : NONE);
        calls.put("check", x -> x.check(a) == -2 ? NONE : 0);
        calls.put("count", x -> x.count(a));
        return calls;
    }

    private void refusedCalls() {
        due.says(TERMS, "A call that is refused (NONE, false) changes nothing but the tape, where it is told");
        for (int a : new int[] {-1, -2, 65536, Integer.MIN_VALUE, Integer.MAX_VALUE}) {
            Map<String, ToLongFunction<DraughtWebs>> calls = wild(a);
            for (Map.Entry<String, ToLongFunction<DraughtWebs>> call : calls.entrySet()) {
                due.refuses(call.getKey() + " of " + a, NONE, call.getValue());
                due.refuses(call.getKey() + " of " + a, NONE, 0, call.getValue());
            }
        }
        due.refuses("feed of a full tape", NONE, x -> x.feed(1, 2, 3, 4, 5));
    }

    private void tension() {
        due.says("Promise 2", "TENSION of a SPOKE of a told WEB: true; false: no such ones");
        due.range("tension of spoke", 0, 7, s -> Due.at("a@5,5").tension(0, s, 50));
        due.range("tension of", 0, 99, v -> Due.at("a@5,5").tension(0, 7, v));
        due.range("tension of web", 0, 7, p -> toldAll().tension(p, 0, 5));
        for (int p : new int[] {-1, 1, 6, 8, Integer.MIN_VALUE, Integer.MAX_VALUE}) {
            due.refuses("tension of web " + p, 0, x -> x.tension(p, 0, 5) ? 1 : 0);
        }
        for (int s : BEYOND_EIGHT) {
            due.refuses("tension of spoke " + s, 0, x -> x.tension(0, s, 5) ? 1 : 0);
        }
        for (int v : new int[] {-1, 100, Integer.MIN_VALUE, Integer.MAX_VALUE}) {
            due.refuses("tension " + v, 0, x -> x.tension(0, 0, v) ? 1 : 0);
        }
        DraughtWebs x = toldAll();
        for (int v : new int[] {0, 1, 98, 99}) {
            due.is("tension " + v, x.tension(7, 7, v), true);
            due.is("set", x.webIs(7, 7), v);
            due.is("no other one", x.count(6), 63 * 99 + v);
        }
    }

    private static DraughtWebs toldAll() {
        DraughtWebs x = new DraughtWebs();
        State.fed(x, 8).chart(160);
        return x;
    }

    private void feed() {
        due.says("Promise 3", "Twenty bytes come behind the tape, the highest of each int first: how many it has");
        DraughtWebs x = new DraughtWebs();
        for (int k = 1; k <= 13; k++) {
            due.is("feed " + k, x.feed(0, 0, 0, 0, k), 20 * k);
            due.is("the tape", x.count(4), 20 * k);
        }
        for (int k = 0; k < 12; k++) {
            int[] five = new int[5];
            five[k / 4] = 1 << 24 - 8 * (k % 4);
            x = new DraughtWebs();
            x.feed(five[0], five[1], five[2], five[3], five[4]);
            due.is("byte " + k, x.rent(12, 0), k == 0 ? 0 : k);
        }
        for (int k = 0; k < 20; k++) {
            int[] five = new int[5];
            five[k / 4] = 255 << 24 - 8 * (k % 4);
            x = new DraughtWebs();
            x.feed(five[0], five[1], five[2], five[3], five[4]);
            due.is("byte " + k + " of 255", x.spell(20, 1), k);
        }
        x = new DraughtWebs();
        x.feed(-1, -1, -1, -1, -1);
        due.is("bytes of 255", x.rent(12, 1), 255);
        x.feed(Integer.MIN_VALUE, 0, 0, 0, 0);
        due.is("a byte of 128", x.rent(2, 0) == 0 && x.count(4) == 0, true);
        x.feed(0, 0, 0, 0, 255);
        x.feed(255 << 24, 0, 0, 0, 0);
        due.is("the next ones come behind", x.spell(40, 2), 2);
        due.says("Promise 3", "NONE if that would be more than 260");
        due.refuses("feed of 260", NONE, 13, y -> y.feed(-1, -1, -1, -1, -1));
        x = State.fed(new DraughtWebs(), 12);
        due.is("feed of 240", x.feed(1, 2, 3, 4, 5), 260);
        due.is("feed of 260", x.feed(1, 2, 3, 4, 5), NONE);
        due.is("the tape", x.count(4), 260);
        due.is("it is emptied", x.chart(160), 16);
        due.is("feed of an empty one", x.feed(1, 2, 3, 4, 5), 20);
    }

    private void webIs() {
        due.says("Promise 8", "Of a told WEB, what 0 to 7 TENSION of that SPOKE, 10 its PLACE, 11 SPOKES of TENSION 0 (bits)");
        DraughtWebs x = Due.at("a@0,0;h@23,15");
        due.is("no spoke of 0", x.webIs(7, 11), 0);
        for (int s = 0; s < 8; s++) {
            x.tension(7, s, s);
            x.tension(0, s, 0);
        }
        for (int s = 0; s < 8; s++) {
            due.is("spoke " + s, x.webIs(7, s), s);
        }
        due.is("place", x.webIs(0, 10), 0);
        due.is("place", x.webIs(7, 10), 383);
        due.is("one spoke of 0", x.webIs(7, 11), 1);
        due.is("all spokes of 0", x.webIs(0, 11), 255);
        x.tension(7, 0, 1);
        x.tension(7, 7, 0);
        due.is("the last spoke of 0", x.webIs(7, 11), 128);
        due.says("Promise 8", "NONE for others");
        for (int what : new int[] {-1, 8, 9, 12, Integer.MIN_VALUE, Integer.MAX_VALUE}) {
            due.refuses("webIs what " + what, NONE, y -> y.webIs(0, what));
        }
        for (int p : new int[] {-1, 1, 6, 8, Integer.MIN_VALUE, Integer.MAX_VALUE}) {
            for (int asked : new int[] {0, 7, 10, 11}) {
                due.refuses("webIs of " + p + ", " + asked, NONE, y -> y.webIs(p, asked));
            }
        }
    }

    private void fleetIs() {
        due.says("Promise 9", "Of a told FLEET, what 0 its PLACE, 1 FORCE, 2 COURSE (none: -2)");
        DraughtWebs x = Due.at("A@0,0:0;H@23,15:99>7;B@5,5:7>0");
        due.is("place", x.fleetIs(0, 0), 0);
        due.is("force", x.fleetIs(0, 1), 0);
        due.is("no course", x.fleetIs(0, 2), -2);
        due.is("place", x.fleetIs(7, 0), 383);
        due.is("force", x.fleetIs(7, 1), 99);
        due.is("course", x.fleetIs(7, 2), 7);
        due.is("course 0 is one", x.fleetIs(1, 2), 0);
        due.says("Promise 9", "NONE for others");
        for (int what : new int[] {-1, 3, 10, 11, Integer.MIN_VALUE, Integer.MAX_VALUE}) {
            due.refuses("fleetIs what " + what, NONE, y -> y.fleetIs(0, what));
        }
        for (int f : new int[] {-1, 1, 6, 8, Integer.MIN_VALUE, Integer.MAX_VALUE}) {
            for (int what = 0; what < 3; what++) {
                int asked = what;
                due.refuses("fleetIs of " + f + ", " + what, NONE, y -> y.fleetIs(f, asked));
            }
        }
    }

    private void seed() {
        due.says("Promise 27", "THE SEED (0 to 65535; X, too): true; false: no such number");
        for (int seed : new int[] {0, 1, 65534, 65535}) {
            DraughtWebs x = State.rich();
            due.is("seed " + seed, x.seed(seed), true);
            due.is("X", x.count(5), seed);
        }
        for (int seed : new int[] {-1, 65536, 65537, Integer.MIN_VALUE, Integer.MAX_VALUE}) {
            due.refuses("seed " + seed, 0, x -> x.seed(seed) ? 1 : 0);
        }
    }

    private void kept() {
        due.says("Promise 28", "KEPT: THE HOUR");
        DraughtWebs x = Due.at("a@5,5;A@22,5:99>2;B@5,5:9");
        due.is("keep at first", x.keep(), 0);
        Due.law(x, "t9(1=1)");
        x.hours(2);
        due.is("keep at 2", x.keep(), 2);
        due.says(TERMS, "KEPT: TENSIONS, FLEETS' PLACES, COURSES, THE HOUR, X; UNDONE: as they were KEPT last");
        String then = State.of(x);
        x.hours(50);
        x.tension(0, 0, 1);
        x.seed(5);
        due.is("undo", x.undo(), true);
        due.same("undone", State.of(x), then);
        due.is("turned about", x.fleetIs(0, 2), 6);
        due.is("no course", x.fleetIs(1, 2), -2);
    }

    private void notToldThen() {
        due.says(TERMS, "KEPT: TENSIONS, FLEETS' PLACES, COURSES, THE HOUR, X; UNDONE: as they were KEPT last "
                + "(WEBS, FLEETS not told then stay as they are now; PLACES of WEBS, FORCES stay)");
        DraughtWebs x = Due.at("a@1,1;c@2,2;A@5,5:9>2;C@6,6:5>4");
        x.tension(0, 7, 10);
        x.tension(2, 0, 20);
        x.keep();
        x.hours(7);
        Due.chart(x, "a@9,9;b@3,3;A@7,7:20;B@1,2:3>1");
        x.tension(0, 0, 40);
        x.tension(1, 1, 30);
        due.is("undo", x.undo(), true);
        due.is("told webs", x.count(1), 3);
        due.is("told fleets", x.count(2), 3);
        due.is("tensions of a as they were kept", x.webIs(0, 7), 10);
        due.is("tensions of a as they were kept", x.webIs(0, 0), 99);
        due.is("the place of a stays", x.webIs(0, 10), 225);
        due.is("b was not told then", x.webIs(1, 1), 30);
        due.is("c is not told now", x.webIs(2, 0), NONE);
        due.is("the place of A as it was kept", x.fleetIs(0, 0), 125);
        due.is("the course of A as it was kept", x.fleetIs(0, 2), 2);
        due.is("the force of A stays", x.fleetIs(0, 1), 20);
        due.is("B was not told then", x.fleetIs(1, 0), 49);
        due.is("B was not told then", x.fleetIs(1, 2), 1);
        due.is("C is not told now", x.fleetIs(2, 0), NONE);
        due.is("the hour", x.count(0), 0);
        Due.chart(x, "c@4,4;C@6,7:8");
        due.is("told anew: tension 99", x.webIs(2, 0), 99);
        due.is("told anew: its place", x.fleetIs(2, 0), 174);
        x.undo();
        due.is("undone again", x.webIs(2, 0), 20);
        due.is("undone again", x.fleetIs(2, 0), 150);
        due.is("undone again", x.fleetIs(2, 2), 4);
        DraughtWebs y = new DraughtWebs();
        y.keep();
        Due.chart(y, "a@1,1;A@2,2:9>2");
        y.tension(0, 0, 7);
        y.hours(1);
        due.is("nothing was told then", y.undo(), true);
        due.is("all stays", y.webIs(0, 0), 7);
        due.is("all stays", y.fleetIs(0, 0), 51);
        due.is("but the hour", y.count(0), 0);
        due.is("and X", y.count(5), 1);
    }

    private void undo() {
        due.says("Promise 29", "UNDONE: true; false: none was KEPT");
        DraughtWebs x = Due.at("a@5,5;A@5,5:9>2");
        x.hours(3);
        String now = State.of(x);
        due.is("none was kept", x.undo(), false);
        due.same("refused", State.of(x), now);
        x.keep();
        x.hours(1);
        due.is("undo", x.undo(), true);
        due.same("undone", State.of(x), now);
        due.is("undo again", x.undo(), true);
        due.same("undone", State.of(x), now);
        DraughtWebs y = State.fed(State.rich(), 5);
        y.undo();
        due.is("the tape stays", y.count(4), 100);
        due.is("the law stays", y.count(3), 4);
    }

    private DraughtWebs slack() {
        DraughtWebs x = Due.at("a@1,1;c@2,2;h@3,3");
        for (int s = 0; s < 8; s++) {
            x.tension(2, s, 0);
        }
        x.tension(7, 3, 0);
        return x;
    }

    private void check() {
        due.says(TERMS, "CHECK: how many SPOKES of TENSION 0 each WEB has: right, or the first that is not so");
        int[] right = {0, 255, 8, 255, 255, 255, 255, 1};
        for (int n = 0; n <= 8; n++) {
            due.is("the first " + n, Due.feed(slack(), right).check(n), NONE);
        }
        for (int k = 0; k < 8; k++) {
            for (int wrong : new int[] {right[k] ^ 1, right[k] ^ 128, right[k] == 255 ? 0 : 255}) {
                int[] bytes = right.clone();
                bytes[k] = wrong;
                bytes[7] = k < 7 ? 77 : wrong;
                due.is("not so: " + k, Due.feed(slack(), bytes).check(8), k);
                due.is("not among the first " + k, Due.feed(slack(), bytes).check(k), NONE);
            }
        }
        due.says("Promise 30", "NONE: right; else the first that is not so");
        due.empties("check, right", NONE, x -> x.check(2), Integer.bitCount(State.rich().webIs(0, 11)), 255);
        due.empties("check, the second is not so", 1, x -> x.check(2), Integer.bitCount(State.rich().webIs(0, 11)), 0);
        due.empties("check, the first is not so", 0, x -> x.check(2), 9, 9);
        due.is("no webs at all", Due.feed(new DraughtWebs(), 255, 255, 255, 255, 255, 255, 255, 255).check(8), NONE);
        due.is("no webs at all", Due.feed(new DraughtWebs(), 255, 255, 255, 255, 255, 255, 255, 0).check(8), 7);
    }

    private void checkLengths() {
        due.says("Promise 30", "CHECK by the first n bytes of the tape (0 to 8; empty then; of WEBS not told 255)");
        due.range("check", 0, 8, n -> Due.feed(new DraughtWebs(), new int[20]).check(n) == (n == 0 ? NONE : 0));
        for (int n = 0; n <= 8; n++) {
            DraughtWebs x = State.fed(new DraughtWebs(), 13);
            x.check(n);
            due.is("the tape behind check " + n, x.count(4), 0);
        }
        due.is("nothing of an empty tape", new DraughtWebs().check(0), NONE);
        due.says("Promise 30", "-2: no such n, it has not so many (the tape stays)");
        for (int n : new int[] {-1, 9, 260, Integer.MIN_VALUE, Integer.MAX_VALUE}) {
            due.refuses("check " + n, -2, x -> x.check(n));
        }
        for (int n = 1; n <= 8; n++) {
            int bytes = n;
            due.refuses("check of an empty tape", -2, 0, x -> x.check(bytes));
        }
    }

    private void count() {
        due.says("Promise 31", "0 THE HOUR, 1 told WEBS (bits), 2 told FLEETS (bits), 3 RULES, 4 bytes of the tape, 5 X, "
                + "6 TENSIONS of all added up. NONE for others");
        DraughtWebs x = toldAll();
        due.is("all webs", x.count(1), 255);
        due.is("all fleets", x.count(2), 255);
        due.is("all tensions", x.count(6), 64 * 99);
        for (int p = 0; p < 8; p++) {
            for (int s = 0; s < 8; s++) {
                x.tension(p, s, 0);
            }
        }
        due.is("none of them", x.count(6), 0);
        due.is("hour", State.rich().count(0), 35);
        due.is("rules", State.rich().count(3), 4);
        due.is("a full tape", State.fed(x, 13).count(4), 260);
        due.range("count", 0, 6, what -> toldAll().count(what) != NONE);
        for (int what : new int[] {-1, 7, Integer.MIN_VALUE, Integer.MAX_VALUE}) {
            due.refuses("count " + what, NONE, y -> y.count(what));
        }
    }
}
