/** Boundary cases of what webs feel and reach: the Terms of FEELS to SHARES, and promises 10 to 17. */
final class BoundsOfTheSea {
    private static final int NONE = DraughtWebs.NONE;
    private static final int[] FAR_OFF = {Integer.MIN_VALUE, Integer.MAX_VALUE};
    private static final String TERMS = "Terms";

    private final Bounds due;

    private BoundsOfTheSea(Bounds due) {
        this.due = due;
    }

    static void ask(Bounds due) {
        BoundsOfTheSea all = new BoundsOfTheSea(due);
        all.feltMost();
        all.feels();
        all.feltFirst();
        all.when();
        all.towards();
        all.fix();
        all.fixRefused();
        all.ways();
        all.bearings();
        all.fewest();
        all.allTheSea();
        all.quietPlaces();
        all.quiet();
        all.nearest();
        all.share();
    }

    private void feltMost() {
        due.says(TERMS, "FEELS: what a WEB feels now most (FORCE less DISTANCE, above 0; THE LAW, TENSION aside): "
                + "the FLEET (of like ones the lowest)");
        DraughtWebs x = Due.at("a@5,5;C@5,3:5;B@5,8:6;H@9,5:7");
        due.is("the lowest of like ones", x.feels(0, 0), 1);
        due.is("its spoke", x.feels(0, 1), 4);
        due.is("how much", x.feels(0, 2), 3);
        x = Due.at("a@5,5;C@5,3:5;B@5,8:6;H@9,5:8");
        due.is("one more", x.feels(0, 0), 7);
        due.is("one more", x.feels(0, 2), 4);
        x.tension(0, 2, 0);
        Due.law(x, "x(1=1)");
        due.is("law and tension aside", x.feels(0, 0), 7);
        due.is("force is distance", Due.at("a@5,5;A@9,5:4").feels(0, 0), -2);
        due.is("force is one more", Due.at("a@5,5;A@9,5:5").feels(0, 2), 1);
        due.is("force is less than distance", Due.at("a@5,5;A@9,5:3").feels(0, 2), -2);
        due.is("the most there may be", Due.at("a@5,5;A@5,5:99").feels(0, 2), 99);
        due.is("the farthest", Due.at("a@0,0;A@23,15:24").feels(0, 2), 1);
        due.is("not so far", Due.at("a@0,0;A@23,15:23").feels(0, 2), -2);
        x = Due.at("a@0,0;A@5,0:5>6");
        due.is("now, not behind an hour", x.feels(0, 0), -2);
    }

    private void feels() {
        due.says("Promise 10", "what 0 the FLEET, 1 the SPOKE, 2 how much (of all: it feels none: -2)");
        for (int what = 0; what < 3; what++) {
            due.is("none told", Due.at("a@5,5").feels(0, what), -2);
            due.is("none of force", Due.at("a@5,5;A@5,5:0").feels(0, what), -2);
            due.is("none near enough", Due.at("a@5,5;A@9,9:4").feels(0, what), -2);
        }
        due.range("feels' what", 0, 2, what -> Due.at("h@5,5;H@5,4:9").feels(7, what) != NONE);
        due.is("fleet", Due.at("h@5,5;H@5,4:9").feels(7, 0), 7);
        due.is("spoke", Due.at("h@5,5;H@4,4:9").feels(7, 1), 7);
        due.says("Promise 10", "NONE: no such ones");
        for (int p : new int[] {-1, 1, 6, 8, Integer.MIN_VALUE, Integer.MAX_VALUE}) {
            due.refuses("feels of " + p, NONE, x -> x.feels(p, 0));
        }
        for (int what : new int[] {-1, 3, Integer.MIN_VALUE, Integer.MAX_VALUE}) {
            due.refuses("feels what " + what, NONE, x -> x.feels(0, what));
        }
    }

    private void feltFirst() {
        due.says(TERMS, "WHEN: behind how many of n HOURS a FLEET's FORCE is more than DISTANCE to a WEB first "
                + "(COURSES alone, with their turnings at edges)");
        DraughtWebs x = Due.at("a@0,0;A@10,0:5>6;B@1,0:1>2;C@5,0:5;D@23,0:23>2;E@7,5:6>1");
        due.is("behind six", x.when(0, 0, 100), 6);
        due.is("there and back: 22 to the edge, a turn, 23 back", x.when(0, 1, 100), 46);
        due.is("force is distance, no course", x.when(0, 2, 100), -2);
        due.is("a turn, then one", x.when(0, 3, 100), 2);
        due.is("five up, a turn, and down left to 5,7", x.when(0, 4, 100), -2);
        Due.law(x, "x(1=1)");
        x.tension(0, 2, 0);
        due.is("the law aside", x.when(0, 0, 100), 6);
        for (int k = 0; k < 100; k++) {
            x.hours(100);
        }
        Due.chart(x, "a@0,0;A@10,0:5>6");
        due.is("at the last hour", x.count(0), 9999);
        due.is("courses alone, though none can go by", x.when(0, 0, 100), 6);
    }

    private void when() {
        due.says("Promise 11", "in n HOURS (1 to 100; 0: now)");
        due.range("when", 1, 100, n -> Due.at("a@5,5;A@5,5:1").when(0, 0, n) == 0);
        due.is("now and no more", Due.at("a@5,5;A@5,5:1>2").when(0, 0, 1), 0);
        due.is("behind one", Due.at("a@5,5;A@6,5:1>6").when(0, 0, 1), 1);
        due.says("Promise 11", "-2: not in these");
        due.is("behind two, not in one", Due.at("a@5,5;A@7,5:1>6").when(0, 0, 1), -2);
        due.is("behind two, in two", Due.at("a@5,5;A@7,5:1>6").when(0, 0, 2), 2);
        due.is("behind 46, not in 45", Due.at("a@0,0;A@1,0:1>2").when(0, 0, 45), -2);
        due.is("behind 46, in 46", Due.at("a@0,0;A@1,0:1>2").when(0, 0, 46), 46);
        due.is("of no force", Due.at("a@5,5;A@5,5:0>2").when(0, 0, 100), -2);
        due.says("Promise 11", "NONE: no such ones");
        for (int n : new int[] {0, -1, 101, Integer.MIN_VALUE, Integer.MAX_VALUE}) {
            due.refuses("when in " + n, NONE, x -> x.when(0, 0, n));
        }
        for (int k : new int[] {-1, 1, 6, 8, Integer.MIN_VALUE, Integer.MAX_VALUE}) {
            due.refuses("when of web " + k, NONE, x -> x.when(k, 0, 10));
            due.refuses("when of fleet " + k, NONE, x -> x.when(0, k, 10));
        }
    }

    private void fixIs(DraughtWebs x, int n, int many, int first, int... pairs) {
        due.is("fix, how many", Due.feed(x, pairs).fix(n, 0), many);
        due.is("the tape", x.count(4), 0);
        due.is("fix, the first", Due.feed(x, pairs).fix(n, 1), first);
        due.is("the tape", x.count(4), 0);
    }

    private void towards() {
        due.says(TERMS, "A FIX: PLACES towards which told WEBS have told SPOKES "
                + "(as a FLEET there would be felt; a WEB's own PLACE by 0): how many; the first (24 Y and X)");
        DraughtWebs x = Due.at("a@0,0;h@23,15;b@0,0");
        fixIs(x, 1, 1, 0, 0, 0);
        fixIs(x, 1, 0, -2, 0, 1);
        fixIs(x, 1, 144, 1, 0, 2);
        fixIs(x, 1, 175, 25, 0, 3);
        fixIs(x, 1, 64, 24, 0, 4);
        fixIs(x, 1, 65, 16, 7, 0);
        fixIs(x, 1, 0, -2, 7, 4);
        fixIs(x, 2, 1, 0, 0, 0, 1, 0);
        fixIs(x, 2, 0, -2, 0, 0, 0, 4);
        x = Due.at("a@23,15");
        fixIs(x, 1, 65, 16, 0, 0);
        fixIs(Due.at("a@12,15;b@12,0"), 2, 13, 13 * 24 + 17, 0, 2, 1, 4);
        fixIs(Due.at("a@12,15;b@13,15"), 2, 1, 15 * 24 + 13, 0, 2, 1, 0);
    }

    private void fix() {
        due.says("Promise 12", "A FIX by the first 2 n bytes of the tape (WEB, SPOKE; n 1 to 8; empty then), "
                + "what 0 how many, 1 the first (none: -2)");
        due.range("fix", 1, 8, n -> Due.feed(Due.at("a@0,0"), new int[20]).fix(n, 0) == 1);
        due.range("fix what", 0, 1, what -> Due.feed(Due.at("a@0,0"), new int[20]).fix(1, what) != NONE);
        DraughtWebs x = Due.at("a@0,0;b@1,0;c@2,0;d@3,0;e@4,0;f@5,0;g@6,0;h@7,0");
        fixIs(x, 8, 72, 8, 0, 2, 1, 2, 2, 2, 3, 2, 4, 2, 5, 2, 6, 2, 7, 2);
        fixIs(x, 8, 1, 7, 0, 2, 1, 2, 2, 2, 3, 2, 4, 2, 5, 2, 6, 2, 7, 0);
        fixIs(x, 8, 0, -2, 0, 2, 1, 2, 2, 2, 3, 2, 4, 2, 5, 2, 6, 2, 7, 6);
        fixIs(x, 7, 1, 7, 0, 2, 1, 2, 2, 2, 3, 2, 4, 2, 5, 2, 7, 0, 7, 1);
        x = Due.feed(Due.at("a@0,0"), new int[260]);
        due.is("of a full tape", x.fix(8, 1), 0);
        due.is("empty then", x.count(4), 0);
        due.says("Promise 12", "-3: a WEB that is not told, a SPOKE above 7");
        for (int what = 0; what < 2; what++) {
            int asked = what;
            due.empties("fix of a web not told", -3, y -> y.fix(1, asked), 1, 0);
            due.empties("fix of web 8", -3, y -> y.fix(1, asked), 8, 0);
            due.empties("fix of web 255", -3, y -> y.fix(1, asked), 255, 0);
            due.empties("fix of spoke 8", -3, y -> y.fix(1, asked), 0, 8);
            due.empties("fix of spoke 255", -3, y -> y.fix(1, asked), 0, 255);
            due.empties("fix, the last of eight", -3, y -> y.fix(8, asked), 0, 2, 0, 2, 0, 2, 0, 2, 0, 2, 0, 2, 0, 2, 0, 8);
        }
        due.is("spoke 7", Due.feed(Due.at("a@1,1"), 0, 7).fix(1, 0), 1);
        due.is("web 7", Due.feed(Due.at("h@1,1"), 7, 7).fix(1, 0), 1);
        due.is("what is behind does not count", Due.feed(Due.at("a@1,1"), 0, 7, 1, 0).fix(1, 0), 1);
        due.is("what is behind does not count", Due.feed(Due.at("a@1,1"), 0, 7, 0, 8).fix(1, 0), 1);
    }

    private void fixRefused() {
        due.says("Promise 12", "NONE: no such ones, it has not so many (the tape stays)");
        for (int n : new int[] {0, -1, 9, Integer.MIN_VALUE, Integer.MIN_VALUE / 2, Integer.MAX_VALUE}) {
            due.refuses("fix " + n, NONE, x -> x.fix(n, 0));
        }
        for (int what : new int[] {-1, 2, Integer.MIN_VALUE, Integer.MAX_VALUE}) {
            due.refuses("fix what " + what, NONE, x -> x.fix(1, what));
        }
        for (int n = 1; n <= 8; n++) {
            int pairs = n;
            due.refuses("fix of an empty tape", NONE, 0, x -> x.fix(pairs, 1));
        }
        due.refuses("fix what 2 of a web not told", NONE, x -> x.fix(8, 2));
    }

    private void crosses(String chart, int a, int b, int want) {
        due.is("bearings of " + chart + " by " + a + ", " + b, Due.at(chart).bearings(0, a, 1, b), want);
    }

    private void ways() {
        due.says(TERMS, "BEARINGS: a PLACE on the straight way (without end, from the WEB on) of a SPOKE of one WEB and on "
                + "that of a SPOKE of another one (not the PLACE of either WEB; of many the one with fewest PLACES on the first "
                + "way ahead of it)");
        crosses("a@0,0;b@23,15", 2, 0, 23);
        crosses("a@0,15;b@23,0", 0, 6, 0);
        crosses("a@0,0;b@23,15", 4, 6, 360);
        crosses("a@0,15;b@23,0", 2, 4, 383);
        crosses("a@5,5;b@9,5", 1, 7, 79);
        crosses("a@5,5;b@10,5", 1, 7, -2);
        crosses("a@5,5;b@5,9", 3, 1, 175);
        crosses("a@5,5;b@8,5", 2, 0, -2);
        crosses("a@5,5;b@8,5", 0, 6, -2);
        crosses("a@5,5;b@8,5", 6, 6, 124);
        crosses("a@5,5;b@8,5", 2, 6, 126);
        crosses("a@8,5;b@5,5", 6, 2, 127);
        crosses("a@5,5;b@6,5", 2, 6, -2);
        crosses("a@5,5;b@7,5", 2, 6, 126);
        crosses("a@5,5;b@6,5", 2, 2, 127);
        crosses("a@5,5;b@6,5", 6, 2, -2);
        for (int s = 0; s < 8; s++) {
            int[] first = {101, 102, 126, 150, 149, 148, 124, 100};
            crosses("a@5,5;b@5,5", s, s, first[s]);
            crosses("a@5,5;b@5,5", s, (s + 1) % 8, -2);
            crosses("a@5,5;b@5,5", s, (s + 4) % 8, -2);
        }
    }

    private void bearings() {
        due.says("Promise 13", "-2: none on THE CHART");
        crosses("a@0,0;b@2,0", 1, 7, -2);
        crosses("a@0,1;b@2,1", 1, 7, 1);
        crosses("a@0,15;b@2,15", 3, 5, -2);
        crosses("a@0,14;b@2,14", 3, 5, 361);
        crosses("a@23,0;b@23,2", 3, 1, -2);
        crosses("a@22,0;b@22,2", 3, 1, 47);
        crosses("a@0,0;b@0,2", 5, 7, -2);
        crosses("a@22,5;b@23,5", 2, 2, -2);
        crosses("a@21,5;b@22,5", 2, 2, 143);
        crosses("a@0,5;b@1,5", 6, 6, -2);
        crosses("a@5,5;b@5,6", 2, 2, -2);
        due.says("Promise 13", "NONE: no such ones, the same WEB");
        for (int k : new int[] {-1, 1, 6, 8, Integer.MIN_VALUE, Integer.MAX_VALUE}) {
            due.refuses("bearings of web " + k, NONE, x -> x.bearings(k, 1, 0, 2));
            due.refuses("bearings and web " + k, NONE, x -> x.bearings(0, 1, k, 2));
        }
        for (int s : new int[] {-1, 8, Integer.MIN_VALUE, Integer.MAX_VALUE}) {
            due.refuses("bearings by spoke " + s, NONE, x -> x.bearings(0, s, 2, 2));
            due.refuses("bearings and by spoke " + s, NONE, x -> x.bearings(0, 2, 2, s));
        }
        due.refuses("bearings of the same web", NONE, x -> x.bearings(2, 1, 2, 5));
        due.range("bearings by spoke", 0, 7, s -> Due.at("a@5,5;h@9,9").bearings(0, s, 7, 0) != NONE);
        due.range("bearings and by spoke", 0, 7, s -> Due.at("a@5,5;h@9,9").bearings(7, 0, 0, s) != NONE);
    }

    private void sea(String chart, int reach, int many, int bits) {
        due.is("allTheSea of " + chart + " by " + reach, Due.at(chart).allTheSea(reach, 0), many);
        due.is("which of " + chart + " by " + reach, Due.at(chart).allTheSea(reach, 1), bits);
    }

    private void fewest() {
        due.says(TERMS, "ALL THE SEA: the fewest WEBS so that each PLACE is no farther than so much (DISTANCE) from one of "
                + "them; least bits");
        sea("a@11,7", 12, 1, 1);
        sea("a@11,7", 11, -2, -2);
        sea("h@0,0", 23, 1, 128);
        sea("h@0,0", 22, -2, -2);
        sea("h@1,0", 22, 1, 128);
        sea("a@0,7;b@2,7;c@23,7;d@13,7", 10, 2, 6);
        sea("h@11,7;g@11,7", 12, 1, 64);
        sea("a@5,7;b@17,7;h@11,7", 12, 1, 128);
        sea("a@5,7;b@17,7;h@11,7", 11, 2, 3);
        sea("a@5,0;b@17,15", 14, -2, -2);
        sea("a@2,3;b@8,3;c@14,3;d@20,3;e@2,12;f@8,12;g@14,12;h@20,12", 4, 8, 255);
        sea("a@2,3;b@8,3;c@14,3;d@20,3;e@2,12;f@8,12;g@14,12;h@20,12", 3, -2, -2);
    }

    private void allTheSea() {
        due.says("Promise 14", "ALL THE SEA by so much (0 to 23), what 0 how many, 1 which (bits)");
        due.range("allTheSea", 0, 23, reach -> Due.at("a@1,0").allTheSea(reach, 0) == (reach < 22 ? -2 : 1));
        due.range("allTheSea what", 0, 1, what -> Due.at("b@1,0").allTheSea(23, what) == what + 1);
        DraughtWebs webs = Due.at("a@11,7;b@0,7");
        for (int reach : new int[] {0, 12, 11, 23, 12, 0}) {
            due.is("one by one on one object, " + reach, webs.allTheSea(reach, 1), reach < 12 ? -2 : 1);
        }
        due.says("Promise 14", "-2: all told ones do not do");
        due.is("no webs", new DraughtWebs().allTheSea(23, 0), -2);
        due.is("no webs", new DraughtWebs().allTheSea(23, 1), -2);
        due.is("by nothing", State.rich().allTheSea(0, 0), -2);
        due.is("all but the first place", Due.at("a@15,8;b@0,15").allTheSea(14, 0), -2);
        due.is("all but the last place", Due.at("a@8,7;b@23,0").allTheSea(14, 0), -2);
        due.is("the last place, too", Due.at("a@8,7;b@23,1").allTheSea(14, 0), 2);
        due.says("Promise 14", "NONE: no such ones");
        for (int k : new int[] {-1, 24, Integer.MIN_VALUE, Integer.MAX_VALUE}) {
            due.refuses("allTheSea " + k, NONE, x -> x.allTheSea(k, 0));
            due.refuses("allTheSea what " + k, NONE, x -> x.allTheSea(5, k));
        }
        due.refuses("allTheSea what 2", NONE, x -> x.allTheSea(5, 2));
        due.is("no such reach, no webs", new DraughtWebs().allTheSea(24, 0), NONE);
    }

    private void quietPlaces() {
        due.says(TERMS, "QUIET PLACES are farther than that from all told WEBS: how many; the first");
        due.is("reach 0", Due.at("a@0,0").quiet(0, 0), 383);
        due.is("reach 0", Due.at("a@0,0").quiet(0, 1), 1);
        due.is("reach 22", Due.at("a@0,0").quiet(22, 0), 16);
        due.is("reach 22", Due.at("a@0,0").quiet(22, 1), 23);
        due.is("reach 22", Due.at("a@23,15").quiet(22, 1), 0);
        due.is("the last place alone", Due.at("a@8,7;b@23,0").quiet(14, 0), 1);
        due.is("the last place alone", Due.at("a@8,7;b@23,0").quiet(14, 1), 383);
        due.is("the first place alone", Due.at("a@15,8;b@0,15").quiet(14, 0), 1);
        due.is("the first place alone", Due.at("a@15,8;b@0,15").quiet(14, 1), 0);
        due.is("two webs", Due.at("a@0,0;b@23,15").quiet(22, 0), 0);
        due.is("two webs", Due.at("a@0,0;b@1,1").quiet(0, 0), 382);
    }

    private void quiet() {
        due.says("Promise 15", "QUIET PLACES by so much (0 to 23), what 0 how many, 1 the first (none: -2)");
        due.range("quiet", 0, 23, reach -> Due.at("a@0,0").quiet(reach, 0) == 384 - (reach + 1) * Math.min(16, reach + 1));
        due.range("quiet what", 0, 1, what -> Due.at("a@0,0").quiet(5, what) != NONE);
        due.is("none", Due.at("a@0,0").quiet(23, 0), 0);
        due.is("none: no first", Due.at("a@0,0").quiet(23, 1), -2);
        for (int reach : new int[] {0, 23}) {
            due.is("no webs", new DraughtWebs().quiet(reach, 0), 384);
            due.is("no webs", new DraughtWebs().quiet(reach, 1), 0);
        }
        due.says("Promise 15", "NONE: no such ones");
        for (int k : new int[] {-1, 24, Integer.MIN_VALUE, Integer.MAX_VALUE}) {
            due.refuses("quiet " + k, NONE, x -> x.quiet(k, 0));
            due.refuses("quiet what " + k, NONE, x -> x.quiet(5, k));
        }
        due.refuses("quiet what 2", NONE, x -> x.quiet(5, 2));
    }

    private void nearest() {
        due.says(TERMS, "NEAREST WEB to a PLACE (of like ones the lowest)");
        DraughtWebs x = Due.at("h@0,0;c@4,0;b@4,0");
        due.is("nearer to h", x.nearest(1, 0), 7);
        due.is("like near to all", x.nearest(2, 0), 1);
        due.is("like near along, too", x.nearest(0, 9), 1);
        due.is("at its own place", x.nearest(4, 0), 1);
        due.is("as far as can be", Due.at("h@0,15").nearest(23, 0), 7);
        due.says("Promise 16", "NEAREST WEB to a PLACE; -2: no WEBS");
        due.is("no chart", new DraughtWebs().nearest(0, 0), -2);
        due.is("no chart", new DraughtWebs().nearest(23, 15), -2);
        due.is("fleets alone", Due.at("A@5,5:9").nearest(5, 5), -2);
        due.says("Promise 16", "NONE: no such PLACE");
        for (int k : new int[] {-1, 24, Integer.MIN_VALUE, Integer.MAX_VALUE}) {
            due.refuses("nearest to X " + k, NONE, y -> y.nearest(k, 5));
            due.is("no such place, no webs", new DraughtWebs().nearest(k, 5), NONE);
        }
        for (int k : new int[] {-1, 16, 23, Integer.MIN_VALUE, Integer.MAX_VALUE}) {
            due.refuses("nearest to Y " + k, NONE, y -> y.nearest(5, k));
            due.is("no such place, no webs", new DraughtWebs().nearest(5, k), NONE);
        }
    }

    private void share() {
        due.says(TERMS, "A SHARE of a WEB: PLACES to which it is the NEAREST");
        due.is("all", Due.at("h@23,15").share(7), 384);
        due.is("all of like ones", Due.at("g@3,3;h@3,3").share(6), 384);
        due.is("nothing of like ones", Due.at("g@3,3;h@3,3").share(7), 0);
        due.is("half and what is like near", Due.at("a@0,0;b@23,0").share(0), 202);
        due.is("the other one", Due.at("a@0,0;b@23,0").share(1), 182);
        due.says("Promise 17", "A SHARE of a told WEB: PLACES; NONE: no such one");
        for (int p : new int[] {-1, 1, 6, 8}) {
            due.refuses("share of " + p, NONE, x -> x.share(p));
        }
        for (int p : FAR_OFF) {
            due.refuses("share of " + p, NONE, x -> x.share(p));
        }
        int sum = 0;
        DraughtWebs x = new DraughtWebs();
        State.fed(x, 8).chart(160);
        for (int p = 0; p < 8; p++) {
            sum += x.share(p);
        }
        due.is("all shares", sum, 384);
    }
}
