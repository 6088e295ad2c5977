/** Boundary cases of SPOKES towards FLEETS, AN HOUR, DRAWS and TRIED in the Terms, and of promises 6 and 7. */
final class BoundsOfAnHour {
    private static final int NONE = DraughtWebs.NONE;
    private static final String TERMS = "Terms";
    private static final String HOURS = "Promise 6";
    private static final String TRIED = "Promise 7";

    private final Bounds due;

    private BoundsOfAnHour(Bounds due) {
        this.due = due;
    }

    static void ask(Bounds due) {
        BoundsOfAnHour all = new BoundsOfAnHour(due);
        all.spokes();
        all.edges();
        all.forceAndDistance();
        all.byNumbers();
        all.tensionsOfNothing();
        all.notTouched();
        all.lastHour();
        all.draws();
        all.hours();
        all.hoursRefused();
        all.triedChangesNothing();
        all.triedHours();
        all.triedWhat();
    }

    private static DraughtWebs by(String chart, String law) {
        DraughtWebs x = Due.at(chart);
        if (Due.law(x, law) < 1) {
            throw new IllegalStateException(law);
        }
        return x;
    }

    /** In some hundred calls. */
    private static DraughtWebs atHour(int hour, String chart) {
        DraughtWebs x = new DraughtWebs();
        for (int gone = 0; gone < hour; gone += 100) {
            x.hours(Math.min(100, hour - gone));
        }
        Due.chart(x, chart);
        return x;
    }

    private void towards(int across, int along, int spoke) {
        DraughtWebs x = Due.at("a@11,7;A@" + (11 + across) + "," + (7 + along) + ":99");
        String way = across + "," + along;
        due.is("spoke felt by " + way, x.feels(0, 1), spoke);
        x.tension(0, spoke, 0);
        due.is("touched by " + way, x.tried(1, 0), 0);
    }

    private void spokes() {
        due.says(TERMS, "with a PLACES across and b along (both without sign): if twice b is less than a: 2 or 6; "
                + "if twice a is less than b: 0 or 4; else 1, 3, 5 or 7. At its own PLACE: 0");
        towards(0, 0, 0);
        int[][] ways = {{1, 0, 2}, {2, 1, 1}, {3, 1, 2}, {4, 2, 1}, {5, 2, 2}, {6, 3, 1}, {7, 3, 2}, {11, 5, 2}, {11, 6, 1},
            {0, 1, 0}, {1, 2, 1}, {1, 3, 0}, {2, 4, 1}, {2, 5, 0}, {3, 6, 1}, {3, 7, 0}, {1, 1, 1}, {7, 7, 1}};
        int[] downRight = {4, 3, 2};
        int[] downLeft = {4, 5, 6};
        int[] upLeft = {0, 7, 6};
        for (int[] way : ways) {
            towards(way[0], -way[1], way[2]);
            towards(way[0], way[1], downRight[way[2]]);
            towards(-way[0], way[1], downLeft[way[2]]);
            towards(-way[0], -way[1], upLeft[way[2]]);
        }
        due.is("from corner to corner", Due.at("a@0,0;A@23,15:99").feels(0, 1), 3);
        due.is("from corner to corner", Due.at("a@23,15;A@0,0:99").feels(0, 1), 7);
        due.is("along the edge", Due.at("a@0,0;A@23,0:99").feels(0, 1), 2);
        due.is("along the edge", Due.at("a@0,15;A@0,0:99").feels(0, 1), 0);
    }

    private void turns(String fleet, int place, int then) {
        DraughtWebs x = Due.at(fleet);
        int course = x.fleetIs(0, 2);
        x.hours(1);
        due.is(fleet + " stays", x.fleetIs(0, 0), place);
        due.is(fleet + " turns about", x.fleetIs(0, 2), course < 4 ? course + 4 : course - 4);
        x.hours(1);
        due.is(fleet + " goes back", x.fleetIs(0, 0), then);
        due.is(fleet + " keeps its course", x.fleetIs(0, 2), course < 4 ? course + 4 : course - 4);
    }

    private void edges() {
        due.says(TERMS, "(1) each told FLEET with a COURSE, by numbers, goes a PLACE on "
                + "(at an edge it would leave it turns about, COURSE 4 more or less, and stays)");
        turns("A@5,0:1>0", 5, 29);
        turns("A@5,0:1>1", 5, 28);
        turns("A@5,0:1>7", 5, 30);
        turns("A@23,5:1>1", 143, 166);
        turns("A@23,5:1>2", 143, 142);
        turns("A@23,5:1>3", 143, 118);
        turns("A@5,15:1>3", 365, 340);
        turns("A@5,15:1>4", 365, 341);
        turns("A@5,15:1>5", 365, 342);
        turns("A@0,5:1>5", 120, 97);
        turns("A@0,5:1>6", 120, 121);
        turns("A@0,5:1>7", 120, 145);
        turns("A@23,0:1>1", 23, 46);
        turns("A@23,15:1>3", 383, 358);
        turns("A@0,15:1>5", 360, 337);
        turns("A@0,0:1>7", 0, 25);
        String[] along = {"A@5,0:1>2", "A@5,0:1>6", "A@5,0:1>4", "A@0,5:1>0", "A@0,5:1>4", "A@23,5:1>4", "A@5,15:1>2"};
        int[] there = {6, 4, 29, 96, 144, 167, 366};
        for (int k = 0; k < along.length; k++) {
            DraughtWebs x = Due.at(along[k]);
            x.hours(1);
            due.is(along[k] + " goes along the edge", x.fleetIs(0, 0), there[k]);
        }
        DraughtWebs x = Due.at("A@22,0:1>2");
        x.hours(1);
        due.is("to the last place", x.fleetIs(0, 0), 23);
        due.is("no turn yet", x.fleetIs(0, 2), 2);
        // a corner from which it would leave both ways: it goes to and fro
        x = Due.at("A@0,0:1>1");
        x.hours(1);
        due.is("at a corner", x.fleetIs(0, 2), 5);
        x.hours(1);
        due.is("at a corner again", x.fleetIs(0, 2), 1);
        due.is("it stays there", x.fleetIs(0, 0), 0);
        x = Due.at("A@0,0:1>2");
        x.hours(48);
        due.is("there and back in 48", x.fleetIs(0, 0), 0);
        due.is("turned twice", x.fleetIs(0, 2), 2);
        x.hours(47);
        due.is("before the second turn", x.fleetIs(0, 2), 6);
    }

    private void forceAndDistance() {
        due.says(TERMS, "of each told FLEET, by numbers, whose FORCE is more than DISTANCE, with a DRAW");
        for (int distance = 0; distance < 24; distance++) {
            String fleet = "a@0,0;A@" + distance + ",0:";
            DraughtWebs like = Due.at(fleet + distance);
            due.is("force is distance " + distance, like.hours(1), 0);
            due.is("no draw", like.count(5), 1);
            DraughtWebs more = Due.at(fleet + (distance + 1));
            due.is("force is one more than distance " + distance, more.hours(1), 1);
            due.is("a draw", more.count(5), 39022);
        }
        due.is("of no force at its place", Due.at("a@0,0;A@0,0:0").hours(1), 0);
        due.is("where it has gone to", Due.at("a@0,0;A@5,0:5>6").hours(1), 1);
        due.is("where it has gone to", Due.at("a@0,0;A@5,0:6>2").hours(1), 0);
    }

    private void byNumbers() {
        due.says(TERMS, "(2) Each told WEB, by numbers: of each told FLEET, by numbers");
        DraughtWebs x = by("b@9,5;a@5,5;B@8,5:9;A@5,3:9", "tw(1=1)");
        due.is("touches", x.hours(1), 4);
        due.is("a and A: 39022", x.webIs(0, 0), 97);
        due.is("a and B: 61087", x.webIs(0, 2), 92);
        due.is("b and A: 20196", x.webIs(1, 7), 93);
        due.is("b and B: 45005", x.webIs(1, 6), 94);
        due.is("X", x.count(5), 45005);
    }

    private void tensionsOfNothing() {
        due.says(TERMS, "if x does not hold (asked, as t, with the DRAW, v as it is then) and "
                + "TENSION of the SPOKE is above 0 it is touched (counted), TENSION t less (0 at least)");
        DraughtWebs x = by("a@5,5;A@5,3:9", "t5(1=1)");
        x.tension(0, 0, 1);
        due.is("tension 1 is touched", x.hours(1), 1);
        due.is("0 at least", x.webIs(0, 0), 0);
        due.is("tension 0 is not", x.hours(1), 0);
        due.is("a draw all the same", x.count(5), 61087);
        x = by("a@5,5;A@5,3:9;B@5,2:9;C@5,1:9", "tv/2+1(1=1)");
        due.is("v as it is then", x.hours(1), 3);
        due.is("99, 49, 24, 11", x.webIs(0, 0), 11);
        x = by("a@5,5;A@5,3:9;B@5,2:9;C@5,1:9", "t50(1=1)");
        due.is("two touches wear it down", x.hours(1), 2);
        due.is("0", x.webIs(0, 0), 0);
        x = by("a@5,5;A@5,3:9;B@5,2:9;C@5,1:9", "t50(1=1);x(v=49)");
        due.is("x asks v as it is then", x.hours(1), 1);
        due.is("49", x.webIs(0, 0), 49);
        due.is("x by its draw, 2", by("a@5,5;A@5,3:9", "x(w=2)").hours(1), 0);
        due.is("x by another draw", by("a@5,5;A@5,3:9", "x(w=1)").hours(1), 1);
    }

    private void notTouched() {
        due.says(TERMS, "Then TENSION of each SPOKE of it that was not touched in this HOUR (one of TENSION 0 is not), "
                + "by numbers, is m more (99 at most)");
        DraughtWebs x = by("a@5,5;A@5,3:9", "m5(1=1)");
        x.tension(0, 0, 0);
        due.is("of tension 0: not touched", x.hours(1), 0);
        due.is("so it is mended", x.webIs(0, 0), 5);
        due.is("touched", x.hours(1), 1);
        due.is("so it is not mended", x.webIs(0, 0), 5);
        x = by("a@5,5;A@5,3:9", "t99(1=1);m5(1=1)");
        due.is("worn down to 0 in this hour", x.hours(1), 1);
        due.is("it was touched: not mended", x.webIs(0, 0), 0);
        for (int v : new int[] {93, 94, 95, 98, 99}) {
            x.tension(0, 4, v);
            x.hours(1);
            due.is("99 at most, from " + v, x.webIs(0, 4), Math.min(99, v + 5));
        }
        x = by("a@5,5;A@5,3:9;B@8,5:9;C@5,8:9", "m5(1=1)");
        for (int s = 0; s < 8; s++) {
            x.tension(0, s, 50);
        }
        due.is("three spokes are touched", x.hours(1), 3);
        due.is("the five others are mended", tensions(x, 0), 3 * 50 + 5 * 55);
        x = by("a@5,5;b@5,7;A@5,3:3", "t7(1=1);m5(1=1)");
        x.tension(0, 0, 50);
        x.tension(1, 0, 50);
        due.is("the first web alone is touched", x.hours(1), 1);
        due.is("the first is worn", x.webIs(0, 0), 43);
        due.is("the other one is mended", x.webIs(1, 0), 55);
        x = by("a@5,5", "mv(1=1)");
        for (int s = 0; s < 8; s++) {
            x.tension(0, s, s);
        }
        x.hours(1);
        due.is("each by its own tension", tensions(x, 0), 56);
    }

    private void lastHour() {
        due.says(TERMS, "THE HOUR is one more (9999 at most: then none goes by)");
        DraughtWebs x = atHour(9998, "a@5,5;A@5,5:9>2");
        due.is("the hour", x.count(0), 9998);
        x.seed(1);
        due.is("the last one goes by", x.hours(1), 1);
        due.is("the hour", x.count(0), 9999);
        due.is("where the fleet is", x.fleetIs(0, 0), 126);
        due.is("X", x.count(5), 39022);
        Due.law(x, "m1(1=1)");
        x.tension(0, 7, 50);
        due.is("none goes by", x.hours(1), 0);
        due.is("none of 100 goes by", x.hours(100), 0);
        due.is("the hour", x.count(0), 9999);
        due.is("where the fleet is", x.fleetIs(0, 0), 126);
        due.is("X", x.count(5), 39022);
        due.is("not mended", x.webIs(0, 7), 50);
        due.is("kept at the last hour", x.keep(), 9999);
    }

    private void draws() {
        due.says(TERMS, "DRAWS: X = (25173 X + 13849) modulo 65536 (X is THE SEED at first, 1): X modulo 10");
        due.is("X at first", new DraughtWebs().count(5), 1);
        int[] seeds = {1, 0, 65535, 65534, 32768, 2, 39022};
        int[] next = {39022, 13849, 54212, 29039, 46617, 64195, 61087};
        for (int k = 0; k < seeds.length; k++) {
            DraughtWebs x = by("a@5,5;A@5,5:9", "tw(1=1)");
            x.seed(seeds[k]);
            x.hours(1);
            due.is("X behind " + seeds[k], x.count(5), next[k]);
            due.is("the draw", 99 - x.webIs(0, 0), next[k] % 10);
        }
        DraughtWebs x = Due.at("a@5,5;A@5,5:99;B@5,5:99;C@5,5:99;D@5,5:99");
        long drawn = 1;
        for (int k = 0; k < 100; k++) {
            x.hours(10);
            for (int draws = 0; draws < 40; draws++) {
                drawn = (25173 * drawn + 13849) % 65536;
            }
            due.is("X behind " + 40 * (k + 1) + " draws", x.count(5), drawn);
        }
    }

    private void hours() {
        due.says(HOURS, "HOURS (1 to 100; as many as can) go by: how many touches there were");
        due.range("hours", 1, 100, n -> Due.at("a@5,5;A@5,5:9").hours(n) == n);
        DraughtWebs x = Due.at("a@5,5;A@5,5:9");
        due.is("100 hours", x.hours(100), 100);
        due.is("the hour", x.count(0), 100);
        x = atHour(9899, "a@5,5;A@5,5:9");
        due.is("100 can", x.tried(100, 0), 100);
        x.hours(1);
        due.is("99 of 100 can", x.hours(100), 99);
        due.is("the hour", x.count(0), 9999);
        x = Due.at(State.FULL_CHART.replaceAll("@\\d+,\\d+", "@5,5").replaceAll(":\\d+>\\d", ":99"));
        due.is("all webs and all fleets in 100 hours", x.hours(100), 6400);
        due.is("no web", Due.at("A@5,5:9").hours(100), 0);
        due.is("no fleet", Due.at("a@5,5").hours(100), 0);
        due.is("nothing at all", new DraughtWebs().hours(100), 0);
    }

    private void hoursRefused() {
        due.says(HOURS, "NONE: no such n");
        for (int n : new int[] {0, -1, 101, 9999, Integer.MIN_VALUE, Integer.MAX_VALUE}) {
            due.refuses("hours " + n, NONE, x -> x.hours(n));
        }
        DraughtWebs x = atHour(9999, "a@5,5;A@5,5:9");
        due.is("no such n, though none can go by", x.hours(101), NONE);
        due.is("no such n, though none can go by", x.hours(0), NONE);
    }

    private void triedChangesNothing() {
        due.says(TERMS, "TRIED are n HOURS by the DRAWS that will come (nothing is changed)");
        for (int what : new int[] {0, 1, 10, 12, 17, 20, 23, 27, 30, 33, 37}) {
            DraughtWebs x = State.fed(State.rich(), 3);
            x.tried(100, what);
            String want = State.withTape(State.fed(State.rich(), 3), 3);
            due.same("tried 100, " + what + " changed something", State.withTape(x, 3), want);
        }
        for (int n = 1; n <= 100; n += 11) {
            DraughtWebs x = State.rich();
            due.is("as many touches as will come in " + n, State.rich().tried(n, 0), x.hours(n));
            due.is("tensions of web h then", State.rich().tried(n, 17), tensions(x, 7));
        }
    }

    private static int tensions(DraughtWebs x, int p) {
        int sum = 0;
        for (int s = 0; s < 8; s++) {
            sum += x.webIs(p, s);
        }
        return sum;
    }

    private void triedHours() {
        due.says(TRIED, "HOURS (1 to 100; as many as can) that are tried, what 0 touches in them");
        due.range("tried", 1, 100, n -> Due.at("a@5,5;A@5,5:9").tried(n, 0) == n);
        DraughtWebs x = atHour(9990, "a@5,5;A@0,0:99>2");
        due.is("9 of 10 can", x.tried(10, 0), 9);
        due.is("9 of 100 can", x.tried(100, 0), 9);
        due.is("where the fleet is then", x.tried(100, 20), 9);
        due.is("9 can", x.tried(9, 0), 9);
        due.is("8 of 9 that can", x.tried(8, 0), 8);
        x.hours(9);
        due.is("none can", x.tried(1, 0), 0);
        due.is("where the fleet is then", x.tried(1, 20), 9);
    }

    private void triedWhat() {
        due.says(TRIED, "1 how many SPOKES of TENSION 0 all have then, 10 + p TENSIONS of told WEB p added up, "
                + "20 + f the PLACE (24 Y and X), 30 + f the COURSE (none: -2) of told FLEET f then");
        DraughtWebs x = by("a@0,0;h@23,15;A@3,3:99>2;H@23,15:99", "t99(1=1)");
        due.is("slack spokes of all", x.tried(1, 1), 3);
        due.is("tensions of a", x.tried(1, 10), 693);
        due.is("tensions of h", x.tried(1, 17), 594);
        due.is("place of A", x.tried(1, 20), 76);
        due.is("place of H", x.tried(1, 27), 383);
        due.is("course of A", x.tried(1, 30), 2);
        due.is("course of A ahead of a turn", x.tried(20, 30), 2);
        due.is("course of A behind a turn", x.tried(21, 30), 6);
        due.is("no course", x.tried(100, 37), -2);
        DraughtWebs all = new DraughtWebs();
        State.fed(all, 8).chart(160);
        for (int k = 0; k < 8; k++) {
            due.is("tensions of " + k, all.tried(1, 10 + k), 792);
            due.is("place of " + k, all.tried(1, 20 + k) >= 0, true);
            due.is("course of " + k, all.tried(1, 30 + k) >= 0, true);
        }
        for (int what : new int[] {-1, 2, 3, 9, 18, 19, 28, 29, 38, 39, 40, Integer.MIN_VALUE, Integer.MAX_VALUE}) {
            due.is("what " + what, all.tried(1, what), NONE);
        }
        due.is("no spokes at all", new DraughtWebs().tried(1, 1), 0);
        due.says(TRIED, "NONE: no such ones");
        for (int what : new int[] {-1, 2, 9, 11, 18, 19, 21, 28, 29, 31, 38, 39, 40, Integer.MIN_VALUE, Integer.MAX_VALUE}) {
            due.refuses("tried 1, " + what, NONE, y -> y.tried(1, what));
        }
        for (int n : new int[] {0, -1, 101, Integer.MIN_VALUE, Integer.MAX_VALUE}) {
            due.refuses("tried " + n + ", 0", NONE, y -> y.tried(n, 0));
        }
    }
}
