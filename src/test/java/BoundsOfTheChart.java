import java.util.Set;

/** Boundary cases of THE CHART and A CHART in the Terms, and of promise 5. */
final class BoundsOfTheChart {
    private static final int NONE = DraughtWebs.NONE;
    private static final String TERMS = "Terms";
    private static final String CHART = "Promise 5";
    private static final String SIXTEEN = "a@1,1;b@1,1;c@1,1;d@1,1;e@1,1;f@1,1;g@1,1;h@1,1;"
            + "A@1,1:1;B@1,1:1;C@1,1:1;D@1,1:1;E@1,1:1;F@1,1:1;G@1,1:1;H@1,1:1";

    private final Bounds due;

    private BoundsOfTheChart(Bounds due) {
        this.due = due;
    }

    static void ask(Bounds due) {
        BoundsOfTheChart all = new BoundsOfTheChart(due);
        all.places();
        all.webs();
        all.fleets();
        all.atFirst();
        all.bytes();
        all.lines();
        all.courses();
        all.digits();
        all.whatCanNotStandThere();
        all.thirdDigits();
        all.beyondTheEdges();
        all.toldTwice();
        all.firstFromTheLeft();
        all.inPlaceOfAllAhead();
        all.lengths();
        all.answers();
    }

    private void is(String text, int want) {
        due.is("chart " + text, Due.chart(new DraughtWebs(), text), want);
    }

    private void places() {
        due.says(TERMS, "PLACES, X 0 to 23, Y 0 to 15 (Y grows down)");
        due.range("nearest, X", 0, 23, n -> Due.at("a@0,0").nearest(n, 0) == 0);
        due.range("nearest, Y", 0, 15, n -> Due.at("a@0,0").nearest(0, n) == 0);
        for (int n = 0; n < 24; n++) {
            due.is("X " + n, Due.at("a@" + n + ",0").webIs(0, 10), n);
            due.is("X " + n, Due.at("A@" + n + ",0:5").fleetIs(0, 0), n);
        }
        for (int n = 0; n < 16; n++) {
            due.is("Y " + n, Due.at("a@0," + n).webIs(0, 10), 24 * n);
            due.is("Y " + n, Due.at("A@0," + n + ":5").fleetIs(0, 0), 24 * n);
        }
        is("a@24,0", -3002);
        is("A@24,0:5", -3002);
        is("a@0,16", -3004);
        is("A@0,16:5", -3004);
        due.is("down is more", Due.at("a@5,5;A@5,6:9").feels(0, 1), 4);
        due.is("the last place", Due.at("a@23,15").webIs(0, 10), 383);
    }

    private void webs() {
        due.says(TERMS, "WEBS a to h (0 to 7): told or not");
        for (int p = 0; p < 8; p++) {
            DraughtWebs x = Due.at((char) ('a' + p) + "@3,4");
            due.is("told webs", x.count(1), 1 << p);
            for (int q = -1; q < 9; q++) {
                due.is("web " + q, x.webIs(q, 10), q == p ? 99 : NONE);
            }
        }
        is("`@3,4", -1000);
        is("i@3,4", -1000);
        due.says(TERMS, "of SPOKES 0 to 7 (0 up, 1 up right, 2 right, 3 down right, 4 down, 5 down left, 6 left, 7 up left)");
        int[][] ways = {{0, -1}, {1, -1}, {1, 0}, {1, 1}, {0, 1}, {-1, 1}, {-1, 0}, {-1, -1}};
        for (int s = 0; s < 8; s++) {
            DraughtWebs x = Due.at("a@9,9;A@" + (9 + ways[s][0]) + "," + (9 + ways[s][1]) + ":9");
            due.is("spoke " + s, x.feels(0, 1), s);
        }
        due.range("spoke", 0, 7, s -> Due.at("a@9,9").tension(0, s, 5));
        due.says(TERMS, "each of a TENSION (0 to 99; 99 at first)");
        for (int s = 0; s < 8; s++) {
            due.is("spoke " + s + " at first", Due.at("a@9,9").webIs(0, s), 99);
        }
        due.range("tension", 0, 99, v -> Due.at("a@9,9").tension(0, 0, v));
    }

    private void fleets() {
        due.says(TERMS, "FLEETS A to H (0 to 7): told or not");
        for (int f = 0; f < 8; f++) {
            DraughtWebs x = Due.at((char) ('A' + f) + "@3,4:7");
            due.is("told fleets", x.count(2), 1 << f);
            for (int g = -1; g < 9; g++) {
                due.is("fleet " + g, x.fleetIs(g, 0), g == f ? 99 : NONE);
            }
        }
        is("@@3,4:7", -1000);
        is("I@3,4:7", -1000);
        due.says(TERMS, "of a FORCE (0 to 99)");
        for (int force = 0; force < 100; force++) {
            due.is("force " + force, Due.at("A@3,4:" + force).fleetIs(0, 1), force);
        }
        is("A@3,4:100", -2008);
        due.says(TERMS, "of a COURSE (0 to 7, as SPOKES, or none)");
        int[] there = {-24, -23, 1, 25, 24, 23, -1, -25};
        for (int c = 0; c < 8; c++) {
            DraughtWebs x = Due.at("A@10,10:1>" + c);
            due.is("course " + c, x.fleetIs(0, 2), c);
            x.hours(1);
            due.is("course " + c + " as spokes", x.fleetIs(0, 0), 250 + there[c]);
        }
        DraughtWebs still = Due.at("A@10,10:1");
        due.is("no course", still.fleetIs(0, 2), -2);
        still.hours(1);
        due.is("no course: it stays", still.fleetIs(0, 0), 250);
        due.is("no course: none then", still.fleetIs(0, 2), -2);
    }

    private void atFirst() {
        due.says(TERMS, "THE HOUR (0 at first)");
        due.is("the hour", new DraughtWebs().count(0), 0);
        due.says(TERMS, "DISTANCE is the greater of what lies across and along");
        due.is("across", Due.at("a@5,5;A@9,7:5").feels(0, 2), 1);
        due.is("along", Due.at("a@5,5;A@7,9:5").feels(0, 2), 1);
        due.is("both", Due.at("a@5,5;A@1,1:5").feels(0, 2), 1);
        due.is("the greatest", Due.at("a@0,15;A@23,0:24").feels(0, 2), 1);
    }

    private void bytes() {
        due.says(TERMS, "A CHART: a TEXT of at most 160 bytes, no blanks (none at first)");
        DraughtWebs x = new DraughtWebs();
        due.is("webs at first", x.count(1), 0);
        due.is("fleets at first", x.count(2), 0);
        due.is("160 bytes", State.fed(x, 13).chart(160), 16);
        due.is("161 bytes", State.fed(x, 13).chart(161), NONE);
        String text = "a@1,2;B@11,12:13>4;c@0,0";
        for (int k = 0; k <= text.length(); k++) {
            is(text.substring(0, k) + " " + text.substring(k), -1000 - k);
        }
    }

    private void lines() {
        due.says(TERMS, "LINES with a ; (59) between two (24 at most)");
        is("a@1,1", 1);
        is("a@1,1;b@1,1", 2);
        is(SIXTEEN, 16);
        is(";a@1,1", -1000);
        is("a@1,1;;b@1,1", -1006);
        is("a@1,1b@1,1", -1005);
        is("a@1,1:b@1,1", -1005);
        is("A@1,1:1<b@1,1", -1007);
        due.says(TERMS, "4 a 25th LINE, at its letter (if that can stand there)");
        // of sixteen letters none is left for a 17th line, so that 6 comes first
        is(SIXTEEN + ";a@1,1", -6112);
        is(SIXTEEN + ";H", -6112);
        is(SIXTEEN + ";i", -1112);
        is(SIXTEEN + ";", -1112);
        is(SIXTEEN + ";b@1,1;c@1,1;d@1,1;e@1,1;f@1,1;g@1,1;h@1,1;a", -6112);
    }

    private void courses() {
        due.says(TERMS, ": (58), a number (FORCE), then perhaps > (62) and a digit 0 to 7 (COURSE)");
        is("A@1,1:5", 1);
        for (int c = 0; c < 8; c++) {
            is("A@1,1:5>" + c, 1);
        }
        is("A@1,1:5>8", -1008);
        is("A@1,1:5>/", -1008);
        is("A@1,1:5>", -1008);
        is("A@1,1:5>;", -1008);
        is("A@1,1:5>>", -1008);
        is("A@1,1:5>00", -1009);
        is("A@1,1:5=1", -1007);
        is("A@1,1:5?1", -1007);
        is("A@1,1;5", -1005);
        is("A@1,19:5", -3004);
        is("a@1,1>1", -1005);
    }

    private void digits() {
        due.says(TERMS, "numbers of one or two digits");
        is("a@,1", -1002);
        is("a@1,", -1004);
        is("A@1,1:", -1006);
        is("A@1,1:>1", -1006);
        is("a@/,1", -1002);
        is("a@:,1", -1002);
        is("a@9,9", 1);
        is("a@09,09", 1);
        due.is("two digits, the first 0", Due.at("a@05,07").webIs(0, 10), 173);
        due.is("two digits 0", Due.at("A@00,00:00").fleetIs(0, 1), 0);
        due.is("two digits", Due.at("a@10,10").webIs(0, 10), 250);
        due.is("force of two digits, the first 0", Due.at("A@1,1:07").fleetIs(0, 1), 7);
        is("a@-1,1", -1002);
    }

    private void whatCanNotStandThere() {
        due.says(TERMS, "FAULTS, the first from the left: 1 what can't stand there (the end, too); 2 a third digit");
        String text = "a@10,10;B@11,11:12>3;c@1,1";
        Set<String> whole = Set.of("a@10,1", "a@10,10", "a@10,10;B@11,11:1", "a@10,10;B@11,11:12", "a@10,10;B@11,11:12>3");
        for (int k = 1; k < text.length(); k++) {
            String begun = text.substring(0, k);
            is(begun, whole.contains(begun) ? (int) begun.chars().filter(c -> c == '@').count() : -1000 - k);
        }
        for (int k = 0; k < text.length(); k++) {
            for (int wrong : new int[] {0, 1, 127, 128, 255, text.charAt(k) + 128, '.', 'z'}) {
                int[] bytes = Due.bytes(text);
                bytes[k] = wrong;
                DraughtWebs x = Due.feed(new DraughtWebs(), bytes);
                due.is("byte " + wrong + " at " + k, x.chart(text.length()), -1000 - k);
            }
        }
        DraughtWebs x = Due.feed(new DraughtWebs(), "a@1,1;b@2,2");
        due.is("the end, though the tape goes on", x.chart(4), -1004);
        x = Due.feed(new DraughtWebs(), "a@1,1;b@2,2");
        due.is("the end, though the tape goes on", x.chart(6), -1006);
        x = Due.feed(new DraughtWebs(), "a@1,15;b@2,2");
        due.is("the tape goes on with a digit", x.chart(5), 1);
        due.is("which does not count", x.webIs(0, 10), 25);
    }

    private void thirdDigits() {
        due.says(TERMS, "2 a third digit, at it; 3 X");
        is("a@100,1", -2004);
        is("a@1,100", -2006);
        is("a@12,123", -2007);
        is("A@1,1:123", -2008);
        is("A@11,11:999", -2010);
        is("a@1234,1", -2004);
        is("a@000,1", -2004);
        is("b@1,1;a@001,1", -2010);
        is("A@1,1:00", 1);
        is("A@1,1:000", -2008);
        is("A@1,1:12>345", -1010);
    }

    private void beyondTheEdges() {
        due.says(TERMS, "3 X above 23, Y above 15, at its first digit (asked when it ends)");
        is("a@23,15", 1);
        is("a@24,15", -3002);
        is("a@23,16", -3005);
        is("a@3,16", -3004);
        is("a@99,99", -3002);
        is("a@0,99", -3004);
        is("A@23,15:99", 1);
        is("A@24,1:1", -3002);
        is("A@1,16:1", -3004);
        is("b@1,1;a@24,1", -3008);
        is("b@1,1;a@23,16", -3011);
        is("a@24", -3002);
        is("a@24;", -3002);
        is("a@24x", -3002);
        is("a@1,16", -3004);
        is("a@1,16x", -3004);
        is("A@1,16", -3004);
        is("a@240", -2004);
        is("a@1,160", -2006);
    }

    private void toldTwice() {
        due.says(TERMS, "6 a WEB, a FLEET told twice, at its letter");
        for (int k = 0; k < 8; k++) {
            char web = (char) ('a' + k);
            char fleet = (char) ('A' + k);
            is(web + "@1,1;" + web + "@1,1", -6006);
            is(fleet + "@1,1:1;" + fleet + "@1,1:1", -6008);
            is(web + "@1,1;" + fleet + "@1,1:1", 2);
        }
        is("a@1,1;b@1,1;a", -6012);
        is("a@1,1;b@1,1;b;", -6012);
        is("A@1,1:1;b@1,1;A", -6014);
        DraughtWebs x = Due.at("a@1,1");
        due.is("told by the chart before", Due.chart(x, "a@2,2"), 1);
    }

    private void firstFromTheLeft() {
        due.says(TERMS, "FAULTS, the first from the left: 1 what can't stand there (the end, too); 2 a third");
        is("a@24,1;a@1,1", -3002);
        is("a@1,1;a@24,1", -6006);
        is("a@1,1;a*", -6006);
        is("a@100,1;x", -2004);
        is("x@100,1", -1000);
        is("a@1,1;x@1,1;a@1,1", -1006);
    }

    private void inPlaceOfAllAhead() {
        due.says(TERMS, "In place of all ahead (TENSIONS 99; THE HOUR stays)");
        DraughtWebs x = State.rich();
        int drawn = x.count(5);
        due.is("a chart of one web", Due.chart(x, "c@1,1"), 1);
        due.is("webs", x.count(1), 4);
        due.is("fleets", x.count(2), 0);
        due.is("tensions", x.count(6), 8 * 99);
        due.is("the hour", x.count(0), 35);
        due.is("rules", x.count(3), 4);
        due.is("X", x.count(5), drawn);
        x.tension(2, 3, 0);
        due.is("the same chart again", Due.chart(x, "c@1,1"), 1);
        due.is("tension 99 again", x.webIs(2, 3), 99);
        due.is("a chart without webs", Due.chart(x, "B@1,1:1>2"), 1);
        due.is("no webs", x.count(1), 0);
        due.is("one fleet", x.count(2), 2);
        due.is("the same fleet without a course", Due.chart(x, "B@1,1:1"), 1);
        due.is("its course is none", x.fleetIs(1, 2), -2);
    }

    private void lengths() {
        due.says(CHART, "A CHART by the first n bytes of the tape (1 to 160; empty then): how many LINES");
        due.is("1 byte", Due.feed(new DraughtWebs(), "a").chart(1), -1001);
        due.range("chart", 1, 160, n -> State.fed(new DraughtWebs(), 13).chart(n) != NONE);
        DraughtWebs x = State.fed(new DraughtWebs(), 13);
        due.is("160 bytes of 260", x.chart(160), 16);
        due.is("the tape", x.count(4), 0);
        x = State.fed(new DraughtWebs(), 8);
        due.is("160 bytes of 160", x.chart(160), 16);
        due.is("the tape", x.count(4), 0);
        due.is("all 16 are told", x.count(1) + x.count(2), 510);
    }

    private void answers() {
        due.says(CHART, "a FAULT (all stays)");
        due.empties("chart of a fault at 0", -1000, x -> x.chart(5), Due.bytes("i@1,1"));
        due.empties("chart of a fault at its end", -1006, x -> x.chart(6), Due.bytes("b@1,1;"));
        due.empties("chart of a third digit", -2014, x -> x.chart(15), Due.bytes("b@1,1;C@2,2:111"));
        due.empties("chart of an X of 24", -3008, x -> x.chart(12), Due.bytes("b@1,1;c@24,1"));
        due.empties("chart of a web told twice", -6006, x -> x.chart(11), Due.bytes("b@1,1;b@2,2"));
        due.says(CHART, "NONE: as above");
        for (int n : new int[] {0, -1, 161, 240, 260, 261, Integer.MIN_VALUE, Integer.MAX_VALUE}) {
            due.refuses("chart " + n, NONE, x -> x.chart(n));
        }
        for (int blocks = 0; blocks < 8; blocks++) {
            int n = 20 * blocks;
            due.refuses("chart of one byte more than there are", NONE, blocks, x -> x.chart(n + 1));
            due.refuses("chart 160", NONE, blocks, x -> x.chart(160));
            if (n > 0) {
                due.is("as many as there are: " + n, State.fed(new DraughtWebs(), blocks).chart(n) != NONE, true);
            }
        }
    }
}
