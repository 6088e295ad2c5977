/** Promises 6, 7, 10 and 11: hours, what is tried, felt, and when. */
public final class HoursTest {
    private static final Due DUE = new Due("HoursTest");

    private HoursTest() {
    }

    public static void main(String[] args) {
        courses();
        spokes();
        touches();
        draws();
        lettersOfTouches();
        lettersOfMending();
        slackSpokes();
        hourOfTheDay();
        hourOfTheDayOfTouches();
        theLastHour();
        tried();
        feels();
        when();
        refused();
        DUE.end();
    }

    private static void courses() {
        int[][] steps = {{0, -1}, {1, -1}, {1, 0}, {1, 1}, {0, 1}, {-1, 1}, {-1, 0}, {-1, -1}};
        for (int c = 0; c < 8; c++) {
            DraughtWebs x = Due.at("A@10,8:1>" + c);
            x.hours(3);
            DUE.is("course " + c, x.fleetIs(0, 0), 24 * (8 + 3 * steps[c][1]) + 10 + 3 * steps[c][0]);
            DUE.is("course " + c, x.fleetIs(0, 2), c);
        }
        String[] edges = {"A@4,0:1>0", "A@23,4:1>2", "A@4,15:1>4", "A@0,4:1>6", "A@23,4:1>1", "A@4,0:1>1",
            "A@23,4:1>3", "A@4,15:1>5", "A@0,4:1>7", "A@0,4:1>5", "A@23,15:1>3", "A@0,0:1>7"};
        for (String edge : edges) {
            DraughtWebs x = Due.at(edge);
            int place = x.fleetIs(0, 0);
            int course = x.fleetIs(0, 2);
            x.hours(1);
            DUE.is(edge + " stays", x.fleetIs(0, 0), place);
            DUE.is(edge + " turns about", x.fleetIs(0, 2), (course + 4) % 8);
            x.hours(1);
            DUE.is(edge + " goes back", x.fleetIs(0, 0) != place, true);
        }
        DraughtWebs still = Due.at("A@4,4:9");
        still.hours(5);
        DUE.is("no course", still.fleetIs(0, 0), 100);
    }

    /** A fleet is felt by the spoke towards it. */
    private static void spokes() {
        int[][] ways = {{0, 0, 0}, {0, -3, 0}, {1, -3, 0}, {-1, -3, 0}, {1, -2, 1}, {2, -1, 1}, {2, -2, 1}, {3, -1, 2},
            {3, 0, 2}, {3, 1, 2}, {2, 1, 3}, {1, 2, 3}, {1, 3, 4}, {0, 1, 4}, {-1, 3, 4}, {-1, 2, 5}, {-2, 1, 5},
            {-3, 1, 6}, {-1, 0, 6}, {-3, -1, 6}, {-2, -1, 7}, {-1, -2, 7}, {-1, -1, 7}, {5, -2, 2}, {4, -2, 1},
            {2, -5, 0}, {2, -4, 1}, {-4, 2, 5}, {-5, 2, 6}};
        for (int[] way : ways) {
            DraughtWebs x = Due.at("a@10,8;A@" + (10 + way[0]) + "," + (8 + way[1]) + ":50");
            Due.law(x, "t1(1=1)");
            x.hours(1);
            DUE.is("way " + way[0] + "," + way[1], x.webIs(0, way[2]), 98);
            DUE.is("no other spoke", x.count(6), 791);
            DUE.is("feels", x.feels(0, 1), way[2]);
        }
    }

    private static void touches() {
        DraughtWebs x = Due.at("a@5,5;A@5,3:2");
        DUE.is("force is distance", x.hours(1), 0);
        x = Due.at("a@5,5;A@5,3:3");
        DUE.is("force is more, no law", x.hours(1), 1);
        DUE.is("not worn without a law", x.count(6), 792);
        x = Due.at("a@5,5;A@5,3:10;B@5,2:10;C@8,5:10");
        Due.law(x, "tv/2(1=1)");
        DUE.is("three touches", x.hours(1), 3);
        DUE.is("the same spoke twice", x.webIs(0, 0), 25);
        DUE.is("another one", x.webIs(0, 2), 50);
        x = Due.at("a@5,5;A@5,3:10;B@5,2:10");
        Due.law(x, "t99(1=1);m5(1=1)");
        DUE.is("worn to 0 by the first", x.hours(1), 1);
        DUE.is("it was touched: not mended", x.webIs(0, 0), 0);
        DUE.is("not touched any more", x.hours(1), 0);
        DUE.is("mended", x.webIs(0, 0), 5);
        DUE.is("touched again", x.hours(1), 1);
        DUE.is("0 at least", x.webIs(0, 0), 0);
        x = Due.at("a@5,5;b@5,7;A@5,3:10>4");
        Due.law(x, "td(1=1)");
        x.hours(1);
        DUE.is("it goes first", x.webIs(0, 0), 98);
        DUE.is("the other web", x.webIs(1, 0), 96);
        x = Due.at("a@5,5;A@5,3:10");
        Due.law(x, "x(1=1);m5(1=1)");
        x.tension(0, 0, 50);
        DUE.is("hidden", x.hours(1), 0);
        DUE.is("hidden is not touched", x.webIs(0, 0), 55);
    }

    private static void draws() {
        DraughtWebs x = Due.at("a@5,5;b@6,6;A@5,3:10;B@20,15:3;C@9,9:10");
        Due.law(x, "tw(1=1)");
        x.hours(1);
        DUE.is("four draws", x.count(5), 45005);
        DUE.is("39022: 2", x.webIs(0, 0), 97);
        DUE.is("61087: 7", x.webIs(0, 3), 92);
        DUE.is("20196: 6", x.webIs(1, 0), 93);
        DUE.is("45005: 5", x.webIs(1, 3), 94);
        x.seed(1);
        x.tension(0, 0, 0);
        x.tension(0, 3, 0);
        x.tension(1, 0, 0);
        x.tension(1, 3, 0);
        x.hours(1);
        DUE.is("drawn for slack spokes, too", x.count(5), 45005);
        x.seed(1);
        Due.law(x, "x(1=1)");
        x.hours(1);
        DUE.is("drawn for hidden fleets, too", x.count(5), 45005);
        x.seed(1);
        x.tension(0, 0, 50);
        x.tension(0, 3, 50);
        x.tension(1, 0, 50);
        x.tension(1, 3, 50);
        Due.law(x, "x(w=7);x(w=5);t10(1=1)");
        DUE.is("x by the draw", x.hours(1), 2);
        DUE.is("not hidden", x.webIs(0, 0), 40);
        DUE.is("hidden", x.webIs(0, 3), 50);
    }

    private static void lettersOfTouches() {
        String letters = "pfsvdgrchw";
        int[] due = {2, 5, 3, 90, 4, 36, 2, 3, 4, 2};
        for (int k = 0; k < 10; k++) {
            DraughtWebs x = Due.at("c@5,5;F@8,8:40>3");
            for (int h = 0; h < 4; h++) {
                x.hours(1);
            }
            Due.chart(x, "c@5,5;F@8,8:40>3");
            x.seed(1);
            x.tension(2, 3, 90);
            x.tension(2, 0, 0);
            x.tension(2, 7, 0);
            Due.law(x, "t" + letters.charAt(k) + "(1=1)");
            x.hours(1);
            DUE.is("letter " + letters.charAt(k), 90 - x.webIs(2, 3), due[k]);
        }
        DraughtWebs x = Due.at("a@5,5;A@5,3:10");
        Due.law(x, "tc(1=1)");
        x.hours(1);
        DUE.is("no course: 8", x.webIs(0, 0), 91);
        x = Due.at("a@5,5;A@5,0:10>0");
        Due.law(x, "tc(1=1)");
        x.hours(1);
        DUE.is("the course behind the turn", x.webIs(0, 0), 95);
        x = Due.at("a@5,5;A@5,3:10;B@8,5:10");
        Due.law(x, "t99(f=0);tr*10(f=1)");
        x.hours(1);
        DUE.is("slack spokes by then", x.webIs(0, 2), 89);
    }

    private static void lettersOfMending() {
        String letters = "pfsvdgrchw";
        int[] due = {2, 8, 6, 40, 0, 0, 2, 8, 4, 0};
        for (int k = 0; k < 10; k++) {
            DraughtWebs x = Due.at("c@5,5;F@5,2:40>0");
            x.hours(4);
            Due.chart(x, "c@5,5;F@5,2:40>0");
            x.seed(1);
            x.tension(2, 6, 40);
            x.tension(2, 7, 0);
            x.tension(2, 4, 0);
            Due.law(x, "t5(1=1);m" + letters.charAt(k) + "(s=6)");
            x.hours(1);
            DUE.is("letter " + letters.charAt(k) + " in m", x.webIs(2, 6) - 40, due[k]);
        }
    }

    private static void slackSpokes() {
        DraughtWebs x = Due.at("a@5,5");
        for (int s = 0; s < 8; s++) {
            x.tension(0, s, 0);
        }
        Due.law(x, "mr(1=1)");
        DUE.is("slack after", x.tried(1, 1), 0);
        x.hours(1);
        for (int s = 0; s < 8; s++) {
            DUE.is("by numbers, as many as are slack by then", x.webIs(0, s), 8 - s);
        }
        Due.law(x, "m97(v=2)");
        x.tension(0, 5, 0);
        x.hours(1);
        DUE.is("99", x.webIs(0, 6), 99);
        DUE.is("C by its tension", x.webIs(0, 5), 0);
    }

    private static void hourOfTheDay() {
        DraughtWebs x = Due.at("a@5,5");
        for (int s = 0; s < 8; s++) {
            x.tension(0, s, 10);
        }
        Due.law(x, "m1(h=0)");
        int[] ends = {1, 2, 24, 25, 48, 49};
        int[] due = {11, 11, 11, 12, 12, 13};
        for (int k = 0; k < ends.length; k++) {
            x.hours(ends[k] - x.count(0));
            DUE.is("hour " + ends[k], x.webIs(0, 0), due[k]);
        }
    }

    private static void hourOfTheDayOfTouches() {
        DraughtWebs x = Due.at("a@5,5;A@5,3:10");
        x.hours(23);
        Due.law(x, "th(1=1)");
        int[] due = {76, 76, 75, 73};
        for (int want : due) {
            x.hours(1);
            DUE.is("hour " + x.count(0), x.webIs(0, 0), want);
        }
    }

    private static void theLastHour() {
        DraughtWebs x = Due.at("a@5,5;A@0,0:99>2");
        for (int k = 0; k < 99; k++) {
            DUE.is("a hundred", x.hours(100), 100);
        }
        DUE.is("9900", x.count(0), 9900);
        DUE.is("tried", x.tried(100, 0), 99);
        DUE.is("as many as can", x.hours(100), 99);
        DUE.is("9999", x.count(0), 9999);
        int place = x.fleetIs(0, 0);
        int drawn = x.count(5);
        DUE.is("none goes by", x.hours(1), 0);
        DUE.is("the fleet stays", x.fleetIs(0, 0), place);
        DUE.is("nothing is drawn", x.count(5), drawn);
        DUE.is("tried", x.tried(5, 0), 0);
        DUE.is("tried", x.tried(5, 20), place);
        Due.chart(x, "a@0,0;A@10,0:5>6");
        DUE.is("when: courses alone", x.when(0, 0, 10), 6);
    }

    private static void tried() {
        DraughtWebs x = Due.at("a@5,5;c@9,9;A@5,3:10>2;H@9,2:5");
        Due.law(x, "t50+w(1=1);m1(1=1)");
        x.seed(4321);
        for (int n = 1; n <= 100; n += 9) {
            DraughtWebs y = Due.at("a@5,5;c@9,9;A@5,3:10>2;H@9,2:5");
            Due.law(y, "t50+w(1=1);m1(1=1)");
            y.seed(4321);
            DUE.is("touches", x.tried(n, 0), y.hours(n));
            DUE.is("slack", x.tried(n, 1), Integer.bitCount(y.webIs(0, 11)) + Integer.bitCount(y.webIs(2, 11)));
            DUE.is("all", x.tried(n, 10) + x.tried(n, 12), y.count(6));
            DUE.is("place", x.tried(n, 20), y.fleetIs(0, 0));
            DUE.is("course", x.tried(n, 30), y.fleetIs(0, 2));
            DUE.is("no course", x.tried(n, 37), -2);
            DUE.is("still", x.tried(n, 27), 57);
        }
        DUE.is("nothing changed", x.count(0), 0);
        DUE.is("nothing changed", x.count(5), 4321);
        DUE.is("nothing changed", x.count(6), 16 * 99);
        DUE.is("nothing changed", x.fleetIs(0, 0), 3 * 24 + 5);
        int[] none = {-1, 2, 9, 11, 13, 17, 18, 19, 21, 26, 28, 29, 31, 36, 38, 39, 40, Integer.MIN_VALUE, Integer.MAX_VALUE};
        for (int what : none) {
            DUE.is("tried what " + what, x.tried(1, what), DraughtWebs.NONE);
        }
    }

    private static void feels() {
        DraughtWebs x = Due.at("a@5,5;b@23,15;A@5,3:5;C@5,8:6;D@8,5:6;E@2,2:2");
        DUE.is("the lowest of like ones", x.feels(0, 0), 0);
        DUE.is("spoke", x.feels(0, 1), 0);
        DUE.is("how much", x.feels(0, 2), 3);
        for (int what = 0; what < 3; what++) {
            DUE.is("none", x.feels(1, what), -2);
        }
        x = Due.at("a@5,5;A@5,3:5;C@5,8:7;D@8,5:7");
        DUE.is("most", x.feels(0, 0), 2);
        DUE.is("spoke", x.feels(0, 1), 4);
        DUE.is("how much", x.feels(0, 2), 4);
        x.tension(0, 4, 0);
        Due.law(x, "x(1=1)");
        DUE.is("law and tension aside", x.feels(0, 0), 2);
        DUE.is("no such what", x.feels(0, 3), DraughtWebs.NONE);
        DUE.is("no such what", x.feels(0, -1), DraughtWebs.NONE);
        DUE.is("no such web", x.feels(1, 0), DraughtWebs.NONE);
        DUE.is("no such web", x.feels(-1, 0), DraughtWebs.NONE);
        DUE.is("no such web", x.feels(8, 0), DraughtWebs.NONE);
        x = Due.at("a@5,5;A@5,5:0");
        DUE.is("force 0 at its own place", x.feels(0, 0), -2);
        x = Due.at("a@5,5;A@5,5:1");
        DUE.is("force 1 at its own place", x.feels(0, 2), 1);
    }

    private static void when() {
        DraughtWebs x = Due.at("a@0,0;A@10,0:5>6;B@10,0:5>2;C@3,3:4>3;D@9,9:3");
        DUE.is("behind six", x.when(0, 0, 6), 6);
        DUE.is("not in five", x.when(0, 0, 5), -2);
        DUE.is("by a turning", x.when(0, 1, 33), 33);
        DUE.is("by a turning", x.when(0, 1, 32), -2);
        DUE.is("now", x.when(0, 2, 1), 0);
        DUE.is("never", x.when(0, 3, 100), -2);
        DUE.is("nothing moved", x.fleetIs(0, 0), 10);
        x.tension(0, 2, 0);
        Due.law(x, "x(1=1)");
        DUE.is("courses alone", x.when(0, 0, 100), 6);
        int[][] none = {{1, 0, 5}, {0, 4, 5}, {0, 0, 0}, {0, 0, 101}, {0, 0, -1}, {-1, 0, 5}, {8, 0, 5}, {0, -1, 5},
            {0, 8, 5}};
        for (int[] n : none) {
            DUE.is("when none", x.when(n[0], n[1], n[2]), DraughtWebs.NONE);
        }
    }

    private static void refused() {
        DraughtWebs x = Due.at("a@5,5;A@5,3:10>2");
        int[] numbers = {0, -1, 101, Integer.MIN_VALUE, Integer.MAX_VALUE};
        for (int n : numbers) {
            DUE.is("hours " + n, x.hours(n), DraughtWebs.NONE);
            DUE.is("tried " + n, x.tried(n, 0), DraughtWebs.NONE);
        }
        DUE.is("no hour went by", x.count(0), 0);
        DUE.is("no fleet went", x.fleetIs(0, 0), 77);
        DUE.is("100 hours", x.hours(100) >= 0, true);
        DUE.is("100 went by", x.count(0), 100);
    }
}
