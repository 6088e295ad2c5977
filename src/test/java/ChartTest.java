/** Promise 5: charts and their faults. */
public final class ChartTest {
    private static final Due DUE = new Due("ChartTest");

    private ChartTest() {
    }

    public static void main(String[] args) {
        lines();
        faults();
        placesOfFaults();
        inPlaceOfAllAhead();
        refused();
        DUE.end();
    }

    private static void is(String text, int want) {
        DUE.is(text, Due.chart(new DraughtWebs(), text), want);
    }

    private static void lines() {
        is("a@0,0", 1);
        is("h@23,15", 1);
        is("h@05,09", 1);
        is("A@0,0:0", 1);
        is("H@23,15:99>7", 1);
        is("A@0,0:00>0;a@0,0", 2);
        is("a@0,0;b@0,0;c@0,0;d@0,0;e@0,0;f@0,0;g@0,0;h@0,0;"
                + "A@0,0:1;B@0,0:1;C@0,0:1;D@0,0:1;E@0,0:1;F@0,0:1;G@0,0:1;H@0,0:1", 16);
        is("h@1,1;D@2,2:3>4;B@3,3:4;a@4,4", 4);
    }

    private static void faults() {
        is(";", -1000);
        is("i@0,0", -1000);
        is("I@0,0:1", -1000);
        is("@0,0", -1000);
        is("`@0,0", -1000);
        is(" a@0,0", -1000);
        is("a", -1001);
        is("a@", -1002);
        is("a@,", -1002);
        is("a@/,1", -1002);
        is("a@:,1", -1002);
        is("a@1", -1003);
        is("a@1;", -1003);
        is("a@1,", -1004);
        is("a@1, 2", -1004);
        is("a@1,2:3", -1005);
        is("a@1,2>3", -1005);
        is("a@1,2;", -1006);
        is("a@1,2;;", -1006);
        is("A@1,2", -1005);
        is("A@1,2;", -1005);
        is("A@1,2:", -1006);
        is("A@1,2:>", -1006);
        is("A@1,2:3>", -1008);
        is("A@1,2:3>8", -1008);
        is("A@1,2:3>7>", -1009);
        is("A@1,2:3>77", -1009);
        is("A@1,2:3,", -1007);
        is("A@1,2:3;", -1008);
        is("A@1,2:3>4;", -1010);
        is("a@123,4", -2004);
        is("a@000,4", -2004);
        is("a@1,123", -2006);
        is("A@1,2:345", -2008);
        is("A@1,2:999", -2008);
        is("a@119,4", -2004);
        is("a@1,1\0", -1005);
        is("\0", -1000);
        is("A@1,2:3\0", -1007);
        is("a@24,0", -3002);
        is("a@99,0", -3002);
        is("a@0,16", -3004);
        is("a@23,16", -3005);
        is("a@1,2;a@3,4", -6006);
        is("A@1,2:3;A@3,4:5", -6008);
        is("a@1,2;A@1,2:3;a", -6014);
        is("a@1,2;b@1,2;b@99,9", -6012);
    }

    /** A number beyond its bound is asked when it ends: a third digit comes first, what stands behind it does not. */
    private static void placesOfFaults() {
        is("a@240,0", -2004);
        is("a@24", -3002);
        is("a@24x", -3002);
        is("a@0,16x", -3004);
        is("a@0,160", -2006);
        is("a@24,99", -3002);
        is("b@1,1;a@24,0", -3008);
    }

    private static void inPlaceOfAllAhead() {
        DraughtWebs x = Due.at("a@1,1;b@2,2;A@3,3:50>2;B@4,4:5");
        x.tension(0, 0, 1);
        x.tension(1, 1, 2);
        Due.law(x, "t1(1=1)");
        x.hours(2);
        int drawn = x.count(5);
        DUE.is("a fault", Due.chart(x, "c@3,"), -1004);
        DUE.is("another fault", Due.chart(x, "c@3,3;d"), -1007);
        DUE.is("all stays", x.count(1), 3);
        DUE.is("all stays", x.webIs(1, 1), 2);
        DUE.is("all stays", x.fleetIs(0, 0), 3 * 24 + 5);
        DUE.is("the tape is empty", x.count(4), 0);
        DUE.is("a chart", Due.chart(x, "b@7,6;C@5,5:6"), 2);
        DUE.is("webs", x.count(1), 2);
        DUE.is("fleets", x.count(2), 4);
        DUE.is("a web no more", x.webIs(0, 10), DraughtWebs.NONE);
        DUE.is("a fleet no more", x.fleetIs(0, 0), DraughtWebs.NONE);
        DUE.is("place", x.webIs(1, 10), 6 * 24 + 7);
        DUE.is("tensions 99", x.count(6), 792);
        DUE.is("hour stays", x.count(0), 2);
        DUE.is("X stays", x.count(5), drawn);
        DUE.is("law stays", x.count(3), 1);
    }

    private static void refused() {
        DraughtWebs x = Due.at("a@1,1");
        Due.feed(x, "b@2,2");
        int[] lengths = {0, -1, 21, 161, Integer.MAX_VALUE, Integer.MIN_VALUE};
        for (int n : lengths) {
            DUE.is("chart " + n, x.chart(n), DraughtWebs.NONE);
        }
        DUE.is("the tape stays", x.count(4), 20);
        DUE.is("chart 5", x.chart(5), 1);
        StringBuilder text = new StringBuilder("a@1,1");
        while (text.length() < 180) {
            text.append(";b@01,01");
        }
        Due.feed(x, text.toString());
        DUE.is("161 bytes", x.chart(161), DraughtWebs.NONE);
        DUE.is("160 bytes", x.chart(160), -6014);
    }
}
