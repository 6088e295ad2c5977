/** Promises 1 to 3, 8, 9 and 27 to 31: what an object has, the tape, what is kept. */
public final class StateTest {
    private static final Due DUE = new Due("StateTest");

    private StateTest() {
    }

    public static void main(String[] args) {
        aNewObject();
        tensions();
        theTape();
        websAndFleets();
        seeds();
        keptAndUndone();
        undoneUnderAnotherChart();
        checks();
        counts();
        DUE.end();
    }

    private static void aNewObject() {
        DraughtWebs x = new DraughtWebs();
        int[] due = {0, 0, 0, 0, 0, 1, 0};
        for (int what = 0; what < due.length; what++) {
            DUE.is("new count " + what, x.count(what), due[what]);
        }
        for (int k = 0; k < 8; k++) {
            DUE.is("new webIs", x.webIs(k, 0), DraughtWebs.NONE);
            DUE.is("new fleetIs", x.fleetIs(k, 0), DraughtWebs.NONE);
            DUE.is("new share", x.share(k), DraughtWebs.NONE);
        }
        DUE.is("new undo", x.undo(), false);
        DUE.is("new hours", x.hours(3), 0);
        DUE.is("hours go by without a chart", x.count(0), 3);
        DUE.is("no draw without a web", x.count(5), 1);
        DUE.is("NONE", DraughtWebs.NONE, -1);
    }

    private static void tensions() {
        DraughtWebs x = Due.at("a@1,2;h@3,4");
        DUE.is("tension", x.tension(0, 0, 0), true);
        DUE.is("tension", x.tension(7, 7, 98), true);
        DUE.is("tension set", x.webIs(0, 0), 0);
        DUE.is("tension set", x.webIs(7, 7), 98);
        DUE.is("tension of the next stays", x.webIs(0, 1), 99);
        DUE.is("tension 99", x.tension(0, 0, 99), true);
        DUE.is("tension 99 set", x.webIs(0, 0), 99);
        int[][] refused = {{1, 0, 5}, {-1, 0, 5}, {8, 0, 5}, {0, -1, 5}, {0, 8, 5}, {0, 0, -1}, {0, 0, 100},
            {Integer.MAX_VALUE, 0, 5}, {0, Integer.MIN_VALUE, 5}};
        for (int[] r : refused) {
            DUE.is("tension refused", x.tension(r[0], r[1], r[2]), false);
        }
        DUE.is("all as before", x.count(6), 16 * 99 - 1);
    }

    private static void theTape() {
        DraughtWebs x = new DraughtWebs();
        for (int k = 1; k <= 13; k++) {
            DUE.is("feed", x.feed(k, 2, 3, 4, 5), 20 * k);
        }
        DUE.is("feed beyond 260", x.feed(1, 2, 3, 4, 5), DraughtWebs.NONE);
        DUE.is("the tape stays", x.count(4), 260);
        DUE.is("rent by the first bytes", x.rent(4, 0), 3);
        DUE.is("empty then", x.count(4), 0);
        x.feed(0x09010203, 0, 0, 0, 0x000000ff);
        DUE.is("the highest byte first", x.rent(4, 0), 0);
        x.feed(0x00000000, 0x00000000, 0xfe000000, 0, 0);
        DUE.is("a byte is no less than 0", x.rent(12, 0), 8);
        x.feed(0, 0, 0, 0, 1);
        x.feed(0x80000000, 0, 0, 0, 0);
        DUE.is("the next feed comes behind", x.spell(21, 0), 0);
        x.feed(0, 0, 0, 0, 1);
        x.feed(0x80000000, 0, 0, 0, 0);
        DUE.is("where", x.spell(21, 1), 20);
    }

    private static void websAndFleets() {
        DraughtWebs x = Due.at("c@23,15;A@0,0:0;H@4,3:99>7;B@12,10:7>0");
        x.tension(2, 0, 0);
        x.tension(2, 7, 0);
        x.tension(2, 3, 42);
        DUE.is("webIs 3", x.webIs(2, 3), 42);
        DUE.is("webIs 10", x.webIs(2, 10), 383);
        DUE.is("webIs 11", x.webIs(2, 11), 129);
        int[] others = {-1, 8, 9, 12, Integer.MAX_VALUE, Integer.MIN_VALUE};
        for (int what : others) {
            DUE.is("webIs " + what, x.webIs(2, what), DraughtWebs.NONE);
            DUE.is("fleetIs " + what, x.fleetIs(7, what), DraughtWebs.NONE);
            DUE.is("webIs of " + what, x.webIs(what, 0), DraughtWebs.NONE);
            DUE.is("fleetIs of " + what, x.fleetIs(what, 0), DraughtWebs.NONE);
        }
        DUE.is("fleetIs 3", x.fleetIs(7, 3), DraughtWebs.NONE);
        DUE.is("fleet's place", x.fleetIs(7, 0), 76);
        DUE.is("force", x.fleetIs(7, 1), 99);
        DUE.is("course", x.fleetIs(7, 2), 7);
        DUE.is("course 0", x.fleetIs(1, 2), 0);
        DUE.is("force 0", x.fleetIs(0, 1), 0);
        DUE.is("no course", x.fleetIs(0, 2), -2);
    }

    private static void seeds() {
        DraughtWebs x = new DraughtWebs();
        DUE.is("seed 0", x.seed(0), true);
        DUE.is("X 0", x.count(5), 0);
        DUE.is("seed 65535", x.seed(65535), true);
        DUE.is("X 65535", x.count(5), 65535);
        DUE.is("seed -1", x.seed(-1), false);
        DUE.is("seed 65536", x.seed(65536), false);
        DUE.is("X stays", x.count(5), 65535);
        Due.chart(x, "a@5,5;A@5,5:1");
        x.hours(1);
        DUE.is("25173 * 65535 + 13849 modulo 65536", x.count(5), 54212);
    }

    private static void keptAndUndone() {
        DraughtWebs x = Due.at("a@5,5;A@0,3:20>2;B@9,9:20");
        Due.law(x, "t7(1=1)");
        x.hours(2);
        DUE.is("keep", x.keep(), 2);
        int drawn = x.count(5);
        int sum = x.count(6);
        x.hours(30);
        x.tension(0, 0, 3);
        x.seed(77);
        DUE.is("undo", x.undo(), true);
        DUE.is("X undone", x.count(5), drawn);
        DUE.is("tensions undone", x.count(6), sum);
        DUE.is("hour undone", x.count(0), 2);
        DUE.is("place undone", x.fleetIs(0, 0), 3 * 24 + 2);
        DUE.is("course undone", x.fleetIs(0, 2), 2);
        DUE.is("no course undone", x.fleetIs(1, 2), -2);
        x.hours(1);
        DUE.is("undo again", x.undo(), true);
        DUE.is("hour again", x.count(0), 2);
        x.hours(3);
        DUE.is("keep anew", x.keep(), 5);
        x.hours(1);
        x.undo();
        DUE.is("the last one", x.count(0), 5);
        DUE.is("the law stays", x.count(3), 1);
    }

    private static void undoneUnderAnotherChart() {
        DraughtWebs x = Due.at("a@1,1;c@2,2;A@5,5:9>2;C@6,6:5");
        x.tension(0, 0, 10);
        x.tension(2, 4, 20);
        x.keep();
        x.hours(3);
        Due.chart(x, "a@9,9;b@3,3;A@7,7:20>4;B@1,2:3>1;C@8,8:4>5");
        DUE.is("the hour stays under a new chart", x.count(0), 3);
        x.tension(1, 1, 30);
        x.tension(0, 5, 40);
        DUE.is("undo", x.undo(), true);
        DUE.is("told webs stay told", x.count(1), 3);
        DUE.is("told fleets stay told", x.count(2), 7);
        DUE.is("tension as kept", x.webIs(0, 0), 10);
        DUE.is("tension as kept", x.webIs(0, 5), 99);
        DUE.is("the web's place stays", x.webIs(0, 10), 9 * 24 + 9);
        DUE.is("a web not told then", x.webIs(1, 1), 30);
        DUE.is("a fleet's place as kept", x.fleetIs(0, 0), 5 * 24 + 5);
        DUE.is("its force stays", x.fleetIs(0, 1), 20);
        DUE.is("its course as kept", x.fleetIs(0, 2), 2);
        DUE.is("no course as kept", x.fleetIs(2, 2), -2);
        DUE.is("a fleet not told then", x.fleetIs(1, 0), 2 * 24 + 1);
        DUE.is("its course", x.fleetIs(1, 2), 1);
        DUE.is("hour", x.count(0), 0);
        Due.chart(x, "c@2,2");
        DUE.is("tensions of a new chart", x.webIs(2, 4), 99);
    }

    private static void checks() {
        DraughtWebs x = Due.at("a@1,1;c@2,2;h@3,3");
        x.tension(0, 0, 0);
        x.tension(0, 1, 0);
        x.tension(7, 6, 0);
        DUE.is("right", Due.feed(x, 2, 255, 0, 255, 255, 255, 255, 1).check(8), DraughtWebs.NONE);
        DUE.is("the tape is empty", x.count(4), 0);
        DUE.is("the last", Due.feed(x, 2, 255, 0, 255, 255, 255, 255, 2).check(8), 7);
        DUE.is("not among the first", Due.feed(x, 2, 255, 0, 255, 255, 255, 255, 2).check(7), DraughtWebs.NONE);
        DUE.is("the first of two", Due.feed(x, 2, 0, 9, 255, 255, 255, 255, 2).check(8), 1);
        DUE.is("the first", Due.feed(x, 3, 255).check(1), 0);
        DUE.is("a fault empties, too", x.count(4), 0);
        DUE.is("check 0 of an empty tape", x.check(0), DraughtWebs.NONE);
        Due.feed(x, 9, 9);
        DUE.is("check 9", x.check(9), -2);
        DUE.is("check -1", x.check(-1), -2);
        DUE.is("the tape stays", x.count(4), 20);
        DUE.is("check 0", x.check(0), DraughtWebs.NONE);
        DUE.is("check 0 empties", x.count(4), 0);
        DUE.is("it has not so many", x.check(1), -2);
    }

    private static void counts() {
        DraughtWebs x = Due.at("a@1,1;h@2,2;A@5,5:99;G@6,6:5>1");
        Due.law(x, "t1(1=1);m2(1=1);x(1=2)");
        x.hours(4);
        Due.feed(x, 1, 2, 3);
        DUE.is("hour", x.count(0), 4);
        DUE.is("webs", x.count(1), 129);
        DUE.is("fleets", x.count(2), 65);
        DUE.is("rules", x.count(3), 3);
        DUE.is("tape", x.count(4), 20);
        x.tension(0, 0, 50);
        x.tension(7, 0, 0);
        int sum = 0;
        for (int s = 0; s < 8; s++) {
            sum += x.webIs(0, s) + x.webIs(7, s);
        }
        DUE.is("tensions", x.count(6), sum);
        DUE.is("others", x.count(7), DraughtWebs.NONE);
        DUE.is("others", x.count(-1), DraughtWebs.NONE);
    }
}
