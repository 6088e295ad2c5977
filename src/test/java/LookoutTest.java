/** Promises 12 to 17: fixes, bearings, all the sea, quiet places, the nearest web and shares. */
public final class LookoutTest {
    private static final Due DUE = new Due("LookoutTest");

    private LookoutTest() {
    }

    public static void main(String[] args) {
        fixes();
        fixesBySpokes();
        bearings();
        allTheSea();
        quiet();
        nearest();
        shares();
        DUE.end();
    }

    private static void fix(DraughtWebs x, int n, int many, int first, int... pairs) {
        DUE.is("fix, how many", Due.feed(x, pairs).fix(n, 0), many);
        DUE.is("fix, the first", Due.feed(x, pairs).fix(n, 1), first);
        DUE.is("the tape is empty", x.count(4), 0);
    }

    private static void fixes() {
        DraughtWebs x = Due.at("a@0,0;b@10,0;h@23,15");
        fix(x, 1, 65, 16, 7, 0);
        fix(x, 2, 15, 1, 0, 2, 1, 6);
        fix(x, 2, 15, 1, 1, 6, 0, 2);
        fix(x, 2, 0, -2, 0, 0, 1, 0);
        fix(x, 8, 65, 16, 7, 0, 7, 0, 7, 0, 7, 0, 7, 0, 7, 0, 7, 0, 7, 0);
        fix(x, 2, 0, -2, 7, 0, 7, 1);
        fix(x, 1, -3, -3, 2, 0);
        fix(x, 1, -3, -3, 8, 0);
        fix(x, 1, -3, -3, 255, 0);
        fix(x, 1, -3, -3, 0, 8);
        fix(x, 1, -3, -3, 0, 255);
        fix(x, 2, -3, -3, 0, 2, 0, 8);
        fix(x, 1, 1, 0, 0, 0, 0, 8);
        Due.feed(x, 0, 0);
        int[][] none = {{0, 0}, {-1, 0}, {9, 0}, {1, 2}, {1, -1}, {Integer.MAX_VALUE, 0}};
        for (int[] n : none) {
            DUE.is("fix " + n[0] + " " + n[1], x.fix(n[0], n[1]), DraughtWebs.NONE);
        }
        DUE.is("the tape stays", x.count(4), 20);
        DUE.is("fix", x.fix(1, 0), 1);
        DUE.is("it has not so many", x.fix(1, 0), DraughtWebs.NONE);
    }

    /** Each place lies towards one spoke. */
    private static void fixesBySpokes() {
        DraughtWebs x = Due.at("d@12,7");
        int all = 0;
        for (int s = 0; s < 8; s++) {
            all += Due.feed(x, 3, s).fix(1, 0);
        }
        DUE.is("all places", all, 384);
        DUE.is("own place by 0", Due.feed(Due.at("d@12,0"), 3, 0).fix(1, 1), 12);
    }

    private static void bearings() {
        DraughtWebs x = Due.at("a@5,5;b@8,5;c@5,5;d@10,10;e@0,0");
        DUE.is("one behind the other", x.bearings(0, 2, 1, 2), 5 * 24 + 9);
        DUE.is("towards each other", x.bearings(0, 2, 1, 6), 5 * 24 + 6);
        DUE.is("by the first way", x.bearings(1, 6, 0, 2), 5 * 24 + 7);
        DUE.is("away from each other", x.bearings(0, 6, 1, 2), -2);
        DUE.is("behind the other web", x.bearings(0, 6, 1, 6), 5 * 24 + 4);
        DUE.is("not from the web's own place on", x.bearings(1, 6, 0, 6), 5 * 24 + 4);
        DUE.is("at the same place, the same way", x.bearings(0, 3, 2, 3), 6 * 24 + 6);
        DUE.is("at the same place, another way", x.bearings(0, 3, 2, 4), -2);
        DUE.is("crossing", x.bearings(0, 4, 3, 6), 10 * 24 + 5);
        DUE.is("at the place of the other one", x.bearings(0, 3, 3, 6), -2);
        DUE.is("a way through the place of the other web", x.bearings(0, 3, 3, 3), 11 * 24 + 11);
        DUE.is("over the place of the first web", x.bearings(0, 3, 4, 3), 6 * 24 + 6);
        DUE.is("by odd ways between places", Due.at("a@5,5;b@8,5").bearings(0, 3, 1, 5), -2);
        DUE.is("off the chart", Due.at("a@0,15;b@2,15").bearings(0, 3, 1, 5), -2);
        DUE.is("on the edge", Due.at("a@0,14;b@2,14").bearings(0, 3, 1, 5), 15 * 24 + 1);
        DUE.is("up and up left", Due.at("a@5,9;b@8,9").bearings(0, 0, 1, 7), 6 * 24 + 5);
        DUE.is("up left and up", Due.at("a@8,9;b@5,9").bearings(0, 7, 1, 0), 6 * 24 + 5);
        DUE.is("far", Due.at("a@0,15;b@23,15").bearings(0, 2, 1, 2), -2);
        DUE.is("far", Due.at("a@0,15;b@22,15").bearings(0, 2, 1, 2), 15 * 24 + 23);
        int[][] none = {{0, 2, 0, 6}, {5, 2, 0, 2}, {0, 2, 5, 2}, {0, -1, 1, 2}, {0, 8, 1, 2}, {0, 2, 1, -1},
            {0, 2, 1, 8}, {-1, 2, 1, 2}, {0, 2, 8, 2}};
        for (int[] n : none) {
            DUE.is("bearings none", x.bearings(n[0], n[1], n[2], n[3]), DraughtWebs.NONE);
        }
    }

    private static void allTheSea() {
        DraughtWebs x = Due.at("a@5,7;b@17,7");
        DUE.is("both", x.allTheSea(12, 0), 2);
        DUE.is("both", x.allTheSea(12, 1), 3);
        DUE.is("one", x.allTheSea(18, 0), 1);
        DUE.is("the lower one", x.allTheSea(18, 1), 1);
        DUE.is("the other one", x.allTheSea(17, 1), 2);
        DUE.is("not by 7", x.allTheSea(7, 0), -2);
        DUE.is("not by 7", x.allTheSea(7, 1), -2);
        x = Due.at("a@5,7;b@17,7;c@11,7;d@11,8");
        DUE.is("fewest", x.allTheSea(12, 0), 1);
        DUE.is("least bits", x.allTheSea(12, 1), 4);
        x = Due.at("h@23,15");
        DUE.is("23", x.allTheSea(23, 1), 128);
        DUE.is("22", x.allTheSea(22, 1), -2);
        x = Due.at("b@3,3;c@4,11;e@11,4;f@12,12;g@19,3;h@20,11;a@12,8");
        DUE.is("six", x.allTheSea(4, 0), 6);
        DUE.is("six", x.allTheSea(4, 1), 0xf6);
        DUE.is("not by 3", x.allTheSea(3, 0), -2);
        DUE.is("not by 0", x.allTheSea(0, 0), -2);
        x = Due.at("a@2,3;b@8,3;c@14,3;d@20,3;e@2,12;f@8,12;g@14,12;h@20,12");
        DUE.is("all eight", x.allTheSea(4, 0), 8);
        DUE.is("all eight", x.allTheSea(4, 1), 255);
        DUE.is("all but the first place", Due.at("a@15,8;b@0,15").allTheSea(14, 0), -2);
        DUE.is("all but the last place", Due.at("a@8,8;b@23,0").allTheSea(14, 0), -2);
        DUE.is("all", Due.at("a@8,8;b@23,1").allTheSea(14, 0), 2);
        int[][] none = {{-1, 0}, {24, 0}, {5, -1}, {5, 2}};
        for (int[] n : none) {
            DUE.is("allTheSea none", x.allTheSea(n[0], n[1]), DraughtWebs.NONE);
        }
        DUE.is("no webs", new DraughtWebs().allTheSea(23, 0), -2);
    }

    private static void quiet() {
        DraughtWebs x = Due.at("a@0,0");
        DUE.is("reach 0", x.quiet(0, 0), 383);
        DUE.is("reach 0", x.quiet(0, 1), 1);
        DUE.is("reach 15", x.quiet(15, 0), 128);
        DUE.is("reach 15", x.quiet(15, 1), 16);
        DUE.is("reach 22", x.quiet(22, 0), 16);
        DUE.is("reach 23", x.quiet(23, 0), 0);
        DUE.is("reach 23", x.quiet(23, 1), -2);
        DUE.is("reach to the last row", Due.at("b@12,0").quiet(15, 1), -2);
        DUE.is("the last place", Due.at("a@8,8;b@23,0").quiet(14, 1), 383);
        DUE.is("the first place", Due.at("a@15,8;b@0,15").quiet(14, 1), 0);
        x = Due.at("a@0,0;b@23,0");
        DUE.is("two webs", x.quiet(11, 0), 96);
        DUE.is("two webs", x.quiet(11, 1), 12 * 24);
        int[][] none = {{-1, 0}, {24, 0}, {5, -1}, {5, 2}};
        for (int[] n : none) {
            DUE.is("quiet none", x.quiet(n[0], n[1]), DraughtWebs.NONE);
        }
        DUE.is("no webs", new DraughtWebs().quiet(23, 0), 384);
        DUE.is("no webs", new DraughtWebs().quiet(23, 1), 0);
    }

    private static void nearest() {
        DraughtWebs x = Due.at("c@0,0;b@10,0;h@23,15");
        DUE.is("like ones", x.nearest(5, 0), 1);
        DUE.is("nearest", x.nearest(4, 0), 2);
        DUE.is("nearest", x.nearest(23, 15), 7);
        DUE.is("its own place", x.nearest(0, 0), 2);
        DUE.is("the farther way counts", x.nearest(3, 9), 1);
        DUE.is("far away", Due.at("h@23,15").nearest(0, 0), 7);
        int[][] none = {{-1, 0}, {24, 0}, {0, -1}, {0, 16}};
        for (int[] n : none) {
            DUE.is("nearest none", x.nearest(n[0], n[1]), DraughtWebs.NONE);
            DUE.is("no such place, no webs", new DraughtWebs().nearest(n[0], n[1]), DraughtWebs.NONE);
        }
        DUE.is("no webs", new DraughtWebs().nearest(0, 0), -2);
        DUE.is("fleets are no webs", Due.at("A@0,0:9").nearest(0, 0), -2);
    }

    private static void shares() {
        DUE.is("alone", Due.at("d@3,3").share(3), 384);
        DraughtWebs x = Due.at("a@3,3;b@3,3");
        DUE.is("at the same place", x.share(0), 384);
        DUE.is("at the same place", x.share(1), 0);
        x = Due.at("a@0,0;b@23,0");
        DUE.is("across 0 to 11, and like ones that lie deep", x.share(0), 12 * 16 + 4 + 3 + 2 + 1);
        DUE.is("the others", x.share(1), 182);
        for (int p : new int[] {-1, 2, 8}) {
            DUE.is("share none", x.share(p), DraughtWebs.NONE);
        }
    }
}
