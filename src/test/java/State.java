/** An object with something of everything, and all that can be asked of one. */
final class State {
    /** A chart of as many bytes and lines as there may be. */
    static final String FULL_CHART = "a@10,10;b@11,11;c@12,12;d@13,13;e@14,14;f@15,15;g@16,10;h@23,15;"
            + "A@10,11:10>0;B@12,13:20>1;C@20,15:30>2;D@22,14:99>3;E@11,10:25>4;F@1,2:10>5;G@3,4:11>6;H@5,6:7>7";
    private static final int[] WEB_ASKED = {0, 1, 2, 3, 4, 5, 6, 7, 10};

    private State() {
    }

    /** Webs a, c, h and fleets A, D, H; some is worn, some is kept. */
    static DraughtWebs rich() {
        DraughtWebs x = Due.at("a@5,5;c@9,9;h@20,3;A@5,3:30>2;D@9,2:25;H@22,14:40>7");
        Due.law(x, "t7+w(v>20);t3(1=1);m2(r<3);x(w=4)");
        x.seed(999);
        x.hours(30);
        x.tension(0, 0, 0);
        x.keep();
        x.hours(5);
        return x;
    }

    /** All that can be asked without the tape's bytes, in some hundred calls. */
    static String of(DraughtWebs x) {
        StringBuilder all = new StringBuilder();
        for (int what = 0; what < 7; what++) {
            all.append(x.count(what)).append(' ');
        }
        for (int k = 0; k < 8; k++) {
            for (int what : WEB_ASKED) {
                all.append(x.webIs(k, what)).append(' ');
            }
            for (int what = 0; what < 3; what++) {
                all.append(x.fleetIs(k, what)).append(' ');
            }
        }
        all.append(x.tried(50, 0)).append(' ').append(x.tried(50, 10)).append(' ').append(x.tried(50, 20));
        return all.toString();
    }

    /** What was kept, too. */
    static String withKept(DraughtWebs x) {
        String now = of(x);
        x.undo();
        return now + " kept " + of(x);
    }

    /** Of a tape with the first blocks of the full chart: its bytes, too, read as the chart that they begin. */
    static String withTape(DraughtWebs x, int blocks) {
        String now = of(x);
        for (int k = blocks; k < 8; k++) {
            Due.feed(x, FULL_CHART.substring(20 * k, 20 * k + 20));
        }
        return now + " lines " + x.chart(160) + " chart " + withKept(x);
    }

    /** The full chart's bytes are the first of the tape, blocks of twenty; 13 fill it. */
    static DraughtWebs fed(DraughtWebs x, int blocks) {
        for (int k = 0; k < blocks; k++) {
            Due.feed(x, k < 8 ? FULL_CHART.substring(20 * k, 20 * k + 20) : "");
        }
        return x;
    }
}
