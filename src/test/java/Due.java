/** Counts the answers that are not as due; texts and bytes for the tape. */
final class Due {
    private final String test;
    private int asked = 0;
    private int wrong = 0;

    Due(String test) {
        this.test = test;
    }

    void is(String call, long got, long want) {
        asked++;
        if (got != want) {
            wrong++;
            System.out.println(test + ": " + call + " answered " + got + ", due is " + want);
        }
    }

    void is(String call, boolean got, boolean want) {
        is(call, got ? 1 : 0, want ? 1 : 0);
    }

    void end() {
        System.out.println(test + ": " + asked + " answers, " + wrong + " not as due");
        if (wrong != 0 || asked == 0) {
            System.exit(1);
        }
    }

    /** Feeds bytes in blocks of twenty, the last filled up with 97. */
    static DraughtWebs feed(DraughtWebs x, int... bytes) {
        for (int from = 0; from < bytes.length || from == 0; from += 20) {
            int[] five = new int[5];
            for (int k = 0; k < 20; k++) {
                int one = from + k < bytes.length ? bytes[from + k] : 97;
                five[k / 4] = five[k / 4] << 8 | one;
            }
            x.feed(five[0], five[1], five[2], five[3], five[4]);
        }
        return x;
    }

    static int[] bytes(String text) {
        return text.chars().toArray();
    }

    static DraughtWebs feed(DraughtWebs x, String text) {
        return feed(x, bytes(text));
    }

    static int chart(DraughtWebs x, String text) {
        return feed(x, text).chart(text.length());
    }

    static int law(DraughtWebs x, String text) {
        return feed(x, text).law(text.length());
    }

    static int log(DraughtWebs x, String text, int what) {
        return feed(x, text).log(text.length(), what);
    }

    static DraughtWebs at(String chart) {
        DraughtWebs x = new DraughtWebs();
        if (chart(x, chart) < 1) {
            throw new IllegalStateException(chart);
        }
        return x;
    }
}
