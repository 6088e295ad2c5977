import java.util.ArrayList;
import java.util.Collections;
import java.util.List;
import java.util.Random;

/**
 * Runs of drawn calls, each answered as PlainWebs answers it; a few objects take turns, since what one holds is its
 * own. The first argument: how many runs.
 */
public final class RandomRunsTest {
    private static final int[] EDGES = {-1, 0, 1, 7, 8, 99, 100, 101, Integer.MIN_VALUE, Integer.MAX_VALUE};

    private static final int AT_ONCE = 4;

    private final int run;
    private final Random random;
    private final Due due;
    private final DraughtWebs x = new DraughtWebs();
    private final PlainWebs plain = new PlainWebs();
    private int calls = 0;

    private RandomRunsTest(int run, Due due) {
        this.run = run;
        this.random = new Random(run);
        this.due = due;
    }

    public static void main(String[] args) {
        int runs = args.length > 0 ? Integer.parseInt(args[0]) : 200;
        Due due = new Due("RandomRunsTest");
        for (int first = 1; first <= runs; first += AT_ONCE) {
            takeTurns(first, Math.min(first + AT_ONCE - 1, runs), due);
        }
        due.end();
    }

    private static void takeTurns(int first, int last, Due due) {
        List<RandomRunsTest> open = new ArrayList<>();
        for (int run = first; run <= last; run++) {
            open.add(new RandomRunsTest(run, due));
        }
        while (!open.isEmpty()) {
            for (RandomRunsTest test : open) {
                test.step();
            }
            open.removeIf(test -> test.calls >= 480);
        }
    }

    private int upTo(int most) {
        return random.nextInt(most + 1);
    }

    /** Now and then a number that is an edge or beyond it. */
    private int some(int least, int most) {
        int kind = upTo(40);
        if (kind == 0) {
            return EDGES[upTo(EDGES.length - 1)];
        }
        if (kind == 1) {
            return least - 1;
        }
        if (kind == 2) {
            return most + 1;
        }
        return least + upTo(most - least);
    }

    private void feedBytes(int[] bytes) {
        for (int from = 0; from < bytes.length; from += 20) {
            int[] five = new int[5];
            for (int k = 0; k < 20; k++) {
                five[k / 4] = five[k / 4] << 8 | (from + k < bytes.length ? bytes[from + k] : upTo(255));
            }
            calls++;
            due.is("feed", x.feed(five[0], five[1], five[2], five[3], five[4]), plain.feed(five));
        }
    }

    /** The tape may have bytes ahead of these, and once in a while the length is another one. */
    private int feedText(String text) {
        feedBytes(text.chars().toArray());
        return upTo(30) == 0 ? some(0, 260) : text.length();
    }

    private int[] drawBytes(int n) {
        int kind = upTo(3);
        int[] bytes = new int[Math.max(0, Math.min(n, 60))];
        for (int k = 0; k < bytes.length; k++) {
            bytes[k] = kind == 0 ? upTo(255) : kind == 1 ? upTo(3) : kind == 2 ? 1 + upTo(20) : 120 + upTo(16);
        }
        return bytes;
    }

    private void step() {
        calls++;
        String where = "run " + run + " call " + calls + ": ";
        switch (upTo(13)) {
            case 0:
                chartStep(where);
                break;
            case 1:
                lawStep(where);
                break;
            case 2:
            case 3:
                hourStep(where);
                break;
            case 4:
                lookoutStep(where);
                break;
            case 5:
                logStep(where);
                break;
            case 6:
                deskStep(where);
                break;
            case 7:
                keepStep(where);
                break;
            case 8:
                stateStep(where);
                break;
            default:
                tensionStep(where);
        }
        for (int what = 0; what < 7; what++) {
            due.is(where + "count(" + what + ")", x.count(what), plain.count(what));
        }
    }

    private void chartStep(String where) {
        String text = upTo(3) == 0 ? spoilt(drawChart()) : drawChart();
        int n = feedText(text);
        due.is(where + "chart " + text + " " + n, x.chart(n), plain.chart(n));
    }

    private void lawStep(String where) {
        String text = upTo(3) == 0 ? spoilt(drawLaw()) : drawLaw();
        int n = feedText(text);
        due.is(where + "law " + text + " " + n, x.law(n), plain.law(n));
    }

    private void logStep(String where) {
        String text = upTo(3) == 0 ? spoilt(drawLog()) : drawLog();
        int n = feedText(text);
        int what = upTo(1) == 0 ? some(0, 7) : some(100, 104);
        due.is(where + "log " + text + " " + n + " " + what, x.log(n, what), plain.log(n, what));
        n = some(1, 30);
        int m = some(1, 30);
        feedBytes(drawBytes(n >= 1 && m >= 1 && n + m < 80 && n + m > 1 ? n + m : 5));
        due.is(where + "inCommon", x.inCommon(n, m), plain.inCommon(n, m));
    }

    private void hourStep(String where) {
        int n = some(1, upTo(3) == 0 ? 100 : 6);
        int what = random.nextBoolean() ? some(0, 1) : some(0, 39);
        due.is(where + "tried " + n + " " + what, x.tried(n, what), plain.tried(n, what));
        if (random.nextBoolean()) {
            due.is(where + "hours " + n, x.hours(n), plain.hours(n));
        }
        stateStep(where);
    }

    private void stateStep(String where) {
        for (int p = -1; p < 9; p++) {
            for (int what = -1; what < 13; what++) {
                due.is(where + "webIs " + p + " " + what, x.webIs(p, what), plain.webIs(p, what));
            }
            for (int what = -1; what < 4; what++) {
                due.is(where + "fleetIs " + p + " " + what, x.fleetIs(p, what), plain.fleetIs(p, what));
                due.is(where + "feels " + p + " " + what, x.feels(p, what), plain.feels(p, what));
            }
        }
    }

    private void tensionStep(String where) {
        int p = some(0, 7);
        int s = some(0, 7);
        int v = upTo(1) == 0 ? 0 : some(0, 99);
        due.is(where + "tension", x.tension(p, s, v), plain.tension(p, s, v));
    }

    private void lookoutStep(String where) {
        int n = some(1, 8);
        int[] pairs = new int[2 * Math.max(1, Math.min(n, 9))];
        for (int k = 0; k < pairs.length; k++) {
            pairs[k] = upTo(60) == 0 ? upTo(255) : upTo(7);
        }
        int few = upTo(1) == 0 ? Math.min(n, 2) : n;
        feedBytes(pairs);
        int what = some(0, 1);
        due.is(where + "fix", x.fix(few, what), plain.fix(few, what));
        int p = some(0, 7);
        int q = some(0, 7);
        int a = some(0, 7);
        int b = some(0, 7);
        due.is(where + "bearings", x.bearings(p, a, q, b), plain.bearings(p, a, q, b));
        int reach = some(0, 23);
        due.is(where + "allTheSea", x.allTheSea(reach, what), plain.allTheSea(reach, what));
        due.is(where + "quiet", x.quiet(reach, what), plain.quiet(reach, what));
        int px = some(0, 23);
        int py = some(0, 15);
        due.is(where + "nearest", x.nearest(px, py), plain.nearest(px, py));
        due.is(where + "share", x.share(p), plain.share(p));
        int hours = some(1, 100);
        due.is(where + "when", x.when(p, q, hours), plain.when(p, q, hours));
        calls += 6;
    }

    private void deskStep(String where) {
        int what = some(0, 1);
        int n = some(2, 12);
        feedBytes(drawBytes(n));
        due.is(where + "code", x.code(n, what), plain.code(n, what));
        feedBytes(drawBytes(n));
        due.is(where + "rent", x.rent(n, what), plain.rent(n, what));
        n = some(1, 12);
        int[] ends = drawBytes(2 * n);
        for (int k = 0; k + 1 < ends.length && upTo(9) > 0; k += 2) {
            ends[k + 1] = Math.min(255, ends[k] + upTo(20));
        }
        feedBytes(ends);
        due.is(where + "salutes", x.salutes(n), plain.salutes(n));
        n = some(3, 30);
        feedBytes(drawBytes(n));
        due.is(where + "smoothed", x.smoothed(n, what), plain.smoothed(n, what));
        n = some(1, 40);
        what = some(0, 2);
        feedBytes(drawBytes(n));
        due.is(where + "spell", x.spell(n, what), plain.spell(n, what));
        n = some(1, 8);
        int[] torn = drawBytes(2 * n);
        for (int k = 0; k < torn.length; k++) {
            torn[k] = upTo(255) & (upTo(2) == 0 ? 255 : upTo(255)) | (upTo(4) == 0 ? upTo(255) : 0);
        }
        feedBytes(torn);
        int ring = some(0, Math.max(0, Math.min(n - 1, 7)));
        int spoke = some(0, 7);
        due.is(where + "crawls", x.crawls(n, ring, spoke), plain.crawls(n, ring, spoke));
        n = some(3, 30);
        due.is(where + "hangs", x.hangs(n), plain.hangs(n));
        calls += 6;
    }

    private void keepStep(String where) {
        switch (upTo(3)) {
            case 0:
                due.is(where + "keep", x.keep(), plain.keep());
                break;
            case 1:
                due.is(where + "undo", x.undo(), plain.undo());
                stateStep(where);
                break;
            case 2:
                int seed = some(0, 65535);
                due.is(where + "seed", x.seed(seed), plain.seed(seed));
                break;
            default:
                int n = some(0, 8);
                int[] slack = new int[8];
                for (int p = 0; p < 8; p++) {
                    slack[p] = x.webIs(p, 11) < 0 ? 255 : Integer.bitCount(x.webIs(p, 11));
                    slack[p] = upTo(20) == 0 ? upTo(255) : slack[p];
                }
                feedBytes(slack);
                due.is(where + "check", x.check(n), plain.check(n));
        }
    }

    // ---- texts

    private String spoilt(String text) {
        StringBuilder spoilt = new StringBuilder(text);
        String signs = "0123456789abhiAHItmxpfsvdgrchwu@,;:>()[]!&|<=+-*/% ";
        for (int k = upTo(1); k >= 0 && spoilt.length() > 0; k--) {
            int at = upTo(spoilt.length() - 1);
            char sign = signs.charAt(upTo(signs.length() - 1));
            switch (upTo(4)) {
                case 0:
                    spoilt.deleteCharAt(at);
                    break;
                case 1:
                    spoilt.insert(at, sign);
                    break;
                case 2:
                    spoilt.setCharAt(at, upTo(20) == 0 ? (char) upTo(255) : sign);
                    break;
                case 3:
                    spoilt.setLength(at + 1);
                    break;
                default:
                    spoilt.insert(at, spoilt.charAt(at));
            }
        }
        return spoilt.toString();
    }

    private String drawChart() {
        List<Character> letters = new ArrayList<>();
        for (char c = 'a'; c <= 'h'; c++) {
            letters.add(c);
            letters.add(Character.toUpperCase(c));
        }
        Collections.shuffle(letters, random);
        StringBuilder text = new StringBuilder();
        int lines = 1 + upTo(15);
        for (int k = 0; k < lines; k++) {
            char c = letters.get(k);
            StringBuilder line = new StringBuilder(k > 0 ? ";" : "");
            line.append(c).append('@').append(drawNumber(upTo(60) == 0 ? 99 : 23));
            line.append(',').append(drawNumber(upTo(60) == 0 ? 99 : 15));
            if (c < 'a') {
                line.append(':').append(drawNumber(random.nextBoolean() ? 99 : 20));
                line.append(upTo(2) > 0 ? ">" + upTo(7) : "");
            }
            if (text.length() + line.length() <= 160) {
                text.append(line);
            }
        }
        return text.toString();
    }

    private String drawNumber(int most) {
        int number = upTo(most);
        return number < 10 && upTo(5) == 0 ? "0" + number : "" + number;
    }

    private String drawLog() {
        StringBuilder text = new StringBuilder();
        drawRow(text, 0);
        return text.length() > 80 ? "0" : text.toString();
    }

    private void drawRow(StringBuilder text, int open) {
        int spokes = upTo(3);
        for (int k = 1 + upTo(5); k > 0; k--) {
            if (upTo(3) == 0 && (open < 2 || upTo(20) == 0)) {
                text.append('(');
                drawRow(text, open + 1);
                text.append(')').append(random.nextBoolean() ? "*" + (2 + upTo(upTo(3) == 0 ? 7 : 1)) : "");
            } else {
                text.append(spokes == 0 ? upTo(7) : upTo(spokes));
            }
        }
    }

    private String drawLaw() {
        StringBuilder text = new StringBuilder();
        int rules = upTo(20) == 0 ? 17 : 1 + upTo(5);
        for (int k = 0; k < rules; k++) {
            StringBuilder rule = new StringBuilder(k > 0 ? ";" : "");
            int kind = upTo(4);
            rule.append(kind < 2 ? 't' : kind < 4 ? 'm' : 'x');
            if (kind < 4) {
                drawSum(rule, rules == 17 ? 6 : upTo(2));
            }
            rule.append('(');
            drawCondition(rule, rules == 17 ? 6 : 1 + upTo(3));
            rule.append(')');
            if (text.length() + rule.length() <= 240) {
                text.append(rule);
            }
        }
        return text.length() == 0 ? "x(p=9)" : text.toString();
    }

    private void drawCondition(StringBuilder text, int depth) {
        for (int k = depth >= 6 ? 0 : upTo(2); k >= 0; k--) {
            drawTest(text, depth);
            text.append(k == 0 ? "" : random.nextBoolean() ? "&" : "|");
        }
    }

    private void drawTest(StringBuilder text, int depth) {
        int kind = upTo(5);
        if (kind == 0 && (depth < 6 || upTo(20) == 0)) {
            text.append('!');
            drawTest(text, depth + 1);
        } else if (kind == 1 && (depth < 6 || upTo(20) == 0)) {
            text.append('(');
            drawCondition(text, depth + 1);
            text.append(')');
        } else {
            drawSum(text, depth);
            text.append("<>=".charAt(upTo(2)));
            drawSum(text, depth);
        }
    }

    private void drawSum(StringBuilder text, int depth) {
        for (int k = upTo(4) < 3 ? 0 : upTo(2); k >= 0; k--) {
            int kind = upTo(9);
            if (kind == 0 && (depth < 6 || upTo(20) == 0)) {
                text.append('[');
                drawSum(text, depth + 1);
                text.append(']');
            } else if (kind < 6) {
                text.append("pfsvdgrchw".charAt(upTo(9)));
            } else {
                text.append(kind == 9 ? upTo(99999) : upTo(12));
            }
            text.append(k == 0 ? "" : "+-*/%".charAt(upTo(4)));
        }
    }
}
