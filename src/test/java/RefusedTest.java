import java.util.ArrayList;
import java.util.List;
import java.util.function.ToLongFunction;

/** A call that is refused changes nothing; a fault changes nothing but the tape; one that asks changes nothing. */
public final class RefusedTest {
    private static final Due DUE = new Due("RefusedTest");
    private static final int[] WILD = {Integer.MIN_VALUE, -1, 1000, Integer.MAX_VALUE};

    private RefusedTest() {
    }

    public static void main(String[] args) {
        refusedByNumbers();
        refusedByAShortTape();
        faultsEmptyTheTape();
        questions();
        wildNumbers();
        DUE.end();
    }

    private static void is(String call, DraughtWebs x, String want) {
        DUE.is(call + " changed something", State.withKept(x).equals(want), true);
    }

    private static void refusedByNumbers() {
        List<ToLongFunction<DraughtWebs>> calls = new ArrayList<>();
        calls.add(x -> x.tension(0, 8, 5) ? 0 : -1);
        calls.add(x -> x.tension(1, 0, 5) ? 0 : -1);
        calls.add(x -> x.tension(0, 0, 100) ? 0 : -1);
        calls.add(x -> x.law(0));
        calls.add(x -> x.law(241));
        calls.add(x -> x.chart(0));
        calls.add(x -> x.chart(161));
        calls.add(x -> x.hours(0));
        calls.add(x -> x.hours(101));
        calls.add(x -> x.tried(0, 0));
        calls.add(x -> x.tried(1, 2));
        calls.add(x -> x.webIs(1, 0));
        calls.add(x -> x.fleetIs(1, 0));
        calls.add(x -> x.feels(0, 3));
        calls.add(x -> x.when(0, 0, 0));
        calls.add(x -> x.fix(0, 0));
        calls.add(x -> x.fix(1, 2));
        calls.add(x -> x.bearings(0, 1, 0, 1));
        calls.add(x -> x.allTheSea(24, 0));
        calls.add(x -> x.quiet(-1, 0));
        calls.add(x -> x.nearest(24, 0));
        calls.add(x -> x.share(1));
        calls.add(x -> x.log(0, 100));
        calls.add(x -> x.log(5, 99));
        calls.add(x -> x.inCommon(0, 5));
        calls.add(x -> x.inCommon(5, 31));
        calls.add(x -> x.code(1, 0));
        calls.add(x -> x.code(2, 2));
        calls.add(x -> x.crawls(2, 2, 0));
        calls.add(x -> x.crawls(2, 0, 8));
        calls.add(x -> x.hangs(31));
        calls.add(x -> x.smoothed(2, 0));
        calls.add(x -> x.smoothed(3, 2));
        calls.add(x -> x.spell(0, 0) + 999999);
        calls.add(x -> x.spell(5, 3) + 999999);
        calls.add(x -> x.salutes(13));
        calls.add(x -> x.rent(1, 0));
        calls.add(x -> x.rent(3, 2));
        calls.add(x -> x.seed(65536) ? 0 : -1);
        calls.add(x -> x.check(9) + 1);
        calls.add(x -> x.count(7));
        String before = State.withKept(Due.feed(State.rich(), "b@1,2"));
        for (int k = 0; k < calls.size(); k++) {
            DraughtWebs x = Due.feed(State.rich(), "b@1,2");
            DUE.is("refused " + k, calls.get(k).applyAsLong(x), -1);
            is("refused call " + k, x, before);
            DUE.is("the tape's bytes after call " + k, x.chart(5), 1);
            DUE.is("the tape's bytes after call " + k, x.webIs(1, 10), 49);
        }
        DraughtWebs full = State.rich();
        for (int k = 0; k < 13; k++) {
            full.feed(1, 2, 3, 4, 5);
        }
        String fed = State.of(full);
        DUE.is("feed", full.feed(9, 9, 9, 9, 9), -1);
        DUE.is("feed changed something", State.of(full).equals(fed), true);
    }

    /** With 20 bytes on the tape each of these needs more. */
    private static void refusedByAShortTape() {
        List<ToLongFunction<DraughtWebs>> calls = new ArrayList<>();
        calls.add(x -> x.law(21));
        calls.add(x -> x.chart(21));
        calls.add(x -> x.log(21, 100));
        calls.add(x -> x.inCommon(10, 11));
        calls.add(x -> x.smoothed(21, 0));
        calls.add(x -> x.spell(21, 0) + 999999);
        calls.add(x -> x.salutes(11));
        String before = State.withKept(Due.feed(State.rich(), "b@1,2"));
        for (int k = 0; k < calls.size(); k++) {
            DraughtWebs x = Due.feed(State.rich(), "b@1,2");
            DUE.is("short tape " + k, calls.get(k).applyAsLong(x), -1);
            is("short tape " + k, x, before);
        }
        DraughtWebs x = State.rich();
        DUE.is("empty tape: law", x.law(1), -1);
        DUE.is("empty tape: chart", x.chart(1), -1);
        DUE.is("empty tape: fix", x.fix(1, 0), -1);
        DUE.is("empty tape: log", x.log(1, 0), -1);
        DUE.is("empty tape: inCommon", x.inCommon(1, 1), -1);
        DUE.is("empty tape: code", x.code(2, 0), -1);
        DUE.is("empty tape: crawls", x.crawls(1, 0, 0), -1);
        DUE.is("empty tape: smoothed", x.smoothed(3, 0), -1);
        DUE.is("empty tape: spell", x.spell(1, 0), -1000000);
        DUE.is("empty tape: salutes", x.salutes(1), -1);
        DUE.is("empty tape: rent", x.rent(2, 0), -1);
        DUE.is("empty tape: check", x.check(1), -2);
        is("an empty tape", x, State.withKept(State.rich()));
    }

    private static void faultsEmptyTheTape() {
        List<ToLongFunction<DraughtWebs>> calls = new ArrayList<>();
        calls.add(x -> Due.law(x, "t1(1=1);t"));
        calls.add(x -> Due.chart(x, "b@1,1;B@2,2:5>1;"));
        calls.add(x -> Due.log(x, "01(", 100));
        calls.add(x -> Due.feed(x, 0, 8).fix(1, 0));
        calls.add(x -> Due.feed(x, 0, 8).code(2, 0));
        calls.add(x -> Due.feed(x, 8, 0).salutes(1));
        String before = State.withKept(State.rich());
        for (int k = 0; k < calls.size(); k++) {
            DraughtWebs x = State.rich();
            DUE.is("a fault " + k, calls.get(k).applyAsLong(x) < -2, true);
            is("fault " + k, x, before);
        }
    }

    private static void questions() {
        DraughtWebs x = State.rich();
        x.tried(100, 0);
        x.when(0, 0, 100);
        x.feels(0, 0);
        x.bearings(0, 1, 2, 3);
        x.allTheSea(10, 1);
        x.quiet(3, 0);
        x.nearest(3, 3);
        x.share(0);
        x.hangs(9);
        Due.feed(x, 0, 2).fix(1, 0);
        Due.log(x, "(01)*3", 104);
        Due.feed(x, 1, 2, 3, 4).inCommon(2, 2);
        Due.feed(x, 1, 2, 3, 4).code(4, 0);
        Due.feed(x, 1, 2, 3, 4).crawls(2, 1, 1);
        Due.feed(x, 1, 2, 3, 4).smoothed(4, 0);
        Due.feed(x, 1, 2, 3, 4).spell(4, 0);
        Due.feed(x, 1, 2, 3, 4).salutes(2);
        Due.feed(x, 1, 2, 3, 4).rent(4, 0);
        Due.feed(x, 1, 2, 3, 4).check(4);
        is("a question", x, State.withKept(State.rich()));
    }

    /** No call throws, whatever the numbers are. */
    private static void wildNumbers() {
        for (int a : WILD) {
            for (int b : WILD) {
                for (int c : WILD) {
                    DraughtWebs x = Due.feed(State.rich(), 1, 2, 3, 4);
                    long sum = x.tension(a, b, c) ? 1 : 0;
                    sum += x.law(a) + x.chart(a) + x.hours(a) + x.tried(a, b) + x.webIs(a, b) + x.fleetIs(a, b);
                    sum += x.feels(a, b) + x.when(a, b, c) + x.fix(a, b) + x.bearings(a, b, c, a);
                    sum += x.allTheSea(a, b) + x.quiet(a, b) + x.nearest(a, b) + x.share(a) + x.log(a, b);
                    sum += x.inCommon(a, b) + x.code(a, b) + x.crawls(a, b, c) + x.hangs(a) + x.smoothed(a, b);
                    sum += x.salutes(a) + x.rent(a, b) + x.count(a);
                    DUE.is("wild numbers " + a + " " + b + " " + c, sum, -23);
                    DUE.is("wild spell", x.spell(a, b), -1000000);
                    DUE.is("wild check", x.check(a), -2);
                    DUE.is("wild seed", x.seed(a), a == 1000);
                }
            }
        }
    }
}
