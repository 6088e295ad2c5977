import java.lang.management.ManagementFactory;

/** Calls make no objects: what an object needs is made with it, and is small. */
public final class RoomTest {
    private static final Due DUE = new Due("RoomTest");
    private static final com.sun.management.ThreadMXBean THREADS =
            (com.sun.management.ThreadMXBean) ManagementFactory.getThreadMXBean();

    private RoomTest() {
    }

    public static void main(String[] args) {
        int[][] law = blocks("t7+w*[3-d](v>20&!f=3|r>2);t3(1=1);m2(r<3);x(w=4);x(c=8&h>20)");
        int[][] chart = blocks("a@5,5;c@9,9;h@20,3;A@5,3:30>2;D@9,2:25;H@22,14:40>7");
        int[][] log = blocks("(01(234)*5)*2776");
        DraughtWebs x = new DraughtWebs();
        calls(x, law, chart, log);
        long thread = Thread.currentThread().getId();
        THREADS.getThreadAllocatedBytes(thread);
        long before = THREADS.getThreadAllocatedBytes(thread);
        for (int k = 0; k < 100; k++) {
            calls(x, law, chart, log);
        }
        long used = THREADS.getThreadAllocatedBytes(thread) - before;
        DUE.is("bytes of a hundred rounds of calls: " + used, used < 4096, true);
        before = THREADS.getThreadAllocatedBytes(thread);
        x = new DraughtWebs();
        used = THREADS.getThreadAllocatedBytes(thread) - before;
        DUE.is("bytes of a new object: " + used, used < 40000, true);
        DUE.is("it is new", x.count(0), 0);
        DUE.end();
    }

    private static int[][] blocks(String text) {
        int[][] blocks = new int[(text.length() + 19) / 20 + 1][5];
        for (int k = 0; k < text.length(); k++) {
            blocks[k / 20][k % 20 / 4] |= text.charAt(k) << 24 - 8 * (k % 4);
        }
        blocks[blocks.length - 1][0] = text.length();
        return blocks;
    }

    private static int put(DraughtWebs x, int[][] blocks) {
        for (int k = 0; k + 1 < blocks.length; k++) {
            x.feed(blocks[k][0], blocks[k][1], blocks[k][2], blocks[k][3], blocks[k][4]);
        }
        return blocks[blocks.length - 1][0];
    }

    private static void calls(DraughtWebs x, int[][] law, int[][] chart, int[][] log) {
        long sum = x.law(put(x, law)) + x.chart(put(x, chart)) + x.log(put(x, log), 104);
        sum += x.hours(3) + x.tried(20, 0) + x.webIs(0, 11) + x.fleetIs(0, 2) + x.feels(0, 0) + x.when(0, 0, 50);
        put(x, log);
        sum += x.fix(1, 0) + x.bearings(0, 2, 2, 6) + x.allTheSea(12, 1) + x.quiet(5, 0) + x.nearest(4, 4) + x.share(0);
        put(x, log);
        sum += x.inCommon(8, 8);
        put(x, log);
        sum += x.code(12, 1);
        put(x, log);
        sum += x.crawls(8, 7, 7);
        put(x, log);
        sum += x.smoothed(16, 0) + x.hangs(30);
        put(x, log);
        sum += x.spell(16, 0);
        put(x, log);
        sum += x.salutes(8);
        put(x, log);
        sum += x.rent(12, 1) + x.keep() + (x.undo() && x.tension(0, 0, 5) && x.seed(3) ? 1 : 0);
        put(x, log);
        sum += x.check(8) + x.count(6);
        if (sum == Long.MIN_VALUE) {
            System.out.println(sum);
        }
    }
}
