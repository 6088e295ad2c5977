/** Promises 18 to 26: logs and the sums over bytes. */
public final class SumsTest {
    private static final Due DUE = new Due("SumsTest");

    private SumsTest() {
    }

    public static void main(String[] args) {
        logs();
        logFaults();
        inCommon();
        codes();
        crawls();
        hangs();
        smoothed();
        spells();
        salutes();
        rents();
        againOnOneObject();
        beyondTheirBounds();
        DUE.end();
    }

    private static void log(String text, int what, int want) {
        DraughtWebs x = new DraughtWebs();
        DUE.is("log " + text + " " + what, Due.log(x, text, what), want);
        DUE.is("the tape is empty", x.count(4), 0);
    }

    private static void logs() {
        log("0", 100, 1);
        log("01234567", 100, 8);
        log("(0)", 100, 1);
        log("((0))", 100, 1);
        log("(01)*2", 100, 4);
        log("(0(12)*3)*2(7)", 100, 15);
        log("(0(12)*3)*2(7)", 1, 6);
        log("(0(12)*3)*2(7)", 0, 2);
        log("(0(12)*3)*2(7)", 7, 1);
        log("(0(12)*3)*2(7)", 3, 0);
        log("(0)*9(1)*9", 1, 9);
        log("77066", 101, 6);
        log("11", 101, 1);
        log("0001", 102, 3);
        log("0111", 102, 3);
        log("77766", 101, 7);
        log("76543210", 101, 0);
        log("0", 102, 1);
        log("01120", 102, 2);
        log("1(22)*22", 102, 5);
        log("0", 103, 0);
        log("03", 103, 3);
        log("30", 103, -3);
        log("04", 103, -4);
        log("40", 103, -4);
        log("05", 103, -3);
        log("50", 103, 3);
        log("70", 103, 1);
        log("0123456701234567", 103, 15);
        log("00", 103, 0);
        log("11111", 104, 1);
        log("1212", 104, 2);
        log("12121", 104, 2);
        log("12112", 104, 3);
        log("121121", 104, 3);
        log("1213", 104, 4);
        log("(123)*5", 104, 3);
        log("(123)*512", 104, 3);
        log("(123)*511", 104, 16);
        log("(" + "0".repeat(64) + ")", 100, 64);
    }

    private static void logFaults() {
        log("8", 100, -1000);
        log("/", 100, -1000);
        log(" 0", 100, -1000);
        log(")", 100, -1000);
        log("*2", 100, -1000);
        log("0*2", 100, -1001);
        log("(", 100, -1001);
        log("()", 100, -1001);
        log("(0", 100, -1002);
        log("(0))", 100, -1003);
        log("(0)*", 100, -1004);
        log("(0)*1", 100, -1004);
        log("(0)*0", 100, -1004);
        log("(0)*)", 100, -1004);
        log("(0)*:", 100, -1004);
        log("0\0", 100, -1001);
        log("(0\0", 100, -1002);
        log("(0)*2*2", 100, -1005);
        log("(0)*28", 100, -1005);
        log("((0)", 100, -1004);
        log("((0)*)", 100, -1005);
        log("(((0)))", 100, -5002);
        log("(0(1(2)))", 100, -5004);
        log("((0)(1))(((", 100, -5010);
        log("((0)(1)(2)(3))", 100, 4);
        log("0".repeat(64), 100, 64);
        log("0".repeat(65), 100, -6064);
        log("0".repeat(64) + "8", 100, -1064);
        log("0".repeat(64) + "(0)", 100, -6065);
        log("0".repeat(63) + "(0)*2", 100, -6063);
        log("0".repeat(62) + "(0)*2", 100, 64);
        log("(" + "0".repeat(65) + ")", 100, -6065);
        log("(" + "0".repeat(33) + ")*2", 100, -6000);
        log("(" + "0".repeat(32) + ")*2", 100, 64);
        log("0(" + "0".repeat(32) + ")*2", 100, -6001);
        log("(0(01234567)*9)*9", 100, -6002);
        log("(0(01234567)*3)*3", 100, -6000);
        log("(0(01234567)*3)*2", 100, 50);
        log("(0123(01234567)*7)*2", 100, -6000);
        log("(01234(01234567)*8)*2", 100, -6006);
        log("(01234567)*9*", 100, -6000);
        log("(01234567)*1", 100, -1011);
        log("8", 0, -1000);
        DraughtWebs x = Due.feed(new DraughtWebs(), "0123");
        int[][] none = {{0, 100}, {-1, 100}, {81, 100}, {21, 100}, {4, -1}, {4, 8}, {4, 99}, {4, 105},
            {Integer.MIN_VALUE, 0}};
        for (int[] n : none) {
            DUE.is("log " + n[0] + " " + n[1], x.log(n[0], n[1]), DraughtWebs.NONE);
        }
        DUE.is("the tape stays", x.count(4), 20);
        DUE.is("log", x.log(4, 100), 4);
        Due.feed(x, "((01)(2))".repeat(10));
        DUE.is("81 bytes", x.log(81, 100), DraughtWebs.NONE);
        DUE.is("80 bytes", x.log(80, 100), -1080);
    }

    private static void inCommon(String a, String b, int want) {
        DraughtWebs x = Due.feed(new DraughtWebs(), a + b);
        DUE.is("in common " + a + " " + b, x.inCommon(a.length(), b.length()), want);
        DUE.is("the tape is empty", x.count(4), 0);
    }

    private static void inCommon() {
        inCommon("a", "a", 1);
        inCommon("a", "b", 0);
        inCommon("abc", "cba", 1);
        inCommon("abcbdab", "bdcaba", 4);
        inCommon("aaa", "aa", 2);
        inCommon("x", "abxcx", 1);
        inCommon("0123", "0213", 3);
        inCommon("ab".repeat(15), "ba".repeat(15), 29);
        inCommon("z".repeat(30), "z".repeat(30), 30);
        DraughtWebs x = Due.feed(new DraughtWebs(), "abcabc");
        int[][] none = {{0, 3}, {3, 0}, {31, 3}, {3, 31}, {11, 10}, {-1, 3}, {Integer.MAX_VALUE, 1}};
        for (int[] n : none) {
            DUE.is("inCommon none", x.inCommon(n[0], n[1]), DraughtWebs.NONE);
        }
        DUE.is("the tape stays", x.count(4), 20);
        DUE.is("inCommon 10 10", x.inCommon(10, 10) >= 0, true);
    }

    private static void code(int signs, int longest, int... often) {
        DraughtWebs x = new DraughtWebs();
        DUE.is("code, signs", Due.feed(x, often).code(often.length, 0), signs);
        DUE.is("code, longest", Due.feed(x, often).code(often.length, 1), longest);
        DUE.is("the tape is empty", x.count(4), 0);
    }

    private static void codes() {
        code(2, 1, 1, 1);
        code(510, 1, 255, 255);
        code(5, 2, 1, 1, 1);
        code(14, 3, 1, 1, 2, 4);
        code(12, 2, 1, 1, 2, 2);
        code(12, 2, 2, 2, 1, 1);
        code(8, 2, 1, 1, 1, 1);
        code(12, 3, 1, 1, 1, 1, 1);
        code(30, 3, 1, 1, 2, 2, 2, 4);
        code(30, 3, 4, 2, 2, 2, 1, 1);
        code(971, 11, 1, 1, 2, 3, 5, 8, 13, 21, 34, 55, 89, 144);
        DraughtWebs x = new DraughtWebs();
        DUE.is("one of 0", Due.feed(x, 5, 0).code(2, 0), -3);
        DUE.is("one of 0", Due.feed(x, 0, 5).code(2, 1), -3);
        DUE.is("the tape is empty", x.count(4), 0);
        Due.feed(x, 5, 3, 0);
        int[][] none = {{1, 0}, {13, 0}, {0, 0}, {-1, 0}, {2, 2}, {2, -1}};
        for (int[] n : none) {
            DUE.is("code none", x.code(n[0], n[1]), DraughtWebs.NONE);
        }
        DUE.is("the tape stays", x.count(4), 20);
        DUE.is("what is behind does not count", x.code(2, 0), 8);
        DUE.is("it has not so many", x.code(2, 0), DraughtWebs.NONE);
    }

    private static void crawl(int want, int n, int ring, int spoke, int... torn) {
        DraughtWebs x = Due.feed(new DraughtWebs(), torn);
        DUE.is("crawls to " + ring + " " + spoke, x.crawls(n, ring, spoke), want);
        DUE.is("the tape is empty", x.count(4), 0);
    }

    private static void crawls() {
        crawl(1, 1, 0, 0, 0, 0);
        crawl(1, 1, 0, 7, 0, 255);
        crawl(8, 8, 7, 5, new int[16]);
        crawl(8, 8, 7, 7, new int[16]);
        crawl(8, 8, 7, 0, new int[16]);
        crawl(2, 1, 0, 0, 1, 0);
        crawl(2, 1, 0, 0, 1, 1);
        crawl(2, 1, 0, 0, 1, 128);
        crawl(-2, 1, 0, 0, 1, 129);
        crawl(8, 1, 0, 1, 254, 1);
        crawl(2, 1, 0, 7, 254, 1);
        crawl(2, 1, 0, 1, 254, 128);
        crawl(8, 1, 0, 7, 254, 128);
        crawl(5, 1, 0, 4, 254, 0);
        crawl(-2, 1, 0, 4, 254, 8 + 16);
        crawl(-2, 1, 0, 0, 255, 0);
        crawl(6, 2, 0, 3, 254, 255, 0, 0);
        crawl(-2, 2, 0, 3, 254, 255, 8, 0);
        crawl(3, 2, 1, 2, 0, 255, 4, 0);
        crawl(9, 3, 0, 4, 254, 255, 0, 255, 0, 0);
        crawl(7, 3, 2, 4, 254, 255, 0, 255, 0, 0);
        DraughtWebs x = new DraughtWebs();
        Due.feed(x, 0, 0);
        int[][] none = {{0, 0, 0}, {9, 0, 0}, {-1, 0, 0}, {2, 2, 0}, {2, -1, 0}, {2, 0, -1}, {2, 0, 8}};
        for (int[] n : none) {
            DUE.is("crawls none", x.crawls(n[0], n[1], n[2]), DraughtWebs.NONE);
        }
        DUE.is("the tape stays", x.count(4), 20);
        x.check(0);
        DUE.is("it has not so many", x.crawls(1, 0, 0), DraughtWebs.NONE);
    }

    private static void hangs() {
        DraughtWebs x = new DraughtWebs();
        long[] due = {16, 45, 121, 320, 841, 2205, 5776, 15125};
        for (int n = 3; n <= 10; n++) {
            DUE.is("hangs " + n, x.hangs(n), due[n - 3]);
        }
        DUE.is("hangs 30", x.hangs(30), 3461452808000L);
        int[] none = {2, 31, 0, -3, Integer.MIN_VALUE, Integer.MAX_VALUE};
        for (int n : none) {
            DUE.is("hangs " + n, x.hangs(n), DraughtWebs.NONE);
        }
    }

    private static void smooth(int rounds, int sum, int... readings) {
        DraughtWebs x = new DraughtWebs();
        DUE.is("smoothed, rounds", Due.feed(x, readings).smoothed(readings.length, 0), rounds);
        DUE.is("smoothed, sum", Due.feed(x, readings).smoothed(readings.length, 1), sum);
        DUE.is("the tape is empty", x.count(4), 0);
    }

    private static void smoothed() {
        smooth(0, 6, 1, 2, 3);
        smooth(0, 6, 3, 2, 1);
        smooth(0, 6, 2, 2, 2);
        smooth(1, 11, 5, 9, 1);
        smooth(1, 15, 5, 9, 5);
        smooth(1, 3, 1, 3, 1);
        smooth(1, 3, 1, 255, 1);
        smooth(1, 18, 0, 9, 0, 9);
        smooth(1, 20, 5, 1, 9, 5);
        smooth(2, 27, 0, 9, 0, 9, 0, 9);
        int[] zigzag = new int[30];
        for (int k = 1; k < 30; k += 2) {
            zigzag[k] = 9;
        }
        smooth(14, 135, zigzag);
        DraughtWebs x = Due.feed(new DraughtWebs(), 1, 2, 3);
        int[][] none = {{2, 0}, {31, 0}, {21, 0}, {3, 2}, {3, -1}, {-1, 0}};
        for (int[] n : none) {
            DUE.is("smoothed none", x.smoothed(n[0], n[1]), DraughtWebs.NONE);
        }
        DUE.is("the tape stays", x.count(4), 20);
        DUE.is("smoothed 3", x.smoothed(3, 1), 6);
    }

    private static void spell(int sum, int begins, int length, int... readings) {
        DraughtWebs x = new DraughtWebs();
        int[] bytes = new int[readings.length];
        for (int k = 0; k < bytes.length; k++) {
            bytes[k] = readings[k] + 128;
        }
        int[] due = {sum, begins, length};
        for (int what = 0; what < 3; what++) {
            DUE.is("spell " + what, Due.feed(x, bytes).spell(bytes.length, what), due[what]);
            DUE.is("the tape is empty", x.count(4), 0);
        }
    }

    private static void spells() {
        spell(5, 0, 1, 5);
        spell(-128, 0, 1, -128);
        spell(-3, 1, 1, -5, -3, -4);
        spell(-3, 0, 1, -3, -3);
        spell(12, 2, 1, 4, -5, 12);
        spell(21, 0, 3, 10, -1, 12);
        spell(5, 0, 1, 5, -5, 5);
        spell(5, 0, 2, 0, 5);
        spell(5, 0, 1, 5, 0);
        spell(0, 0, 1, 0, 0, -1);
        spell(6, 3, 4, -2, 1, -3, 4, -1, 2, 1, -5, 4);
        int[] most = new int[40];
        java.util.Arrays.fill(most, 127);
        spell(40 * 127, 0, 40, most);
        DraughtWebs x = Due.feed(new DraughtWebs(), 1, 2, 3);
        int[][] none = {{0, 0}, {41, 0}, {21, 0}, {3, 3}, {3, -1}, {-1, 0}};
        for (int[] n : none) {
            DUE.is("spell none", x.spell(n[0], n[1]), -1000000);
        }
        DUE.is("the tape stays", x.count(4), 20);
    }

    private static void salute(int want, int... ends) {
        DraughtWebs x = Due.feed(new DraughtWebs(), ends);
        DUE.is("salutes", x.salutes(ends.length / 2), want);
        DUE.is("the tape is empty", x.count(4), 0);
    }

    private static void salutes() {
        salute(1, 0, 0);
        salute(1, 0, 5, 5, 9);
        salute(2, 0, 4, 5, 9);
        salute(2, 5, 9, 0, 4);
        salute(1, 3, 3, 3, 3, 3, 3);
        salute(3, 0, 255, 0, 1, 2, 3, 4, 255);
        salute(2, 0, 9, 8, 12, 11, 20);
        salute(12, 0, 0, 1, 1, 2, 2, 3, 3, 4, 4, 5, 5, 6, 6, 7, 7, 8, 8, 9, 9, 10, 10, 255, 255);
        salute(10, 0, 0, 1, 1, 2, 2, 3, 3, 4, 4, 5, 5, 6, 6, 7, 7, 8, 8, 9, 9);
        salute(-3, 5, 4);
        salute(-3, 0, 1, 9, 8);
        DraughtWebs x = Due.feed(new DraughtWebs(), 1, 2, 3, 4);
        int[] none = {0, 13, 11, -1, Integer.MAX_VALUE, Integer.MIN_VALUE};
        for (int n : none) {
            DUE.is("salutes " + n, x.salutes(n), DraughtWebs.NONE);
        }
        DUE.is("the tape stays", x.count(4), 20);
        DUE.is("salutes 2", x.salutes(2), 2);
    }

    private static void rent(int who, int much, int... offers) {
        DraughtWebs x = new DraughtWebs();
        DUE.is("rent, who", Due.feed(x, offers).rent(offers.length, 0), who);
        DUE.is("rent, how much", Due.feed(x, offers).rent(offers.length, 1), much);
        DUE.is("the tape is empty", x.count(4), 0);
    }

    private static void rents() {
        rent(0, 2, 5, 2);
        rent(1, 2, 2, 5);
        rent(0, 5, 5, 5);
        rent(0, 0, 0, 0);
        rent(2, 7, 1, 7, 9, 3);
        rent(0, 8, 9, 3, 8, 4);
        rent(1, 9, 5, 9, 9, 2);
        rent(11, 254, 1, 2, 3, 4, 5, 6, 7, 8, 9, 254, 10, 255);
        DraughtWebs x = Due.feed(new DraughtWebs(), 1, 2, 3, 4);
        int[][] none = {{1, 0}, {13, 0}, {0, 0}, {-1, 0}, {3, 2}, {3, -1}};
        for (int[] n : none) {
            DUE.is("rent none", x.rent(n[0], n[1]), DraughtWebs.NONE);
        }
        DUE.is("the tape stays", x.count(4), 20);
        DUE.is("rent 3", x.rent(3, 1), 2);
        DUE.is("it has not so many", x.rent(2, 0), DraughtWebs.NONE);
    }

    /** Rows are used again: nothing of a call before may be left in them. */
    private static void againOnOneObject() {
        DraughtWebs x = new DraughtWebs();
        for (int round = 0; round < 3; round++) {
            DUE.is("log", Due.log(x, "(01234567)*8", 100), 64);
            DUE.is("log", Due.log(x, "0120", 100), 4);
            DUE.is("log", Due.log(x, "012", 0), 1);
            DUE.is("log's fault", Due.log(x, "01(", 0), -1003);
            DUE.is("log's fault", Due.log(x, "9", 0), -1000);
            DUE.is("log", Due.log(x, "1", 1), 1);
            DUE.is("in common", Due.feed(x, Due.bytes("abcdabcd")).inCommon(4, 4), 4);
            DUE.is("in common", Due.feed(x, Due.bytes("abxyz")).inCommon(2, 3), 0);
            DUE.is("code", Due.feed(x, 1, 1, 2, 3, 5, 8, 13, 21, 34, 55, 89, 144).code(12, 1), 11);
            DUE.is("code", Due.feed(x, 1, 1, 1, 1).code(4, 1), 2);
            DUE.is("crawls", Due.feed(x, new int[16]).crawls(8, 7, 7), 8);
            DUE.is("crawls", Due.feed(x, 254, 255).crawls(1, 0, 1), -2);
            DUE.is("smoothed", Due.feed(x, 0, 9, 0, 9, 0, 9).smoothed(6, 1), 27);
            DUE.is("smoothed", Due.feed(x, 1, 2, 3).smoothed(3, 1), 6);
        }
    }

    /** With more than enough on the tape: the numbers alone refuse. */
    private static void beyondTheirBounds() {
        DraughtWebs x = new DraughtWebs();
        for (int k = 0; k < 13; k++) {
            x.feed(0x30303030, 0x30303030, 0x30303030, 0x30303030, 0x30303030);
        }
        DUE.is("law 241", x.law(241), DraughtWebs.NONE);
        DUE.is("chart 161", x.chart(161), DraughtWebs.NONE);
        DUE.is("fix 9", x.fix(9, 0), DraughtWebs.NONE);
        DUE.is("log 81", x.log(81, 0), DraughtWebs.NONE);
        DUE.is("inCommon 31 30", x.inCommon(31, 30), DraughtWebs.NONE);
        DUE.is("inCommon 30 31", x.inCommon(30, 31), DraughtWebs.NONE);
        DUE.is("inCommon 0 30", x.inCommon(0, 30), DraughtWebs.NONE);
        DUE.is("inCommon 30 0", x.inCommon(30, 0), DraughtWebs.NONE);
        DUE.is("code 13", x.code(13, 0), DraughtWebs.NONE);
        DUE.is("crawls 9", x.crawls(9, 0, 0), DraughtWebs.NONE);
        DUE.is("smoothed 31", x.smoothed(31, 0), DraughtWebs.NONE);
        DUE.is("spell 41", x.spell(41, 0), -1000000);
        DUE.is("salutes 13", x.salutes(13), DraughtWebs.NONE);
        DUE.is("rent 13", x.rent(13, 0), DraughtWebs.NONE);
        DUE.is("check 9", x.check(9), -2);
        DUE.is("the tape stays", x.count(4), 260);
        DUE.is("inCommon 30 30", x.inCommon(30, 30), 30);
        DUE.is("empty then", x.count(4), 0);
    }
}
