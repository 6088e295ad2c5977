/** Boundary cases of A LOG in the Terms, of what is asked of one, and of promise 18. */
final class BoundsOfLogs {
    private static final int NONE = DraughtWebs.NONE;
    private static final String TERMS = "Terms";
    private static final String LOG = "Promise 18";
    private static final int HOW_MANY = 100;
    private static final int COMMONEST = 101;
    private static final int LONGEST_ROW = 102;
    private static final int TURNS = 103;
    private static final int PERIOD = 104;
    /** 80 bytes and 64 spokes: as much as there may be of both. */
    private static final String FULL = "(0)(1)(2)(3)(4)(5)(6)(7)" + "01234567".repeat(7);

    private final Bounds due;

    private BoundsOfLogs(Bounds due) {
        this.due = due;
    }

    static void ask(Bounds due) {
        BoundsOfLogs all = new BoundsOfLogs(due);
        all.bytes();
        all.spokesAndTimes();
        all.whatCanNotStandThere();
        all.thirdBracket();
        all.moreThan64();
        all.rowsOfMoreThan64();
        all.howOften();
        all.turns();
        all.periods();
        all.lengths();
        all.questions();
        all.answers();
    }

    private void is(String text, int want) {
        is(text, HOW_MANY, want);
    }

    private void is(String text, int what, int want) {
        DraughtWebs x = new DraughtWebs();
        due.is("log " + text + " " + what, Due.log(x, text, what), want);
        due.is("bytes of the tape behind log " + text, x.count(4), 0);
    }

    private void bytes() {
        due.says(TERMS, "A LOG: a TEXT of at most 80 bytes, no blanks");
        is("0", 1);
        is(FULL, 64);
        due.is("81 bytes", Due.feed(new DraughtWebs(), FULL + "0").log(81, HOW_MANY), NONE);
        String text = "0(12(3)*4)*56";
        for (int k = 0; k <= text.length(); k++) {
            is(text.substring(0, k) + " " + text.substring(k), -1000 - k);
        }
    }

    private void spokesAndTimes() {
        due.says(TERMS, "a digit 0 to 7, or (SPOKES) and behind that perhaps * (42) and a digit 2 to 9 (so many times)");
        for (int s = 0; s < 10; s++) {
            is("" + s, s < 8 ? 1 : -1000);
        }
        is("/", -1000);
        is(":", -1000);
        is("(0)", 1);
        for (int times = 0; times < 10; times++) {
            is("(0)*" + times, times < 2 ? -1004 : times);
        }
        is("(0)*:", -1004);
        is("(0)*", -1004);
        is("(0)*12", -1004);
        is("(0)*22", 3);
        is("(0)*27", 3);
        is("(0)*28", -1005);
        is("(0)+2", -1003);
        is("(0))2", -1003);
        is("0*2", -1001);
        is("(0)*2*2", -1005);
        is("()", -1001);
        is("()*2", -1001);
        is("0()", -1002);
    }

    private void whatCanNotStandThere() {
        due.says(TERMS, "FAULTS: 1; 5 a third (");
        String text = "0(12(3)*4)*56";
        int[] spokes = {1, 0, 0, 0, 0, 0, 0, 0, 0, 7, 0, 31, 32};
        for (int k = 0; k < text.length(); k++) {
            String begun = text.substring(0, k + 1);
            is(begun, spokes[k] > 0 ? spokes[k] : -1001 - k);
            for (int wrong : new int[] {0, 1, 127, 128, 255, text.charAt(k) + 128, '8' + 128, 'a', ';'}) {
                int[] bytes = Due.bytes(text);
                bytes[k] = wrong;
                DraughtWebs x = Due.feed(new DraughtWebs(), bytes);
                due.is("byte " + wrong + " at " + k, x.log(text.length(), HOW_MANY), -1000 - k);
            }
        }
        is(")", -1000);
        is("*", -1000);
        is("0)", -1001);
        is("(0))", -1003);
        DraughtWebs x = Due.feed(new DraughtWebs(), "(0)*2");
        due.is("the end, though the tape goes on", x.log(2, HOW_MANY), -1002);
        x = Due.feed(new DraughtWebs(), "(0)*2");
        due.is("the end, though the tape goes on", x.log(4, HOW_MANY), -1004);
        x = Due.feed(new DraughtWebs(), "(0)*2");
        due.is("what is behind does not count", x.log(3, HOW_MANY), 1);
    }

    private void thirdBracket() {
        due.says(TERMS, "5 a third ( that is open in another one, at it");
        is("((0))", 1);
        is("(((0)))", -5002);
        is("(((", -5002);
        is("0(1(2(3)))", -5005);
        is("(0)((1)(2))((3))", 4);
        is("((0))((1))(((2)))", -5012);
        is("((0)(1(2)))", -5006);
        is("((0)(1)(2)(3))", 4);
        is("(0)(1)(2)(3)", 4);
    }

    private void moreThan64() {
        due.says(TERMS, "64 at most in all");
        String most = "01234567".repeat(8);
        is(most, 64);
        is("(" + most + ")", 64);
        is("((01234567)*8)", 64);
        is("((0123)*4)*4", 64);
        is("(01234567)*70(0)*7", 64);
        is("(0)*2" + most.substring(2), 64);
        due.says(TERMS, "6 more than 64, at the digit of the SPOKE as it is told");
        is(most + "0", -6064);
        is(most + "01", -6064);
        is("(" + most + "0)", -6065);
        is("(" + most + "0)*2", -6065);
        is(most + "(0)", -6065);
        is(most + "((0", -6066);
        is("(01234567)*80", -6012);
        is("(01234567)*8(0)", -6013);
        is("((01234567)*8)0", -6014);
        is("((01234567)*80)*2", -6013);
        is(most + "8", -1064);
        is(most + ")", -1064);
        is(most + "(", -1065);
        is(most + "(((", -5066);
        is(most + "*", -1064);
    }

    private void rowsOfMoreThan64() {
        due.says(TERMS, "or the ( of the row, by which they are (of a row asked when its times have been read; of an inner one first)");
        is("(01234567)*9", -6000);
        is("0(01234567)*8", -6001);
        is("(0123456)*9", 63);
        is("0(0123456)*9", 64);
        is("01(0123456)*9", -6002);
        is("0".repeat(32) + "(01234567)*4", 64);
        is("0".repeat(32) + "(01234567)*5", -6032);
        is("(" + "0".repeat(32) + ")*2", 64);
        is("(" + "0".repeat(33) + ")*2", -6000);
        is("(" + "0".repeat(64) + ")*2", -6000);
        is("0".repeat(63) + "(0)*2", -6063);
        // asked when the times have been read: what ails the times comes first, what is behind them does not
        is("(" + "0".repeat(33) + ")*", -1036);
        is("(" + "0".repeat(33) + ")*1", -1036);
        is("(" + "0".repeat(33) + ")", 33);
        is("(01234567)*9x", -6000);
        is("(01234567)*9(((", -6000);
        is("((01234567)*9)*9", -6001);
        is("((01234567)*9", -6001);
        is("((01234567)*8)*2", -6000);
        is("((01234567)*80", -6013);
        is("((0123)*8)*3", -6000);
        is("((0123)*8)*2", 64);
        is("(0(0123456)*9)*2", -6000);
        is("01(2(0123456)*9)*2", -6004);
        is("01(2(0123456)*8)*2", -6002);
        is("(0(01)*2(01234567)*8)", -6008);
    }

    private void howOften() {
        due.says(TERMS, "the one that is most often (of like ones the lowest); the longest row of one");
        for (int s = 0; s < 8; s++) {
            is("" + s, COMMONEST, s);
            is("0" + s + s, COMMONEST, s);
            is("7" + s, COMMONEST, s);
        }
        is("70", COMMONEST, 0);
        is("7766", COMMONEST, 6);
        is("77665", COMMONEST, 6);
        is("776657", COMMONEST, 7);
        is("76543210", COMMONEST, 0);
        is("7", LONGEST_ROW, 1);
        is("01", LONGEST_ROW, 1);
        is("0110", LONGEST_ROW, 2);
        is("0011", LONGEST_ROW, 2);
        is("0(0)*22", LONGEST_ROW, 3);
        is("1(22)*21", LONGEST_ROW, 4);
        is("((0)*8)*8", LONGEST_ROW, 64);
    }

    private void turns() {
        due.says(TERMS, "from SPOKE to SPOKE 0 to 3 on or 1 to 4 back (the shorter way; 4: back), added up");
        int[] by = {0, 1, 2, 3, -4, -3, -2, -1};
        for (int from = 0; from < 8; from++) {
            for (int on = 0; on < 8; on++) {
                is("" + from + (from + on) % 8, TURNS, by[on]);
            }
        }
        is("0", TURNS, 0);
        is("70", TURNS, 1);
        is("07", TURNS, -1);
        is("040", TURNS, -8);
        is("(01234567)*8", TURNS, 63);
        is("(76543210)*8", TURNS, -63);
        is("((04)*8)*4", TURNS, -252);
        is("(036147250361472503614725)*2", TURNS, 141);
    }

    private void periods() {
        due.says(TERMS, "its PERIOD: the least number of SPOKES by which it goes on as it went (a part of it at the end will do)");
        is("0", PERIOD, 1);
        is("00", PERIOD, 1);
        is("01", PERIOD, 2);
        is("010", PERIOD, 2);
        is("0101", PERIOD, 2);
        is("0110", PERIOD, 3);
        is("01101", PERIOD, 3);
        is("011010", PERIOD, 5);
        is("(01234567)*8", PERIOD, 8);
        is("0".repeat(63) + "1", PERIOD, 64);
        is("1" + "0".repeat(63), PERIOD, 64);
        is("0".repeat(64), PERIOD, 1);
        is("1" + "0".repeat(62) + "1", PERIOD, 63);
    }

    private void lengths() {
        due.says(LOG, "A LOG by the first n bytes of the tape (1 to 80; empty then)");
        due.range("log", 1, 80, n -> Due.feed(new DraughtWebs(), FULL + "1".repeat(180)).log(n, HOW_MANY) != NONE);
        DraughtWebs x = Due.feed(new DraughtWebs(), FULL);
        due.is("80 of 80", x.log(80, HOW_MANY), 64);
        due.is("the tape", x.count(4), 0);
        x = Due.feed(new DraughtWebs(), FULL + "1".repeat(180));
        due.is("80 of 260", x.log(80, HOW_MANY), 64);
        due.is("the tape", x.count(4), 0);
        x = Due.feed(new DraughtWebs(), FULL);
        due.is("1 of 80", x.log(1, HOW_MANY), -1001);
        due.is("the tape", x.count(4), 0);
        for (int k = 0; k < 3; k++) {
            due.is("as many as there may be, again", Due.log(x, FULL, HOW_MANY), 64);
            due.is("one behind as many as there may be", Due.log(x, "7", HOW_MANY), 1);
            due.is("a fault between", Due.log(x, "((1", HOW_MANY), -1003);
        }
    }

    private void questions() {
        due.says(LOG, "what 0 to 7 how often that SPOKE, 100 how many");
        String text = "0112223333444455566";
        int[] often = {1, 2, 3, 4, 4, 3, 2, 0};
        for (int s = 0; s < 8; s++) {
            is(text, s, often[s]);
        }
        due.range("log's what", 0, 7, what -> what < 50 && Due.log(new DraughtWebs(), text, what) != NONE);
        due.range("log's what", 100, 104, what -> what > 50 && Due.log(new DraughtWebs(), text, what) != NONE);
        is(text, HOW_MANY, 19);
        is("(77777777)*8", 7, 64);
        is("(77777777)*8", 0, 0);
    }

    private void answers() {
        due.says(LOG, "a FAULT: -1000 times its number, less its place");
        due.empties("log of a fault at 0", -1000, x -> x.log(1, HOW_MANY), '8');
        due.empties("log of a fault at its end", -1080, x -> x.log(80, 0), Due.bytes("(" + FULL.substring(0, 79)));
        due.empties("log of a third bracket", -5002, x -> x.log(4, 7), Due.bytes("(((0"));
        due.empties("log of a row of 72", -6000, x -> x.log(12, PERIOD), Due.bytes("(01234567)*9"));
        due.says(LOG, "NONE: no such ones, it has not so many (the tape stays)");
        for (int n : new int[] {0, -1, 81, 160, 260, 261, Integer.MIN_VALUE, Integer.MAX_VALUE}) {
            due.refuses("log " + n, NONE, x -> x.log(n, HOW_MANY));
        }
        for (int what : new int[] {-1, 8, 9, 10, 99, 105, 106, Integer.MIN_VALUE, Integer.MAX_VALUE}) {
            due.refuses("log 5, " + what, NONE, x -> x.log(5, what));
        }
        for (int blocks = 0; blocks < 4; blocks++) {
            int n = 20 * blocks;
            due.refuses("log of one byte more than there are", NONE, blocks, x -> x.log(n + 1, HOW_MANY));
            due.refuses("log 80", NONE, blocks, x -> x.log(80, HOW_MANY));
        }
        for (int n : new int[] {20, 40, 60, 80}) {
            due.is("as many as there are: " + n, Due.feed(new DraughtWebs(), FULL.substring(0, n)).log(n, 100) != NONE, true);
        }
    }
}
