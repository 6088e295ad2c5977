/** Promise 4: laws, their faults and what their texts are worth. */
public final class LawTest {
    private static final Due DUE = new Due("LawTest");

    private LawTest() {
    }

    public static void main(String[] args) {
        rules();
        faults();
        depths();
        manyRules();
        inPlaceOfTheOneBefore();
        refusedCalls();
        reckoning();
        conditions();
        dividedByNothing();
        worthOfRules();
        DUE.end();
    }

    private static void is(String text, int want) {
        DUE.is(text, Due.law(new DraughtWebs(), text), want);
    }

    private static void rules() {
        is("t1(p=0)", 1);
        is("m99999(p<0)", 1);
        is("x(p>0)", 1);
        is("x(p=0);x(p=0)", 2);
        is("t[p+f]*s-v/d%g+r-c*h+w(p=0&f<1|!s>2&(v=3|d=4))", 1);
        is("t00000(00001=1)", 1);
        is("x(!!p=0)", 1);
        is("x((p=0))", 1);
        is("x(!(p=0)&p=0)", 1);
        is("x([p]=[0])", 1);
    }

    private static void faults() {
        is(";", -1000);
        is("p(p=0)", -1000);
        is("(p=0)", -1000);
        is("t", -1001);
        is("t(", -1001);
        is("t(p=0)", -1001);
        is("t-1(p=0)", -1001);
        is("x", -1001);
        is("x1(p=0)", -1001);
        is("t1", -1002);
        is("t1;", -1002);
        is("t1p(p=0)", -1002);
        is("t1=(p=0)", -1002);
        is("t1)", -1002);
        is("t[1", -1003);
        is("t[1)", -1003);
        is("t[(1)]", -1002);
        is("t[]1(p=0)", -1002);
        is("t1+(p=0)", -1003);
        is("t1+*2(p=0)", -1003);
        is("t1 (p=0)", -1002);
        is("tz(p=0)", -1001);
        is("x()", -1002);
        is("x(p", -1003);
        is("x(p)", -1003);
        is("x(p&p=0)", -1003);
        is("x(p=", -1004);
        is("x(p=)", -1004);
        is("x(p==0)", -1004);
        is("x(p=0", -1005);
        is("x(p=0=0)", -1005);
        is("x(p=0&)", -1006);
        is("x(p=0|)", -1006);
        is("x(p=0&&p=0)", -1006);
        is("x(|p=0)", -1002);
        is("x(!)", -1003);
        is("x(!p)", -1004);
        is("x((p=0)", -1007);
        is("x((p)=0)", -1004);
        is("x((p=0)=0)", -1007);
        is("x(p=(0))", -1004);
        is("x(p=!0)", -1004);
        is("x([p=0])", -1004);
        is("x(p=0))", -1006);
        is("x(p=0)x", -1006);
        is("x(p=0);", -1007);
        is("x(p=0);;", -1007);
        is("x(p=0);z", -1007);
        is("t123456(p=0)", -2006);
        is("x(p=000000)", -2009);
        is("x(12345678=0)", -2007);
        is("t12345x", -1006);
        is("t123459(p=0)", -2006);
        is("x(p=0)\0", -1006);
        is("x(p=0\0", -1005);
        is("t1\0", -1002);
    }

    private static void depths() {
        is("x((((((p=0))))))", 1);
        is("x(((((((p=0)))))))", -5007);
        is("x(!!!!!p=0)", 1);
        is("x(!!!!!!p=0)", -5007);
        is("x([[[[[p]]]]]=0)", 1);
        is("x([[[[[[p]]]]]]=0)", -5007);
        is("x(p=[[[[[p]]]]])", 1);
        is("x(p=[[[[[[p]]]]]])", -5009);
        is("x(!(!(!p=0)))", 1);
        is("x(!(!(![p]=0)))", -5007);
        is("x(!(!(!(p=0))))", -5007);
        is("x(!(!(p=0)|!(!p=0)))", 1);
        is("x(!(!(p=0)|!(!(p=0))))", -5014);
        is("t[[[[[[p]]]]]]((((((p=0))))))", 1);
        is("t[[[[[[[p]]]]]]](p=0)", -5007);
        is("x(!p=0&!p=0&!p=0&!p=0&!p=0&!p=0&!p=0)", 1);
        is("x(!!!!!p=0&!!!!!p=0)", 1);
        is("x(!!!!(p=0)|!!!!!p=0)", 1);
        is("x((((((p=0|p=[1]))))))", -5013);
        is("x((((((!p=0))))))", -5007);
        is("x((p=0)&(p=0)&(p=0)&(p=0)&(p=0)&(p=0)&(p=0))", 1);
    }

    private static void manyRules() {
        String sixteen = "x(p=0)" + ";x(p=0)".repeat(15);
        is(sixteen, 16);
        is(sixteen + ";x(p=0)", -4112);
        is(sixteen + ";t", -4112);
        is(sixteen + ";m", -4112);
        is(sixteen + ";", -1112);
        is(sixteen + ";z", -1112);
    }

    private static void inPlaceOfTheOneBefore() {
        DraughtWebs x = Due.at("a@5,5;A@5,3:10");
        Due.law(x, "t10(1=1);m1(1=1)");
        DUE.is("a fault", Due.law(x, "t20("), -1004);
        DUE.is("another fault", Due.law(x, "t20(1=1"), -1007);
        DUE.is("the one before stays", x.count(3), 2);
        DUE.is("the tape is empty", x.count(4), 0);
        DUE.is("hour", x.hours(1), 1);
        DUE.is("worn by the one before", x.webIs(0, 0), 89);
        DUE.is("law", Due.law(x, "t20(1=1)"), 1);
        DUE.is("rules", x.count(3), 1);
        x.hours(1);
        DUE.is("worn by the new one", x.webIs(0, 0), 69);
        String longest = "t9(" + "p=1|".repeat(58) + "p=0)";
        for (int k = 1; k <= 9; k++) {
            DUE.is("a long law", Due.law(x, k < 9 ? longest : "t8(" + longest.substring(3)), 1);
        }
        x.hours(1);
        DUE.is("worn by the last one", x.webIs(0, 0), 61);
    }

    private static void refusedCalls() {
        DraughtWebs x = new DraughtWebs();
        Due.law(x, "x(p=0);x(p=1)");
        Due.feed(x, "x(p=0)");
        int[] lengths = {0, -1, 21, 241, Integer.MAX_VALUE, Integer.MIN_VALUE};
        for (int n : lengths) {
            DUE.is("law " + n, x.law(n), DraughtWebs.NONE);
        }
        DUE.is("the tape stays", x.count(4), 20);
        DUE.is("the law stays", x.count(3), 2);
        DUE.is("law 6", x.law(6), 1);
        String text = "x(" + "p=0|".repeat(59) + ")";
        Due.feed(x, text + ")".repeat(10));
        DUE.is("241 bytes", x.law(241), DraughtWebs.NONE);
        DUE.is("240 bytes", x.law(240), -1238);
        DUE.is("240 bytes without a fault", Due.law(x, "x(" + "p=0|".repeat(58) + "p+1=0)"), 1);
    }

    /** By how much a spoke is worn by an E: web 0, fleet 0, spoke 0, distance 2, felt 8, hour 0, draw 2. */
    private static int wear(String e) {
        DraughtWebs x = Due.at("a@5,5;A@5,3:10");
        Due.law(x, "t" + e + "(1=1)");
        DUE.is("touches by " + e, x.hours(1), 1);
        return 99 - x.webIs(0, 0);
    }

    private static void reckoning() {
        DUE.is("number", wear("42"), 42);
        DUE.is("five digits", wear("00042"), 42);
        DUE.is("sum first to last", wear("10-3-2"), 5);
        DUE.is("quotients first to last", wear("96/8/4"), 3);
        DUE.is("rests first to last", wear("59%20%7"), 5);
        DUE.is("mixed", wear("7%4*2"), 6);
        DUE.is("mixed", wear("7*2%4"), 2);
        DUE.is("terms ahead of sums", wear("2+3*4"), 14);
        DUE.is("terms ahead of sums", wear("20-6/2+1"), 18);
        DUE.is("brackets", wear("[2+3]*4"), 20);
        DUE.is("brackets in brackets", wear("2*[20-[6-2]*3]"), 16);
        DUE.is("99", wear("99"), 99);
        DUE.is("above its bound", wear("100"), 99);
        DUE.is("below its bound", wear("0-1"), 0);
        DUE.is("32 bits", wear("99999*30000"), 0);
        DUE.is("32 bits", wear("[99999*30000]/[0-10000]/2590"), 49);
        DUE.is("65536 * 65536 is 0", wear("65536*65536+7"), 7);
        DUE.is("a quotient goes towards 0", wear("10+[0-7]/2"), 7);
        DUE.is("a rest has the sign of what is divided", wear("10+[0-7]%4"), 7);
        DUE.is("a rest by a number below 0", wear("10+7%[0-4]"), 13);
        DUE.is("the least number by -1", wear("[32768*65536]/[0-1]+[32768*65536]+3"), 3);
        DUE.is("its rest", wear("[32768*65536]%[0-1]+4"), 4);
    }

    /** Whether an x of this C hides the fleet. */
    private static void holds(String c, boolean want) {
        DraughtWebs x = Due.at("a@5,5;A@5,3:10");
        DUE.is("law of " + c, Due.law(x, "x(" + c + ")"), 1);
        DUE.is(c, x.tried(1, 0) == 0, want);
    }

    private static void conditions() {
        holds("1<2", true);
        holds("2<2", false);
        holds("2>2", false);
        holds("3>2", true);
        holds("2=2", true);
        holds("2=3", false);
        holds("0-1<0", true);
        holds("!1=1", false);
        holds("!!1=1", true);
        holds("!1=2&1=1", true);
        holds("!1=1|1=1", true);
        holds("!(1=1|1=1)", false);
        holds("!(1=2|1=3)", true);
        holds("!(1=1&1=2)", true);
        holds("1=1|1=1&1=2", true);
        holds("(1=1|1=1)&1=2", false);
        holds("1=2|1=2|1=1", true);
        holds("1=2|1=2|1=3", false);
        holds("1=1&1=1&1=1", true);
        holds("1=1&1=2&1=1", false);
        holds("1=2&1=1|1=1&1=1", true);
        holds("1=2&1=1&1=1|1=2|1=1&1=1&1=1", true);
        holds("(1=2|(1=1&!(1=2)))&1=1", true);
        holds("1+1=2&2*3>5&5<3*2", true);
        holds("p=0&f=0&s=0&v=99&d=2&g=8&r=0&c=8&h=0&w=2", true);
    }

    private static void dividedByNothing() {
        holds("1/0=1", false);
        holds("!1/0=1", false);
        holds("1%0=1", false);
        holds("!1%p=1", false);
        holds("1=1/0", false);
        holds("!(1/0=1)", false);
        holds("1/0=1|1=1", false);
        holds("1=1|1/0=1", true);
        holds("1=2&1/0=1|1=1", true);
        holds("1=1&1/0=1|1=1", false);
        holds("1=2|1/0=1|1=1", false);
        holds("!(1=1|1/0=1)|1=1", true);
        holds("0*[1/0]=0", false);
        holds("(1=2&1/0=0)|1=1", true);
        DUE.is("E divided by 0", wear("5/0"), 0);
        DUE.is("E's rest by 0", wear("5%0"), 0);
        DUE.is("the whole E", wear("50+5/p"), 0);
        DraughtWebs x = Due.at("a@5,5;A@5,3:10");
        Due.law(x, "t5/0(1=1);t7(1=1)");
        x.hours(1);
        DUE.is("its E is 0, the next is not asked", x.webIs(0, 0), 99);
        Due.law(x, "t5(1/0=1);t7(1=1)");
        x.hours(1);
        DUE.is("its C does not hold, the next is asked", x.webIs(0, 0), 92);
        Due.law(x, "x(1/0=1);x(1=1)");
        DUE.is("an x that is refused, one that holds", x.tried(1, 0), 0);
    }

    private static void worthOfRules() {
        DraughtWebs x = Due.at("a@5,5;A@5,3:10");
        Due.law(x, "m3(1=1);t5(1=2);t6(1=1);t7(1=1);m4(1=1)");
        x.tension(0, 4, 10);
        x.hours(1);
        DUE.is("the first t that holds", x.webIs(0, 0), 93);
        DUE.is("the first m that holds", x.webIs(0, 4), 13);
        DUE.is("99 at most", x.webIs(0, 5), 99);
        Due.law(x, "x(1=2);x(1=1);x(1=2);t5(1=1)");
        DUE.is("any x will do", x.hours(1), 0);
        Due.law(x, "t5(1=2);m5(1=2)");
        DUE.is("no rule holds: still touched", x.hours(1), 1);
        DUE.is("by 0", x.webIs(0, 0), 93);
        DUE.is("by 0", x.webIs(0, 4), 13);
        Due.law(x, "m0-5(1=1)");
        x.hours(1);
        DUE.is("m below its bound", x.webIs(0, 4), 13);
        Due.law(x, "m1000(1=1)");
        x.tension(0, 4, 0);
        x.hours(1);
        DUE.is("m above its bound", x.webIs(0, 4), 99);
    }
}
