/** Boundary cases of THE LAW in the Terms, and of promise 4. */
final class BoundsOfTheLaw {
    private static final int NONE = DraughtWebs.NONE;
    private static final String TERMS = "Terms";
    private static final String LAW = "Promise 4";
    /** 240 bytes; only its last test holds. */
    private static final String FULL = "t12(" + "p=1|".repeat(57) + "w*0=0-0)";
    private static final String SIXTEEN = "x(p=0)" + ";x(p=0)".repeat(15);

    private final Bounds due;

    private BoundsOfTheLaw(Bounds due) {
        this.due = due;
    }

    static void ask(Bounds due) {
        BoundsOfTheLaw all = new BoundsOfTheLaw(due);
        all.bytes();
        all.ruleCounts();
        all.boundsOfWear();
        all.boundsOfMending();
        all.notFelt();
        all.firstRuleThatHolds();
        all.parts();
        all.fromTheLeftOn();
        all.digits();
        all.lettersInM();
        all.lettersOfTouches();
        all.thirtyTwoBits();
        all.dividedByNothing();
        all.asMuchAsMatters();
        all.whatCanNotStandThere();
        all.openInOneAnother();
        all.lengths();
        all.answers();
    }

    private void is(String text, int want) {
        DraughtWebs x = new DraughtWebs();
        due.is("law " + text, Due.law(x, text), want);
        due.is("rules behind law " + text, x.count(3), Math.max(want, 0));
    }

    /** Web a feels fleet A by spoke 0; of the distance 2 and the force 10, in hour 0, by the draw 2. */
    private static DraughtWebs by(String law) {
        DraughtWebs x = Due.at("a@5,5;A@5,3:10");
        if (Due.law(x, law) < 1) {
            throw new IllegalStateException(law);
        }
        return x;
    }

    private void wears(String e, int want) {
        DraughtWebs x = by("t" + e + "(1=1)");
        due.is("touches by " + e, x.hours(1), 1);
        due.is("worn by " + e, 99 - x.webIs(0, 0), want);
    }

    /** From 0 on, at spoke 4, which is not touched. */
    private void mends(String e, int want) {
        DraughtWebs x = by("m" + e + "(1=1)");
        x.tension(0, 4, 0);
        x.hours(1);
        due.is("mended by " + e, x.webIs(0, 4), want);
    }

    private void holds(String c, boolean want) {
        due.is("x of " + c, by("x(" + c + ")").hours(1), want ? 0 : 1);
        DraughtWebs x = by("t5(" + c + ")");
        x.hours(1);
        due.is("t of " + c, x.webIs(0, 0), want ? 94 : 99);
    }

    private void bytes() {
        due.says(TERMS, "THE LAW: a TEXT of at most 240 bytes, no blanks (none at first)");
        due.is("rules at first", new DraughtWebs().count(3), 0);
        DraughtWebs x = Due.at("a@5,5;A@5,3:10");
        due.is("touched without a law", x.hours(1), 1);
        due.is("not worn without a law", x.webIs(0, 0), 99);
        x.tension(0, 4, 50);
        x.hours(1);
        due.is("not mended without a law", x.webIs(0, 4), 50);
        due.is("bytes of the longest", FULL.length(), 240);
        is(FULL, 1);
        due.is("241 bytes", Due.feed(new DraughtWebs(), FULL + "a").law(241), NONE);
        x = by(FULL);
        x.hours(1);
        due.is("worn by the longest", x.webIs(0, 0), 87);
        String text = "t[p+1]*23(!p=0&(f<1|s>2));m4(1=1);x(5/6%7=8-9)";
        is(text, 3);
        for (int k = 0; k <= text.length(); k++) {
            is(text.substring(0, k) + " " + text.substring(k), -1000 - k);
        }
    }

    private void ruleCounts() {
        due.says(TERMS, "RULES (16 at most) with a ; (59) between two");
        is("x(p=0)", 1);
        for (int rules = 2; rules <= 16; rules++) {
            is("x(p=0)" + ";x(p=0)".repeat(rules - 1), rules);
        }
        is("x(p=0)x(p=0)", -1006);
        is("x(p=0):x(p=0)", -1006);
        is("x(p=0);;x(p=0)", -1007);
        is(";x(p=0)", -1000);
        DraughtWebs x = by("t1(1=2)" + ";t1(1=2)".repeat(14) + ";t9(1=1)");
        x.hours(1);
        due.is("worn by the 16th", x.webIs(0, 0), 90);
        due.says(TERMS, "4 a 17th RULE, at its letter (if that can stand there)");
        is(SIXTEEN + ";x(p=0)", -4112);
        is(SIXTEEN + ";x", -4112);
        is(SIXTEEN + ";t", -4112);
        is(SIXTEEN + ";m", -4112);
        is(SIXTEEN + ";p", -1112);
        is(SIXTEEN + ";", -1112);
        is(SIXTEEN + ";;", -1112);
        is(SIXTEEN + "x", -1111);
        is(SIXTEEN.substring(0, 110) + "z;x", -1110);
    }

    private void boundsOfWear() {
        due.says(TERMS, "t by how much TENSION of a SPOKE that is touched is less (0 to 99)");
        wears("0", 0);
        wears("1", 1);
        wears("98", 98);
        wears("99", 99);
        wears("100", 99);
        wears("99999", 99);
        wears("0-1", 0);
        wears("0-99999", 0);
        DraughtWebs x = by("t99999(1=1)");
        x.tension(0, 0, 50);
        x.hours(1);
        due.is("no less than 0", x.webIs(0, 0), 0);
        x = by("t0-50(1=1)");
        x.tension(0, 0, 50);
        x.hours(1);
        due.is("no more by a touch", x.webIs(0, 0), 50);
    }

    private void boundsOfMending() {
        due.says(TERMS, "m by how much TENSION of each SPOKE of a WEB that is not touched is more (0 to 99)");
        mends("0", 0);
        mends("1", 1);
        mends("98", 98);
        mends("99", 99);
        mends("100", 99);
        mends("0-1", 0);
        mends("99999*99", 99);
        DraughtWebs x = by("m0-50(1=1)");
        x.tension(0, 4, 50);
        x.hours(1);
        due.is("no less by mending", x.webIs(0, 4), 50);
        x = by("m7(1=1)");
        for (int s = 0; s < 8; s++) {
            x.tension(0, s, 10);
        }
        x.hours(1);
        for (int s = 0; s < 8; s++) {
            due.is("spoke " + s, x.webIs(0, s), s == 0 ? 10 : 17);
        }
    }

    private void notFelt() {
        due.says(TERMS, "x a WEB does not feel a FLEET (any will do; without an x in THE LAW it does)");
        due.is("no law", Due.at("a@5,5;A@5,3:10").hours(1), 1);
        due.is("no x", by("t1(1=1);m1(1=1)").hours(1), 1);
        due.is("one that holds", by("x(1=1)").hours(1), 0);
        due.is("one that does not", by("x(1=2)").hours(1), 1);
        due.is("the first of three", by("x(1=1);x(1=2);x(1=2)").hours(1), 0);
        due.is("the last of three", by("x(1=2);x(1=2);x(1=1)").hours(1), 0);
        due.is("none of three", by("x(1=2);x(1=2);x(1=2)").hours(1), 1);
        due.is("the last of 16", by("x(1=2)" + ";x(1=2)".repeat(14) + ";x(1=1)").hours(1), 0);
        DraughtWebs x = by("x(1=1);m5(1=1)");
        x.tension(0, 0, 50);
        x.hours(1);
        due.is("what is not felt does not touch: mended", x.webIs(0, 0), 55);
    }

    private void firstRuleThatHolds() {
        due.says(TERMS, "of the first RULE of t, m whose C holds the E (beyond its bounds the bound; none: 0)");
        String[] laws = {"t5(1=1);t6(1=1)", "t5(1=2);t6(1=1)", "m9(1=1);t5(1=1)", "t5(1=2);t6(1=2)", "m9(1=1)",
            "t0-5(1=1);t6(1=1)", "t500(1=1);t6(1=1)"};
        int[] worn = {5, 6, 5, 0, 0, 0, 99};
        for (int k = 0; k < laws.length; k++) {
            DraughtWebs x = by(laws[k]);
            due.is("touches by " + laws[k], x.hours(1), 1);
            due.is("worn by " + laws[k], 99 - x.webIs(0, 0), worn[k]);
        }
        String[] mending = {"m5(1=1);m6(1=1)", "m5(1=2);m6(1=1)", "t9(1=1);m5(1=1)", "m5(1=2);m6(1=2)", "t9(1=1)",
            "m0-5(1=1);m6(1=1)", "m500(1=1);m6(1=1)"};
        for (int k = 0; k < mending.length; k++) {
            DraughtWebs x = by(mending[k]);
            x.tension(0, 4, 0);
            x.hours(1);
            due.is("mended by " + mending[k], x.webIs(0, 4), worn[k]);
        }
    }

    private void parts() {
        due.says(TERMS, "C: PARTS with a | between two, one of which must hold; a PART: TESTS with an & between two, all of which must");
        holds("1=1", true);
        holds("1=2", false);
        holds("1=2|1=1", true);
        holds("1=1|1=2", true);
        holds("1=2|1=3", false);
        holds("1=1&1=1", true);
        holds("1=1&1=2", false);
        holds("1=2&1=1", false);
        holds("1=2&1=2|1=1", true);
        holds("1=1|1=2&1=2", true);
        holds("(1=1|1=2)&1=2", false);
        holds("1=2|1=2|1=2|1=1", true);
        holds("1=1&1=1&1=1&1=2", false);
        holds("p=1|".repeat(57) + "p=0", true);
        holds("p=0&".repeat(57) + "p=1", false);
        due.says(TERMS, "a TEST: !TEST, (C), or E, one of < > =, and E");
        holds("!1=2", true);
        holds("!1=1", false);
        holds("!!1=1", true);
        holds("!(1=2|1=1)", false);
        holds("!1=2&1=2", false);
        holds("!1=1|1=1", true);
        holds("2<3", true);
        holds("3<3", false);
        holds("3>3", false);
        holds("3>2", true);
        holds("3=3", true);
        holds("2=3", false);
        holds("0-1<0", true);
    }

    private void fromTheLeftOn() {
        due.says(TERMS, "E: TERMS with + or - between two; a TERM: FACTORS with one of * / % between two; from the left on");
        wears("20-5-3", 12);
        wears("20-5+3", 18);
        wears("90/5/3", 6);
        wears("90/5*3", 54);
        wears("5*7/2", 17);
        wears("7/2*5", 15);
        wears("97%50%20", 7);
        wears("9%5*4", 16);
        wears("2+3*4", 14);
        wears("2*3+4", 10);
        wears("50-6/2", 47);
        wears("[50-6]/2", 22);
    }

    private void digits() {
        due.says(TERMS, "a FACTOR: [E], a number of one to five digits, or a letter");
        wears("7", 7);
        wears("00007", 7);
        wears("99999-99950", 49);
        wears("[7]", 7);
        wears("[[[[[[7]]]]]]", 7);
        is("t(1=1)", -1001);
        is("t[](1=1)", -1002);
        is("x(=1)", -1002);
        is("x(1=)", -1004);
        due.says(TERMS, "2 a sixth digit, at it; 4 a 17th RULE");
        is("t12345(1=1)", 1);
        is("t123456(1=1)", -2006);
        is("t000000(1=1)", -2006);
        is("t1234567(1=1)", -2006);
        is("x(123456=1)", -2007);
        is("x(1=123456)", -2009);
        is("x(1=12345)", 1);
        is("t[123456](1=1)", -2007);
        is("x(1=1);t1+234567(1=1)", -2015);
        is("t12345:(1=1)", -1006);
    }

    private void lettersInM() {
        String[] words = {"f the FLEET (in m 8)", "d DISTANCE (in m 0), g what is felt: FORCE less DISTANCE (in m 0)",
            "r SPOKES of the WEB of TENSION 0 by then", "c COURSE (none, in m: 8)", "w the DRAW (in m 0)"};
        String[] letters = {"f", "dg", "r", "c", "w"};
        int[] want = {8, 0, 2, 8, 0};
        for (int k = 0; k < words.length; k++) {
            due.says(TERMS, words[k]);
            for (int i = 0; i < letters[k].length(); i++) {
                DraughtWebs x = Due.at("a@5,5;A@5,3:10>2");
                Due.law(x, "t5(1=1);m" + letters[k].charAt(i) + "(s=5)");
                x.tension(0, 5, 40);
                x.tension(0, 6, 0);
                x.tension(0, 7, 0);
                x.hours(1);
                due.is(letters[k].charAt(i) + " in m", x.webIs(0, 5) - 40, want[k]);
            }
        }
        due.says(TERMS, "h THE HOUR modulo 24");
        DraughtWebs x = Due.at("a@5,5");
        Due.law(x, "mh(s=4)");
        x.hours(22);
        for (int want24 : new int[] {22, 23, 0, 1}) {
            x.tension(0, 4, 0);
            x.hours(1);
            due.is("the hour of the day in m", x.webIs(0, 4), want24);
        }
        x = Due.at("a@5,5;A@5,5:9");
        Due.law(x, "th(1=1)");
        x.hours(22);
        for (int want24 : new int[] {22, 23, 0, 1}) {
            x.tension(0, 0, 99);
            x.hours(1);
            due.is("the hour of the day of a touch", 99 - x.webIs(0, 0), want24);
        }
        x = Due.at("a@5,5;A@5,5:9");
        x.hours(22);
        for (int want24 : new int[] {22, 23, 0, 1}) {
            Due.law(x, "x(!h=" + want24 + ")");
            due.is("the hour of the day of an x", x.hours(1), 1);
        }
    }

    private void lettersOfTouches() {
        due.says(TERMS, "p the WEB, f the FLEET (in m 8), s the SPOKE, v its TENSION, d DISTANCE");
        String letters = "pfsvdgrcw";
        int[] want = {7, 7, 6, 50, 3, 37, 1, 8, 2};
        for (int k = 0; k < letters.length(); k++) {
            DraughtWebs x = Due.at("h@5,5;H@2,5:40");
            Due.law(x, "t" + letters.charAt(k) + "(1=1)");
            x.tension(7, 6, 50);
            x.tension(7, 1, 0);
            x.hours(1);
            due.is("letter " + letters.charAt(k), 50 - x.webIs(7, 6), want[k]);
        }
        due.says(TERMS, "r SPOKES of the WEB of TENSION 0 by then, c COURSE");
        DraughtWebs x = Due.at("a@5,5;A@5,3:10;B@8,5:10;C@5,8:10");
        Due.law(x, "t99(f<2);tr(f=2)");
        x.hours(1);
        due.is("two are of 0 by then", x.webIs(0, 4), 97);
        x = Due.at("a@5,5;b@5,5");
        Due.law(x, "mr(1=1)");
        for (int s = 0; s < 8; s++) {
            x.tension(0, s, 0);
        }
        x.hours(1);
        due.is("all eight at first", x.webIs(0, 0), 8);
        due.is("one at last", x.webIs(0, 7), 1);
    }

    private void thirtyTwoBits() {
        due.says(TERMS, "All is reckoned with 32 bits, as the machine does");
        wears("65536*65536+5", 5);
        wears("65536*32768/65536+32768+6", 6);
        holds("65536*32768<0", true);
        holds("65536*32768-1>0", true);
        holds("65535*32768+32767>0", true);
        holds("65535*32768+32767+1<0", true);
        holds("0-65536*32768=65536*32768", true);
        holds("[65536*32768]/[0-1]=65536*32768", true);
        holds("[65536*32768]%[0-1]=0", true);
        holds("99999*99999/10000=99999+40987", true);
        wears("99999*99999/10000-99999-40900", 87);
        wears("10+[0-7]/2", 7);
        wears("10+[0-7]%2", 9);
        wears("10+7/[0-2]", 7);
        wears("10+7%[0-2]", 11);
    }

    private void dividedByNothing() {
        due.says(TERMS, "what is divided by 0 is REFUSED: then the whole C of the RULE does not hold, the E of it is 0");
        wears("5/0", 0);
        wears("5%0", 0);
        wears("50+5/0", 0);
        wears("50+5%0", 0);
        wears("50+0/p", 0);
        wears("0/5+7", 7);
        mends("5/0", 0);
        mends("50+5%w", 0);
        holds("1/0=0", false);
        holds("!1/0=0", false);
        holds("1%0=0", false);
        holds("!1%0=0", false);
        holds("!(1=2&1=1)&!(2/0=1)", false);
        holds("1/0=0|1=1", false);
        holds("1=1&1/0=0|1=1", false);
        holds("0*[1/0]=0", false);
        DraughtWebs x = by("t5/0(1=1);t7(1=1)");
        due.is("touches by an E of 0", x.hours(1), 1);
        due.is("the E of the first is 0", x.webIs(0, 0), 99);
        x = by("t5(1/0=1);t7(1=1)");
        x.hours(1);
        due.is("the first does not hold", x.webIs(0, 0), 92);
        x = by("t5/0(1/0=1);t7(1=1)");
        x.hours(1);
        due.is("the first does not hold", x.webIs(0, 0), 92);
        due.is("of two x", by("x(1/0=0);x(1=1)").hours(1), 0);
    }

    private void asMuchAsMatters() {
        due.says(TERMS, "Of a C as much is asked, from the left, as matters");
        holds("1=1|1/0=0", true);
        holds("1=2&1/0=0|1=1", true);
        holds("1=2&1=1&1/0=0|1=1", true);
        holds("(1=1|1/0=0)&1=1", true);
        holds("!(1=2&1/0=0)", true);
        holds("!(1=1|1/0=0)|1=1", true);
        holds("1=2|1/0=0", false);
        holds("1=2|1/0=0|1=1", false);
        holds("1=1|1=1|1/0=0", true);
        holds("1=1|1=1&1/0=0", true);
        holds("(1=2|1=1)&(1=1|1/0=0)", true);
        DraughtWebs x = by("t5/0(1=2);t7(1=1)");
        x.hours(1);
        due.is("the E of a rule that does not hold", x.webIs(0, 0), 92);
    }

    private void whatCanNotStandThere() {
        due.says(TERMS, "FAULTS, the first from the left: 1 what can't stand there (the end, too); 2 a sixth digit");
        String text = "t[p+1]*2(!p=0&(f<1|s>2));m4(1=1);x(5/6%7=8-9)";
        String one = "t[p+1]*2(!p=0&(f<1|s>2))";
        for (int k = 1; k < text.length(); k++) {
            String begun = text.substring(0, k);
            int rules = begun.equals(one) ? 1 : begun.equals(one + ";m4(1=1)") ? 2 : 0;
            is(begun, rules > 0 ? rules : -1000 - k);
        }
        for (int k = 0; k < text.length(); k++) {
            for (int wrong : new int[] {0, 1, 127, 128, 255, text.charAt(k) + 128, 'A', 'z', '.', '{'}) {
                int[] bytes = Due.bytes(text);
                bytes[k] = wrong;
                DraughtWebs x = Due.feed(new DraughtWebs(), bytes);
                due.is("byte " + wrong + " at " + k, x.law(text.length()), -1000 - k);
            }
        }
        is("x(p=0)" + ")", -1006);
        is("xp=0", -1001);
        is("t5[p=0]", -1002);
        is("x[p=0]", -1001);
        is("x([p=0])", -1004);
        is("x((p)=0)", -1004);
        is("x(p<>0)", -1004);
        is("x(p=0!)", -1005);
        is("x(1+!p=0)", -1004);
        is("x(-1=0)", -1002);
        is("t1;t2(1=1)", -1002);
        is("x(p=0);", -1007);
        for (char letter = 'a'; letter <= 'z'; letter++) {
            boolean known = "pfsvdgrchw".indexOf(letter) >= 0;
            is("x(" + letter + "=0)", known ? 1 : -1002);
            is(letter + "1(1=1)", letter == 't' || letter == 'm' ? 1 : letter == 'x' ? -1001 : -1000);
        }
        DraughtWebs x = Due.feed(new DraughtWebs(), "t12345(p=0)");
        due.is("the end, though the tape goes on", x.law(10), -1010);
        x = Due.feed(new DraughtWebs(), "x(p=0)x");
        due.is("what is behind does not count", x.law(6), 1);
    }

    private void openInOneAnother() {
        due.says(TERMS, "5 a seventh of ( [ ! that are open in one another, at it (the ( of the RULE counts; "
                + "a ! is open till its TEST ends; the E of a RULE stands ahead of it)");
        is("x((((((1=1))))))", 1);
        is("x(((((((1=1)))))))", -5007);
        is("x([[[[[1]]]]]=1)", 1);
        is("x([[[[[[1]]]]]]=1)", -5007);
        is("x(1=[[[[[1]]]]])", 1);
        is("x(1=[[[[[[1]]]]]])", -5009);
        is("x(!!!!!1=1)", 1);
        is("x(!!!!!!1=1)", -5007);
        is("x(!(!([1]=1)))", 1);
        is("x(!(!([[1]]=1)))", -5007);
        is("x(!(!(!1=1)))", 1);
        is("x(!(!(!(1=1))))", -5007);
        is("x(!(!(!!1=1)))", -5007);
        is("x((((((!1=1))))))", -5007);
        is("x((((((1=[1]))))))", -5009);
        is("x(!!!!!1=1&!!!!!1=1)", 1);
        is("x(!!!!!1=1|!!!!!!1=1)", -5016);
        is("x(!!!!(1=1)&(((((1=1))))))", 1);
        is("x(!!!!![1]=1)", -5007);
        is("x(!!!![1]=[1])", 1);
        is("x(!!!![[1]]=1)", -5007);
        is("x(!!!![1]=[[1]])", -5011);
        is("t[[[[[[1]]]]]](1=1)", 1);
        is("t[[[[[[[1]]]]]]](1=1)", -5007);
        is("t[[[[[[1]]]]]]((((((1=1))))))", 1);
        is("t[[[[[[1]]]]]](((((((1=1)))))))", -5020);
        is("m1+[[[[[[1]]]]]]*[[[[[[1]]]]]](1=1)", 1);
        is("x(((((((", -5007);
        is("x([[[[[[", -5007);
        is("x(!!!!!!", -5007);
        is("t[[[[[[[", -5007);
        is("x((1=1)&(1=1)&(1=1)&(1=1)&(1=1)&(1=1)&(1=1))", 1);
        is("x(!1=1&!1=1&!1=1&!1=1&!1=1&!1=1&!1=1)", 1);
        is("x(1=1);x((((((1=1))))));x((((((1=1))))))", 3);
    }

    private void lengths() {
        due.says(LAW, "THE LAW by the first n bytes of the tape (1 to 240; empty then)");
        due.range("law", 1, 240, n -> Due.feed(new DraughtWebs(), FULL + ")".repeat(20)).law(n) != NONE);
        DraughtWebs x = Due.feed(new DraughtWebs(), FULL + ")".repeat(20));
        due.is("240 of 260", x.law(240), 1);
        due.is("the tape", x.count(4), 0);
        x = Due.feed(new DraughtWebs(), FULL);
        due.is("240 of 240", x.law(240), 1);
        due.is("the tape", x.count(4), 0);
        x = Due.feed(new DraughtWebs(), "x(p=0)");
        due.is("1 of 20", x.law(1), -1001);
        due.is("the tape", x.count(4), 0);
    }

    private void answers() {
        due.says(LAW, "in place of the one before: how many RULES");
        DraughtWebs x = by("t5(1=1);m1(1=1);x(1=2)");
        due.is("a law of one rule", Due.law(x, "t7(1=1)"), 1);
        due.is("rules", x.count(3), 1);
        x.tension(0, 4, 50);
        x.hours(1);
        due.is("worn by the new one", x.webIs(0, 0), 92);
        due.is("the m is gone", x.webIs(0, 4), 50);
        due.is("a law of 16 rules", Due.law(x, SIXTEEN), 16);
        due.is("rules", x.count(3), 16);
        for (int k = 0; k < 5; k++) {
            due.is("the longest again and again", Due.law(x, FULL), 1);
            due.is("a fault between", Due.law(x, "t12345"), -1006);
        }
        x.tension(0, 0, 99);
        x.hours(1);
        due.is("worn by the longest", x.webIs(0, 0), 87);
        due.is("a law behind a fault", Due.law(x, "t3(1=1)"), 1);
        x.hours(1);
        due.is("worn by the last one", x.webIs(0, 0), 84);
        due.says(LAW, "a FAULT: -1000 times its number, less its place (the one before stays)");
        due.empties("law of a fault at 0", -1000, y -> y.law(6), Due.bytes("y(p=0)"));
        due.empties("law of a fault at its end", -1007, y -> y.law(7), Due.bytes("x(p=0);"));
        due.empties("law of a sixth digit", -2006, y -> y.law(12), Due.bytes("t123456(p=0)"));
        due.empties("law of a 17th rule", -4112, y -> y.law(113), Due.bytes(SIXTEEN + ";x"));
        due.empties("law of a seventh bracket", -5015, y -> y.law(16), Due.bytes("t9(1=1);x((((((("));
        due.empties("law of 240 bytes", -1240, y -> y.law(240), Due.bytes(FULL.substring(0, 239) + "+"));
        due.says(LAW, "NONE: no such n, it has not so many (the tape stays)");
        for (int n : new int[] {0, -1, 241, 260, 261, Integer.MIN_VALUE, Integer.MAX_VALUE}) {
            due.refuses("law " + n, NONE, y -> y.law(n));
        }
        for (int blocks = 0; blocks < 12; blocks++) {
            int n = 20 * blocks;
            due.refuses("law of one byte more than there are", NONE, blocks, y -> y.law(n + 1));
            due.refuses("law 240", NONE, blocks, y -> y.law(240));
            if (n > 0) {
                due.is("as many as there are: " + n, State.fed(new DraughtWebs(), blocks).law(n), -1000);
            }
        }
    }
}
