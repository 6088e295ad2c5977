/** The sentences of the document that name no boundary case. */
final class PlainSentences {
    private static final String TERMS = "Terms";
    private static final int[] ACROSS = {0, 1, 1, 1, 0, -1, -1, -1};
    private static final int[] ALONG = {-1, -1, 0, 1, 1, 1, 0, -1};

    private final Bounds due;

    private PlainSentences(Bounds due) {
        this.due = due;
    }

    static void ask(Bounds due) {
        PlainSentences all = new PlainSentences(due);
        all.placesOfWebs();
        all.placesOfFleets();
        all.linesOfAChart();
        all.rulesOfALaw();
        all.spokeTowards();
        all.movesComeFirst();
        all.memoryIsItsOwn();
        all.felt();
        all.whichWebAndFleet();
        all.whichBearings();
        all.logsInOrder();
        all.questionsOfALog();
        all.logsInCommon();
        all.questionsOfACode();
    }

    private void placesOfWebs() {
        due.says(TERMS, "THE CHART: PLACES, X 0 to 23, Y 0 to 15 (Y grows down). WEBS a to h (0 to 7): told or not, at a PLACE");
        for (int place = 0; place < 384; place++) {
            int p = place % 8;
            DraughtWebs x = Due.at("" + (char) ('a' + p) + "@" + place % 24 + "," + place / 24);
            due.is("place of web " + p, x.webIs(p, 10), place);
            due.is("told webs", x.count(1), 1 << p);
            due.is("it is nearest there", x.nearest(place % 24, place / 24), p);
        }
    }

    private void placesOfFleets() {
        due.says(TERMS, "FLEETS A to H (0 to 7): told or not, at a PLACE, of a FORCE (0 to 99), of a COURSE");
        for (int place = 0; place < 384; place++) {
            int f = place % 8;
            int force = place % 100;
            DraughtWebs x = Due.at("" + (char) ('A' + f) + "@" + place % 24 + "," + place / 24 + ":" + force + ">" + f);
            due.is("place of fleet " + f, x.fleetIs(f, 0), place);
            due.is("its force", x.fleetIs(f, 1), force);
            due.is("its course", x.fleetIs(f, 2), f);
            due.is("told fleets", x.count(2), 1 << f);
        }
    }

    private void linesOfAChart() {
        due.says(TERMS, "a letter a to h, @ X , Y (a WEB); or a letter A to H, @ X , Y, : (58), a number (FORCE)");
        String web = "c@7,9";
        String fleet = "F@7,9:5>3";
        due.is(web, Due.chart(new DraughtWebs(), web), 1);
        due.is(fleet, Due.chart(new DraughtWebs(), fleet), 1);
        for (String line : new String[] {web, fleet}) {
            for (int k = 0; k < line.length(); k++) {
                String other = line.substring(0, k) + "?" + line.substring(k + 1);
                due.is(other, Due.chart(new DraughtWebs(), other), -1000 - k);
            }
        }
        due.is("a web has no force", Due.chart(new DraughtWebs(), "c@7,9:5"), -1005);
        due.is("a fleet has one", Due.chart(new DraughtWebs(), "F@7,9"), -1005);
    }

    private void rulesOfALaw() {
        due.says(TERMS, "a letter, E, and (C), of x only (C): t by how much");
        String[] laws = {"t7(1=1)", "m7(1=1)", "x(1=1)"};
        for (String law : laws) {
            due.is(law, Due.law(new DraughtWebs(), law), 1);
            for (int k = 0; k < law.length(); k++) {
                String other = law.substring(0, k) + "?" + law.substring(k + 1);
                due.is(other, Due.law(new DraughtWebs(), other), -1000 - k);
            }
        }
        due.is("x with E", Due.law(new DraughtWebs(), "x7(1=1)"), -1001);
        due.is("t without E", Due.law(new DraughtWebs(), "t(1=1)"), -1001);
        due.is("m without E", Due.law(new DraughtWebs(), "m(1=1)"), -1001);
        due.is("t without C", Due.law(new DraughtWebs(), "t7;x(1=1)"), -1002);
    }

    private void spokeTowards() {
        due.says(TERMS, "The SPOKE by which a WEB feels a FLEET at another PLACE is that towards it: with a PLACES across");
        for (int s = 0; s < 8; s++) {
            for (int far = 1; far < 8; far++) {
                int x = 12 + far * ACROSS[s];
                int y = 8 + far * ALONG[s];
                DraughtWebs webs = Due.at("a@12,8;A@" + x + "," + y + ":9");
                due.is("spoke " + s, webs.feels(0, 1), s);
                due.is("one touch", webs.hours(1), 1);
                Due.law(webs, "t7(1=1)");
                due.is("one more", webs.hours(1), 1);
                due.is("the spoke that wears", webs.webIs(0, s), 92);
            }
        }
    }

    private void movesComeFirst() {
        due.says(TERMS, "AN HOUR: (1) each told FLEET with a COURSE");
        DraughtWebs x = Due.at("a@12,8;A@12,5:3>4");
        Due.law(x, "t7(h=0)");
        due.is("felt now", x.feels(0, 0), -2);
        due.is("felt when it has gone on", x.hours(1), 1);
        due.is("the spoke", x.webIs(0, 0), 92);
        x = Due.at("a@12,8;A@12,6:3>0");
        due.is("felt now", x.feels(0, 0), 0);
        due.is("not felt when it has gone on", x.hours(1), 0);
    }

    private void memoryIsItsOwn() {
        due.says(TERMS, "All memory is the Admiralty's own");
        DraughtWebs alone = State.rich();
        DraughtWebs first = State.rich();
        DraughtWebs other = new DraughtWebs();
        Due.chart(other, "a@1,1;b@2,2;A@1,2:50>3;B@7,7:60");
        Due.law(other, "t9(1=1);m1(1=1)");
        other.seed(77);
        other.hours(20);
        other.keep();
        other.tried(9, 0);
        other.when(0, 0, 50);
        State.fed(other, 3);
        other.undo();
        due.same("an object beside another one", State.withTape(first, 0), State.withTape(alone, 0));
    }

    private void felt() {
        due.says(TERMS, "the FLEET (of like ones the lowest); its SPOKE; how much");
        DraughtWebs x = Due.at("a@3,3;b@20,12;A@3,9:20;B@18,12:11;C@5,3:12");
        due.is("fleet", x.feels(0, 0), 0);
        due.is("spoke", x.feels(0, 1), 4);
        due.is("how much", x.feels(0, 2), 14);
        due.says("Promise 10", "FEELS: a told WEB, what 0 the FLEET, 1 the SPOKE, 2 how much");
        due.is("fleet", x.feels(1, 0), 1);
        due.is("spoke", x.feels(1, 1), 6);
        due.is("how much", x.feels(1, 2), 9);
    }

    private void whichWebAndFleet() {
        due.says("Promise 11", "WHEN told WEB p feels told FLEET f in n HOURS");
        DraughtWebs x = Due.at("b@0,0;e@23,15;C@10,0:3>6;F@10,15:4>2");
        due.is("b, C", x.when(1, 2, 30), 8);
        due.is("e, F", x.when(4, 5, 30), 10);
        due.is("e, C", x.when(4, 2, 30), -2);
        due.is("b, F", x.when(1, 5, 30), -2);
    }

    private void whichBearings() {
        due.says("Promise 13", "BEARINGS of told WEB p by SPOKE a, told WEB q by SPOKE b: the PLACE (24 Y and X)");
        DraughtWebs x = Due.at("c@4,10;f@9,2");
        due.is("c right, f down", x.bearings(2, 2, 5, 4), 24 * 10 + 9);
        due.is("f down, c right", x.bearings(5, 4, 2, 2), 24 * 10 + 9);
        due.is("c up, f left", x.bearings(2, 0, 5, 6), 24 * 2 + 4);
        due.is("c up right, f right", x.bearings(2, 1, 5, 2), 24 * 2 + 12);
        due.is("c down, f right", x.bearings(2, 4, 5, 2), -2);
        due.is("they meet beyond the chart", x.bearings(2, 3, 5, 3), -2);
    }

    private void logsInOrder() {
        due.says(TERMS, "SPOKES one behind the other: a digit 0 to 7, or (SPOKES)");
        DraughtWebs x = new DraughtWebs();
        due.is("0 1 2 3", Due.log(x, "0123", 103), 3);
        due.is("3 2 1 0", Due.log(x, "3210", 103), -3);
        due.is("0 1 0 1 3", Due.log(x, "(01)*23", 103), 3);
        due.is("2 0 1 0 1", Due.log(x, "2(01)*2", 103), -1);
        due.is("0 1 1 0 1 1 2", Due.log(x, "(0(1)*2)*22", 103), 2);
        due.is("as they stand", Due.log(x, "(01)(10)", 102), 2);
    }

    private void questionsOfALog() {
        due.says(TERMS, "Of a LOG: how many SPOKES; how often one; the one that is most often");
        DraughtWebs x = new DraughtWebs();
        String log = "7(112)*3300";
        due.is("how many", Due.log(x, log, 100), 13);
        int[] often = {2, 6, 3, 1, 0, 0, 0, 1};
        for (int s = 0; s < 8; s++) {
            due.is("how often " + s, Due.log(x, log, s), often[s]);
        }
        due.says(TERMS, "TURNS: from SPOKE to SPOKE");
        due.is("7 1 1 2 1 1 2 1 1 2 3 0 0", Due.log(x, log, 103), 2 + 1 - 1 + 1 - 1 + 1 + 1 - 3);
        due.says("Promise 18", "101 the most often one, 102 the longest row, 103 TURNS, 104 its PERIOD");
        due.is("the most often one", Due.log(x, log, 101), 1);
        due.is("the longest row", Due.log(x, log, 102), 2);
        due.is("turns", Due.log(x, log, 103), 1);
        due.is("its period", Due.log(x, log, 104), 13);
        due.is("its period", Due.log(x, "(112)*411", 104), 3);
    }

    private void logsInCommon() {
        due.says("Promise 19", "IN COMMON of logs of n and m bytes");
        DraughtWebs x = new DraughtWebs();
        due.is("0123 and 31", Due.feed(x, "012331").inCommon(4, 2), 1);
        due.is("01 and 2331", Due.feed(x, "012331").inCommon(2, 4), 1);
        due.is("012 and 331", Due.feed(x, "012331").inCommon(3, 3), 1);
        due.is("0123 and 13", Due.feed(x, "012313").inCommon(4, 2), 2);
    }

    private void questionsOfACode() {
        due.says("Promise 20", "what 0 signs in all, 1 the length of the longest word");
        DraughtWebs x = new DraughtWebs();
        due.is("signs of 1 2 3 4 5", Due.feed(x, 1, 2, 3, 4, 5).code(5, 0), 3 + 6 + 9 + 15);
        due.is("longest word of 1 2 3 4 5", Due.feed(x, 1, 2, 3, 4, 5).code(5, 1), 3);
        due.is("signs of 1 2 4 8", Due.feed(x, 1, 2, 4, 8).code(4, 0), 3 + 7 + 15);
        due.is("longest word of 1 2 4 8", Due.feed(x, 1, 2, 4, 8).code(4, 1), 3);
    }
}
