/** The boundaries of promises 1 to 14: a new object, the tape, the text, and what is asked. */
final class BoundsOfAsking {
    private static final int MAX = Sample.MAX;
    private static final int MIN = Sample.MIN;
    private static final String TWO = "method;say 1 1 2;call 0 9;say 2 0;method;say 3;class 9;class 0;has 0 0 1;";

    private BoundsOfAsking() {
    }

    static void all() {
        newObject();
        feedABytes0To127();
        feedFullAtMoreThan320();
        endKeepsTheFirstN();
        endBad();
        textTellsHowManyLines();
        textPlaceOfItsFault();
        faultOfTheLatestText();
        ruleOfNothing();
        ruleOfAll();
        ruleTestsThatSayOther();
        ruleBad();
        nodeParts();
        nodeBad();
        meantOldAndNew();
        meantBadAndNone();
        testParts();
        testBad();
        saidOldAndNew();
        saidOfNoSuch();
        edgeInDangerAndCovered();
        edgeBad();
        coversOneOrNot();
        coversBad();
        orderThatAndHowMany();
        orderBadAndNone();
        sameOfAllDecisions();
        sameBad();
    }

    private static void newObject() {
        Doc.promise(1, "No METHODS, CLASSES, TESTS; SHEETS of nothing.");
        TestChoice x = new TestChoice();
        Due.due("rule(0)", x.rule(0), 0);
        Due.due("rule(2)", x.rule(2), 0);
        Due.due("rule(3)", x.rule(3), 0);
        Due.due("node(0, 0, 0)", x.node(0, 0, 0), -1);
        Due.due("meant(0, 0, 0)", x.meant(0, 0, 0), -1);
        Due.due("test(0, 0)", x.test(0, 0), -1);
        Due.due("has(0, 0, -4)", x.has(0, 0, -4), -1);
        Due.due("add(0, 0, 1)", x.add(0, 0, 1), -1);
        Due.due("edge(100, 0)", x.edge(100, 0), -1);
        Due.due("edge(200, 0)", x.edge(200, 0), -1);
        Due.due("count(3)", x.count(3), -4);
        for (int k = 0; k < 4; k++) {
            Due.due("lay(" + k + ", 0, 0)", x.lay(k, 0, 0), -11);
            Due.due("read(" + k + ", 0, 0, 1)", x.read(k, 0, 0, 1), 0);
            Due.due("torn()", x.torn(), 1);
        }
        Due.due("take()", x.take(), 0);
        Due.due("leave()", x.leave(), 0);
        Due.due("draw(0, 1)", x.draw(0, 1), -2);
        Due.due("drop(0)", x.drop(0), -1);
        Due.due("back(0)", x.back(0), -2);
        Due.due("end(0)", x.end(0), 0);
        Due.due("keep(0)", x.keep(0), 0);
        Due.due("back(0), to nothing", x.back(0), 0);
    }

    private static void feedABytes0To127() {
        Doc.promise(2, "A byte (0 to 127) comes behind THE TAPE: how many it has.");
        TestChoice x = new TestChoice();
        for (int c = 0; c < 128; c++) {
            Due.due("feed(" + c + ")", x.feed(c), c + 1);
        }
        for (int c : new int[] {-1, 128, 129, 255, 256, 256 + 32, -128, -256 + 32, MAX, MIN}) {
            Sample.refused("feed(" + c + ")", y -> y.feed(c), -1);
        }
    }

    private static void feedFullAtMoreThan320() {
        Doc.promise(2, "BAD; FULL: more than 320.");
        TestChoice x = new TestChoice();
        for (int i = 1; i <= 319; i++) {
            Due.due("feed(32)", x.feed(32), i);
        }
        Due.due("the 320th: feed('?')", x.feed('?'), 320);
        Due.due("the 321st: feed(';')", x.feed(';'), -3);
        Due.due("again: feed(';')", x.feed(';'), -3);
        Due.due("BAD goes ahead: feed(128)", x.feed(128), -1);
        Due.due("BAD goes ahead: feed(-1)", x.feed(-1), -1);
        Due.due("count(2)", x.count(2), 320);
        Due.due("text()", x.text(), -10 - 319);
        Due.due("fault()", x.fault(), 1);
        Due.due("there is room again: feed(0)", x.feed(0), 1);
    }

    private static void endKeepsTheFirstN() {
        Doc.promise(3, "THE TAPE keeps its first n bytes: how many it had.");
        TestChoice x = new TestChoice();
        Due.due("of none: end(0)", x.end(0), 0);
        Due.feedAll(x, "method;say 1;?");
        Due.due("all of them: end(14)", x.end(14), 14);
        Due.due("all but one: end(13)", x.end(13), 14);
        Due.due("count(2)", x.count(2), 13);
        Due.due("the first ones: text()", x.text(), 2);
        Due.feedAll(x, "method;");
        Due.due("none: end(0)", x.end(0), 7);
        Due.due("count(2)", x.count(2), 0);
        Due.due("feed(32)", x.feed(32), 1);
        for (int i = 2; i <= 320; i++) {
            x.feed(32);
        }
        Due.due("of all 320: end(320)", x.end(320), 320);
        Due.due("end(319)", x.end(319), 320);
        Due.due("feed(32)", x.feed(32), 320);
    }

    private static void endBad() {
        Doc.promise(3, "how many it had. BAD.");
        Due.due("of none: end(1)", new TestChoice().end(1), -1);
        Due.due("of none: end(-1)", new TestChoice().end(-1), -1);
        for (int n : new int[] {-1, 4, 5, 320, 321, MAX, MIN}) {
            Sample.refused("end(" + n + ")", x -> x.end(n), -1);
        }
        TestChoice full = new TestChoice();
        for (int i = 0; i < 320; i++) {
            full.feed(32);
        }
        Due.due("of 320: end(321)", full.end(321), -1);
        Due.due("count(2)", full.count(2), 320);
    }

    private static void textTellsHowManyLines() {
        Doc.promise(4, "THE TAPE (empty then, by a FAULT, too) tells all: how many lines;");
        TestChoice x = new TestChoice();
        Due.tells(x, "", 0);
        Due.tells(x, "   ", 0);
        Due.tells(x, "method;", 1);
        Due.due("count(2)", x.count(2), 0);
        Due.tells(x, "method", -16);
        Due.due("count(2) by a FAULT", x.count(2), 0);
        Due.due("feed(32)", x.feed(32), 1);
        Due.tells(new TestChoice(), BoundsOfPrograms.FULL, 6 + 48 + 4);
        Due.tells(new TestChoice(), "method;class 9;" + "has 0 0 0;".repeat(30), 32);
    }

    private static void textPlaceOfItsFault() {
        Doc.promise(4, "-10 less the place of its FAULT: that which was told stays.");
        Due.fails("?", 1, 0);
        Due.fails(" ".repeat(319) + "?", 1, 319);
        Due.fails("method;" + " ".repeat(307) + "method", 2, 320);
        for (String wrong : new String[] {"?", ";", "method;say 10;", "say 1;", "test 0 0 1;", "method;say 7;test"}) {
            TestChoice x = Due.told("method;say 5;class 9;has 0 0 0;test 0 7 8;");
            x.say(0, 0, 0, 6);
            x.keep(1);
            for (int i = 0; i < wrong.length(); i++) {
                x.feed(wrong.charAt(i));
            }
            Due.holds("a FAULT", x.text() <= -10);
            Due.due("METHODS stay", x.rule(0), 1);
            Due.due("the OLD NODE stays", x.node(0, 0, 1), 5);
            Due.due("the NEW NODE stays", x.node(0, 0, 11), 6);
            Due.due("what is MEANT stays", x.meant(0, 0, 1), 0);
            Due.due("the TEST stays", x.test(0, 1), 7);
            Due.due("the IMAGE stays", x.count(0), 1);
        }
    }

    private static void faultOfTheLatestText() {
        Doc.promise(5, "The FAULT of the latest text(); 0.");
        TestChoice x = new TestChoice();
        Due.due("ahead of all", x.fault(), 0);
        String[] texts = {"?", ";", "class 8;", "say", "test 0 0 1;", "method;"};
        int[] faults = {1, 2, 3, 5, 6, 0};
        for (int i = 0; i < texts.length; i++) {
            for (int k = 0; k < texts[i].length(); k++) {
                x.feed(texts[i].charAt(k));
                Due.due("ahead of the next text()", x.fault(), i == 0 ? 0 : faults[i - 1]);
            }
            x.text();
            Due.due("behind '" + texts[i] + "'", x.fault(), faults[i]);
            x.feed(128);
            x.end(1);
            x.read(0, 0, 0, 1);
            Due.due("no other call changes it", x.fault(), faults[i]);
        }
    }

    private static void ruleOfNothing() {
        Doc.promise(6, "0 METHODS, 1 NODES of all, 2 CLASSES, 3 TESTS, 4 EDGES IN DANGER, 5 TESTS that are CHOSEN, 6 their "
            + "COSTS, summed,");
        for (int what = 0; what < 8; what++) {
            Due.due("of a new object: rule(" + what + ")", new TestChoice().rule(what), 0);
            Due.due("of a text of nothing: rule(" + what + ")", Due.told("").rule(what), 0);
        }
    }

    private static void ruleOfAll() {
        Doc.promise(6, "0 METHODS, 1 NODES of all, 2 CLASSES, 3 TESTS, 4 EDGES IN DANGER, 5 TESTS that are CHOSEN, 6 their "
            + "COSTS, summed,");
        int[] full = {6, 48, 4, 8, 0, 0, 0, 0};
        int[] changed = {6, 48, 4, 8, 6, 8, 72, 8};
        for (int what = 0; what < 8; what++) {
            TestChoice x = Due.told(BoundsOfPrograms.FULL);
            for (int t = 1; t <= 8; t++) {
                x.add(t % 4, t, 9);
            }
            Due.due("rule(" + what + ")", x.rule(what), full[what]);
            for (int m = 0; m < 6; m++) {
                x.say(m, 0, 0, 2);
            }
            Due.due("changed, then asked at once: rule(" + what + ")", x.rule(what), changed[what]);
            x.leave();
            Due.due("left, then asked at once: rule(" + what + ")", x.rule(what), full[what]);
        }
    }

    private static void ruleTestsThatSayOther() {
        Doc.promise(6, "7 TESTS of which SAID by both PROGRAMS is not the same.");
        TestChoice x = Due.told("method;say 1 1 2;say 2;say 3;class 9;test 0 0 1;test 0 1 1;test 0 2 1;");
        x.say(0, 1, 0, 4);
        Due.due("by bit 0", x.rule(7), 2);
        x.say(0, 2, 0, 4);
        Due.due("all of them", x.rule(7), 3);
        x.leave();
        x.lead(0, 0, 0, 2);
        x.say(0, 2, 0, 2);
        Due.due("one goes elsewhere and says the same", x.rule(7), 1);
    }

    private static void ruleBad() {
        Doc.promise(6, "is not the same. BAD.");
        for (int what : new int[] {-1, 8, 9, MAX, MIN}) {
            Sample.refused("rule(" + what + ")", x -> x.rule(what), -1);
            Due.due("of a new object: rule(" + what + ")", new TestChoice().rule(what), -1);
        }
    }

    private static void nodeParts() {
        Doc.promise(7, "Of a NODE of a METHOD, 0 KIND, 1 NUMBER or NAME, 2 how many NEXT ones, 3, 4 these (NONE) in the OLD, "
            + "10 to 14 in the NEW PROGRAM.");
        TestChoice x = Due.told("method;method;method;method;method;method;" + "say 1;".repeat(6) + "call 3 7;say 9 9 6;");
        int[] six = {1, 3, 1, 7, -4};
        int[] seven = {0, 9, 2, 9, 6};
        int[] none = {0, 1, 0, -4, -4};
        for (int what = 0; what < 5; what++) {
            Due.due("node(5, 0, " + what + ")", x.node(5, 0, what), none[what]);
            Due.due("node(5, 6, " + what + ")", x.node(5, 6, what), six[what]);
            Due.due("node(5, 7, " + what + ")", x.node(5, 7, what), seven[what]);
            Due.due("node(5, 7, " + (10 + what) + ")", x.node(5, 7, 10 + what), seven[what]);
        }
        x.say(5, 7, 1, 0);
        x.nexts(5, 7, 0);
        int[] now = {1, 0, 0, -4, -4};
        for (int what = 0; what < 5; what++) {
            Due.due("as it was: node(5, 7, " + what + ")", x.node(5, 7, what), seven[what]);
            Due.due("as it is: node(5, 7, " + (10 + what) + ")", x.node(5, 7, 10 + what), now[what]);
        }
    }

    private static void nodeBad() {
        Doc.promise(7, "10 to 14 in the NEW PROGRAM. BAD.");
        for (int what : new int[] {-1, 5, 9, 15, 16, 20, MAX, MIN}) {
            Sample.refused("node(0, 0, " + what + ")", x -> x.node(0, 0, what), -1);
        }
        for (int m : new int[] {-1, 2, 5, 6, MAX, MIN}) {
            Sample.refused("node(" + m + ", 0, 0)", x -> x.node(m, 0, 0), -1);
            Sample.refused("node(" + m + ", 0, 10)", x -> x.node(m, 0, 10), -1);
        }
        for (int i : new int[] {-1, 3, 7, 8, MAX, MIN}) {
            Sample.refused("node(0, " + i + ", 0)", x -> x.node(0, i, 0), -1);
            Sample.refused("node(0, " + i + ", 14)", x -> x.node(0, i, 14), -1);
        }
        Sample.refused("that of METHOD 0 is none of METHOD 1: node(1, 1, 0)", x -> x.node(1, 1, 0), -1);
    }

    private static void meantOldAndNew() {
        Doc.promise(8, "MEANT by a CLASS and a NAME in the OLD (what 0), the NEW PROGRAM (1).");
        TestChoice x = Due.told("method;".repeat(6) + "class 9;class 9;class 9;class 9;has 0 0 0;has 3 3 5;");
        x.has(3, 3, 0);
        x.has(0, 0, -4);
        Due.due("meant(0, 0, 0)", x.meant(0, 0, 0), 0);
        Due.due("meant(0, 0, 1)", x.meant(0, 0, 1), -4);
        Due.due("meant(3, 3, 0)", x.meant(3, 3, 0), 5);
        Due.due("meant(3, 3, 1)", x.meant(3, 3, 1), 0);
    }

    private static void meantBadAndNone() {
        Doc.promise(8, "BAD; NONE.");
        for (int c : new int[] {-1, 2, 3, 4, 9, MAX, MIN}) {
            Sample.refused("meant(" + c + ", 0, 0)", x -> x.meant(c, 0, 0), -1);
            Sample.refused("meant(" + c + ", 3, 1)", x -> x.meant(c, 3, 1), -1);
        }
        for (int name : new int[] {-1, 4, 9, MAX, MIN}) {
            Sample.refused("meant(1, " + name + ", 0)", x -> x.meant(1, name, 0), -1);
            Sample.refused("meant(0, " + name + ", 1)", x -> x.meant(0, name, 1), -1);
        }
        for (int what : new int[] {-1, 2, 3, MAX, MIN}) {
            Sample.refused("meant(0, 0, " + what + ")", x -> x.meant(0, 0, what), -1);
        }
        Sample.refused("NONE: meant(0, 3, 0)", x -> x.meant(0, 3, 0), -4);
        Sample.refused("NONE: meant(1, 3, 1)", x -> x.meant(1, 3, 1), -4);
    }

    private static void testParts() {
        Doc.promise(9, "Of a TEST: 0 CLASS, 1 DECISIONS, 2 COST, 3 NODES its RUN goes to by the OLD, 4 by the NEW PROGRAM, 5 "
            + "whether it is CHOSEN (1, 0), 6 which it is of ORDER (NONE), 7 how many EDGES it COVERS, 8 how many of these are "
            + "IN DANGER.");
        TestChoice x = Due.told(TWO + "test 0 0 3;test 1 5 1;test 0 255 9;");
        x.say(1, 0, 0, 4);
        x.lead(0, 2, 0, 2);
        int[][] all = {{0, 0, 3, 3, 3, 1, 1, 5, 1}, {1, 5, 1, 5, 60, 1, 0, 7, 2}, {0, 255, 9, 60, 60, 1, 2, 3, 1}};
        for (int t = 0; t < 3; t++) {
            for (int what = 0; what < 9; what++) {
                Due.due("test(" + t + ", " + what + ")", x.test(t, what), all[t][what]);
            }
        }
        int[] left = {0, -4, 5, 0};
        for (int what = 5; what <= 8; what++) {
            x.lead(0, 2, 0, 2);
            x.leave();
            Due.due("nothing is IN DANGER: test(0, " + what + ")", x.test(0, what), left[what - 5]);
        }
        TestChoice nothing = Due.told("class 9;test 0 0 1;");
        int[] none = {0, 0, 1, 0, 0, 0, -4, 0, 0};
        for (int what = 0; what < 9; what++) {
            Due.due("no METHODS: test(0, " + what + ")", nothing.test(0, what), none[what]);
        }
    }

    private static void testBad() {
        Doc.promise(9, "8 how many of these are IN DANGER. BAD.");
        for (int t : new int[] {-1, 2, 7, 8, MAX, MIN}) {
            for (int what = 0; what < 9; what += 2) {
                int asked = what;
                Sample.refused("test(" + t + ", " + what + ")", x -> x.test(t, asked), -1);
            }
        }
        for (int what : new int[] {-1, 9, 10, MAX, MIN}) {
            Sample.refused("test(0, " + what + ")", x -> x.test(0, what), -1);
            Sample.refused("test(1, " + what + ")", x -> x.test(1, what), -1);
        }
    }

    private static void saidOldAndNew() {
        Doc.promise(10, "SAID by a TEST with the OLD (what 0), the NEW PROGRAM (1).");
        TestChoice x = Due.told("method;say 1;class 9;" + "test 0 0 1;".repeat(8));
        x.say(0, 0, 1, 3);
        for (int t = 0; t < 8; t++) {
            Due.due("said(" + t + ", 0)", x.said(t, 0), 101 * 31 + 2);
            Due.due("said(" + t + ", 1)", x.said(t, 1), 101 * 31 + 14);
        }
        Due.due("said(8, 0)", x.said(8, 0), 0);
    }

    private static void saidOfNoSuch() {
        Doc.promise(10, "0: there is no such.");
        for (int t : new int[] {-1, 2, 7, 8, MAX, MIN}) {
            Sample.refused("said(" + t + ", 0)", x -> x.said(t, 0), 0);
            Sample.refused("said(" + t + ", 1)", x -> x.said(t, 1), 0);
        }
        for (int what : new int[] {-1, 2, MAX, MIN}) {
            Sample.refused("said(0, " + what + ")", x -> x.said(0, what), 0);
        }
    }

    private static void edgeInDangerAndCovered() {
        Doc.promise(11, "Of an EDGE: 0 whether it is IN DANGER (1, 0), 1 how many TESTS COVER it.");
        TestChoice x = Due.told("method;say 1 9 9;class 9;class 9;" + "test 0 0 1;".repeat(8));
        Due.due("all eight: edge(0, 1)", x.edge(0, 1), 8);
        Due.due("none: edge(1, 1)", x.edge(1, 1), 0);
        Due.due("all eight: edge(100, 1)", x.edge(100, 1), 8);
        Due.due("none: edge(207, 1)", x.edge(207, 1), 0);
        Due.due("edge(0, 0)", x.edge(0, 0), 0);
        x.lead(0, 0, 0, 0);
        Due.due("IN DANGER: edge(0, 0)", x.edge(0, 0), 1);
        Due.due("as the OLD PROGRAM goes: edge(0, 1)", x.edge(0, 1), 8);
        x.drop(7);
        Due.due("one is gone: edge(0, 1)", x.edge(0, 1), 7);
    }

    private static void edgeBad() {
        Doc.promise(11, "BAD: also an EDGE of a NODE, NEXT, METHOD, CLASS that there is not in the OLD PROGRAM.");
        int[] none = {-1, 3, 5, 6, 15, 16, 17, 31, 32, 95, 96, 99, 102, 105, 106, 199, 208, 215, 216, 217, 300, MAX, MIN};
        for (int e : none) {
            Sample.refused("edge(" + e + ", 0)", x -> x.edge(e, 0), -1);
            Sample.refused("edge(" + e + ", 1)", x -> x.edge(e, 1), -1);
        }
        for (int what : new int[] {-1, 2, MAX, MIN}) {
            Sample.refused("edge(0, " + what + ")", x -> x.edge(0, what), -1);
        }
        TestChoice x = Sample.make();
        Due.due("a NEXT of the NEW PROGRAM: node(1, 0, 12)", x.node(1, 0, 12), 1);
        Due.due("it is none of the OLD one: edge(16, 0)", x.edge(16, 0), -1);
        x.take();
        Due.due("it is one then: edge(16, 0)", x.edge(16, 0), 0);
    }

    private static void coversOneOrNot() {
        Doc.promise(12, "Whether a TEST COVERS an EDGE (1, 0).");
        TestChoice x = Due.told("method;say 1 9 9;class 9;class 9;" + "test 0 0 1;".repeat(7) + "test 0 1 1;");
        Due.due("covers(0, 0)", x.covers(0, 0), 1);
        Due.due("covers(0, 1)", x.covers(0, 1), 0);
        Due.due("covers(7, 0)", x.covers(7, 0), 0);
        Due.due("covers(7, 1)", x.covers(7, 1), 1);
        Due.due("covers(7, 100)", x.covers(7, 100), 1);
        Due.due("covers(7, 207)", x.covers(7, 207), 0);
    }

    private static void coversBad() {
        Doc.promise(12, "(1, 0). BAD.");
        for (int t : new int[] {-1, 2, 7, 8, MAX, MIN}) {
            Sample.refused("covers(" + t + ", 0)", x -> x.covers(t, 0), -1);
        }
        for (int e : new int[] {-1, 3, 16, 95, 96, 99, 102, 106, 199, 208, 215, 216, MAX, MIN}) {
            Sample.refused("covers(0, " + e + ")", x -> x.covers(0, e), -1);
            Sample.refused("covers(1, " + e + ")", x -> x.covers(1, e), -1);
        }
    }

    private static void orderThatAndHowMany() {
        Doc.promise(13, "The i-th TEST (0 on) of ORDER (what 0), how many EDGES IN DANGER it COVERS that none ahead did (1).");
        TestChoice x = Due.told("method;say 1 9 9;class 9;" + "test 0 0 1;".repeat(7) + "test 0 1 1;");
        x.lead(0, 0, 0, 0);
        x.lead(0, 0, 1, 0);
        int[] order = {0, 7, 1, 2, 3, 4, 5, 6};
        for (int i = 0; i < 8; i++) {
            Due.due("order(" + i + ", 0)", x.order(i, 0), order[i]);
            Due.due("order(" + i + ", 1)", x.order(i, 1), i < 2 ? 1 : 0);
        }
        Due.due("the ninth: order(8, 0)", x.order(8, 0), -4);
    }

    private static void orderBadAndNone() {
        Doc.promise(13, "BAD: i below 0, what; NONE: there are not so many.");
        for (int i : new int[] {-1, -2, MIN}) {
            Sample.refused("order(" + i + ", 0)", x -> x.order(i, 0), -1);
            Sample.refused("order(" + i + ", 1)", x -> x.order(i, 1), -1);
        }
        for (int what : new int[] {-1, 2, MAX, MIN}) {
            Sample.refused("order(0, " + what + ")", x -> x.order(0, what), -1);
            Sample.refused("BAD goes ahead: order(99, " + what + ")", x -> x.order(99, what), -1);
        }
        Due.due("rule(5)", Sample.make().rule(5), 2);
        Sample.refused("the last: order(1, 0)", x -> Math.min(x.order(1, 0), 0), 0);
        for (int i : new int[] {2, 3, 7, 8, 9, MAX}) {
            Sample.refused("order(" + i + ", 0)", x -> x.order(i, 0), -4);
            Sample.refused("order(" + i + ", 1)", x -> x.order(i, 1), -4);
        }
        Due.due("of none: order(0, 0)", new TestChoice().order(0, 0), -4);
    }

    private static void sameOfAllDecisions() {
        Doc.promise(14, "Of all DECISIONS (0 to 255), by a CLASS: in how many SAID is the same by both PROGRAMS.");
        Due.due("no METHODS", Due.told("class 9;").same(0), 256);
        TestChoice x = Due.told("method;say 1 0 1;say 2;class 9;class 9;class 9;class 9;");
        Due.due("all of them", x.same(3), 256);
        x.say(0, 1, 0, 3);
        Due.due("only that without a bit 1", x.same(3), 1);
        x.say(0, 0, 0, 3);
        Due.due("none of them", x.same(3), 0);
        TestChoice y = Due.told("method;say 1 1 0;say 2;class 9;");
        y.say(0, 1, 0, 3);
        Due.due("only that without a bit 0", y.same(0), 1);
    }

    private static void sameBad() {
        Doc.promise(14, "by both PROGRAMS. BAD.");
        for (int c : new int[] {-1, 2, 3, 4, 9, MAX, MIN}) {
            Sample.refused("same(" + c + ")", x -> x.same(c), -1);
        }
        Due.due("no CLASSES: same(0)", Due.told("method;").same(0), -1);
    }
}
