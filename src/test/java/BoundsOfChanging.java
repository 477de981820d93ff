/** The boundaries of promises 15 to 25 and 30: what changes the new program and the tests, images, and counts. */
final class BoundsOfChanging {
    private static final int MAX = Sample.MAX;
    private static final int MIN = Sample.MIN;
    private static final String DRAWN = "By a seed, n TESTS more (1 to 8), as long as there is room: the seed becomes seed times "
        + "1103515245 and 12345; bits 16 to 30 of it are got: CLASS got modulo CLASSES, DECISIONS got by 4 (down) modulo 256, "
        + "COST got by 1024 (down) modulo 9 and 1: how many came.";

    private BoundsOfChanging() {
    }

    static void all() {
        sayTellsWhatItWas();
        sayBad();
        leadTellsWhatItDid();
        leadBadAlsoWhereItHasNone();
        nextsThatComeLeadTo9();
        nextsBad();
        hasTellsWhichItHad();
        hasBad();
        take();
        leave();
        addTellsHowMany();
        addBadAndFull();
        dropNumbersOneLess();
        dropBad();
        draw1To8();
        drawAsLongAsThereIsRoom();
        drawBits16To30();
        drawWrapsAround();
        drawBadAndState();
        keepTellsWhetherThereWasOne();
        keepBad();
        backIsAsTheImage();
        backBadAndState();
        countOfNothing();
        countOfAll();
        countBad();
    }

    private static void sayTellsWhatItWas() {
        Doc.promise(15, "A NODE says (kind 0), calls (1) n: its KIND times 10 and NUMBER, NAME, as they were.");
        TestChoice x = Due.told(BoundsOfPrograms.FULL);
        Due.due("say(5, 7, 0, 9)", x.say(5, 7, 0, 9), 1);
        Due.due("say(5, 7, 1, 0)", x.say(5, 7, 1, 0), 9);
        Due.due("say(5, 7, 1, 3)", x.say(5, 7, 1, 3), 10);
        Due.due("say(5, 7, 0, 0)", x.say(5, 7, 0, 0), 13);
        Due.due("say(5, 7, 0, 0) again", x.say(5, 7, 0, 0), 0);
        Due.due("the OLD PROGRAM stays", x.node(5, 7, 1), 1);
        Due.due("no other one", x.count(5), 1);
    }

    private static void sayBad() {
        Doc.promise(15, "as they were. BAD.");
        for (int m : new int[] {-1, 2, 6, MAX, MIN}) {
            Sample.refused("say(" + m + ", 0, 0, 1)", x -> x.say(m, 0, 0, 1), -1);
        }
        for (int i : new int[] {-1, 3, 8, MAX, MIN}) {
            Sample.refused("say(0, " + i + ", 0, 1)", x -> x.say(0, i, 0, 1), -1);
        }
        for (int kind : new int[] {-1, 2, MAX, MIN}) {
            Sample.refused("say(0, 0, " + kind + ", 1)", x -> x.say(0, 0, kind, 1), -1);
        }
        for (int n : new int[] {-1, 10, MAX, MIN}) {
            Sample.refused("say(0, 0, 0, " + n + ")", x -> x.say(0, 0, 0, n), -1);
        }
        for (int n : new int[] {-1, 4, 9, MAX, MIN}) {
            Sample.refused("say(0, 0, 1, " + n + ")", x -> x.say(0, 0, 1, n), -1);
        }
    }

    private static void leadTellsWhatItDid() {
        Doc.promise(16, "NEXT k (0, 1) of a NODE leads to a NODE, or 9: to what it did.");
        TestChoice x = Due.told("method;".repeat(5) + "method;" + "say 1;".repeat(7) + "say 1 9 0;");
        Due.due("lead(5, 7, 0, 7)", x.lead(5, 7, 0, 7), 9);
        Due.due("lead(5, 7, 0, 0)", x.lead(5, 7, 0, 0), 7);
        Due.due("lead(5, 7, 1, 9)", x.lead(5, 7, 1, 9), 0);
        Due.due("lead(5, 7, 1, 9) again", x.lead(5, 7, 1, 9), 9);
        Due.due("lead(5, 7, 0, 8)", x.lead(5, 7, 0, 8), -1);
        Due.due("lead(5, 7, 0, 10)", x.lead(5, 7, 0, 10), -1);
        Due.due("the OLD PROGRAM stays", x.node(5, 7, 3), 9);
        Due.due("the NEW one", x.node(5, 7, 13), 0);
    }

    private static void leadBadAlsoWhereItHasNone() {
        Doc.promise(16, "BAD: also where it has none.");
        for (int m : new int[] {-1, 2, 6, MAX, MIN}) {
            Sample.refused("lead(" + m + ", 0, 0, 9)", x -> x.lead(m, 0, 0, 9), -1);
        }
        for (int i : new int[] {-1, 3, 8, MAX, MIN}) {
            Sample.refused("lead(0, " + i + ", 0, 9)", x -> x.lead(0, i, 0, 9), -1);
        }
        for (int k : new int[] {-1, 2, MAX, MIN}) {
            Sample.refused("lead(0, 0, " + k + ", 9)", x -> x.lead(0, 0, k, 9), -1);
        }
        for (int to : new int[] {-1, -4, 3, 7, 8, 10, MAX, MIN}) {
            Sample.refused("lead(0, 0, 0, " + to + ")", x -> x.lead(0, 0, 0, to), -1);
        }
        Sample.refused("it has one: lead(0, 1, 1, 9)", x -> x.lead(0, 1, 1, 9), -1);
        TestChoice x = Due.told("method;say 1;say 1 9;say 1 9 9;");
        Due.due("of none: lead(0, 0, 0, 9)", x.lead(0, 0, 0, 9), -1);
        Due.due("of one: lead(0, 1, 0, 0)", x.lead(0, 1, 0, 0), 9);
        Due.due("of one: lead(0, 1, 1, 0)", x.lead(0, 1, 1, 0), -1);
        Due.due("of two: lead(0, 2, 1, 0)", x.lead(0, 2, 1, 0), 9);
        x.nexts(0, 0, 2);
        x.nexts(0, 2, 1);
        Due.due("of two in the NEW PROGRAM: lead(0, 0, 1, 0)", x.lead(0, 0, 1, 0), 9);
        Due.due("of one in the NEW PROGRAM: lead(0, 2, 1, 0)", x.lead(0, 2, 1, 0), -1);
    }

    private static void nextsThatComeLeadTo9() {
        Doc.promise(17, "A NODE has n NEXT ones (0 to 2; those that come lead to 9): how many it had.");
        for (int had = 0; had <= 2; had++) {
            for (int n = 0; n <= 2; n++) {
                TestChoice x = Due.told("method;say 1" + " 0 1".substring(0, 2 * had) + ";say 1;");
                Due.due("of " + had + ": nexts(0, 0, " + n + ")", x.nexts(0, 0, n), had);
                Due.due("how many", x.node(0, 0, 12), n);
                Due.due("the first", x.node(0, 0, 13), n < 1 ? -4 : had < 1 ? 9 : 0);
                Due.due("the second", x.node(0, 0, 14), n < 2 ? -4 : had < 2 ? 9 : 1);
                Due.due("the OLD PROGRAM stays", x.node(0, 0, 2), had);
                Due.due("those that went do not come back", x.nexts(0, 0, 0), n);
                Due.due("nexts(0, 0, 2)", x.nexts(0, 0, 2), 0);
                Due.due("they lead to 9", x.node(0, 0, 13) * 10 + x.node(0, 0, 14), 99);
            }
        }
        TestChoice last = Due.told(BoundsOfPrograms.FULL);
        Due.due("nexts(5, 7, 2)", last.nexts(5, 7, 2), 0);
        Due.due("no other one", last.count(5), 1);
    }

    private static void nextsBad() {
        Doc.promise(17, "how many it had. BAD.");
        for (int n : new int[] {-1, 3, MAX, MIN}) {
            Sample.refused("nexts(0, 0, " + n + ")", x -> x.nexts(0, 0, n), -1);
        }
        for (int m : new int[] {-1, 2, 6, MAX, MIN}) {
            Sample.refused("nexts(" + m + ", 0, 1)", x -> x.nexts(m, 0, 1), -1);
        }
        for (int i : new int[] {-1, 3, 8, MAX, MIN}) {
            Sample.refused("nexts(0, " + i + ", 1)", x -> x.nexts(0, i, 1), -1);
        }
    }

    private static void hasTellsWhichItHad() {
        Doc.promise(18, "A CLASS has METHOD m for a NAME (NONE: none): which it had (NONE).");
        TestChoice x = Due.told("method;".repeat(6) + "class 9;class 0;class 1;class 2;has 0 3 2;");
        Due.due("none of its own: has(3, 3, 5)", x.has(3, 3, 5), -4);
        Due.due("has(3, 3, 0)", x.has(3, 3, 0), 5);
        Due.due("METHOD 0 is one, too: has(3, 3, -4)", x.has(3, 3, -4), 0);
        Due.due("none again: has(3, 3, -4)", x.has(3, 3, -4), -4);
        Due.due("that of the one above holds again", x.meant(3, 3, 1), 2);
        Due.due("has(0, 3, -4)", x.has(0, 3, -4), 2);
        Due.due("none is MEANT", x.meant(3, 3, 1), -4);
        Due.due("the OLD PROGRAM stays", x.meant(3, 3, 0), 2);
    }

    private static void hasBad() {
        Doc.promise(18, "which it had (NONE). BAD.");
        for (int c : new int[] {-1, 2, 4, 9, MAX, MIN}) {
            Sample.refused("has(" + c + ", 0, 0)", x -> x.has(c, 0, 0), -1);
            Sample.refused("has(" + c + ", 0, -4)", x -> x.has(c, 0, -4), -1);
        }
        for (int name : new int[] {-1, 4, MAX, MIN}) {
            Sample.refused("has(0, " + name + ", 0)", x -> x.has(0, name, 0), -1);
            Sample.refused("has(1, " + name + ", -4)", x -> x.has(1, name, -4), -1);
        }
        for (int m : new int[] {-1, -2, -3, -5, 2, 6, 9, MAX, MIN}) {
            Sample.refused("has(0, 0, " + m + ")", x -> x.has(0, 0, m), -1);
        }
    }

    private static TestChoice changed() {
        TestChoice x = Due.told("method;say 1 1 9;call 0;method;say 2;class 9;class 9;has 0 0 1;test 0 0 1;");
        x.say(1, 0, 0, 3);
        x.lead(0, 0, 1, 0);
        x.has(1, 3, 0);
        x.nexts(0, 1, 2);
        return x;
    }

    private static void take() {
        Doc.promise(19, "The OLD PROGRAM becomes as the NEW one: how many EDGES were IN DANGER.");
        TestChoice x = changed();
        int said = x.said(0, 1);
        Due.due("rule(4)", x.rule(4), 4);
        Due.due("take()", x.take(), 4);
        Due.due("take() again", x.take(), 0);
        Due.due("rule(4)", x.rule(4), 0);
        Due.due("count(5)", x.count(5), 0);
        Due.due("NUMBER", x.node(1, 0, 1), 3);
        Due.due("NEXT", x.node(0, 0, 4), 0);
        Due.due("how many NEXT ones", x.node(0, 1, 2), 2);
        Due.due("those are EDGES now", x.edge(3, 0), 0);
        Due.due("MEANT", x.meant(1, 3, 0), 0);
        Due.due("SAID", x.said(0, 0), said);
        x.say(1, 0, 0, 5);
        Due.due("they are two PROGRAMS still", x.node(1, 0, 1), 3);
        Due.due("of nothing", new TestChoice().take(), 0);
    }

    private static void leave() {
        Doc.promise(20, "The NEW PROGRAM becomes as the OLD one: how many EDGES were IN DANGER.");
        TestChoice x = changed();
        int said = x.said(0, 0);
        Due.due("leave()", x.leave(), 4);
        Due.due("leave() again", x.leave(), 0);
        Due.due("rule(4)", x.rule(4), 0);
        Due.due("count(5)", x.count(5), 0);
        Due.due("NUMBER", x.node(1, 0, 11), 2);
        Due.due("NEXT", x.node(0, 0, 14), 9);
        Due.due("how many NEXT ones", x.node(0, 1, 12), 0);
        Due.due("MEANT", x.meant(1, 3, 1), -4);
        Due.due("SAID", x.said(0, 1), said);
        x.say(1, 0, 0, 5);
        Due.due("they are two PROGRAMS still", x.node(1, 0, 1), 2);
        Due.due("of nothing", new TestChoice().leave(), 0);
    }

    private static void addTellsHowMany() {
        Doc.promise(21, "A TEST more: how many there are.");
        TestChoice x = Due.told("class 9;class 9;class 9;class 9;");
        Due.due("add(0, 0, 1)", x.add(0, 0, 1), 1);
        Due.due("add(3, 255, 9)", x.add(3, 255, 9), 2);
        Due.due("its CLASS", x.test(1, 0), 3);
        Due.due("its DECISIONS", x.test(1, 1), 255);
        Due.due("its COST", x.test(1, 2), 9);
        for (int n = 3; n <= 8; n++) {
            Due.due("add(0, 0, 1)", x.add(0, 0, 1), n);
        }
        Due.due("the first stays", x.test(0, 2), 1);
    }

    private static void addBadAndFull() {
        Doc.promise(21, "BAD; FULL.");
        for (int c : new int[] {-1, 2, 4, 9, MAX, MIN}) {
            Sample.refused("add(" + c + ", 0, 1)", x -> x.add(c, 0, 1), -1);
        }
        for (int decisions : new int[] {-1, 256, MAX, MIN}) {
            Sample.refused("add(0, " + decisions + ", 1)", x -> x.add(0, decisions, 1), -1);
        }
        for (int cost : new int[] {-1, 0, 10, MAX, MIN}) {
            Sample.refused("add(0, 0, " + cost + ")", x -> x.add(0, 0, cost), -1);
        }
        TestChoice x = Due.told("class 9;" + "test 0 0 1;".repeat(8));
        Due.due("the ninth: add(0, 7, 7)", x.add(0, 7, 7), -3);
        Due.due("BAD goes ahead: add(1, 0, 1)", x.add(1, 0, 1), -1);
        Due.due("BAD goes ahead: add(0, 256, 1)", x.add(0, 256, 1), -1);
        Due.due("BAD goes ahead: add(0, 0, 0)", x.add(0, 0, 0), -1);
        Due.due("rule(3)", x.rule(3), 8);
        Due.due("the last stays", x.test(7, 1), 0);
        x.drop(0);
        Due.due("there is room again: add(0, 7, 7)", x.add(0, 7, 7), 8);
    }

    private static void dropNumbersOneLess() {
        Doc.promise(22, "A TEST goes, those behind it are numbered one less: how many are left.");
        for (int t = 0; t < 8; t++) {
            TestChoice x = Due.told("class 9;class 9;");
            for (int n = 0; n < 8; n++) {
                x.add(n & 1, 20 * n, n + 1);
            }
            Due.due("drop(" + t + ")", x.drop(t), 7);
            for (int n = 0; n < 7; n++) {
                int was = n < t ? n : n + 1;
                Due.due("CLASS", x.test(n, 0), was & 1);
                Due.due("DECISIONS", x.test(n, 1), 20 * was);
                Due.due("COST", x.test(n, 2), was + 1);
            }
            Due.due("no eighth", x.test(7, 0), -1);
        }
        TestChoice one = Due.told("class 9;test 0 0 1;");
        Due.due("the only one: drop(0)", one.drop(0), 0);
        Due.due("drop(0) of none", one.drop(0), -1);
    }

    private static void dropBad() {
        Doc.promise(22, "how many are left. BAD.");
        for (int t : new int[] {-1, 2, 3, 7, 8, MAX, MIN}) {
            Sample.refused("drop(" + t + ")", x -> x.drop(t), -1);
        }
    }

    private static void draw1To8() {
        Doc.promise(23, DRAWN);
        for (int n = 1; n <= 8; n++) {
            TestChoice x = Due.told("class 9;");
            Due.due("draw(5, " + n + ")", x.draw(5, n), n);
            Due.due("rule(3)", x.rule(3), n);
        }
    }

    private static void drawAsLongAsThereIsRoom() {
        Doc.promise(23, DRAWN);
        for (int there = 0; there <= 8; there++) {
            TestChoice x = Due.told("class 9;" + "test 0 3 3;".repeat(there));
            Due.due("of " + there + ": draw(5, 3)", x.draw(5, 3), Math.min(3, 8 - there));
            Due.due("rule(3)", x.rule(3), Math.min(there + 3, 8));
            Due.due("those that there were stay", there == 0 ? 3 : x.test(there - 1, 1), 3);
        }
    }

    /** The seed from which this is what the seed becomes: 4005161829 times 1103515245 is 1, by 32 bits. */
    private static int seedOf(int becomes) {
        return (becomes - 12345) * (int) 4005161829L;
    }

    private static void drawn(int seed, int classes, int... want) {
        TestChoice x = Due.told("class 9;".repeat(classes));
        Due.due("draw(" + seed + ", 1)", x.draw(seed, 1), 1);
        for (int what = 0; what < 3; what++) {
            Due.due("of seed " + seed + ": test(0, " + what + ")", x.test(0, what), want[what]);
        }
    }

    private static void drawBits16To30() {
        Doc.promise(23, DRAWN);
        Due.due("4005161829 times 1103515245", (int) 4005161829L * 1103515245, 1);
        // got 0: bits 0 to 15 and 31 are not of it.
        drawn(seedOf(0), 4, 0, 0, 1);
        drawn(seedOf(0xffff), 4, 0, 0, 1);
        drawn(seedOf(MIN), 4, 0, 0, 1);
        // got 32767: by 4 it is 8191, by 1024 it is 31.
        drawn(seedOf(0x7fff0000), 4, 3, 255, 5);
        drawn(seedOf(MAX), 3, 1, 255, 5);
        drawn(seedOf(-1), 4, 3, 255, 5);
        drawn(seedOf(0xffff0000), 1, 0, 255, 5);
        // got 1, 3, 4, 1023, 1024, 8191, 8192, 9216: each where one of them turns.
        drawn(seedOf(1 << 16), 4, 1, 0, 1);
        drawn(seedOf(3 << 16), 4, 3, 0, 1);
        drawn(seedOf(3 << 16), 3, 0, 0, 1);
        drawn(seedOf(4 << 16), 4, 0, 1, 1);
        drawn(seedOf(1023 << 16), 4, 3, 255, 1);
        drawn(seedOf(1024 << 16), 4, 0, 0, 2);
        drawn(seedOf(8192 << 16), 4, 0, 0, 9);
        drawn(seedOf(9216 << 16), 4, 0, 0, 1);
    }

    private static void drawWrapsAround() {
        Doc.promise(23, "the seed becomes seed times 1103515245 and 12345;");
        for (int seed : new int[] {0, 1, -1, 7, MAX, MIN, MAX - 1, MIN + 1, 65536, -65536}) {
            TestChoice x = Due.told("class 9;class 9;class 9;");
            x.draw(seed, 8);
            long becomes = seed & 0xffffffffL;
            for (int t = 0; t < 8; t++) {
                becomes = (becomes * 1103515245L + 12345L) % (1L << 32);
                long got = becomes / 65536 % 32768;
                Due.due("seed " + seed + ": test(" + t + ", 0)", x.test(t, 0), got % 3);
                Due.due("seed " + seed + ": test(" + t + ", 1)", x.test(t, 1), got / 4 % 256);
                Due.due("seed " + seed + ": test(" + t + ", 2)", x.test(t, 2), got / 1024 % 9 + 1);
            }
        }
    }

    private static void drawBadAndState() {
        Doc.promise(23, "how many came. BAD; STATE: there are no CLASSES.");
        for (int n : new int[] {-1, 0, 9, 10, MAX, MIN}) {
            Sample.refused("draw(1, " + n + ")", x -> x.draw(1, n), -1);
            Due.due("BAD goes ahead: draw(1, " + n + ")", Due.told("method;").draw(1, n), -1);
        }
        TestChoice x = Due.told("method;");
        Due.due("no CLASSES: draw(1, 1)", x.draw(1, 1), -2);
        Due.due("no CLASSES: draw(1, 8)", x.draw(1, 8), -2);
        Due.due("none came", x.rule(3), 0);
    }

    private static void keepTellsWhetherThereWasOne() {
        Doc.promise(24, "IMAGE k (0, 1) is both PROGRAMS, TESTS: whether there was one (1, 0).");
        TestChoice x = changed();
        Due.due("keep(1)", x.keep(1), 0);
        Due.due("no IMAGE 0", x.back(0), -2);
        Due.due("keep(1) again", x.keep(1), 1);
        Due.due("keep(0)", x.keep(0), 0);
        Due.due("keep(0) again", x.keep(0), 1);
        x.feed(';');
        x.text();
        Due.due("a FAULT leaves them: count(0)", x.count(0), 2);
        x.text();
        Due.due("a text that is taken does not: keep(0)", x.keep(0), 0);
    }

    private static void keepBad() {
        Doc.promise(24, "whether there was one (1, 0). BAD.");
        for (int k : new int[] {-1, 2, MAX, MIN}) {
            Sample.refused("keep(" + k + ")", x -> x.keep(k), -1);
        }
    }

    private static void backIsAsTheImage() {
        Doc.promise(25, "All is as IMAGE k: TESTS.");
        TestChoice x = changed();
        int was = x.said(0, 0);
        int is = x.said(0, 1);
        x.keep(0);
        x.take();
        x.say(0, 0, 0, 9);
        x.draw(1, 8);
        x.keep(1);
        Due.due("back(0)", x.back(0), 1);
        Due.due("EDGES IN DANGER", x.rule(4), 4);
        Due.due("SAID by the OLD PROGRAM", x.said(0, 0), was);
        Due.due("SAID by the NEW PROGRAM", x.said(0, 1), is);
        Due.due("MEANT", x.meant(1, 3, 1) * 10 + x.meant(1, 3, 0), -4);
        x.drop(0);
        x.leave();
        Due.due("back(1)", x.back(1), 8);
        Due.due("its NUMBER", x.node(0, 0, 11), 9);
        Due.due("its EDGES IN DANGER", x.rule(4), 1);
        Due.due("back(0) again", x.back(0), 1);
        Due.due("it stays as it was", x.rule(4), 4);
        TestChoice none = new TestChoice();
        none.keep(0);
        Due.due("back(0) of no TESTS", none.back(0), 0);
    }

    private static void backBadAndState() {
        Doc.promise(25, "BAD; STATE: there is none.");
        for (int k : new int[] {-1, 2, MAX, MIN}) {
            Sample.refused("back(" + k + ")", x -> x.back(k), -1);
        }
        Sample.refused("back(0)", x -> x.back(0), -2);
        Due.due("of a new object: back(1)", new TestChoice().back(1), -2);
    }

    private static void countOfNothing() {
        Doc.promise(30, "How many: 0 IMAGES, 1 NODES that call (OLD), 2 bytes on THE TAPE, 3 CELLS of SHEET 0 (NONE: nothing), 4 "
            + "EDGES that any TEST COVERS, 5 NODES that are other in the NEW PROGRAM.");
        int[] none = {0, 0, 0, -4, 0, 0};
        for (int what = 0; what < 6; what++) {
            Due.due("of a new object: count(" + what + ")", new TestChoice().count(what), none[what]);
        }
        TestChoice x = new TestChoice();
        x.sheet(1, 0, 7);
        Due.due("SHEET 1 is not SHEET 0: count(3)", x.count(3), -4);
        x.sheet(0, 0, 0);
        Due.due("of no CELLS: count(3)", x.count(3), 0);
    }

    private static void countOfAll() {
        Doc.promise(30, "How many: 0 IMAGES, 1 NODES that call (OLD), 2 bytes on THE TAPE, 3 CELLS of SHEET 0 (NONE: nothing), 4 "
            + "EDGES that any TEST COVERS, 5 NODES that are other in the NEW PROGRAM.");
        TestChoice x = Due.told(BoundsOfPrograms.FULL);
        Due.due("none calls: count(1)", x.count(1), 0);
        for (int m = 0; m < 6; m++) {
            for (int i = 0; i < 8; i++) {
                x.say(m, i, 1, 1);
            }
        }
        Due.due("none in the OLD PROGRAM: count(1)", x.count(1), 0);
        Due.due("all are other: count(5)", x.count(5), 48);
        x.take();
        Due.due("all call: count(1)", x.count(1), 48);
        Due.due("none is other: count(5)", x.count(5), 0);
        x.sheet(0, 2, 40);
        Due.due("count(3)", x.count(3), 40);
        x.keep(0);
        Due.due("one: count(0)", x.count(0), 1);
        x.keep(1);
        Due.due("two: count(0)", x.count(0), 2);
        countOfEdgesAndBytes();
    }

    private static void countOfEdgesAndBytes() {
        TestChoice x = Due.told("method;say 1 9 9;class 9;test 0 0 1;test 0 0 1;test 0 1 1;");
        Due.due("each but once: count(4)", x.count(4), 3);
        x.drop(2);
        Due.due("no one goes there: count(4)", x.count(4), 2);
        x.drop(1);
        Due.due("the only one: count(4)", x.count(4), 2);
        x.drop(0);
        Due.due("no TESTS: count(4)", x.count(4), 0);
        for (int i = 1; i <= 320; i++) {
            x.feed(0);
        }
        Due.due("count(2)", x.count(2), 320);
        TestChoice y = Due.told("method;say 1 1 0;say 2;");
        y.lead(0, 0, 1, 9);
        Due.due("by where NEXT 1 leads: count(5)", y.count(5), 1);
        y.leave();
        y.nexts(0, 1, 1);
        Due.due("by how many NEXT ones: count(5)", y.count(5), 1);
        y.leave();
        y.say(0, 1, 1, 2);
        Due.due("by its KIND: count(5)", y.count(5), 1);
    }

    private static void countBad() {
        Doc.promise(30, "5 NODES that are other in the NEW PROGRAM. BAD.");
        for (int what : new int[] {-1, 6, 7, MAX, MIN}) {
            Sample.refused("count(" + what + ")", x -> x.count(what), -1);
        }
    }
}
