import java.util.Arrays;

/** The boundaries of a RUN: where it begins, comes back, is cut off, what it says, over which EDGES it goes. */
final class BoundsOfRuns {
    private static final String BEGINS = "A RUN of a TEST by a PROGRAM begins with METHOD 0 (none: it is over at once): "
        + "ENTERING a METHOD it goes to its NODE 0 (none: it comes back at once).";
    private static final String CALLS = "At a NODE: it says; or, if a METHOD is MEANT by the CLASS of the TEST and the "
        + "NAME, and fewer than 4 calls are within one another, that one is ENTERED, and comes back.";
    private static final String NEXT = "Then NEXT: of none, and at 9, it comes back (METHOD 0: the end); of one to that; "
        + "of two: the next bit of DECISIONS (the lowest first, behind the 8th the lowest again) is 0 or 1: to that one.";
    private static final String CUT_OFF = "At the 61st NODE it is cut off (that one is not gone to).";
    private static final String SAID = "SAID: 0 at first; for each METHOD that is ENTERED, at each NODE that is gone to: 31 "
        + "times what it was, and: of a METHOD its number and 101; of a NODE that says its NUMBER and 1, that calls its "
        + "NAME and 11 (by 32 bits, what is beyond lost).";
    private static final String EDGES = "EDGES: 16 times a METHOD, 2 times a NODE, and 0 or 1: its NEXT ones. 100 and a "
        + "METHOD: ENTERING it. 200, 4 times a CLASS, and a NAME: a call by these.";
    private static final String COVERS = "A TEST COVERS the EDGES over which its RUN by the OLD PROGRAM goes (to 9, too; a "
        + "call: also if none is MEANT, or too many are within one another).";
    // METHOD 0 has 8 NODES, calls METHOD 1 (8 NODES) six times and METHOD 2, whose NODES come behind it, once.
    private static final String LONG = "method;call0 1;call0 2;call0 3;call0 4;call0 5;call0 6;call1 7;say9;"
        + "method;say1 1;say1 2;say1 3;say1 4;say1 5;say1 6;say1 7;say1;method;say2 1;say2 2;say2 3;";

    private BoundsOfRuns() {
    }

    static void all() {
        noMethod0();
        method0OfNoNodes();
        calledMethodOfNoNodes();
        noMethodIsMeant();
        fewerThan4CallsWithinOneAnother();
        callsOneBehindAnotherAreNotWithin();
        ofNoNextOrAt9ItComesBack();
        method0ThatIsCalledComesBack();
        bitsOfDecisions();
        behindThe8thTheLowestAgain();
        oneNextTakesNoBit();
        cutOffAtThe61stNode();
        the61stIsNotGoneTo();
        cutOffWithinCalls();
        saidAtFirst();
        saidByEach();
        saidBy32Bits();
        edgesOfNext();
        edgesOfEntering();
        edgesOfCalls();
        coversTo9();
        coversCallsThatEnterNothing();
        coversByTheOldProgram();
    }

    private static int enters(int m) {
        return m + 101;
    }

    private static int says(int n) {
        return n + 1;
    }

    private static int calls(int name) {
        return name + 11;
    }

    /** SAID of these, one behind another; what is beyond 32 bits is cut off by hand. */
    private static long said(int... parts) {
        long said = 0;
        for (int part : parts) {
            said = (31 * said + part) % (1L << 32);
        }
        return said < 1L << 31 ? said : said - (1L << 32);
    }

    private static void ran(TestChoice x, int t, int nodes, long said) {
        for (int what = 0; what < 2; what++) {
            Due.due("test(" + t + ", " + (3 + what) + ")", x.test(t, 3 + what), nodes);
            Due.due("said(" + t + ", " + what + ")", x.said(t, what), said);
        }
    }

    private static void covered(TestChoice x, int t, int... edges) {
        Due.due("test(" + t + ", 7)", x.test(t, 7), edges.length);
        for (int e : edges) {
            Due.due("covers(" + t + ", " + e + ")", x.covers(t, e), 1);
        }
    }

    private static void noMethod0() {
        Doc.terms(BEGINS);
        TestChoice x = Due.told("class 9;test 0 0 1;");
        ran(x, 0, 0, 0);
        covered(x, 0);
        Due.due("same(0)", x.same(0), 256);
    }

    private static void method0OfNoNodes() {
        Doc.terms(BEGINS);
        TestChoice x = Due.told("method;method;say 1;class 9;test 0 0 1;");
        ran(x, 0, 0, said(enters(0)));
        covered(x, 0, 100);
    }

    private static void calledMethodOfNoNodes() {
        Doc.terms(BEGINS);
        TestChoice x = Due.told("method;call 0 1;say 2;method;class 9;has 0 0 1;test 0 0 1;");
        ran(x, 0, 2, said(enters(0), calls(0), enters(1), says(2)));
        covered(x, 0, 0, 100, 101, 200);
    }

    private static void noMethodIsMeant() {
        Doc.terms(CALLS);
        TestChoice x = Due.told("method;call 3 1;say 2;class 9;class 9;has 0 3 0;test 1 0 1;");
        ran(x, 0, 2, said(enters(0), calls(3), says(2)));
    }

    private static void fewerThan4CallsWithinOneAnother() {
        Doc.terms(CALLS);
        // METHODS 0 to 4 call the one that is next; 4, the fourth call, would call METHOD 5 by NAME 3.
        String methods = "method;call 0 9;method;call 1 9;method;call 2 9;method;call 3 9;method;say 4 9;";
        String names = "class 9;has 0 0 1;has 0 1 2;has 0 2 3;has 0 3 4;test 0 0 1;";
        TestChoice four = Due.told(methods + names);
        int[] in = {enters(0), calls(0), enters(1), calls(1), enters(2), calls(2), enters(3), calls(3), enters(4), says(4)};
        ran(four, 0, 5, said(in));
        covered(four, 0, 0, 16, 32, 48, 64, 100, 101, 102, 103, 104, 200, 201, 202, 203);
        TestChoice five = Due.told(methods.replace("say 4 9;", "call 0 9;") + names);
        in[9] = calls(0);
        ran(five, 0, 5, said(in));
        TestChoice self = Due.told("method;call 0 1;say 5;class 9;has 0 0 0;test 0 0 1;");
        ran(self, 0, 10, said(enters(0), calls(0), enters(0), calls(0), enters(0), calls(0), enters(0), calls(0),
            enters(0), calls(0), says(5), says(5), says(5), says(5), says(5)));
    }

    private static void callsOneBehindAnotherAreNotWithin() {
        Doc.terms(CALLS);
        TestChoice x = Due.told("method;" + "call 0 1;call 0 2;call 0 3;call 0 4;call 0 5;call 0;"
            + "method;say 6;class 9;has 0 0 1;test 0 0 1;");
        int[] parts = new int[19];
        parts[0] = enters(0);
        for (int i = 0; i < 6; i++) {
            parts[3 * i + 1] = calls(0);
            parts[3 * i + 2] = enters(1);
            parts[3 * i + 3] = says(6);
        }
        ran(x, 0, 12, said(parts));
    }

    private static void ofNoNextOrAt9ItComesBack() {
        Doc.terms(NEXT);
        TestChoice x = Due.told("method;call 0 1;call 1 2;say 3 9;say 4;method;say 5;say 6;method;say 7 9;say 8;class 9;"
            + "has 0 0 1;has 0 1 2;test 0 0 1;");
        ran(x, 0, 5, said(enters(0), calls(0), enters(1), says(5), calls(1), enters(2), says(7), says(3)));
        TestChoice end = Due.told("method;say 1;say 2;class 9;test 0 0 1;");
        ran(end, 0, 1, said(enters(0), says(1)));
    }

    private static void method0ThatIsCalledComesBack() {
        Doc.terms(NEXT);
        TestChoice x = Due.told("method;say 1 9 1;call 0 2;say 3;class 9;has 0 0 0;test 0 1 1;");
        ran(x, 0, 4, said(enters(0), says(1), calls(0), enters(0), says(1), says(3)));
    }

    private static void bitsOfDecisions() {
        Doc.terms(NEXT);
        // A tree of eight NODES: to which one it goes is told by bits 0, 1 and 2.
        String tree = "method;say 0 1 2;say 1 3 4;say 2 5 6;say 3 9 7;say 4 7 9;say 5;say 6;say 7;class 9;";
        TestChoice x = Due.told(tree + "test 0 0 1;test 0 1 1;test 0 2 1;test 0 3 1;test 0 4 1;test 0 6 1;test 0 248 1;");
        ran(x, 0, 3, said(enters(0), says(0), says(1), says(3)));
        ran(x, 1, 3, said(enters(0), says(0), says(2), says(5)));
        ran(x, 2, 4, said(enters(0), says(0), says(1), says(4), says(7)));
        ran(x, 3, 3, said(enters(0), says(0), says(2), says(6)));
        ran(x, 4, 4, said(enters(0), says(0), says(1), says(3), says(7)));
        ran(x, 5, 3, said(enters(0), says(0), says(1), says(4)));
        ran(x, 6, 3, said(enters(0), says(0), says(1), says(3)));
    }

    private static void behindThe8thTheLowestAgain() {
        Doc.terms(NEXT);
        // At NODE 0 a bit 0 goes on, a bit 1 ends it: so many bits ahead of it were 0.
        String text = "method;say 1 0 9;class 9;";
        for (int bit = 0; bit < 8; bit++) {
            TestChoice x = Due.told(text + "test 0 " + (1 << bit) + " 1;");
            Due.due("DECISIONS " + (1 << bit), x.test(0, 3), bit + 1);
        }
        TestChoice none = Due.told(text + "test 0 0 1;");
        Due.due("DECISIONS 0", none.test(0, 3), 60);
        // NODE 1 is gone to by a bit that is 1, and ends it by one more: by the 8th, and the lowest behind it.
        TestChoice x = Due.told("method;say 1 0 1;say 2 0 9;class 9;test 0 128 1;test 0 129 1;");
        ran(x, 0, 60, said(both(128)));
        Due.due("DECISIONS 129", x.test(1, 3), 9);
    }

    /** What NODES 0 and 1 above say by DECISIONS of which no two bits that are 1 come one behind the other. */
    private static int[] both(int decisions) {
        int[] parts = new int[61];
        parts[0] = enters(0);
        int at = 0;
        for (int i = 0; i < 60; i++) {
            parts[i + 1] = says(1 + at);
            at = decisions >> i % 8 & 1;
        }
        return parts;
    }

    private static void oneNextTakesNoBit() {
        Doc.terms(NEXT);
        TestChoice x = Due.told("method;say 1 1;say 2 2 9;say 3 3;call 0 4;say 4 9 5;say 5;class 9;test 0 2 1;");
        ran(x, 0, 6, said(enters(0), says(1), says(2), says(3), calls(0), says(4), says(5)));
    }

    private static int[] longWords(int behind) {
        int[] parts = new int[70];
        int n = 0;
        parts[n++] = enters(0);
        for (int i = 0; i < 6; i++) {
            parts[n++] = calls(0);
            parts[n++] = enters(1);
            for (int k = 0; k < 8; k++) {
                parts[n++] = says(1);
            }
        }
        parts[n++] = calls(1);
        parts[n++] = enters(2);
        for (int i = 0; i < behind; i++) {
            parts[n++] = says(2);
        }
        return Arrays.copyOf(parts, n);
    }

    private static int[] with(int[] parts, int... more) {
        int[] all = Arrays.copyOf(parts, parts.length + more.length);
        System.arraycopy(more, 0, all, parts.length, more.length);
        return all;
    }

    private static void cutOffAtThe61stNode() {
        Doc.terms(CUT_OFF);
        String names = "class 9;has 0 0 1;has 0 1 2;test 0 0 1;";
        TestChoice x = Due.told(LONG + "say2;" + names);
        ran(x, 0, 60, said(with(longWords(4), says(9))));
        TestChoice y = Due.told(LONG.replace("say2 3;", "say2;") + names);
        ran(y, 0, 59, said(with(longWords(3), says(9))));
        TestChoice z = Due.told(LONG + "say2 4;say2;" + names);
        ran(z, 0, 60, said(longWords(5)));
        TestChoice more = Due.told(LONG + "say2 4;say2 5;say2;" + names);
        ran(more, 0, 60, said(longWords(5)));
        TestChoice loop = Due.told("method;say 0 0;class 9;test 0 0 1;");
        Due.due("a loop", loop.test(0, 3), 60);
    }

    private static void the61stIsNotGoneTo() {
        Doc.terms(CUT_OFF);
        String names = "class 9;has 0 0 1;has 0 1 2;test 0 0 1;";
        TestChoice z = Due.told(LONG + "say2 4;say2 9;" + names);
        Due.due("the NEXT that leads to it was gone over: covers(0, 12)", z.covers(0, 12), 1);
        Due.due("NEXT of the 60th was gone over: covers(0, 40)", z.covers(0, 40), 1);
        Due.due("what it would say is not", z.said(0, 0), said(longWords(5)));
        // A call as the 60th NODE: what it calls is ENTERED, but its NODE 0 would be the 61st.
        TestChoice call = Due.told(LONG + "say2 4;call2 9;method;say7;" + names + "has 0 2 3;");
        ran(call, 0, 60, said(with(longWords(4), calls(2), enters(3))));
        Due.due("its call was gone over", call.covers(0, 202), 1);
        Due.due("ENTERING it was gone over", call.covers(0, 103), 1);
        Due.due("NEXT of the call was not", call.covers(0, 40), 0);
        // A METHOD of no NODES comes back at once, so it is not cut off there.
        TestChoice empty = Due.told(LONG + "say2 4;call2 9;method;" + names + "has 0 2 3;");
        ran(empty, 0, 60, said(with(longWords(4), calls(2), enters(3))));
        Due.due("NEXT of the call was gone over", empty.covers(0, 40), 1);
        Due.due("it came back: covers(0, 12)", empty.covers(0, 12), 1);
    }

    private static void cutOffWithinCalls() {
        Doc.terms(CUT_OFF);
        TestChoice x = Due.told("method;call 0 1;say 9;method;say 1 0;class 9;has 0 0 1;test 0 0 1;");
        int[] parts = new int[59];
        Arrays.fill(parts, says(1));
        ran(x, 0, 60, said(with(new int[] {enters(0), calls(0), enters(1)}, parts)));
        covered(x, 0, 16, 100, 101, 200);
        Due.due("what is behind the call is not gone over", x.covers(0, 0), 0);
    }

    private static void saidAtFirst() {
        Doc.terms(SAID);
        Due.due("said(0, 0) of no METHODS", Due.told("class 9;test 0 0 1;").said(0, 0), 0);
        Due.due("said(0, 1) of no METHODS", Due.told("class 9;test 0 0 1;").said(0, 1), 0);
        Due.due("said(0, 0) of no NODES", Due.told("method;class 9;test 0 0 1;").said(0, 0), 101);
    }

    private static void saidByEach() {
        Doc.terms(SAID);
        String six = "method;call 0;" + "method;".repeat(5) + "class 9;has 0 0 5;test 0 0 1;";
        Due.due("of METHODS 0 and 5", Due.told(six).said(0, 0), (101 * 31 + 11) * 31 + 106);
        Due.due("of NUMBER 0", Due.told("method;say 0;class 9;test 0 0 1;").said(0, 0), 101 * 31 + 1);
        Due.due("of NUMBER 9", Due.told("method;say 9;class 9;test 0 0 1;").said(0, 0), 101 * 31 + 10);
        Due.due("of NAME 0", Due.told("method;call 0;class 9;test 0 0 1;").said(0, 0), 101 * 31 + 11);
        Due.due("of NAME 3", Due.told("method;call 3;class 9;test 0 0 1;").said(0, 0), 101 * 31 + 14);
    }

    private static void saidBy32Bits() {
        Doc.terms(SAID);
        String text = "method;say 9 1;say 9 2;say 9 3;say 9 4;say 9 5;say 9;class 9;test 0 0 1;";
        TestChoice four = Due.told(text.replace("say 9 4;say 9 5;say 9;", "say 9;"));
        long below = (((101L * 31 + 10) * 31 + 10) * 31 + 10) * 31 + 10;
        Due.due("below 31 bits", four.said(0, 0), below);
        long beyond = below * 31 + 10;
        Due.due("bit 31", Due.told(text.replace("say 9 5;say 9;", "say 9;")).said(0, 0), beyond - (1L << 32));
        Due.due("beyond 32 bits", Due.told(text).said(0, 0), (int) (beyond * 31 + 10));
        TestChoice loop = Due.told("method;say 9 0;class 9;test 0 0 1;");
        int[] parts = new int[61];
        Arrays.fill(parts, says(9));
        parts[0] = enters(0);
        ran(loop, 0, 60, said(parts));
    }

    private static void edgesOfNext() {
        Doc.terms(EDGES);
        TestChoice x = Due.told(("method;" + "say1;".repeat(8)).repeat(6));
        for (int m = 0; m < 6; m++) {
            for (int i = 0; i < 8; i++) {
                x.nexts(m, i, 2);
            }
        }
        Due.due("edge(0, 0) ahead of take()", x.edge(0, 0), -1);
        x.take();
        int there = 0;
        for (int e = -2; e < 100; e++) {
            int got = x.edge(e, 0);
            Due.due("edge(" + e + ", 0)", got, e >= 0 && e <= 95 ? 0 : -1);
            there += got == 0 ? 1 : 0;
        }
        Due.due("two of each of 48 NODES", there, 96);
        x.lead(5, 7, 1, 0);
        Due.due("not reached by a PAIR", x.edge(95, 0), 0);
        x.lead(5, 0, 1, 7);
        Due.due("16 times 5 and 1", x.edge(81, 0), 1);
    }

    private static void edgesOfEntering() {
        Doc.terms(EDGES);
        TestChoice x = Due.told("method;".repeat(5) + "method;say1;" + "class9;".repeat(4));
        for (int e = 96; e < 200; e++) {
            Due.due("edge(" + e + ", 0)", x.edge(e, 0), e >= 100 && e <= 105 ? 0 : -1);
        }
        x.say(5, 0, 0, 2);
        Due.due("100 and 5", x.edge(105, 0), 1);
        Due.due("no other one", x.rule(4), 1);
        TestChoice one = Due.told("method;");
        Due.due("the only one", one.edge(100, 0), 0);
        Due.due("none behind it", one.edge(101, 0), -1);
    }

    private static void edgesOfCalls() {
        Doc.terms(EDGES);
        TestChoice x = Due.told("method;" + "class9;".repeat(4));
        for (int e = 190; e < 230; e++) {
            Due.due("edge(" + e + ", 0)", x.edge(e, 0), e >= 200 && e <= 215 ? 0 : -1);
        }
        x.has(3, 3, 0);
        Due.due("200, 4 times 3, and 3", x.edge(215, 0), 1);
        x.has(0, 0, 0);
        Due.due("200", x.edge(200, 0), 1);
        x.has(1, 2, 0);
        Due.due("200, 4 and 2", x.edge(206, 0), 1);
        Due.due("no other one", x.rule(4), 3);
        TestChoice one = Due.told("class9;");
        Due.due("the last of CLASS 0", one.edge(203, 0), 0);
        Due.due("the first of CLASS 1", one.edge(204, 0), -1);
    }

    private static void coversTo9() {
        Doc.terms(COVERS);
        TestChoice x = Due.told("method;say 1 9 1;say 2;class 9;test 0 0 1;test 0 1 1;");
        covered(x, 0, 0, 100);
        covered(x, 1, 1, 100);
    }

    private static void coversCallsThatEnterNothing() {
        Doc.terms(COVERS);
        TestChoice none = Due.told("method;call 3;class 9;class 9;test 1 0 1;");
        covered(none, 0, 100, 207);
        TestChoice deep = Due.told("method;call 0;method;call 1;method;call 2;method;call 3;method;call 0;class 9;"
            + "class 0;has 0 0 1;has 0 1 2;has 0 2 3;has 0 3 4;test 1 0 1;");
        covered(deep, 0, 100, 101, 102, 103, 104, 204, 205, 206, 207);
        // METHOD 1 calls itself, and METHOD 2 by NAME 3: the innermost one by bit 0, the outermost one by bit 3.
        TestChoice fifth = Due.told("method;call 0;method;call 0 9 1;call 3;method;class 9;has 0 0 1;has 0 3 2;"
            + "test 0 1 1;test 0 8 1;");
        Due.due("too many are within one another: its EDGE", fifth.covers(0, 203), 1);
        Due.due("too many are within one another: not ENTERED", fifth.covers(0, 102), 0);
        Due.due("not too many: its EDGE", fifth.covers(1, 203), 1);
        Due.due("not too many: ENTERED", fifth.covers(1, 102), 1);
    }

    private static void coversByTheOldProgram() {
        Doc.terms(COVERS);
        TestChoice x = Due.told("method;say 1 1;say 2;class 9;test 0 0 1;");
        x.lead(0, 0, 0, 9);
        x.nexts(0, 1, 1);
        Due.due("its NEXT as it was", x.covers(0, 0), 1);
        Due.due("no NEXT as it was", x.covers(0, 2), -1);
        x.take();
        Due.due("as it is", x.covers(0, 0), 1);
        Due.due("there is one, but it is not gone over", x.covers(0, 2), 0);
    }
}
