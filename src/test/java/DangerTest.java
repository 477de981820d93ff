/** Promises 11 to 13: edges in danger, what covers them, and the order. */
public final class DangerTest {
    // Bit 0: call 0 or 1. Bit 1: call 2 or the end. Bit 2: call 3 or the end.
    private static final String FOUR = "method;say 0 1 2;call 0 3;call 1 3;say 1 4 9;call 2 5 9;call 3;method;say 5;"
        + "class 9;class 9;";

    public static void main(String[] args) {
        edgesThatThereAre();
        entering();
        leadsElsewhere();
        behindWhatIsAlike();
        oneLeadsToTheEnd();
        loops();
        manyPairs();
        whatIsNotReached();
        callsThatLeadElsewhere();
        covers();
        order();
        orderOfEqualOnes();
        Due.close("DangerTest");
    }

    private static void inDanger(TestChoice x, int... edges) {
        Due.due("6: edges in danger", x.rule(4), edges.length);
        int met = 0;
        for (int e = 0; e < 216; e++) {
            boolean in = false;
            for (int want : edges) {
                in |= want == e;
            }
            int got = x.edge(e, 0);
            Due.holds("11: edge(" + e + ", 0)", got == -1 && !in || got == (in ? 1 : 0));
            met += Math.max(got, 0);
        }
        Due.due("11: all of them", met, edges.length);
    }

    private static void edgesThatThereAre() {
        TestChoice x = Due.told("method;say 0 0 9;say 1 9;call 2;method;method;say 1 0;class 9;class 9;");
        int[] there = {0, 1, 2, 32, 100, 101, 102, 200, 201, 202, 203, 204, 205, 206, 207};
        for (int e = -3; e < 300; e++) {
            boolean in = false;
            for (int t : there) {
                in |= t == e;
            }
            Due.due("11: edge(" + e + ", 0)", x.edge(e, 0), in ? 0 : -1);
            Due.due("11: edge(" + e + ", 1)", x.edge(e, 1), in ? 0 : -1);
        }
        int[] far = {Integer.MAX_VALUE, Integer.MIN_VALUE, 216, 256, 1 << 30, -(1 << 30)};
        for (int e : far) {
            Due.due("11: edge(" + e + ", 0)", x.edge(e, 0), -1);
        }
        int[] wrong = {-1, 2, Integer.MAX_VALUE, Integer.MIN_VALUE};
        for (int what : wrong) {
            Due.due("11: edge(0, " + what + ")", x.edge(0, what), -1);
        }
        Due.due("17: nexts", x.nexts(0, 2, 2), 0);
        Due.due("11: only of the old program", x.edge(4, 0), -1);
        Due.due("17: nexts", x.nexts(0, 0, 0), 2);
        Due.due("11: still of the old program", x.edge(1, 0), 0);
    }

    private static void entering() {
        TestChoice x = Due.told("method;say 1 1;say 2;method;say 1;method;class 9;");
        inDanger(x);
        x.say(0, 0, 0, 2);
        inDanger(x, 100);
        x.say(0, 0, 0, 1);
        inDanger(x);
        x.say(0, 0, 1, 1);
        x.say(0, 1, 0, 7);
        inDanger(x, 100);
        x.leave();
        x.nexts(1, 0, 1);
        inDanger(x, 101);
        x.say(0, 0, 0, 2);
        inDanger(x, 100, 101);
    }

    private static void leadsElsewhere() {
        TestChoice x = Due.told("method;say 1 1 2;say 2 9;say 3 9;class 9;");
        x.lead(0, 0, 0, 2);
        inDanger(x, 0);
        x.lead(0, 0, 1, 1);
        inDanger(x, 0, 1);
        x.lead(0, 0, 0, 1);
        inDanger(x, 1);
        x.leave();
        x.say(0, 2, 0, 4);
        inDanger(x, 1);
        x.leave();
        x.nexts(0, 1, 2);
        inDanger(x, 0);
    }

    private static void behindWhatIsAlike() {
        // NODE 2 is ALIKE NODE 1, but leads elsewhere: the EDGE behind NODE 1 is IN DANGER.
        TestChoice x = Due.told("method;say 1 1;say 2 9;say 2 3;say 4;class 9;test 0 0 1;");
        x.lead(0, 0, 0, 2);
        inDanger(x, 2);
        Due.due("10: it says more", x.said(0, 1), x.said(0, 0) * 31 + 5);
        // ALIKE, and what is behind is ALIKE, too: nothing is IN DANGER.
        TestChoice y = Due.told("method;say 1 1;say 2 3;say 2 4;say 5;say 5;class 9;");
        y.lead(0, 0, 0, 2);
        inDanger(y);
        y.say(0, 4, 0, 6);
        inDanger(y, 2);
        y.say(0, 4, 0, 5);
        y.say(0, 3, 0, 6);
        inDanger(y);
        y.say(0, 1, 0, 9);
        inDanger(y);
    }

    private static void oneLeadsToTheEnd() {
        TestChoice x = Due.told("method;say 1 9 1;say 2;class 9;");
        x.lead(0, 0, 0, 0);
        inDanger(x, 0);
        x.lead(0, 0, 1, 9);
        inDanger(x, 0, 1);
        x.lead(0, 0, 0, 9);
        inDanger(x, 1);
        x.lead(0, 0, 1, 1);
        inDanger(x);
    }

    private static void loops() {
        // One and the same NODE as it was, in PAIRS with two as it is: the latter tells.
        TestChoice x = Due.told("method;say 1 0 1;say 2;say 1 0 3;say 3;class 9;");
        x.lead(0, 0, 0, 2);
        inDanger(x, 1);
        x.lead(0, 2, 1, 1);
        inDanger(x);
        x.lead(0, 2, 0, 9);
        inDanger(x, 0);
        x.lead(0, 2, 0, 2);
        inDanger(x);
    }

    private static void manyPairs() {
        // Each NODE leads back, too: a PAIR that is met again is not followed again.
        TestChoice x = Due.told("method;say 0 0 1;say 1 0 2;say 2 0 3;say 3 0 4;say 4 0 5;say 5 0 6;say 6 0 7;say 7;");
        x.say(0, 7, 0, 8);
        inDanger(x, 13);
        // All NODES are ALIKE: any two of them come to be one of the PAIRS.
        TestChoice y = Due.told("method;say 0 1 0;say 0 2 0;say 0 3 0;say 0 4 0;say 0 5 0;say 0 6 0;say 0 7 0;say 0 0 0;");
        y.lead(0, 7, 0, 2);
        y.lead(0, 3, 1, 5);
        inDanger(y);
        y.lead(0, 6, 1, 9);
        inDanger(y, 1, 3, 5, 7, 9, 11, 13, 15);
    }

    private static void whatIsNotReached() {
        TestChoice x = Due.told("method;say 1 1;say 2;say 3;say 4 3;method;class 9;");
        x.say(0, 2, 0, 9);
        x.lead(0, 3, 0, 9);
        inDanger(x);
        Due.due("30: but other", x.count(5), 2);
        x.lead(0, 0, 0, 3);
        inDanger(x, 0);
    }

    private static void callsThatLeadElsewhere() {
        TestChoice x = Due.told("method;call 0;method;say 1;class 9;class 0;class 1;class 9;has 0 0 1;has 2 0 1;");
        x.has(0, 0, 0);
        inDanger(x, 200, 204);
        x.has(0, 0, -4);
        inDanger(x, 200, 204);
        x.has(1, 0, 1);
        inDanger(x, 200);
        x.has(0, 0, 1);
        inDanger(x);
        x.has(2, 0, -4);
        inDanger(x);
        x.has(3, 3, 0);
        inDanger(x, 215);
        x.has(1, 2, 0);
        inDanger(x, 206, 210, 215);
        x.say(1, 0, 0, 5);
        inDanger(x, 101, 206, 210, 215);
    }

    private static void covers() {
        TestChoice x = Due.told(FOUR + "test 0 0 1;test 1 7 1;");
        int[] first = {0, 2, 6, 8, 100, 200, 202, 203};
        int[] second = {1, 4, 7, 100, 205};
        for (int e = -1; e < 220; e++) {
            int there = x.edge(e, 0);
            int a = 0;
            int b = 0;
            for (int f : first) {
                a |= f == e ? 1 : 0;
            }
            for (int s : second) {
                b |= s == e ? 1 : 0;
            }
            Due.due("12: covers(0, " + e + ")", x.covers(0, e), there < 0 ? -1 : a);
            Due.due("12: covers(1, " + e + ")", x.covers(1, e), there < 0 ? -1 : b);
            Due.due("11: edge(" + e + ", 1)", x.edge(e, 1), there < 0 ? -1 : a + b);
        }
        Due.due("12: no such edge", x.covers(0, 96), -1);
        Due.due("12: an edge of no next", x.covers(0, 3), -1);
        Due.due("12: an edge of no class", x.covers(0, 208), -1);
        Due.due("12: no such test", x.covers(2, 0), -1);
        Due.due("12: no test below 0", x.covers(-1, 0), -1);
        Due.due("12: far", x.covers(Integer.MAX_VALUE, 0), -1);
        Due.due("12: far", x.covers(Integer.MIN_VALUE, Integer.MAX_VALUE), -1);
        x.say(0, 0, 0, 9);
        x.lead(0, 0, 0, 9);
        Due.due("12: by the old program", x.covers(0, 2), 1);
        x.take();
        Due.due("12: as it is then", x.covers(0, 2), 0);
    }

    private static void order() {
        TestChoice x = Due.told(FOUR + "test 0 0 6;test 0 1 9;test 0 2 2;test 0 3 3;test 0 4 3;test 1 0 1;");
        ordered(x, new int[0][]);
        for (int name = 0; name < 4; name++) {
            Due.due("18: has", x.has(0, name, 1), -4);
        }
        ordered(x, new int[][] {{4, 2}, {3, 1}, {0, 1}, {1, 0}, {2, 0}});
        Due.due("6: chosen", x.rule(5), 5);
        Due.due("6: their costs", x.rule(6), 23);
        Due.due("9: which it is", x.test(0, 6), 2);
        Due.due("9: not chosen", x.test(5, 5), 0);
        Due.due("9: not in order", x.test(5, 6), -4);
        Due.due("9: its edges in danger", x.test(1, 8), 3);
        Due.due("9: its edges", x.test(1, 7), 8);
        int[] wrong = {-1, 2, Integer.MAX_VALUE, Integer.MIN_VALUE};
        for (int w : wrong) {
            Due.due("13: order(0, " + w + ")", x.order(0, w), -1);
            Due.due("13: order(9, " + w + ")", x.order(9, w), -1);
        }
        Due.due("13: order(-1, 0)", x.order(-1, 0), -1);
        Due.due("13: order(min, 0)", x.order(Integer.MIN_VALUE, 0), -1);
        Due.due("13: order(max, 0)", x.order(Integer.MAX_VALUE, 0), -4);
        Due.due("13: order(8, 1)", x.order(8, 1), -4);
    }

    private static void ordered(TestChoice x, int[][] want) {
        for (int i = 0; i < want.length; i++) {
            Due.due("13: order(" + i + ", 0)", x.order(i, 0), want[i][0]);
            Due.due("13: order(" + i + ", 1)", x.order(i, 1), want[i][1]);
        }
        Due.due("13: there are no more", x.order(want.length, 0), -4);
        Due.due("13: nor how many", x.order(want.length, 1), -4);
    }

    private static void orderOfEqualOnes() {
        // 1 of 2 and 2 of 4 are as much: the first. 1 of 3 is less than 3 of 8.
        TestChoice x = Due.told(FOUR + "test 0 3 2;test 0 4 4;");
        for (int name = 0; name < 4; name++) {
            x.has(0, name, 1);
        }
        ordered(x, new int[][] {{0, 1}, {1, 2}});
        TestChoice y = Due.told(FOUR + "test 0 4 4;test 0 3 2;");
        for (int name = 0; name < 4; name++) {
            y.has(0, name, 1);
        }
        ordered(y, new int[][] {{0, 2}, {1, 1}});
        TestChoice z = Due.told(FOUR + "test 0 2 3;test 0 0 8;test 0 0 8;");
        for (int name = 0; name < 4; name++) {
            z.has(0, name, 1);
        }
        ordered(z, new int[][] {{1, 3}, {0, 0}, {2, 0}});
    }
}
