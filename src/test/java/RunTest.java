/** Promises 9, 10 and 14: what a test is, what its runs say, and what all decisions say. */
public final class RunTest {
    // NODE 5 of METHOD 0 is gone to as the 60th NODE, by DECISIONS 4.
    private static final String LONG = "method;say 0 1 5;call 0 2;call 0 3;call 0 4;say 0 0;call 1 6;say 7;"
        + "method;say 0 1;say 0 2;say 0 3;say 0 4;say 0 5;say 0 6;say 0 7;say 0;";

    public static void main(String[] args) {
        facts();
        nothingToRun();
        saying();
        calling();
        decisions();
        within();
        cutOff();
        cutOffWithinCalls();
        same();
        Due.close("RunTest");
    }

    private static void facts() {
        TestChoice x = Due.told("method;say 1 1 2;call 0 9;say 2 0;method;say 3;class 9;class 0;has 0 0 1;"
            + "test 0 0 3;test 1 5 1;test 0 255 2;");
        int[][] all = {{0, 0, 3, 3, 3, 0, -4, 5, 0}, {1, 5, 1, 5, 5, 0, -4, 7, 0}, {0, 255, 2, 60, 60, 0, -4, 3, 0}};
        asked(x, all);
        Due.due("15: say", x.say(1, 0, 0, 4), 3);
        int[][] behind = {{0, 0, 3, 3, 3, 1, 1, 5, 1}, {1, 5, 1, 5, 5, 1, 0, 7, 1}, {0, 255, 2, 60, 60, 0, -4, 3, 0}};
        asked(x, behind);
        Due.due("16: lead", x.lead(0, 0, 1, 9), 2);
        Due.due("9: by the new one", x.test(1, 4), 1);
        Due.due("9: by the old one", x.test(1, 3), 5);
        int[] wrong = {-1, 3, 8, Integer.MAX_VALUE, Integer.MIN_VALUE};
        for (int t : wrong) {
            for (int what = 0; what < 9; what++) {
                Due.due("9: test(" + t + ", " + what + ")", x.test(t, what), -1);
            }
            Due.due("10: said(" + t + ", 0)", x.said(t, 0), 0);
            Due.due("10: said(" + t + ", 1)", x.said(t, 1), 0);
        }
        int[] wrongWhat = {-1, 9, 10, Integer.MAX_VALUE, Integer.MIN_VALUE};
        for (int what : wrongWhat) {
            Due.due("9: test(0, " + what + ")", x.test(0, what), -1);
            Due.due("10: said(0, " + what + ")", x.said(0, what), 0);
        }
        Due.due("10: said(0, 2)", x.said(0, 2), 0);
    }

    private static void asked(TestChoice x, int[][] all) {
        for (int t = 0; t < all.length; t++) {
            for (int what = 0; what < all[t].length; what++) {
                Due.due("9: test(" + t + ", " + what + ")", x.test(t, what), all[t][what]);
            }
        }
    }

    private static void ran(String text, int said, int nodes, int edges) {
        TestChoice x = Due.told(text);
        for (int what = 0; what < 2; what++) {
            Due.due("10: said(0, " + what + ") of '" + text + "'", x.said(0, what), said);
            Due.due("9: nodes of '" + text + "'", x.test(0, 3 + what), nodes);
        }
        Due.due("9: edges of '" + text + "'", x.test(0, 7), edges);
    }

    private static void nothingToRun() {
        ran("class 9;test 0 0 1;", 0, 0, 0);
        ran("method;class 9;test 0 0 1;", 101, 0, 1);
        ran("method;method;say 1;class 9;test 0 0 1;", 101, 0, 1);
    }

    private static void saying() {
        ran("method;say 1;class 9;test 0 0 1;", 3133, 1, 1);
        ran("method;say 9 9;class 9;test 0 0 1;", 3141, 1, 2);
        ran("method;say 0 1;say 5;class 9;test 0 0 1;", 3132 * 31 + 6, 2, 2);
    }

    private static void calling() {
        ran("method;call 2;class 9;test 0 0 1;", 3144, 1, 2);
        ran("method;call 3 1;say 0;class 9;test 0 0 1;", 3145 * 31 + 1, 2, 3);
        ran("method;call 0;method;class 9;has 0 0 1;test 0 0 1;", 3142 * 31 + 102, 1, 3);
        ran("method;call 0;method;class 9;class 0;has 0 0 1;test 1 0 1;", 3142 * 31 + 102, 1, 3);
        ran("method;call 0 1;say 4;method;say 2;class 9;has 0 0 1;test 0 0 1;",
            ((3142 * 31 + 102) * 31 + 3) * 31 + 5, 3, 4);
        TestChoice x = Due.told("method;call 1;method;class 9;class 9;has 0 1 1;test 0 0 1;test 1 0 1;");
        Due.due("10: one is meant", x.said(0, 0), 3143 * 31 + 102);
        Due.due("10: none is meant", x.said(1, 0), 3143);
        Due.due("9: covers its own call", x.covers(1, 205), 1);
        Due.due("9: not that by another class", x.covers(1, 201), 0);
    }

    private static void decisions() {
        // Bit after bit is 0 or 1: NODE 1 or 2, that comes back to NODE 0.
        TestChoice x = Due.told("method;say 0 1 2;say 1 0;say 2 0;class 9;test 0 178 1;");
        int said = 101;
        for (int step = 0; step < 60; step++) {
            int bit = 178 >> (step / 2 & 7) & 1;
            said = said * 31 + (step % 2 == 0 ? 1 : bit == 0 ? 2 : 3);
        }
        Due.due("10: by bits, the lowest first, again behind the 8th", x.said(0, 0), said);
        // The bits go on within what is called.
        TestChoice y = Due.told("method;call 0 1 2;say 1;say 2;method;say 3 1 2;say 4;say 5;class 9;has 0 0 1;"
            + "test 0 0 1;test 0 1 1;test 0 2 1;test 0 3 1;");
        for (int t = 0; t < 4; t++) {
            int inner = ((3142 * 31 + 102) * 31 + 4) * 31 + ((t & 1) == 0 ? 5 : 6);
            Due.due("10: the next bit, too", y.said(t, 0), inner * 31 + ((t & 2) == 0 ? 2 : 3));
        }
    }

    private static void within() {
        // METHOD 0 calls itself: four calls are within one another, and each comes back.
        int in = 0;
        for (int i = 0; i < 5; i++) {
            in = (in * 31 + 101) * 31 + 11;
        }
        ran("method;call 0 9;class 9;has 0 0 0;test 0 0 1;", in, 5, 3);
        int out = in;
        for (int i = 0; i < 5; i++) {
            out = out * 31 + 4;
        }
        ran("method;call 0 1;say 3;class 9;has 0 0 0;test 0 0 1;", out, 10, 3);
    }

    private static void cutOff() {
        int said = 101;
        for (int i = 0; i < 60; i++) {
            said = said * 31 + 1;
        }
        ran("method;say 0 0;class 9;test 0 0 1;", said, 60, 2);
    }

    private static void cutOffWithinCalls() {
        // NODE 0 of METHOD 2 would be the 61st: it is entered, but not gone to.
        TestChoice x = Due.told(LONG + "method;say 9;class 9;has 0 0 1;has 0 1 2;test 0 4 1;test 0 2 1;");
        Due.due("9: 60 nodes", x.test(0, 3), 60);
        Due.due("12: entering is covered", x.covers(0, 102), 1);
        Due.due("12: the call is covered", x.covers(0, 201), 1);
        Due.due("12: what is behind it is not", x.covers(0, 10), 0);
        Due.due("9: the other test ends", x.test(1, 3), 33);
        int entered = x.said(0, 0);
        // The 61st is NODE 6: it is not gone to, but the run went over what leads there.
        TestChoice y = Due.told(LONG + "class 9;has 0 0 1;test 0 4 1;");
        Due.due("9: 60 nodes, too", y.test(0, 3), 60);
        Due.due("12: that to the 61st is covered", y.covers(0, 10), 1);
        Due.due("10: a method more was entered", entered, y.said(0, 0) * 31 + 103);
    }

    private static void same() {
        TestChoice none = Due.told("class 9;");
        Due.due("14: nothing to say", none.same(0), 256);
        Due.due("14: no such", none.same(1), -1);
        TestChoice x = Due.told("method;say 0 1 2;say 1 3 4;say 2;say 3;call 0;method;say 6;class 9;class 9;has 1 0 1;");
        Due.due("14: all", x.same(0), 256);
        Due.due("15: say", x.say(0, 3, 0, 9), 3);
        Due.due("14: bits 0 and 1 are 0 in a quarter", x.same(0), 192);
        Due.due("15: say", x.say(0, 2, 0, 9), 2);
        Due.due("14: bit 0 is 1 in one half more", x.same(0), 64);
        Due.due("15: say", x.say(1, 0, 0, 9), 6);
        Due.due("14: by the class that does not call it", x.same(0), 64);
        Due.due("14: by the class that calls it", x.same(1), 0);
        int[] wrong = {-1, 2, 4, Integer.MAX_VALUE, Integer.MIN_VALUE};
        for (int c : wrong) {
            Due.due("14: same(" + c + ")", x.same(c), -1);
        }
    }
}
