/** Promises 15 to 20: the new program is changed, taken, left. */
public final class ChangeTest {
    private static final String TWO = "method;say 1 1 2;call 2 9;say 2 0;method;say 3;class 9;class 0;has 0 0 1;";
    private static final int MAX = Integer.MAX_VALUE;
    private static final int MIN = Integer.MIN_VALUE;

    public static void main(String[] args) {
        say();
        lead();
        nexts();
        has();
        take();
        leave();
        Due.close("ChangeTest");
    }

    private static void say() {
        TestChoice x = Due.told(TWO);
        Due.due("15: as it was", x.say(0, 1, 0, 9), 12);
        Due.due("15: as it is now", x.say(0, 1, 1, 3), 9);
        Due.due("15: as it is now", x.say(0, 1, 0, 0), 13);
        Due.due("15: as it is now", x.say(0, 1, 1, 0), 0);
        Due.due("15: kind", x.node(0, 1, 10), 1);
        Due.due("15: name", x.node(0, 1, 11), 0);
        Due.due("15: next ones stay", x.node(0, 1, 13), 9);
        int[][] wrong = {{2, 0, 0, 1}, {-1, 0, 0, 1}, {0, 3, 0, 1}, {0, -1, 0, 1}, {1, 1, 0, 1}, {0, 0, 2, 1},
            {0, 0, -1, 1}, {0, 0, 0, 10}, {0, 0, 0, -1}, {0, 0, 1, 4}, {0, 0, 1, 9}, {0, 0, 1, -1}, {MAX, 0, 0, 1},
            {0, MIN, 0, 1}, {0, 0, MAX, 1}, {0, 0, 0, MAX}, {0, 0, 1, MIN}, {0, 8, 0, 1}, {6, 0, 0, 1}};
        for (int[] w : wrong) {
            Due.due("15: say(" + w[0] + ", " + w[1] + ", " + w[2] + ", " + w[3] + ")",
                x.say(w[0], w[1], w[2], w[3]), -1);
        }
        Due.due("15: refused ones change nothing", x.count(5), 1);
        Due.due("15: the old one stays", x.node(0, 1, 1), 2);
    }

    private static void lead() {
        TestChoice x = Due.told(TWO);
        Due.due("16: to what it did", x.lead(0, 0, 0, 9), 1);
        Due.due("16: to what it did", x.lead(0, 0, 0, 0), 9);
        Due.due("16: the other one", x.lead(0, 0, 1, 1), 2);
        Due.due("16: new", x.node(0, 0, 13) * 10 + x.node(0, 0, 14), 1);
        Due.due("16: old", x.node(0, 0, 3) * 10 + x.node(0, 0, 4), 12);
        int[][] wrong = {{0, 0, 0, 3}, {0, 0, 0, 8}, {0, 0, 0, 10}, {0, 0, 0, -1}, {0, 0, 0, -4}, {0, 0, 2, 1},
            {0, 0, -1, 1}, {0, 1, 1, 0}, {1, 0, 0, 0}, {1, 0, 0, 9}, {2, 0, 0, 0}, {-1, 0, 0, 0}, {0, 3, 0, 0},
            {0, -1, 0, 0}, {MAX, 0, 0, 0}, {0, MAX, 0, 0}, {0, 0, MAX, 0}, {0, 0, 0, MAX}, {0, 0, 0, MIN}};
        for (int[] w : wrong) {
            Due.due("16: lead(" + w[0] + ", " + w[1] + ", " + w[2] + ", " + w[3] + ")",
                x.lead(w[0], w[1], w[2], w[3]), -1);
        }
        Due.due("16: refused ones change nothing", x.count(5), 1);
        Due.due("17: two next ones", x.nexts(1, 0, 2), 0);
        Due.due("16: as many as the new one has", x.lead(1, 0, 1, 0), 9);
    }

    private static void nexts() {
        TestChoice x = Due.told(TWO);
        Due.due("17: had two", x.nexts(0, 0, 2), 2);
        Due.due("17: these stay", x.node(0, 0, 13) * 10 + x.node(0, 0, 14), 12);
        Due.due("17: one stays", x.nexts(0, 0, 1), 2);
        Due.due("17: first", x.node(0, 0, 13), 1);
        Due.due("17: no second", x.node(0, 0, 14), -4);
        Due.due("17: one comes", x.nexts(0, 0, 2), 1);
        Due.due("17: first stays", x.node(0, 0, 13), 1);
        Due.due("17: it leads to 9", x.node(0, 0, 14), 9);
        Due.due("17: none", x.nexts(0, 0, 0), 2);
        Due.due("17: no first", x.node(0, 0, 13), -4);
        Due.due("17: two come", x.nexts(0, 0, 2), 0);
        Due.due("17: both lead to 9", x.node(0, 0, 13) * 10 + x.node(0, 0, 14), 99);
        Due.due("17: how many in the old one", x.node(0, 0, 2), 2);
        Due.due("17: the old one stays", x.node(0, 0, 3) * 10 + x.node(0, 0, 4), 12);
        int[][] wrong = {{0, 0, 3}, {0, 0, -1}, {0, 3, 1}, {0, -1, 1}, {1, 1, 1}, {2, 0, 1}, {-1, 0, 1}, {MAX, 0, 1},
            {0, MAX, 1}, {0, 0, MAX}, {0, 0, MIN}, {MIN, MIN, 1}};
        for (int[] w : wrong) {
            Due.due("17: nexts(" + w[0] + ", " + w[1] + ", " + w[2] + ")", x.nexts(w[0], w[1], w[2]), -1);
        }
        Due.due("17: refused ones change nothing", x.count(5), 1);
    }

    private static void has() {
        TestChoice x = Due.told(TWO);
        Due.due("18: which it had", x.has(0, 0, 0), 1);
        Due.due("18: which it had", x.has(0, 0, -4), 0);
        Due.due("18: none", x.has(0, 0, 1), -4);
        Due.due("18: its own, not that of the class above", x.has(1, 0, -4), -4);
        Due.due("18: another name", x.has(1, 3, 1), -4);
        Due.due("8: meant", x.meant(1, 3, 1), 1);
        Due.due("8: not by the class above", x.meant(0, 3, 1), -4);
        int[][] wrong = {{2, 0, 0}, {-1, 0, 0}, {0, 4, 0}, {0, -1, 0}, {0, 0, 2}, {0, 0, -1}, {0, 0, -2}, {0, 0, -3},
            {0, 0, -5}, {0, 0, 6}, {0, 0, 9}, {MAX, 0, 0}, {0, MAX, 0}, {0, 0, MAX}, {0, 0, MIN}, {4, 0, -4}};
        for (int[] w : wrong) {
            Due.due("18: has(" + w[0] + ", " + w[1] + ", " + w[2] + ")", x.has(w[0], w[1], w[2]), -1);
        }
        Due.due("18: refused ones change nothing", x.has(0, 0, 1), 1);
        Due.due("18: the old one stays", x.meant(1, 3, 0), -4);
    }

    private static void take() {
        TestChoice x = Due.told(TWO + "test 0 0 1;");
        changed(x);
        int said = x.said(0, 1);
        Due.due("19: how many were in danger", x.take(), 3);
        Due.due("19: none is", x.rule(4), 0);
        Due.due("19: old is as new, its next", x.node(0, 0, 4), 9);
        Due.due("19: its name", x.node(0, 1, 1), 3);
        Due.due("19: what is meant", x.meant(1, 1, 0), 0);
        Due.due("19: what is said", x.said(0, 0), said);
        Due.due("19: no node is other", x.count(5), 0);
        Due.due("19: again", x.take(), 0);
        x.say(0, 1, 1, 0);
        Due.due("19: they are two still", x.node(0, 1, 1), 3);
        Due.due("19: the tests stay", x.rule(3), 1);
    }

    private static void leave() {
        TestChoice x = Due.told(TWO + "test 0 0 1;");
        changed(x);
        int said = x.said(0, 0);
        Due.due("20: how many were in danger", x.leave(), 3);
        Due.due("20: none is", x.rule(4), 0);
        Due.due("20: new is as old, its next", x.node(0, 0, 14), 2);
        Due.due("20: its name", x.node(0, 1, 11), 2);
        Due.due("20: what is meant", x.meant(1, 1, 1), -4);
        Due.due("20: what is said", x.said(0, 1), said);
        Due.due("20: no node is other", x.count(5), 0);
        Due.due("20: again", x.leave(), 0);
        x.say(0, 1, 1, 0);
        Due.due("20: they are two still", x.node(0, 1, 1), 2);
        Due.due("20: the tests stay", x.rule(3), 1);
    }

    private static void changed(TestChoice x) {
        Due.due("16: lead", x.lead(0, 0, 1, 9), 2);
        Due.due("15: say", x.say(0, 1, 1, 3), 12);
        Due.due("18: has", x.has(1, 1, 0), -4);
        Due.due("6: in danger", x.rule(4), 3);
    }
}
