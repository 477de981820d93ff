/** Promises 6 to 8: what is asked of the programs. */
public final class AskTest {
    private static final String TWO = "method;say 1 1 2;call 0 9;say 2 0;method;say 3;class 9;class 0;has 0 0 1;"
        + "test 0 0 3;test 1 5 1;test 0 255 2;";

    public static void main(String[] args) {
        rule();
        node();
        meant();
        Due.close("AskTest");
    }

    private static void rule() {
        TestChoice x = Due.told(TWO);
        int[] before = {2, 4, 2, 3, 0, 0, 0, 0};
        for (int what = 0; what < before.length; what++) {
            Due.due("6: rule(" + what + ")", x.rule(what), before[what]);
        }
        Due.due("15: say", x.say(1, 0, 0, 4), 3);
        int[] behind = {2, 4, 2, 3, 1, 2, 4, 2};
        for (int what = 0; what < behind.length; what++) {
            Due.due("6: rule(" + what + ") behind say", x.rule(what), behind[what]);
        }
        Due.due("18: has", x.has(0, 0, -4), 1);
        Due.due("6: costs, asked at once", x.rule(6), 4);
        x.leave();
        Due.due("6: costs, asked at once", x.rule(6), 0);
        Due.due("6: rule(-1)", x.rule(-1), -1);
        Due.due("6: rule(8)", x.rule(8), -1);
        Due.due("6: rule(max)", x.rule(Integer.MAX_VALUE), -1);
        Due.due("6: rule(min)", x.rule(Integer.MIN_VALUE), -1);
    }

    private static void node() {
        TestChoice x = Due.told(TWO);
        int[][] all = {{0, 1, 2, 1, 2}, {1, 0, 1, 9, -4}, {0, 2, 1, 0, -4}};
        for (int i = 0; i < 3; i++) {
            for (int what = 0; what < 5; what++) {
                Due.due("7: node(0, " + i + ", " + what + ")", x.node(0, i, what), all[i][what]);
                Due.due("7: node(0, " + i + ", 1" + what + ")", x.node(0, i, 10 + what), all[i][what]);
            }
        }
        Due.due("7: no next", x.node(1, 0, 3), -4);
        Due.due("7: its number", x.node(1, 0, 1), 3);
        Due.due("15: say", x.say(0, 0, 1, 3), 1);
        Due.due("17: nexts", x.nexts(0, 0, 1), 2);
        Due.due("16: lead", x.lead(0, 0, 0, 9), 1);
        int[] changed = {1, 3, 1, 9, -4};
        for (int what = 0; what < 5; what++) {
            Due.due("7: the old one stays at " + what, x.node(0, 0, what), all[0][what]);
            Due.due("7: the new one at " + what, x.node(0, 0, 10 + what), changed[what]);
        }
        int[] wrong = {-1, 5, 9, 15, 20, Integer.MAX_VALUE, Integer.MIN_VALUE};
        for (int what : wrong) {
            Due.due("7: node(0, 0, " + what + ")", x.node(0, 0, what), -1);
        }
        int[][] none = {{-1, 0}, {2, 0}, {6, 0}, {0, -1}, {0, 3}, {0, 8}, {1, 1}, {0, Integer.MAX_VALUE},
            {Integer.MIN_VALUE, 0}, {Integer.MAX_VALUE, Integer.MAX_VALUE}, {-1, 8}};
        for (int[] mi : none) {
            Due.due("7: node(" + mi[0] + ", " + mi[1] + ", 0)", x.node(mi[0], mi[1], 0), -1);
            Due.due("7: node(" + mi[0] + ", " + mi[1] + ", 10)", x.node(mi[0], mi[1], 10), -1);
        }
    }

    private static void meant() {
        TestChoice x = Due.told("method;method;method;class 9;class 0;class 1;class 9;"
            + "has 0 0 0;has 0 1 1;has 1 1 2;has 2 2 0;has 3 3 1;");
        int[][] all = {{0, 1, -4, -4}, {0, 2, -4, -4}, {0, 2, 0, -4}, {-4, -4, -4, 1}};
        for (int c = 0; c < 4; c++) {
            for (int name = 0; name < 4; name++) {
                Due.due("8: meant(" + c + ", " + name + ", 0)", x.meant(c, name, 0), all[c][name]);
                Due.due("8: meant(" + c + ", " + name + ", 1)", x.meant(c, name, 1), all[c][name]);
            }
        }
        Due.due("18: has", x.has(0, 1, 0), 1);
        Due.due("18: has", x.has(1, 1, -4), 2);
        Due.due("8: by the class above, new", x.meant(2, 1, 1), 0);
        Due.due("8: old", x.meant(2, 1, 0), 2);
        int[][] wrong = {{-1, 0, 0}, {4, 0, 0}, {0, -1, 0}, {0, 4, 0}, {0, 0, -1}, {0, 0, 2}, {9, 0, 0},
            {Integer.MAX_VALUE, 0, 0}, {0, Integer.MAX_VALUE, 1}, {0, Integer.MIN_VALUE, 1}, {Integer.MIN_VALUE, 0, 1}};
        for (int[] w : wrong) {
            Due.due("8: meant(" + w[0] + ", " + w[1] + ", " + w[2] + ")", x.meant(w[0], w[1], w[2]), -1);
        }
        TestChoice deep = Due.told("method;method;class 9;class 0;class 1;class 2;has 0 3 1;");
        Due.due("8: by the first of four above one another", deep.meant(3, 3, 0), 1);
        Due.due("8: not another name", deep.meant(3, 2, 0), -4);
        TestChoice y = Due.told("method;class 9;");
        Due.due("8: no such class", y.meant(1, 0, 0), -1);
        Due.due("8: none", y.meant(0, 0, 0), -4);
    }
}
