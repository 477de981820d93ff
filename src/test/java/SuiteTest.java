/** Promises 21 to 23: tests are added, dropped, drawn. */
public final class SuiteTest {
    private static final int MAX = Integer.MAX_VALUE;
    private static final int MIN = Integer.MIN_VALUE;

    public static void main(String[] args) {
        add();
        drop();
        draw();
        drawAsLongAsThereIsRoom();
        Due.close("SuiteTest");
    }

    private static void add() {
        TestChoice x = Due.told("method;class 9;class 9;");
        Due.due("21: add", x.add(1, 255, 9), 1);
        Due.due("21: add", x.add(0, 0, 1), 2);
        Due.due("21: class", x.test(0, 0), 1);
        Due.due("21: decisions", x.test(0, 1), 255);
        Due.due("21: cost", x.test(0, 2), 9);
        Due.due("21: cost of the second", x.test(1, 2), 1);
        int[][] wrong = {{-1, 0, 1}, {2, 0, 1}, {0, -1, 1}, {0, 256, 1}, {0, 0, 0}, {0, 0, 10}, {0, 0, -1}, {MAX, 0, 1},
            {0, MAX, 1}, {0, 0, MAX}, {MIN, 0, 1}, {0, MIN, 1}, {0, 0, MIN}, {9, 0, 1}};
        for (int[] w : wrong) {
            Due.due("21: add(" + w[0] + ", " + w[1] + ", " + w[2] + ")", x.add(w[0], w[1], w[2]), -1);
        }
        Due.due("21: refused ones change nothing", x.rule(3), 2);
        for (int n = 3; n <= 8; n++) {
            Due.due("21: add", x.add(0, n, 1), n);
        }
        Due.due("21: FULL", x.add(0, 0, 1), -3);
        Due.due("21: BAD goes ahead of FULL", x.add(2, 0, 1), -1);
        Due.due("21: still eight", x.rule(3), 8);
        Due.due("21: no classes", new TestChoice().add(0, 0, 1), -1);
        Due.due("21: at first, too", Due.told("class 9;").add(0, 17, 3), 1);
    }

    private static void drop() {
        TestChoice x = Due.told("class 9;class 9;");
        for (int n = 0; n < 8; n++) {
            x.add(n % 2, 10 * n, n + 1);
        }
        int[] wrong = {-1, 8, MAX, MIN};
        for (int t : wrong) {
            Due.due("22: drop(" + t + ")", x.drop(t), -1);
        }
        Due.due("22: drop", x.drop(3), 7);
        int[] left = {0, 1, 2, 4, 5, 6, 7};
        for (int t = 0; t < 7; t++) {
            Due.due("22: class", x.test(t, 0), left[t] % 2);
            Due.due("22: decisions", x.test(t, 1), 10 * left[t]);
            Due.due("22: cost", x.test(t, 2), left[t] + 1);
        }
        Due.due("22: no eighth", x.test(7, 0), -1);
        Due.due("22: drop the last", x.drop(6), 6);
        Due.due("22: drop the first", x.drop(0), 5);
        Due.due("22: the first now", x.test(0, 1), 10);
        for (int n = 4; n >= 0; n--) {
            Due.due("22: drop", x.drop(0), n);
        }
        Due.due("22: none is left", x.drop(0), -1);
    }

    private static void draw() {
        int[] seeds = {0, 1, 7, -1, 12345, MAX, MIN, -987654321};
        for (int seed : seeds) {
            for (int classes = 1; classes <= 4; classes++) {
                TestChoice x = Due.told("class 9;class 9;class 9;class 9;".substring(0, 8 * classes));
                Due.due("23: how many came", x.draw(seed, 8), 8);
                long s = seed;
                for (int t = 0; t < 8; t++) {
                    s = (s * 1103515245L + 12345L) & 0xffffffffL;
                    int got = (int) (s >> 16) & 0x7fff;
                    Due.due("23: class", x.test(t, 0), got % classes);
                    Due.due("23: decisions", x.test(t, 1), (got >> 2) & 255);
                    Due.due("23: cost", x.test(t, 2), (got >> 10) % 9 + 1);
                }
            }
        }
    }

    private static void drawAsLongAsThereIsRoom() {
        TestChoice x = Due.told("class 9;test 0 17 4;");
        int[] wrong = {0, -1, 9, MAX, MIN};
        for (int n : wrong) {
            Due.due("23: draw(7, " + n + ")", x.draw(7, n), -1);
        }
        Due.due("23: three", x.draw(7, 3), 3);
        Due.due("23: behind those there were", x.test(0, 1), 17);
        Due.due("23: now four", x.rule(3), 4);
        Due.due("23: four more", x.draw(7, 8), 4);
        Due.due("23: none", x.draw(7, 8), 0);
        Due.due("23: of a seed the same", x.test(4, 1), x.test(1, 1));
        TestChoice none = new TestChoice();
        Due.due("23: STATE", none.draw(7, 8), -2);
        Due.due("23: BAD goes ahead of STATE", none.draw(7, 9), -1);
        Due.due("23: nothing came", none.rule(3), 0);
    }
}
