import java.util.Random;

/** All promises: runs of random calls by fixed seeds, each answer held against that of the model. */
public final class RandomRunsTest {
    private static final int RUNS = 4000;
    private static final int CALLS = 512;
    private static final String[] WORDS = {"method", "say", "call", "class", "has", "test"};

    private final Random random;
    private final TestChoice x = new TestChoice();
    private final Model model = new Model();
    private int calls;

    private RandomRunsTest(int seed) {
        random = new Random(seed);
    }

    public static void main(String[] args) {
        for (int seed = 0; seed < RUNS; seed++) {
            new RandomRunsTest(seed).go();
        }
        Due.close("RandomRunsTest");
    }

    private void go() {
        int texts = random.nextInt(3);
        while (calls < CALLS) {
            if (calls == 0 || random.nextInt(300) < texts) {
                String text = random.nextInt(3) == 0 ? broken(wanted()) : wanted();
                for (int i = 0; i < text.length() && calls < CALLS; i++) {
                    char c = text.charAt(i);
                    held("feed(" + (int) c + ")", x.feed(c), model.feed(c));
                }
                held("text() of " + text, x.text(), model.text());
                held("fault()", x.fault(), model.fault());
            } else {
                one(random.nextInt(30));
            }
        }
    }

    private void held(String call, long got, long want) {
        calls++;
        Due.due(call + " (call " + calls + ")", got, want);
    }

    private int pick(int... of) {
        return of[random.nextInt(of.length)];
    }

    /** Most often one of 0 to n - 1, now and then just outside or far away. */
    private int near(int n) {
        int r = random.nextInt(40);
        if (r == 0) {
            return pick(-1, n, n + 1, -2, -4, 9, 100);
        }
        if (r == 1 && random.nextInt(4) == 0) {
            return pick(Integer.MIN_VALUE, Integer.MAX_VALUE, random.nextInt(), 1 << 30, -(1 << 30), 256);
        }
        return random.nextInt(n);
    }

    private int anEdge() {
        return switch (random.nextInt(8)) {
            case 0 -> near(216);
            case 1, 2 -> 100 + near(6);
            case 3, 4 -> 200 + near(16);
            default -> 16 * near(3) + near(8);
        };
    }

    private int aNode() {
        return near(random.nextInt(3) == 0 ? 8 : 3);
    }

    private int aMethod() {
        return near(random.nextInt(3) == 0 ? 6 : 2);
    }

    private int where() {
        return random.nextInt(4) == 0 ? 9 : aNode();
    }

    private void one(int which) {
        int a = aMethod();
        int b = aNode();
        int c = near(2);
        int d = where();
        int t = near(8);
        switch (which) {
            case 0 -> {
                int v = near(128);
                held("feed(" + v + ")", x.feed(v), model.feed(v));
            }
            case 1 -> {
                int n = near(4);
                held("end(" + n + ")", x.end(n), model.end(n));
            }
            case 2 -> {
                if (random.nextInt(10) == 0) {
                    held("text()", x.text(), model.text());
                }
            }
            case 3 -> held("fault()", x.fault(), model.fault());
            case 4, 5 -> {
                int what = near(8);
                held("rule(" + what + ")", x.rule(what), model.rule(what));
            }
            case 6 -> {
                int what = pick(0, 1, 2, 3, 4, 10, 11, 12, 13, 14, near(16));
                held("node(" + a + ", " + b + ", " + what + ")", x.node(a, b, what), model.node(a, b, what));
            }
            case 7 -> {
                int k = near(4);
                int name = near(4);
                held("meant(" + k + ", " + name + ", " + c + ")", x.meant(k, name, c), model.meant(k, name, c));
            }
            case 8, 9 -> {
                int what = near(9);
                held("test(" + t + ", " + what + ")", x.test(t, what), model.test(t, what));
            }
            case 10 -> held("said(" + t + ", " + c + ")", x.said(t, c), model.said(t, c));
            case 11 -> {
                int e = anEdge();
                held("edge(" + e + ", " + c + ")", x.edge(e, c), model.edge(e, c));
            }
            case 12 -> {
                int e = anEdge();
                held("covers(" + t + ", " + e + ")", x.covers(t, e), model.covers(t, e));
            }
            case 13 -> held("order(" + t + ", " + c + ")", x.order(t, c), model.order(t, c));
            case 14 -> {
                if (random.nextInt(20) == 0) {
                    int k = near(3);
                    held("same(" + k + ")", x.same(k), model.same(k));
                }
            }
            case 15 -> {
                int n = near(6);
                held("say(" + a + ", " + b + ", " + c + ", " + n + ")", x.say(a, b, c, n), model.say(a, b, c, n));
            }
            case 16, 17 -> held("lead(" + a + ", " + b + ", " + c + ", " + d + ")",
                x.lead(a, b, c, d), model.lead(a, b, c, d));
            case 18 -> {
                int n = near(3);
                held("nexts(" + a + ", " + b + ", " + n + ")", x.nexts(a, b, n), model.nexts(a, b, n));
            }
            case 19 -> {
                int k = near(3);
                int name = near(4);
                int m = random.nextInt(3) == 0 ? -4 : a;
                held("has(" + k + ", " + name + ", " + m + ")", x.has(k, name, m), model.has(k, name, m));
            }
            case 20 -> {
                if (random.nextInt(4) == 0) {
                    held("take()", x.take(), model.take());
                } else if (random.nextInt(4) == 0) {
                    held("leave()", x.leave(), model.leave());
                }
            }
            case 21 -> {
                int k = near(3);
                int bits = near(256);
                int cost = 1 + near(9);
                held("add(" + k + ", " + bits + ", " + cost + ")", x.add(k, bits, cost), model.add(k, bits, cost));
            }
            case 22 -> {
                if (random.nextInt(2) == 0) {
                    held("drop(" + t + ")", x.drop(t), model.drop(t));
                }
            }
            case 23 -> {
                int seed = random.nextInt();
                int n = random.nextInt(3) == 0 ? near(10) : 1;
                held("draw(" + seed + ", " + n + ")", x.draw(seed, n), model.draw(seed, n));
            }
            case 24 -> held("keep(" + c + ")", x.keep(c), model.keep(c));
            case 25 -> {
                if (random.nextInt(3) == 0) {
                    held("back(" + c + ")", x.back(c), model.back(c));
                }
            }
            case 26, 27 -> sheets(a, b, c, d);
            case 28 -> held("torn()", x.torn(), model.torn());
            default -> {
                int what = near(6);
                held("count(" + what + ")", x.count(what), model.count(what));
            }
        }
    }

    private void lays(int k, int i, int v) {
        held("lay(" + k + ", " + i + ", " + v + ")", x.lay(k, i, v), model.lay(k, i, v));
    }

    private void sheets(int a, int b, int c, int d) {
        int k = random.nextInt(3) == 0 ? near(4) : near(2);
        int lane = near(3);
        int f = random.nextInt(4) == 0 ? near(42) : 0;
        switch (random.nextInt(4)) {
            case 0 -> {
                int n = pick(near(41), 4, 8, 12, 13, -1, 40, 41);
                held("sheet(" + k + ", " + lane + ", " + n + ")", x.sheet(k, lane, n), model.sheet(k, lane, n));
            }
            case 1 -> {
                int i = 4 * random.nextInt(3);
                lays(k, i, a);
                lays(k, i + 1, b);
                lays(k, i + 2, c + pick(0, 0, 0, 256, 65536));
                lays(k, i + 3, d);
            }
            case 2 -> lays(k, near(42), random.nextInt());
            default -> {
                int n = random.nextInt(3) == 0 ? near(11) : near(4);
                for (int l = 0; l < 3; l++) {
                    int asked = l == 2 ? lane : l;
                    held("read(" + k + ", " + asked + ", " + f + ", " + n + ")",
                        x.read(k, asked, f, n), model.read(k, asked, f, n));
                }
                held("torn()", x.torn(), model.torn());
            }
        }
    }

    /** A text that most often has no fault. */
    private String wanted() {
        StringBuilder s = new StringBuilder();
        int methods = random.nextInt(6) == 0 ? random.nextInt(8) : 1 + random.nextInt(3);
        int classes = random.nextInt(6) == 0 ? random.nextInt(6) : 1 + random.nextInt(3);
        for (int m = 0; m < methods; m++) {
            s.append("method").append(gap()).append(';');
            int nodes = random.nextInt(8) == 0 ? random.nextInt(10) : random.nextInt(5);
            for (int i = 0; i < nodes; i++) {
                s.append(random.nextInt(3) == 0 ? "call " + random.nextInt(2) : "say " + random.nextInt(10));
                int ways = pick(0, 1, 1, 2, 2, 2);
                for (int k = 0; k < ways; k++) {
                    s.append(' ').append(random.nextInt(5) == 0 ? 9 : random.nextInt(nodes));
                }
                s.append(gap()).append(';');
            }
        }
        for (int c = 0; c < classes; c++) {
            s.append("class ").append(c == 0 || random.nextInt(3) == 0 ? 9 : random.nextInt(c)).append(';');
        }
        for (int h = random.nextInt(4); h > 0 && methods > 0 && classes > 0; h--) {
            s.append("has ").append(random.nextInt(classes)).append(' ').append(random.nextInt(2)).append(' ')
                .append(random.nextInt(methods)).append(';');
        }
        for (int t = random.nextInt(5); t > 0 && classes > 0; t--) {
            s.append("test ").append(random.nextInt(classes)).append(' ').append(random.nextInt(256)).append(' ')
                .append(1 + random.nextInt(9)).append(';');
        }
        return s.toString();
    }

    private String gap() {
        return random.nextInt(5) == 0 ? "  " : "";
    }

    /** A text in which something was put, lost or changed. */
    private String broken(String text) {
        StringBuilder s = new StringBuilder(text);
        for (int n = 1 + random.nextInt(2); n > 0; n--) {
            int at = random.nextInt(s.length() + 1);
            switch (random.nextInt(6)) {
                case 0 -> s.insert(at, pick('A', ' ', '9', '8', 'a', ';', '\n', 0, 127));
                case 1 -> s.insert(at, (char) pick('A', ' ', '9', '8', 'a', ';', '\n', 0, 127));
                case 2 -> s.setLength(at);
                case 3 -> s.delete(at, Math.min(s.length(), at + 1 + random.nextInt(3)));
                case 4 -> s.insert(at, WORDS[random.nextInt(6)] + ' ' + random.nextInt(12) + ' ' + random.nextInt(300));
                default -> {
                    int end = s.indexOf(";", at);
                    s.insert(end < 0 ? s.length() : end + 1, WORDS[random.nextInt(6)] + ' ' + random.nextInt(10)
                        + (random.nextBoolean() ? ";" : " " + random.nextInt(10) + ' ' + random.nextInt(8) + ';'));
                }
            }
        }
        return s.toString();
    }
}
