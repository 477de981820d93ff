import java.util.ArrayList;
import java.util.List;

/** An object in the midst of its use, all that can be asked of it, and calls that must change none of that. */
final class Sample {
    static final int MAX = Integer.MAX_VALUE;
    static final int MIN = Integer.MIN_VALUE;
    private static final String TEXT = "method;say 1 1 2;call 0 9;say 2 0;method;say 3;class 9;class 0;has 0 0 1;"
        + "test 0 0 3;test 1 5 1;test 0 255 2;";
    private static final int[] NODES = {0, 0, 0, 1, 0, 2, 1, 0};
    private static final int[] EDGES = {0, 1, 2, 4, 100, 101, 200, 201, 202, 203, 204, 205, 206, 207};
    private static final List<Integer> AS_MADE = look(make());

    interface Call {
        int on(TestChoice x);
    }

    private Sample() {
    }

    /**
     * Two METHODS, two CLASSES, two TESTS, a NEW PROGRAM that is other; IMAGE 1, but no IMAGE 0; SHEET 0 of nothing,
     * SHEETS 1 to 3 of four BYTES, six SHORTS, eight INTS; "say" on THE TAPE, FAULT 1 of text(), FAULT CAST of read().
     */
    static TestChoice make() {
        TestChoice x = new TestChoice();
        feed(x, TEXT);
        x.text();
        x.say(1, 0, 0, 4);
        x.keep(1);
        x.lead(0, 0, 1, 9);
        x.has(1, 1, 0);
        x.nexts(1, 0, 1);
        x.drop(2);
        x.sheet(1, 0, 4);
        x.lay(1, 3, 2);
        x.sheet(2, 1, 6);
        x.lay(2, 2, 1);
        x.lay(2, 3, 1);
        x.sheet(3, 2, 8);
        x.lay(3, 1, 2);
        x.lay(3, 3, 1);
        x.lay(3, 4, 1);
        x.read(2, 0, 0, 1);
        feed(x, "A");
        x.text();
        feed(x, "say");
        return x;
    }

    private static void feed(TestChoice x, String text) {
        for (int i = 0; i < text.length(); i++) {
            x.feed(text.charAt(i));
        }
    }

    /** A call is refused: it answers this, and all else answers as if it had not come. */
    static void refused(String call, Call c, int want) {
        TestChoice x = make();
        Due.due(call, c.on(x), want);
        unchanged(call, x);
    }

    /** Nothing was changed since it was made. */
    static void unchanged(String call, TestChoice x) {
        Due.holds(call + " changes nothing", look(x).equals(AS_MADE));
    }

    /** All that can be asked; what must be changed to be seen (sheets, images, the tape) comes at the end. */
    private static List<Integer> look(TestChoice x) {
        List<Integer> seen = new ArrayList<>();
        seen.add(x.fault());
        seen.add(x.torn());
        for (int what = 0; what < 6; what++) {
            seen.add(x.count(what));
        }
        lookAtPrograms(x, seen);
        lookAtTests(x, seen);
        lookAtSheets(x, seen);
        for (int k = 0; k < 2; k++) {
            seen.add(x.back(k));
        }
        lookAtPrograms(x, seen);
        seen.add(x.said(2, 1));
        seen.add(x.feed('1'));
        seen.add(x.text());
        seen.add(x.fault());
        return seen;
    }

    private static void lookAtPrograms(TestChoice x, List<Integer> seen) {
        for (int i = 0; i < NODES.length; i += 2) {
            for (int what = 0; what < 5; what++) {
                seen.add(x.node(NODES[i], NODES[i + 1], what));
                seen.add(x.node(NODES[i], NODES[i + 1], 10 + what));
            }
        }
        for (int both = 0; both < 16; both++) {
            seen.add(x.meant(both >> 3, both >> 1 & 3, both & 1));
        }
        for (int what = 0; what < 8; what++) {
            seen.add(x.rule(what));
        }
    }

    private static void lookAtTests(TestChoice x, List<Integer> seen) {
        for (int t = 0; t < 3; t++) {
            for (int what = 0; what < 9; what++) {
                seen.add(x.test(t, what));
            }
            seen.add(x.said(t, 0));
            seen.add(x.said(t, 1));
            seen.add(x.order(t, 0));
            seen.add(x.order(t, 1));
        }
        for (int e : EDGES) {
            seen.add(x.edge(e, 0));
            seen.add(x.edge(e, 1));
            seen.add(x.covers(0, e));
            seen.add(x.covers(1, e));
        }
        seen.add(x.same(0));
        seen.add(x.same(1));
    }

    private static void lookAtSheets(TestChoice x, List<Integer> seen) {
        for (int k = 0; k < 4; k++) {
            for (int lane = 0; lane < 3; lane++) {
                seen.add(x.read(k, lane, 0, 3));
                seen.add(x.torn());
            }
            seen.add(x.node(0, 0, 13));
            seen.add(x.node(0, 0, 14));
            seen.add(x.node(0, 2, 13));
            seen.add(x.node(1, 0, 13));
        }
    }
}
