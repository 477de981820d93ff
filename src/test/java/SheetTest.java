/** Promises 26 to 29: sheets, and what the machine finds when they are read. */
public final class SheetTest {
    private static final String TEXT = "method;say 1 1 9;say 2 9;say 3;method;say 4 0;class 9;";
    private static final int MAX = Integer.MAX_VALUE;
    private static final int MIN = Integer.MIN_VALUE;

    public static void main(String[] args) {
        sheet();
        newSheetIsOfZeros();
        lay();
        lanes();
        read();
        readIsRefused();
        firstMet();
        machine();
        nothingIsRead();
        wrongReads();
        Due.close("SheetTest");
    }

    private static void sheet() {
        TestChoice x = Due.told(TEXT);
        for (int k = 0; k < 4; k++) {
            for (int lane = 0; lane < 3; lane++) {
                Due.due("26: sheet", x.sheet(k, lane, 40), 1);
                Due.due("26: none", x.sheet(k, lane, 0), 1);
                Due.due("26: above 40", x.sheet(k, lane, 41), -1);
                Due.due("26: SIZE", x.sheet(k, lane, -1), -14);
                Due.due("26: SIZE", x.sheet(k, lane, MIN), -14);
                Due.due("26: far above 40", x.sheet(k, lane, MAX), -1);
            }
        }
        int[][] wrong = {{-1, 0}, {4, 0}, {0, -1}, {0, 3}, {MAX, 0}, {MIN, 0}, {0, MAX}, {0, MIN}};
        for (int[] w : wrong) {
            Due.due("26: sheet(" + w[0] + ", " + w[1] + ", 4)", x.sheet(w[0], w[1], 4), -1);
            Due.due("26: BAD goes ahead of SIZE", x.sheet(w[0], w[1], -1), -1);
        }
        x.sheet(0, 1, 5);
        Due.due("26: SIZE again", x.sheet(0, 2, -5), -14);
        Due.due("26: what is refused changes nothing", x.count(3), 5);
        Due.due("26: nor its lane", x.read(0, 1, 0, 1), 1);
        TestChoice y = new TestChoice();
        Due.due("26: SIZE of nothing", y.sheet(0, 0, -1), -14);
        Due.due("26: nothing still", y.count(3), -4);
    }

    private static void newSheetIsOfZeros() {
        TestChoice x = Due.told(TEXT);
        x.sheet(0, 2, 8);
        for (int i = 0; i < 8; i++) {
            x.lay(0, i, 77);
        }
        Due.due("28: refused", x.read(0, 2, 0, 2), -20);
        x.sheet(0, 2, 8);
        Due.due("26: cells are 0", x.read(0, 2, 0, 2), 2);
        Due.due("26: so it leads to 0", x.node(0, 0, 13), 0);
    }

    private static void lay() {
        TestChoice x = Due.told(TEXT);
        Due.due("27: NULL", x.lay(0, 0, 1), -11);
        Due.due("27: NULL goes ahead of INDEX", x.lay(0, -1, 1), -11);
        x.sheet(0, 0, 3);
        Due.due("27: first", x.lay(0, 0, 1), 1);
        Due.due("27: last", x.lay(0, 2, 1), 1);
        int[] out = {-1, 3, 40, MAX, MIN};
        for (int i : out) {
            Due.due("27: INDEX " + i, x.lay(0, i, 1), -12);
        }
        Due.due("27: another is nothing still", x.lay(3, 0, 1), -11);
        int[] wrong = {-1, 4, MAX, MIN};
        for (int k : wrong) {
            Due.due("27: lay(" + k + ", 0, 0)", x.lay(k, 0, 0), -1);
        }
        x.sheet(0, 0, 0);
        Due.due("27: INDEX of no cells", x.lay(0, 0, 0), -12);
        Due.due("27: torn is not asked of lay", x.torn(), 0);
    }

    private static void row(TestChoice x, int k, int at, int... cells) {
        for (int i = 0; i < cells.length; i++) {
            Due.due("27: lay", x.lay(k, at + i, cells[i]), 1);
        }
    }

    private static void lanes() {
        TestChoice x = Due.told(TEXT);
        // To 9, each by another row of bits beyond those of the lane.
        x.sheet(0, 0, 4);
        row(x, 0, 0, 256, -256, 1 << 30, 9 + 65536);
        Due.due("28: bytes", x.read(0, 0, 0, 1), 1);
        Due.due("28: to 9", x.node(0, 0, 13), 9);
        x.sheet(1, 1, 4);
        row(x, 1, 0, 65536, 0, 1, 1 + (7 << 16));
        Due.due("28: shorts", x.read(1, 1, 0, 1), 1);
        Due.due("28: to 1", x.node(0, 0, 14), 1);
        row(x, 1, 3, 256);
        Due.due("28: 256 is no less by shorts", x.read(1, 1, 0, 1), -20);
        x.sheet(2, 2, 4);
        row(x, 2, 0, 0, 0, 1, 2);
        Due.due("28: ints", x.read(2, 2, 0, 1), 1);
        Due.due("28: to 2", x.node(0, 0, 14), 2);
        row(x, 2, 3, 65536);
        Due.due("28: 65536 is no less by ints", x.read(2, 2, 0, 1), -20);
        row(x, 2, 3, MIN);
        Due.due("28: nor is the least", x.read(2, 2, 0, 1), -20);
        row(x, 0, 3, 128);
        Due.due("28: below 0 by bytes", x.read(0, 0, 0, 1), -20);
    }

    private static void read() {
        TestChoice x = Due.told(TEXT);
        x.sheet(3, 2, 40);
        row(x, 3, 0, 0, 0, 0, 2, 0, 0, 1, 1, 0, 1, 0, 0, 1, 0, 0, 9, 0, 0, 0, 9);
        Due.due("28: two of them", x.read(3, 2, 0, 2), 2);
        Due.due("28: the first", x.node(0, 0, 13), 2);
        Due.due("28: the second", x.node(0, 0, 14), 1);
        Due.due("28: not the third", x.node(0, 1, 13), 9);
        Due.due("28: from a cell on", x.read(3, 2, 8, 2), 2);
        Due.due("28: the third", x.node(0, 1, 13), 0);
        Due.due("28: the fourth", x.node(1, 0, 13), 9);
        Due.due("28: not the fifth", x.node(0, 0, 13), 2);
        Due.due("28: one behind another", x.read(3, 2, 0, 5), 5);
        Due.due("28: the latest holds", x.node(0, 0, 13), 9);
        Due.due("28: the old one stays", x.node(0, 0, 3), 1);
        Due.due("28: ten of them", x.read(3, 2, 0, 10), 10);
        Due.due("29: no fault", x.torn(), 0);
        Due.due("28: the zeros behind", x.node(0, 0, 13), 0);
        Due.due("28: not from a fourth cell", x.read(3, 2, 1, 1), -20);
    }

    private static void readIsRefused() {
        TestChoice x = Due.told(TEXT);
        int[][] wrong = {{2, 0, 0, 0}, {-1, 0, 0, 0}, {0, 3, 0, 0}, {0, -1, 0, 0}, {0, 0, 2, 0}, {0, 0, -1, 0},
            {0, 0, 0, 3}, {0, 0, 0, 10}, {0, 0, 0, -4}, {0, 1, 1, 0}, {0, 2, 0, 9}, {1, 0, 0, 1}};
        x.sheet(0, 0, 40);
        row(x, 0, 0, 0, 0, 0, 2, 0, 0, 1, 2);
        for (int[] w : wrong) {
            row(x, 0, 8, w);
            Due.due("28: the third is refused", x.read(0, 0, 0, 10), -22);
            Due.due("28: none came", x.count(5), 0);
        }
        Due.due("28: refused as the first", x.read(0, 0, 8, 1), -20);
        Due.due("28: those ahead are right", x.read(0, 0, 0, 2), 2);
        Due.due("30: one node is other", x.count(5), 1);
    }

    private static void firstMet() {
        TestChoice x = Due.told(TEXT);
        x.sheet(0, 1, 10);
        row(x, 0, 4, 7);
        Due.due("28: refused ahead of INDEX", x.read(0, 1, 0, 3), -21);
        x.sheet(0, 1, 6);
        row(x, 0, 4, 7);
        Due.due("28: not whole, so it is not looked at", x.read(0, 1, 0, 2), 1);
        Due.due("29: INDEX", x.torn(), 2);
    }

    private static void machine() {
        TestChoice x = Due.told(TEXT);
        Due.due("28: NULL", x.read(0, 0, 0, 1), 0);
        Due.due("29: NULL", x.torn(), 1);
        for (int lane = 0; lane < 3; lane++) {
            x.sheet(0, lane, 4);
            for (int as = 0; as < 3; as++) {
                Due.due("28: as of a lane", x.read(0, as, 0, 1), as == lane ? 1 : 0);
                Due.due("29: CAST", x.torn(), as == lane ? 0 : 3);
                Due.due("28: behind its cells", x.read(0, as, 40, 1), 0);
                Due.due("29: CAST goes ahead of INDEX", x.torn(), as == lane ? 2 : 3);
            }
            Due.due("28: NULL goes ahead of CAST", x.read(1, lane, 0, 1), 0);
            Due.due("29: NULL", x.torn(), 1);
        }
        x.leave();
        x.sheet(0, 2, 11);
        row(x, 0, 0, 0, 0, 0, 2, 0, 0, 1, 0, 9, 9, 9);
        Due.due("28: those that were whole", x.read(0, 2, 0, 10), 2);
        Due.due("29: INDEX", x.torn(), 2);
        Due.due("28: they came", x.node(0, 0, 13) * 10 + x.node(0, 0, 14), 20);
        int[] out = {-1, -4, 8, 9, 11, 12, 40, MAX, MAX - 3, MIN, MIN + 4};
        for (int f : out) {
            x.read(0, 2, 0, 2);
            Due.due("29: none", x.torn(), 0);
            Due.due("28: from " + f, x.read(0, 2, f, 10), 0);
            Due.due("29: INDEX", x.torn(), 2);
        }
    }

    private static void nothingIsRead() {
        TestChoice x = Due.told(TEXT);
        x.sheet(0, 0, 4);
        x.read(1, 0, 0, 1);
        Due.due("29: NULL", x.torn(), 1);
        Due.due("28: nothing", x.read(1, 0, 0, 0), 0);
        Due.due("29: no fault", x.torn(), 0);
        x.read(0, 1, 0, 1);
        Due.due("29: CAST", x.torn(), 3);
        Due.due("28: nothing", x.read(0, 1, 0, 0), 0);
        Due.due("29: no fault", x.torn(), 0);
        x.read(0, 0, 1, 1);
        Due.due("29: INDEX", x.torn(), 2);
        Due.due("28: nothing", x.read(0, 0, MIN, 0), 0);
        Due.due("29: no fault", x.torn(), 0);
        Due.due("28: nothing came", x.count(5), 0);
    }

    private static void wrongReads() {
        TestChoice x = Due.told(TEXT);
        x.sheet(0, 0, 4);
        row(x, 0, 0, 9);
        x.read(0, 1, 0, 1);
        Due.due("29: CAST", x.torn(), 3);
        int[][] wrong = {{-1, 0, 0, 1}, {4, 0, 0, 1}, {0, -1, 0, 1}, {0, 3, 0, 1}, {0, 0, 0, -1}, {0, 0, 0, 11},
            {MAX, 0, 0, 1}, {MIN, 0, 0, 1}, {0, MAX, 0, 1}, {0, MIN, 0, 1}, {0, 0, 0, MAX}, {0, 0, 0, MIN},
            {4, 0, 0, 0}, {0, 3, 0, 0}};
        for (int[] w : wrong) {
            Due.due("28: read(" + w[0] + ", " + w[1] + ", " + w[2] + ", " + w[3] + ")",
                x.read(w[0], w[1], w[2], w[3]), -1);
        }
        Due.due("29: BAD leaves it", x.torn(), 3);
        Due.due("28: refused", x.read(0, 0, 0, 1), -20);
        Due.due("29: what is refused leaves it", x.torn(), 3);
    }
}
