/** The boundaries of SHEETS and of what is read of them: their size, their lanes, what the machine finds first. */
final class BoundsOfSheets {
    private static final int MAX = Sample.MAX;
    private static final int MIN = Sample.MIN;
    private static final String READ = "n (0 to 10) times a METHOD, a NODE, NEXT, where it leads are read of a SHEET taken as "
        + "of a lane, four CELLS each from CELL f on, one behind another as by lead(): how many came.";
    private static final String MACHINE = "What the machine refuses: those that were whole ahead came (its FAULT is asked by "
        + "torn(); of n 0: 0, no FAULT, whatever the SHEET is).";
    private static final String REFUSED = "BAD: k, lane, n; -20 less i: the i-th, whole, is refused by lead(): then none came; "
        + "the first met.";
    private static final String TEXT = "method;say 1 1 9;say 2 9;say 3;method;say 4 0;class 9;";
    private static final int[] LANE_BITS = {8, 16, 32};

    private BoundsOfSheets() {
    }

    static void all() {
        sheets0To3();
        lanes();
        cells0To40();
        faultNumbers();
        sheetIsNew();
        sheetRefused();
        sheetSize();
        layTakesTheLowestBits();
        layNullAndIndex();
        layBad();
        read0To10Times();
        readFourCellsEachFromF();
        readOneBehindAnother();
        machineNull();
        machineCast();
        machineIndex();
        readNothing();
        readBad();
        readRefusedByLead();
        readTheFirstMet();
        torn();
    }

    private static void cells(TestChoice x, int k, int at, int... values) {
        for (int i = 0; i < values.length; i++) {
            Due.due("lay(" + k + ", " + (at + i) + ", " + values[i] + ")", x.lay(k, at + i, values[i]), 1);
        }
    }

    private static void reads(TestChoice x, String call, int got, int want, int torn) {
        Due.due(call, got, want);
        Due.due("torn() behind " + call, x.torn(), torn);
    }

    private static void sheets0To3() {
        Doc.terms("SHEETS 0 to 3 are rows of BYTES (lane 0), SHORTS (1), INTS (2) with 0 to 40 CELLS, or nothing (at first).");
        TestChoice x = Due.told(TEXT);
        for (int k = 0; k < 4; k++) {
            Due.due("nothing at first: lay(" + k + ", 0, 0)", x.lay(k, 0, 0), -11);
        }
        Due.due("sheet(0, 0, 1)", x.sheet(0, 0, 1), 1);
        Due.due("sheet(3, 0, 1)", x.sheet(3, 0, 1), 1);
        Due.due("sheet(4, 0, 1)", x.sheet(4, 0, 1), -1);
        Due.due("sheet(-1, 0, 1)", x.sheet(-1, 0, 1), -1);
        Due.due("SHEET 1 is nothing still", x.lay(1, 0, 0), -11);
        Due.due("SHEET 3 is there", x.lay(3, 0, 0), 1);
    }

    private static void lanes() {
        Doc.terms("SHEETS 0 to 3 are rows of BYTES (lane 0), SHORTS (1), INTS (2) with 0 to 40 CELLS, or nothing (at first).");
        TestChoice x = Due.told(TEXT);
        for (int lane = 0; lane < 3; lane++) {
            Due.due("sheet(0, " + lane + ", 4)", x.sheet(0, lane, 4), 1);
            reads(x, "read(0, " + lane + ", 0, 1)", x.read(0, lane, 0, 1), 1, 0);
            reads(x, "read(0, another, 0, 1)", x.read(0, (lane + 1) % 3, 0, 1), 0, 3);
            reads(x, "read(0, the other, 0, 1)", x.read(0, (lane + 2) % 3, 0, 1), 0, 3);
        }
        Due.due("sheet(0, 3, 4)", x.sheet(0, 3, 4), -1);
        Due.due("sheet(0, -1, 4)", x.sheet(0, -1, 4), -1);
    }

    private static void cells0To40() {
        Doc.terms("SHEETS 0 to 3 are rows of BYTES (lane 0), SHORTS (1), INTS (2) with 0 to 40 CELLS, or nothing (at first).");
        TestChoice x = new TestChoice();
        for (int n : new int[] {0, 1, 39, 40}) {
            Due.due("sheet(0, 2, " + n + ")", x.sheet(0, 2, n), 1);
            Due.due("count(3)", x.count(3), n);
            Due.due("CELL " + n, x.lay(0, n, 1), -12);
            Due.due("CELL " + (n - 1), x.lay(0, n - 1, 1), n > 0 ? 1 : -12);
        }
        Due.due("sheet(0, 2, 41)", x.sheet(0, 2, 41), -1);
        Due.due("sheet(0, 2, -1)", x.sheet(0, 2, -1), -14);
        Due.due("count(3)", x.count(3), 40);
    }

    private static void faultNumbers() {
        Doc.terms("A FAULT is what the machine finds: 1 NULL (nothing), 2 INDEX, 3 CAST (another lane), 4 SIZE (below 0).");
        TestChoice x = Due.told(TEXT);
        reads(x, "NULL: read(0, 0, 0, 1)", x.read(0, 0, 0, 1), 0, 1);
        x.sheet(0, 0, 3);
        reads(x, "INDEX: read(0, 0, 0, 1)", x.read(0, 0, 0, 1), 0, 2);
        reads(x, "CAST: read(0, 1, 0, 1)", x.read(0, 1, 0, 1), 0, 3);
        Due.due("NULL: lay(1, 0, 0)", x.lay(1, 0, 0), -10 - 1);
        Due.due("INDEX: lay(0, 3, 0)", x.lay(0, 3, 0), -10 - 2);
        Due.due("SIZE: sheet(0, 0, -1)", x.sheet(0, 0, -1), -10 - 4);
        reads(x, "SIZE is not asked by torn()", x.read(0, 1, 0, 1), 0, 3);
    }

    private static void sheetIsNew() {
        Doc.promise(26, "A SHEET is a new row of CELLS 0: 1.");
        TestChoice x = Due.told(TEXT);
        for (int lane = 0; lane < 3; lane++) {
            Due.due("sheet(0, lane, 40)", x.sheet(0, lane, 40), 1);
            for (int i = 0; i < 40; i++) {
                x.lay(0, i, -1);
            }
            Due.due("as they were laid: read(0, lane, 36, 1)", x.read(0, lane, 36, 1), -20);
            Due.due("sheet(0, lane, 40) again", x.sheet(0, lane, 40), 1);
            reads(x, "CELLS 0: read(0, lane, 0, 10)", x.read(0, lane, 0, 10), 10, 0);
            Due.due("to NODE 0", x.node(0, 0, 13), 0);
        }
        Due.due("fewer of another lane: sheet(0, 0, 4)", x.sheet(0, 0, 4), 1);
        reads(x, "read(0, 0, 0, 2)", x.read(0, 0, 0, 2), 1, 2);
        Due.due("more again: sheet(0, 0, 8)", x.sheet(0, 0, 8), 1);
        reads(x, "read(0, 0, 0, 2)", x.read(0, 0, 0, 2), 2, 0);
    }

    private static void sheetRefused() {
        Doc.promise(26, "BAD: also n above 40;");
        for (int k : new int[] {-1, 4, MAX, MIN}) {
            Sample.refused("sheet(" + k + ", 0, 4)", x -> x.sheet(k, 0, 4), -1);
            Sample.refused("sheet(" + k + ", 0, -1)", x -> x.sheet(k, 0, -1), -1);
        }
        for (int lane : new int[] {-1, 3, MAX, MIN}) {
            Sample.refused("sheet(1, " + lane + ", 4)", x -> x.sheet(1, lane, 4), -1);
            Sample.refused("sheet(1, " + lane + ", -1)", x -> x.sheet(1, lane, -1), -1);
        }
        for (int n : new int[] {41, 42, 1000, MAX}) {
            Sample.refused("sheet(1, 0, " + n + ")", x -> x.sheet(1, 0, n), -1);
            Sample.refused("sheet(0, 0, " + n + ")", x -> x.sheet(0, 0, n), -1);
        }
    }

    private static void sheetSize() {
        Doc.promise(26, "BAD: also n above 40; -10 - 4.");
        for (int n : new int[] {-1, -2, -40, MIN}) {
            Sample.refused("sheet(1, 0, " + n + ")", x -> x.sheet(1, 0, n), -14);
            Sample.refused("sheet(0, 2, " + n + ")", x -> x.sheet(0, 2, n), -14);
        }
    }

    /** Reads what CELL 3 holds as where NEXT 0 of NODE 0 leads: 0 to 2, or 9, or it is refused. */
    private static void leadsTo(TestChoice x, int lane, int v, int want) {
        x.sheet(0, lane, 4);
        Due.due("lay(0, 3, " + v + ")", x.lay(0, 3, v), 1);
        int got = x.read(0, lane, 0, 1);
        Due.due("by lane " + lane + ", " + v + " is", got == 1 ? x.node(0, 0, 13) : got, want);
    }

    private static void layTakesTheLowestBits() {
        Doc.promise(27, "CELL i of a SHEET becomes v (its lowest bits): 1.");
        for (int lane = 0; lane < 3; lane++) {
            TestChoice x = Due.told(TEXT);
            for (int bits : LANE_BITS) {
                int more = bits < 32 ? 1 << bits : 0;
                boolean beyond = bits >= LANE_BITS[lane];
                leadsTo(x, lane, 2 + more, beyond ? 2 : -20);
                leadsTo(x, lane, 9 - more, beyond ? 9 : -20);
                leadsTo(x, lane, 1 + (1 << (bits - 1)), bits > LANE_BITS[lane] ? 1 : -20);
            }
            leadsTo(x, lane, MIN, lane < 2 ? 0 : -20);
            leadsTo(x, lane, MAX, -20);
            leadsTo(x, lane, -1, -20);
            leadsTo(x, lane, -256 + 9, lane == 0 ? 9 : -20);
            leadsTo(x, lane, -65536 + 9, lane <= 1 ? 9 : -20);
            leadsTo(x, lane, 127, -20);
            leadsTo(x, lane, 32767, -20);
        }
    }

    private static void layNullAndIndex() {
        Doc.promise(27, "BAD: k; -10 less the FAULT: NULL, INDEX.");
        for (int i : new int[] {0, -1, 40, MAX, MIN}) {
            Sample.refused("NULL: lay(0, " + i + ", 1)", x -> x.lay(0, i, 1), -11);
        }
        for (int i : new int[] {-1, 4, 5, 40, 41, MAX, MIN}) {
            Sample.refused("INDEX: lay(1, " + i + ", 1)", x -> x.lay(1, i, 1), -12);
        }
        TestChoice x = Due.told(TEXT);
        x.sheet(0, 0, 40);
        Due.due("the first: lay(0, 0, 1)", x.lay(0, 0, 1), 1);
        Due.due("the last: lay(0, 39, 1)", x.lay(0, 39, 1), 1);
        Due.due("one behind: lay(0, 40, 1)", x.lay(0, 40, 1), -12);
        x.sheet(0, 0, 0);
        Due.due("of no CELLS: lay(0, 0, 1)", x.lay(0, 0, 1), -12);
    }

    private static void layBad() {
        Doc.promise(27, "BAD: k;");
        for (int k : new int[] {-1, 4, MAX, MIN}) {
            Sample.refused("lay(" + k + ", 0, 0)", x -> x.lay(k, 0, 0), -1);
            Sample.refused("lay(" + k + ", -1, 0)", x -> x.lay(k, -1, 0), -1);
        }
    }

    private static void read0To10Times() {
        Doc.promise(28, READ);
        TestChoice x = Due.told(TEXT);
        x.sheet(0, 1, 40);
        for (int n = 0; n <= 10; n++) {
            reads(x, "read(0, 1, 0, " + n + ")", x.read(0, 1, 0, n), n, 0);
        }
        Due.due("read(0, 1, 0, 11)", x.read(0, 1, 0, 11), -1);
        Due.due("read(0, 1, 0, -1)", x.read(0, 1, 0, -1), -1);
    }

    private static void readFourCellsEachFromF() {
        Doc.promise(28, READ);
        TestChoice x = Due.told(TEXT);
        x.sheet(0, 2, 13);
        cells(x, 0, 1, 0, 0, 1, 2, 0, 1, 0, 0, 1, 0, 0, 9);
        reads(x, "read(0, 2, 1, 3)", x.read(0, 2, 1, 3), 3, 0);
        Due.due("NEXT 1 of NODE 0", x.node(0, 0, 14), 2);
        Due.due("NEXT 0 of NODE 1", x.node(0, 1, 13), 0);
        Due.due("NEXT 0 of NODE 0 of METHOD 1", x.node(1, 0, 13), 9);
        Due.due("NEXT 0 of NODE 0, of which none was read", x.node(0, 0, 13), 1);
        Due.due("the OLD PROGRAM stays", x.node(0, 0, 4), 9);
        x.leave();
        reads(x, "the last four: read(0, 2, 9, 1)", x.read(0, 2, 9, 1), 1, 0);
        Due.due("that one", x.node(1, 0, 13), 9);
        Due.due("no other one", x.count(5), 1);
        reads(x, "three are left: read(0, 2, 10, 1)", x.read(0, 2, 10, 1), 0, 2);
        reads(x, "none is left: read(0, 2, 13, 1)", x.read(0, 2, 13, 1), 0, 2);
    }

    private static void readOneBehindAnother() {
        Doc.promise(28, READ);
        TestChoice x = Due.told(TEXT);
        x.sheet(0, 0, 12);
        cells(x, 0, 0, 0, 0, 0, 2, 0, 0, 0, 0, 0, 0, 0, 9);
        reads(x, "read(0, 0, 0, 1)", x.read(0, 0, 0, 1), 1, 0);
        Due.due("as the first says", x.node(0, 0, 13), 2);
        reads(x, "read(0, 0, 0, 2)", x.read(0, 0, 0, 2), 2, 0);
        Due.due("as the second says", x.node(0, 0, 13), 0);
        reads(x, "read(0, 0, 0, 3)", x.read(0, 0, 0, 3), 3, 0);
        Due.due("as the third says", x.node(0, 0, 13), 9);
    }

    private static void machineNull() {
        Doc.promise(28, MACHINE);
        TestChoice x = Due.told(TEXT);
        for (int lane = 0; lane < 3; lane++) {
            reads(x, "no lane: read(0, " + lane + ", 0, 1)", x.read(0, lane, 0, 1), 0, 1);
            reads(x, "nor INDEX: read(0, " + lane + ", -1, 10)", x.read(0, lane, -1, 10), 0, 1);
        }
    }

    private static void machineCast() {
        Doc.promise(28, MACHINE);
        TestChoice x = Due.told(TEXT);
        x.sheet(0, 1, 4);
        x.lay(0, 0, 9);
        reads(x, "ahead of lead(): read(0, 0, 0, 1)", x.read(0, 0, 0, 1), 0, 3);
        reads(x, "ahead of INDEX: read(0, 2, -1, 1)", x.read(0, 2, -1, 1), 0, 3);
        reads(x, "ahead of INDEX: read(0, 2, 0, 10)", x.read(0, 2, 0, 10), 0, 3);
        x.sheet(0, 1, 0);
        reads(x, "of no CELLS: read(0, 2, 0, 1)", x.read(0, 2, 0, 1), 0, 3);
    }

    private static void machineIndex() {
        Doc.promise(28, MACHINE);
        TestChoice x = Due.told(TEXT);
        for (int size = 0; size <= 12; size++) {
            x.sheet(0, 0, size);
            for (int n = 1; n <= 4; n++) {
                int whole = Math.min(n, size / 4);
                reads(x, "of " + size + ": read(0, 0, 0, " + n + ")", x.read(0, 0, 0, n), whole, whole < n ? 2 : 0);
            }
        }
        for (int f : new int[] {-1, -4, 9, 12, 13, 40, MAX, MAX - 2, MIN, MIN + 3}) {
            reads(x, "read(0, 0, " + f + ", 1)", x.read(0, 0, f, 1), 0, 2);
            reads(x, "read(0, 0, " + f + ", 10)", x.read(0, 0, f, 10), 0, 2);
        }
        x.leave();
        x.sheet(1, 0, 11);
        cells(x, 1, 0, 0, 0, 0, 2, 0, 0, 1, 0, 7, 7, 7);
        reads(x, "two are whole: read(1, 0, 0, 3)", x.read(1, 0, 0, 3), 2, 2);
        Due.due("the first came", x.node(0, 0, 13), 2);
        Due.due("the second came", x.node(0, 0, 14), 0);
    }

    private static void readNothing() {
        Doc.promise(28, "of n 0: 0, no FAULT, whatever the SHEET is).");
        TestChoice x = Due.told(TEXT);
        reads(x, "read(0, 0, 0, 1)", x.read(0, 0, 0, 1), 0, 1);
        reads(x, "of nothing: read(0, 0, 0, 0)", x.read(0, 0, 0, 0), 0, 0);
        x.sheet(0, 0, 4);
        reads(x, "read(0, 1, 0, 1)", x.read(0, 1, 0, 1), 0, 3);
        reads(x, "of another lane: read(0, 1, 0, 0)", x.read(0, 1, 0, 0), 0, 0);
        for (int f : new int[] {-1, 5, 41, MAX, MIN}) {
            reads(x, "read(0, 0, " + f + ", 1)", x.read(0, 0, f, 1), 0, 2);
            reads(x, "read(0, 0, " + f + ", 0)", x.read(0, 0, f, 0), 0, 0);
        }
        Due.due("no NODE is other", x.count(5), 0);
    }

    private static void readBad() {
        Doc.promise(28, REFUSED);
        for (int k : new int[] {-1, 4, MAX, MIN}) {
            Sample.refused("read(" + k + ", 0, 0, 1)", x -> x.read(k, 0, 0, 1), -1);
            Sample.refused("read(" + k + ", 0, 0, 0)", x -> x.read(k, 0, 0, 0), -1);
        }
        for (int lane : new int[] {-1, 3, MAX, MIN}) {
            Sample.refused("read(1, " + lane + ", 0, 1)", x -> x.read(1, lane, 0, 1), -1);
            Sample.refused("of nothing: read(0, " + lane + ", 0, 0)", x -> x.read(0, lane, 0, 0), -1);
        }
        for (int n : new int[] {-1, 11, MAX, MIN}) {
            Sample.refused("read(1, 0, 0, " + n + ")", x -> x.read(1, 0, 0, n), -1);
            Sample.refused("of nothing: read(0, 0, 0, " + n + ")", x -> x.read(0, 0, 0, n), -1);
        }
    }

    private static void readRefusedByLead() {
        Doc.promise(28, REFUSED);
        int[][] wrong = {{2, 0, 0, 0}, {-1, 0, 0, 0}, {0, 3, 0, 0}, {0, -1, 0, 0}, {0, 0, 2, 0}, {0, 0, -1, 0}, {0, 1, 1, 0},
            {0, 2, 0, 9}, {0, 0, 0, 3}, {0, 0, 0, 8}, {0, 0, 0, 10}, {0, 0, 0, -1}, {1, 0, 0, 1}, {MAX, MAX, MAX, MAX},
            {MIN, MIN, MIN, MIN}};
        for (int[] w : wrong) {
            TestChoice x = Due.told(TEXT);
            x.sheet(0, 2, 40);
            cells(x, 0, 0, 0, 0, 0, 2);
            for (int i = 9; i >= 0; i--) {
                cells(x, 0, 4 * i, w);
                Due.due("the " + i + "th: read(0, 2, 0, 10)", x.read(0, 2, 0, 10), -20 - i);
                Due.due("none came", x.count(5), 0);
                Due.due("alone: read(0, 2, " + 4 * i + ", 1)", x.read(0, 2, 4 * i, 1), -20);
                cells(x, 0, 4 * i, 0, 0, 0, 2);
            }
            reads(x, "read(0, 2, 0, 10)", x.read(0, 2, 0, 10), 10, 0);
        }
    }

    private static void readTheFirstMet() {
        Doc.promise(28, "the first met.");
        TestChoice x = Due.told(TEXT);
        x.sheet(0, 0, 14);
        cells(x, 0, 4, 9);
        cells(x, 0, 8, 9);
        Due.due("two are refused by lead()", x.read(0, 0, 0, 3), -21);
        Due.due("ahead of INDEX", x.read(0, 0, 0, 4), -21);
        cells(x, 0, 4, 0);
        Due.due("the other one", x.read(0, 0, 0, 4), -22);
        cells(x, 0, 8, 0);
        cells(x, 0, 12, 9);
        reads(x, "INDEX ahead of that which is not whole", x.read(0, 0, 0, 4), 3, 2);
        reads(x, "INDEX ahead of those behind: read(0, 0, -4, 4)", x.read(0, 0, -4, 4), 0, 2);
    }

    private static void torn() {
        Doc.promise(29, "The FAULT of the latest read() that answered 0 or more; 0 (one that is refused leaves it).");
        TestChoice x = Due.told(TEXT);
        Due.due("torn() ahead of all", x.torn(), 0);
        Due.due("read(4, 0, 0, 1)", x.read(4, 0, 0, 1), -1);
        Due.due("torn()", x.torn(), 0);
        reads(x, "read(0, 0, 0, 1)", x.read(0, 0, 0, 1), 0, 1);
        x.sheet(0, 0, 4);
        x.lay(0, 4, 9);
        x.sheet(0, 0, -1);
        reads(x, "BAD: read(0, 0, 0, 11)", x.read(0, 0, 0, 11), -1, 1);
        x.lay(0, 0, 9);
        reads(x, "refused: read(0, 0, 0, 1)", x.read(0, 0, 0, 1), -20, 1);
        reads(x, "CAST: read(0, 1, 0, 1)", x.read(0, 1, 0, 1), 0, 3);
        reads(x, "refused: read(0, 0, 0, 2)", x.read(0, 0, 0, 2), -20, 3);
        x.lay(0, 0, 0);
        reads(x, "INDEX: read(0, 0, 0, 2)", x.read(0, 0, 0, 2), 1, 2);
        reads(x, "read(0, 0, 0, 1)", x.read(0, 0, 0, 1), 1, 0);
        reads(x, "refused: read(0, 3, 0, 1)", x.read(0, 3, 0, 1), -1, 0);
        reads(x, "INDEX: read(0, 0, 1, 1)", x.read(0, 0, 1, 1), 0, 2);
        reads(x, "read(0, 0, 1, 0)", x.read(0, 0, 1, 0), 0, 0);
    }
}
