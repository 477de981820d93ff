import java.util.Arrays;

/** Chooses the tests that must be run again when a program changes. */
public final class TestChoice {
    public static final int BAD = -1, STATE = -2, FULL = -3, NONE = -4;

    private static final int END = 9;
    private static final int SAYS = 0, CALLS = 1;
    private static final int MOST_METHODS = 6, MOST_NODES = 8, MOST_CLASSES = 4, MOST_TESTS = 8;
    private static final int NAMES = 4, WAYS = 2, MOST_NUMBER = 9, MOST_DECISIONS = 255, MOST_COST = 9;

    private static final int NEXT_EDGES = 96, ENTERING = 100, CALLING = 200, EDGES = 216;
    private static final int MOST_STEPS = 60, MOST_CALLS = 4;

    private static final int TAPE_ROOM = 320, MOST_BYTE = 127;
    private static final int IMAGES = 2;
    private static final int SHEETS = 4, MOST_CELLS = 40, CELLS_EACH = 4, MOST_READ = 10;
    private static final int BYTES = 0, SHORTS = 1, INTS = 2;
    private static final int NULL = 1, INDEX = 2, CAST = 3, SIZE = 4;

    private final Tape tape = new Tape();
    private final Reader reader = new Reader(tape);
    private final Program old = new Program();
    private final Program now = new Program();
    private final Tests tests = new Tests();
    private final Run run = new Run();
    private final Danger danger = new Danger(old, now);
    private final Choice choice = new Choice(old, tests, danger, run);
    private final Image[] images = new Image[IMAGES];
    private final Sheet[] sheets = new Sheet[SHEETS];
    private int textFault;
    private int readFault;

    public TestChoice() {
        for (int k = 0; k < IMAGES; k++) {
            images[k] = new Image();
        }
        for (int k = 0; k < SHEETS; k++) {
            sheets[k] = new Sheet();
        }
    }

    // ---- the text

    public int feed(int c) {
        if (c < 0 || c > MOST_BYTE) {
            return BAD;
        }
        if (tape.length >= TAPE_ROOM) {
            return FULL;
        }
        tape.append(c);
        return tape.length;
    }

    public int end(int n) {
        if (n < 0 || n > tape.length) {
            return BAD;
        }
        int had = tape.length;
        tape.length = n;
        return had;
    }

    public int text() {
        reader.readAll();
        tape.length = 0;
        textFault = reader.fault;
        if (reader.fault != 0) {
            return -10 - reader.place;
        }
        old.becomeAs(reader.draft);
        now.becomeAs(reader.draft);
        tests.becomeAs(reader.drafted);
        for (int k = 0; k < IMAGES; k++) {
            images[k].there = false;
        }
        return reader.lines;
    }

    public int fault() {
        return textFault;
    }

    public int rule(int what) {
        switch (what) {
            case 0:
                return old.methods;
            case 1:
                return old.nodesOfAll();
            case 2:
                return old.classes;
            case 3:
                return tests.size;
            case 4:
                return edgesInDanger();
            case 5:
                choice.choose();
                return choice.chosen;
            case 6:
                choice.choose();
                return choice.costOfChosen();
            case 7:
                return testsThatSayOther();
            default:
                return BAD;
        }
    }

    public int node(int m, int i, int what) {
        if (!old.hasNode(m, i)) {
            return BAD;
        }
        if (what >= 0 && what <= 4) {
            return old.partOf(m, i, what);
        }
        if (what >= 10 && what <= 14) {
            return now.partOf(m, i, what - 10);
        }
        return BAD;
    }

    public int meant(int c, int name, int what) {
        if (!old.hasClass(c) || !isName(name) || what < 0 || what > 1) {
            return BAD;
        }
        return programOf(what).meantBy(c, name);
    }

    public int test(int t, int what) {
        if (!tests.isThere(t)) {
            return BAD;
        }
        switch (what) {
            case 0:
                return tests.classes[t];
            case 1:
                return tests.decisions[t];
            case 2:
                return tests.costs[t];
            case 3:
                runTest(old, t);
                return run.steps;
            case 4:
                runTest(now, t);
                return run.steps;
            case 5:
            case 6:
            case 7:
            case 8:
                choice.choose();
                return choice.tellTest(t, what);
            default:
                return BAD;
        }
    }

    public int said(int t, int what) {
        if (!tests.isThere(t) || what < 0 || what > 1) {
            return 0;
        }
        runTest(programOf(what), t);
        return run.words;
    }

    public int edge(int e, int what) {
        if (!old.hasEdge(e) || what < 0 || what > 1) {
            return BAD;
        }
        choice.choose();
        return what == 0 ? danger.edges.holds(e) : choice.testsOver(e);
    }

    public int covers(int t, int e) {
        if (!tests.isThere(t) || !old.hasEdge(e)) {
            return BAD;
        }
        runTest(old, t);
        return run.gone.holds(e);
    }

    public int order(int i, int what) {
        if (i < 0 || what < 0 || what > 1) {
            return BAD;
        }
        choice.choose();
        if (i >= choice.chosen) {
            return NONE;
        }
        return what == 0 ? choice.ranked[i] : choice.gains[i];
    }

    public int same(int c) {
        if (!old.hasClass(c)) {
            return BAD;
        }
        int alike = 0;
        for (int d = 0; d <= MOST_DECISIONS; d++) {
            if (saysTheSame(c, d)) {
                alike++;
            }
        }
        return alike;
    }

    // ---- the NEW PROGRAM

    public int say(int m, int i, int kind, int n) {
        if (!now.hasNode(m, i) || !isNode(kind, n)) {
            return BAD;
        }
        int at = placeOf(m, i);
        int was = 10 * now.kinds[at] + now.numbers[at];
        now.kinds[at] = kind;
        now.numbers[at] = n;
        return was;
    }

    public int lead(int m, int i, int k, int to) {
        if (!now.mayTurn(m, i, k, to)) {
            return BAD;
        }
        int was = now.nextOf(m, i, k);
        now.turn(m, i, k, to);
        return was;
    }

    public int nexts(int m, int i, int n) {
        if (!now.hasNode(m, i) || n < 0 || n > WAYS) {
            return BAD;
        }
        int had = now.ways[placeOf(m, i)];
        now.widen(m, i, n);
        return had;
    }

    public int has(int c, int name, int m) {
        if (!now.hasClass(c) || !isName(name) || (m != NONE && !now.hasMethod(m))) {
            return BAD;
        }
        int had = now.owned[NAMES * c + name];
        now.owned[NAMES * c + name] = m;
        return had;
    }

    public int take() {
        int found = edgesInDanger();
        old.becomeAs(now);
        return found;
    }

    public int leave() {
        int found = edgesInDanger();
        now.becomeAs(old);
        return found;
    }

    // ---- tests

    public int add(int c, int decisions, int cost) {
        if (!old.hasClass(c) || decisions < 0 || decisions > MOST_DECISIONS || cost < 1 || cost > MOST_COST) {
            return BAD;
        }
        if (tests.isFull()) {
            return FULL;
        }
        tests.append(c, decisions, cost);
        return tests.size;
    }

    public int drop(int t) {
        if (!tests.isThere(t)) {
            return BAD;
        }
        tests.remove(t);
        return tests.size;
    }

    public int draw(int seed, int n) {
        if (n < 1 || n > MOST_TESTS) {
            return BAD;
        }
        if (old.classes < 1) {
            return STATE;
        }
        int came = 0;
        int drawn = seed;
        while (came < n && !tests.isFull()) {
            drawn = drawn * 1103515245 + 12345;
            int got = drawn >>> 16 & 32767;
            tests.append(got % old.classes, got / 4 % (MOST_DECISIONS + 1), got / 1024 % MOST_COST + 1);
            came++;
        }
        return came;
    }

    // ---- images, sheets

    public int keep(int k) {
        if (!isImage(k)) {
            return BAD;
        }
        int was = images[k].there ? 1 : 0;
        images[k].there = true;
        images[k].wasOld.becomeAs(old);
        images[k].wasNow.becomeAs(now);
        images[k].tests.becomeAs(tests);
        return was;
    }

    public int back(int k) {
        if (!isImage(k)) {
            return BAD;
        }
        if (!images[k].there) {
            return STATE;
        }
        old.becomeAs(images[k].wasOld);
        now.becomeAs(images[k].wasNow);
        tests.becomeAs(images[k].tests);
        return tests.size;
    }

    public int sheet(int k, int lane, int n) {
        if (!isSheet(k) || !isLane(lane) || n > MOST_CELLS) {
            return BAD;
        }
        if (n < 0) {
            return -10 - SIZE;
        }
        sheets[k].renew(lane, n);
        return 1;
    }

    public int lay(int k, int i, int v) {
        if (!isSheet(k)) {
            return BAD;
        }
        if (!sheets[k].there) {
            return -10 - NULL;
        }
        if (i < 0 || i >= sheets[k].size) {
            return -10 - INDEX;
        }
        sheets[k].put(i, v);
        return 1;
    }

    public int read(int k, int lane, int f, int n) {
        if (!isSheet(k) || !isLane(lane) || n < 0 || n > MOST_READ) {
            return BAD;
        }
        int fault = n == 0 ? 0 : sheets[k].faultAs(lane);
        int whole = fault != 0 ? 0 : sheets[k].wholeFrom(f, n);
        int refused = firstRefused(sheets[k], f, whole);
        if (refused < whole) {
            return -20 - refused;
        }
        turnAll(sheets[k], f, whole);
        readFault = fault == 0 && whole < n ? INDEX : fault;
        return whole;
    }

    public int torn() {
        return readFault;
    }

    public int count(int what) {
        switch (what) {
            case 0:
                return imagesKept();
            case 1:
                return old.nodesThatCall();
            case 2:
                return tape.length;
            case 3:
                return sheets[0].there ? sheets[0].size : NONE;
            case 4:
                choice.choose();
                return choice.edgesOver();
            case 5:
                return now.nodesOtherThan(old);
            default:
                return BAD;
        }
    }

    // ---- what the calls share

    private Program programOf(int what) {
        return what == 0 ? old : now;
    }

    private void runTest(Program program, int t) {
        run.begin(program, tests.classes[t], tests.decisions[t]);
    }

    private int edgesInDanger() {
        danger.compare();
        return danger.edges.size();
    }

    private boolean saysTheSame(int c, int decisions) {
        run.begin(old, c, decisions);
        int first = run.words;
        run.begin(now, c, decisions);
        return first == run.words;
    }

    private int testsThatSayOther() {
        int other = 0;
        for (int t = 0; t < tests.size; t++) {
            if (!saysTheSame(tests.classes[t], tests.decisions[t])) {
                other++;
            }
        }
        return other;
    }

    private int imagesKept() {
        int kept = 0;
        for (int k = 0; k < IMAGES; k++) {
            if (images[k].there) {
                kept++;
            }
        }
        return kept;
    }

    // The check goes ahead of all leading: one that is refused lets none come,
    // and no NEXT that is led elsewhere makes another one of them right or wrong.
    private int firstRefused(Sheet sheet, int f, int whole) {
        for (int i = 0; i < whole; i++) {
            int at = f + CELLS_EACH * i;
            if (!now.mayTurn(sheet.cellAt(at), sheet.cellAt(at + 1), sheet.cellAt(at + 2), sheet.cellAt(at + 3))) {
                return i;
            }
        }
        return whole;
    }

    private void turnAll(Sheet sheet, int f, int whole) {
        for (int i = 0; i < whole; i++) {
            int at = f + CELLS_EACH * i;
            now.turn(sheet.cellAt(at), sheet.cellAt(at + 1), sheet.cellAt(at + 2), sheet.cellAt(at + 3));
        }
    }

    private static boolean isName(int name) {
        return name >= 0 && name < NAMES;
    }

    private static boolean isNode(int kind, int n) {
        return kind == SAYS && n >= 0 && n <= MOST_NUMBER || kind == CALLS && isName(n);
    }

    private static boolean isImage(int k) {
        return k >= 0 && k < IMAGES;
    }

    private static boolean isSheet(int k) {
        return k >= 0 && k < SHEETS;
    }

    private static boolean isLane(int lane) {
        return lane >= BYTES && lane <= INTS;
    }

    private static int placeOf(int m, int i) {
        return MOST_NODES * m + i;
    }

    private static int edgeOfNext(int m, int i, int k) {
        return WAYS * MOST_NODES * m + WAYS * i + k;
    }

    private static int edgeOfCall(int c, int name) {
        return CALLING + NAMES * c + name;
    }

    /** Methods as graphs of nodes, and the classes by which they are called. */
    private static final class Program {
        int methods;
        int classes;
        final int[] nodes = new int[MOST_METHODS];
        final int[] kinds = new int[MOST_METHODS * MOST_NODES];
        final int[] numbers = new int[MOST_METHODS * MOST_NODES];
        final int[] ways = new int[MOST_METHODS * MOST_NODES];
        final int[] leads = new int[NEXT_EDGES];
        final int[] under = new int[MOST_CLASSES];
        final int[] owned = new int[MOST_CLASSES * NAMES];

        void clear() {
            methods = 0;
            classes = 0;
            Arrays.fill(leads, NONE);
            Arrays.fill(owned, NONE);
        }

        void becomeAs(Program other) {
            methods = other.methods;
            classes = other.classes;
            System.arraycopy(other.nodes, 0, nodes, 0, nodes.length);
            System.arraycopy(other.kinds, 0, kinds, 0, kinds.length);
            System.arraycopy(other.numbers, 0, numbers, 0, numbers.length);
            System.arraycopy(other.ways, 0, ways, 0, ways.length);
            System.arraycopy(other.leads, 0, leads, 0, leads.length);
            System.arraycopy(other.under, 0, under, 0, under.length);
            System.arraycopy(other.owned, 0, owned, 0, owned.length);
        }

        boolean hasMethod(int m) {
            return m >= 0 && m < methods;
        }

        boolean hasNode(int m, int i) {
            return hasMethod(m) && i >= 0 && i < nodes[m];
        }

        boolean hasNext(int m, int i, int k) {
            return hasNode(m, i) && k >= 0 && k < ways[placeOf(m, i)];
        }

        boolean hasClass(int c) {
            return c >= 0 && c < classes;
        }

        boolean hasEdge(int e) {
            if (e < 0) {
                return false;
            }
            if (e < NEXT_EDGES) {
                int place = e / WAYS;
                return hasNext(place / MOST_NODES, place % MOST_NODES, e % WAYS);
            }
            if (e < CALLING) {
                return hasMethod(e - ENTERING);
            }
            return hasClass((e - CALLING) / NAMES);
        }

        int nextOf(int m, int i, int k) {
            return leads[edgeOfNext(m, i, k)];
        }

        boolean mayTurn(int m, int i, int k, int to) {
            return hasNext(m, i, k) && (to == END || hasNode(m, to));
        }

        void turn(int m, int i, int k, int to) {
            if (hasNext(m, i, k)) {
                leads[edgeOfNext(m, i, k)] = to;
            }
        }

        void widen(int m, int i, int n) {
            int at = placeOf(m, i);
            for (int k = 0; k < WAYS; k++) {
                if (k >= n) {
                    leads[edgeOfNext(m, i, k)] = NONE;
                } else if (k >= ways[at]) {
                    leads[edgeOfNext(m, i, k)] = END;
                }
            }
            ways[at] = n;
        }

        int meantBy(int c, int name) {
            int at = c;
            for (int up = 0; up < MOST_CLASSES && at >= 0 && at < classes; up++) {
                if (owned[NAMES * at + name] != NONE) {
                    return owned[NAMES * at + name];
                }
                at = under[at];
            }
            return NONE;
        }

        int partOf(int m, int i, int what) {
            int at = placeOf(m, i);
            switch (what) {
                case 0:
                    return kinds[at];
                case 1:
                    return numbers[at];
                case 2:
                    return ways[at];
                case 3:
                    return nextOf(m, i, 0);
                default:
                    return nextOf(m, i, 1);
            }
        }

        int nodesOfAll() {
            int all = 0;
            for (int m = 0; m < methods; m++) {
                all += nodes[m];
            }
            return all;
        }

        int nodesThatCall() {
            int calling = 0;
            for (int m = 0; m < methods; m++) {
                for (int i = 0; i < nodes[m]; i++) {
                    if (kinds[placeOf(m, i)] == CALLS) {
                        calling++;
                    }
                }
            }
            return calling;
        }

        int nodesOtherThan(Program before) {
            int other = 0;
            for (int m = 0; m < methods; m++) {
                for (int i = 0; i < nodes[m]; i++) {
                    if (!isNodeAsIn(before, m, i)) {
                        other++;
                    }
                }
            }
            return other;
        }

        private boolean isNodeAsIn(Program before, int m, int i) {
            for (int what = 0; what <= 4; what++) {
                if (partOf(m, i, what) != before.partOf(m, i, what)) {
                    return false;
                }
            }
            return true;
        }

        void appendMethod() {
            if (methods < MOST_METHODS) {
                nodes[methods] = 0;
                methods++;
            }
        }

        void appendNode(int kind, int number) {
            int m = methods - 1;
            if (m >= 0 && nodes[m] < MOST_NODES) {
                int at = placeOf(m, nodes[m]);
                kinds[at] = kind;
                numbers[at] = number;
                ways[at] = 0;
                nodes[m]++;
            }
        }

        void appendNext(int to) {
            int m = methods - 1;
            if (m >= 0 && nodes[m] > 0) {
                int i = nodes[m] - 1;
                int at = placeOf(m, i);
                if (ways[at] < WAYS) {
                    leads[edgeOfNext(m, i, ways[at])] = to;
                    ways[at]++;
                }
            }
        }

        void appendClass(int above) {
            if (classes < MOST_CLASSES) {
                under[classes] = above;
                classes++;
            }
        }

        boolean leadsOnlyToNodes() {
            for (int m = 0; m < methods; m++) {
                for (int i = 0; i < nodes[m]; i++) {
                    for (int k = 0; k < ways[placeOf(m, i)]; k++) {
                        if (nextOf(m, i, k) != END && nextOf(m, i, k) >= nodes[m]) {
                            return false;
                        }
                    }
                }
            }
            return true;
        }
    }

    /** The tests, each of a class, with its decisions and what it costs. */
    private static final class Tests {
        int size;
        final int[] classes = new int[MOST_TESTS];
        final int[] decisions = new int[MOST_TESTS];
        final int[] costs = new int[MOST_TESTS];

        boolean isThere(int t) {
            return t >= 0 && t < size;
        }

        boolean isFull() {
            return size >= MOST_TESTS;
        }

        void becomeAs(Tests other) {
            size = other.size;
            System.arraycopy(other.classes, 0, classes, 0, MOST_TESTS);
            System.arraycopy(other.decisions, 0, decisions, 0, MOST_TESTS);
            System.arraycopy(other.costs, 0, costs, 0, MOST_TESTS);
        }

        void append(int c, int bits, int cost) {
            if (!isFull()) {
                classes[size] = c;
                decisions[size] = bits;
                costs[size] = cost;
                size++;
            }
        }

        void remove(int t) {
            for (int at = t; at + 1 < size; at++) {
                classes[at] = classes[at + 1];
                decisions[at] = decisions[at + 1];
                costs[at] = costs[at + 1];
            }
            size--;
        }
    }

    /** A set of edges, by a bit for each. */
    private static final class EdgeSet {
        private static final int ROWS = 4, ROW_BITS = 64;
        private final long[] rows = new long[ROWS];

        void clear() {
            Arrays.fill(rows, 0L);
        }

        void becomeAs(EdgeSet other) {
            System.arraycopy(other.rows, 0, rows, 0, ROWS);
        }

        void put(int e) {
            if (e >= 0 && e < EDGES) {
                rows[e / ROW_BITS] |= 1L << (e % ROW_BITS);
            }
        }

        void putAll(EdgeSet other) {
            for (int r = 0; r < ROWS; r++) {
                rows[r] |= other.rows[r];
            }
        }

        void takeOut(EdgeSet other) {
            for (int r = 0; r < ROWS; r++) {
                rows[r] &= ~other.rows[r];
            }
        }

        int holds(int e) {
            return e >= 0 && e < EDGES ? (int) (rows[e / ROW_BITS] >>> (e % ROW_BITS) & 1L) : 0;
        }

        int size() {
            return sizeWithin(this);
        }

        int sizeWithin(EdgeSet other) {
            int both = 0;
            for (int r = 0; r < ROWS; r++) {
                both += Long.bitCount(rows[r] & other.rows[r]);
            }
            return both;
        }
    }

    /** One run by a program: what it says, how far it goes, over which edges. */
    private static final class Run {
        int words;
        int steps;
        final EdgeSet gone = new EdgeSet();
        private Program program;
        private int byClass;
        private int decisions;
        private int asked;
        private boolean cutOff;

        void begin(Program by, int c, int bits) {
            program = by;
            byClass = c;
            decisions = bits;
            words = 0;
            steps = 0;
            asked = 0;
            cutOff = false;
            gone.clear();
            if (program.methods > 0) {
                enter(0, 0);
            }
        }

        private void enter(int m, int calls) {
            words = 31 * words + m + 101;
            gone.put(ENTERING + m);
            int i = program.nodes[m] > 0 ? 0 : END;
            for (int at = 0; at <= MOST_STEPS && i != END; at++) {
                i = visit(m, i, calls);
            }
        }

        // What has been cut off leads to the end from every call it stands in.
        private int visit(int m, int i, int calls) {
            if (steps >= MOST_STEPS) {
                cutOff = true;
                return END;
            }
            steps++;
            int at = placeOf(m, i);
            int number = program.numbers[at];
            if (program.kinds[at] == CALLS) {
                words = 31 * words + number + 11;
                enterMeant(number, calls);
            } else {
                words = 31 * words + number + 1;
            }
            return cutOff ? END : goOn(m, i, program.ways[at]);
        }

        private void enterMeant(int name, int calls) {
            gone.put(edgeOfCall(byClass, name));
            int m = program.meantBy(byClass, name);
            if (m != NONE && calls < MOST_CALLS) {
                enter(m, calls + 1);
            }
        }

        private int goOn(int m, int i, int ways) {
            if (ways == 0) {
                return END;
            }
            int e = edgeOfNext(m, i, ways == 1 ? 0 : decide());
            gone.put(e);
            return program.leads[e];
        }

        private int decide() {
            int bit = decisions >> (asked & 7) & 1;
            asked++;
            return bit;
        }
    }

    /** The edges behind which the old and the new program are not alike. */
    private static final class Danger {
        private static final int MOST_PAIRS = MOST_NODES * MOST_NODES;
        final EdgeSet edges = new EdgeSet();
        private final Program old;
        private final Program now;
        private final int[] paired = new int[MOST_PAIRS];
        private final int[] pairs = new int[MOST_PAIRS];
        private int found;

        Danger(Program old, Program now) {
            this.old = old;
            this.now = now;
        }

        void compare() {
            edges.clear();
            for (int m = 0; m < old.methods; m++) {
                compareMethod(m);
            }
            for (int c = 0; c < old.classes; c++) {
                for (int name = 0; name < NAMES; name++) {
                    if (old.meantBy(c, name) != now.meantBy(c, name)) {
                        edges.put(edgeOfCall(c, name));
                    }
                }
            }
        }

        private void compareMethod(int m) {
            found = 0;
            Arrays.fill(paired, 0);
            if (old.nodes[m] == 0) {
                return;
            }
            if (!pairUp(m, 0, 0)) {
                edges.put(ENTERING + m);
            }
            for (int p = 0; p < found && p < MOST_PAIRS; p++) {
                compareNexts(m, pairs[p] / MOST_NODES, pairs[p] % MOST_NODES);
            }
        }

        private void compareNexts(int m, int i, int j) {
            for (int k = 0; k < old.ways[placeOf(m, i)]; k++) {
                int was = old.nextOf(m, i, k);
                int is = now.nextOf(m, j, k);
                boolean bothEnd = was == END && is == END;
                boolean oneEnds = was == END || is == END;
                if (!bothEnd && (oneEnds || !pairUp(m, was, is))) {
                    edges.put(edgeOfNext(m, i, k));
                }
            }
        }

        // Nodes that have been paired before are alike, too, but are not followed again.
        private boolean pairUp(int m, int i, int j) {
            if (!areAlike(placeOf(m, i), placeOf(m, j))) {
                return false;
            }
            int pair = MOST_NODES * i + j;
            if (paired[pair] == 0 && found < MOST_PAIRS) {
                paired[pair] = 1;
                pairs[found] = pair;
                found++;
            }
            return true;
        }

        private boolean areAlike(int was, int is) {
            return old.kinds[was] == now.kinds[is]
                && old.numbers[was] == now.numbers[is]
                && old.ways[was] == now.ways[is];
        }
    }

    /** What each test covers, which ones are chosen, and their order. */
    private static final class Choice {
        int chosen;
        final int[] ranked = new int[MOST_TESTS];
        final int[] gains = new int[MOST_TESTS];
        private final int[] rankOf = new int[MOST_TESTS];
        private final EdgeSet[] covered = new EdgeSet[MOST_TESTS];
        private final EdgeSet left = new EdgeSet();
        private final EdgeSet any = new EdgeSet();
        private final Program old;
        private final Tests tests;
        private final Danger danger;
        private final Run run;

        Choice(Program old, Tests tests, Danger danger, Run run) {
            this.old = old;
            this.tests = tests;
            this.danger = danger;
            this.run = run;
            for (int t = 0; t < MOST_TESTS; t++) {
                covered[t] = new EdgeSet();
            }
        }

        void choose() {
            danger.compare();
            for (int t = 0; t < tests.size; t++) {
                run.begin(old, tests.classes[t], tests.decisions[t]);
                covered[t].becomeAs(run.gone);
            }
            rankAll();
        }

        int tellTest(int t, int what) {
            switch (what) {
                case 5:
                    return rankOf[t] == NONE ? 0 : 1;
                case 6:
                    return rankOf[t];
                case 7:
                    return covered[t].size();
                default:
                    return covered[t].sizeWithin(danger.edges);
            }
        }

        int costOfChosen() {
            int cost = 0;
            for (int i = 0; i < chosen; i++) {
                cost += tests.costs[ranked[i]];
            }
            return cost;
        }

        int testsOver(int e) {
            int over = 0;
            for (int t = 0; t < tests.size; t++) {
                over += covered[t].holds(e);
            }
            return over;
        }

        int edgesOver() {
            any.clear();
            for (int t = 0; t < tests.size; t++) {
                any.putAll(covered[t]);
            }
            return any.size();
        }

        private void rankAll() {
            chosen = 0;
            Arrays.fill(rankOf, NONE);
            left.becomeAs(danger.edges);
            for (int i = 0; i < tests.size; i++) {
                int t = nextOne();
                if (t == NONE) {
                    return;
                }
                rank(t);
            }
        }

        private int nextOne() {
            int best = NONE;
            int most = 0;
            for (int t = 0; t < tests.size; t++) {
                if (rankOf[t] == NONE && covered[t].sizeWithin(danger.edges) > 0) {
                    int fresh = covered[t].sizeWithin(left);
                    // By products: fractions are compared without being rounded.
                    if (best == NONE || fresh * tests.costs[best] > most * tests.costs[t]) {
                        best = t;
                        most = fresh;
                    }
                }
            }
            return best;
        }

        private void rank(int t) {
            ranked[chosen] = t;
            gains[chosen] = covered[t].sizeWithin(left);
            rankOf[t] = chosen;
            chosen++;
            left.takeOut(covered[t]);
        }
    }

    /** Both programs and the tests as they were when it was kept. */
    private static final class Image {
        boolean there;
        final Program wasOld = new Program();
        final Program wasNow = new Program();
        final Tests tests = new Tests();
    }

    /** A row of bytes, shorts or ints, or nothing. */
    private static final class Sheet {
        boolean there;
        int size;
        private int lane;
        private final int[] cells = new int[MOST_CELLS];

        void renew(int newLane, int n) {
            there = true;
            lane = newLane;
            size = n;
            Arrays.fill(cells, 0);
        }

        void put(int i, int v) {
            if (lane == BYTES) {
                cells[i] = (byte) v;
            } else if (lane == SHORTS) {
                cells[i] = (short) v;
            } else {
                cells[i] = v;
            }
        }

        int cellAt(int i) {
            return i >= 0 && i < size ? cells[i] : 0;
        }

        // Nothing can be taken as of any lane: that it is nothing is found behind the cast.
        int faultAs(int askedLane) {
            if (!there) {
                return NULL;
            }
            return lane != askedLane ? CAST : 0;
        }

        int wholeFrom(int f, int n) {
            if (f < 0 || f > size) {
                return 0;
            }
            return Math.min(n, (size - f) / CELLS_EACH);
        }
    }

    /** The bytes of a text, and the token that is read of it. */
    private static final class Tape {
        static final int NO_TOKEN = 0, WORD = 1, NUMBER = 2, STOP = 3, NO_MORE = 4;
        private static final int MOST_FIGURES = 3;
        int length;
        int token;
        int start;
        int value;
        private int behind;
        private final byte[] bytes = new byte[TAPE_ROOM];

        void append(int c) {
            if (length < TAPE_ROOM) {
                bytes[length] = (byte) c;
                length++;
            }
        }

        void rewind() {
            behind = 0;
        }

        void advance() {
            start = behind;
            while (start < length && bytes[start] == ' ') {
                start++;
            }
            behind = start;
            if (start >= length) {
                token = NO_MORE;
            } else if (bytes[start] == ';') {
                token = STOP;
                behind = start + 1;
            } else if (isLetter(bytes[start])) {
                takeWord();
            } else if (isFigure(bytes[start])) {
                takeNumber();
            } else {
                token = NO_TOKEN;
            }
        }

        boolean isWord(String word) {
            if (token != WORD || behind - start != word.length()) {
                return false;
            }
            for (int i = 0; i < word.length(); i++) {
                if (bytes[start + i] != word.charAt(i)) {
                    return false;
                }
            }
            return true;
        }

        private void takeWord() {
            token = WORD;
            while (behind < length && isLetter(bytes[behind])) {
                behind++;
            }
        }

        private void takeNumber() {
            value = 0;
            while (behind < length && isFigure(bytes[behind])) {
                value = 10 * value + bytes[behind] - '0';
                behind++;
            }
            token = behind - start > MOST_FIGURES ? NO_TOKEN : NUMBER;
        }

        private static boolean isLetter(int c) {
            return c >= 'a' && c <= 'z';
        }

        private static boolean isFigure(int c) {
            return c >= '0' && c <= '9';
        }
    }

    /** Reads a tape into a draft; its first fault ends it. */
    private static final class Reader {
        private static final int METHOD_LINE = 0, SAY_LINE = 1, CALL_LINE = 2;
        private static final int CLASS_LINE = 3, HAS_LINE = 4, TEST_LINE = 5, NO_LINE = 6;
        private static final int NO_TOKEN_FAULT = 1, WRONG_TOKEN = 2, OUT_OF_BOUNDS = 3, TOO_MANY = 5, NOT_THERE = 6;
        private static final int MOST_ARGUMENTS = 3;
        int fault;
        int place;
        int lines;
        final Program draft = new Program();
        final Tests drafted = new Tests();
        private final Tape tape;
        private final int[] arguments = new int[MOST_ARGUMENTS];
        private int latestClass;
        private int latestMethod;

        Reader(Tape tape) {
            this.tape = tape;
        }

        void readAll() {
            fault = 0;
            lines = 0;
            latestClass = NONE;
            latestMethod = NONE;
            draft.clear();
            drafted.size = 0;
            tape.rewind();
            advance();
            for (int i = 0; i <= TAPE_ROOM && fault == 0 && tape.token != Tape.NO_MORE; i++) {
                readLine();
            }
            if (fault == 0 && tellsWhatIsNotThere()) {
                fail(NOT_THERE);
            }
        }

        private void fail(int what) {
            fault = what;
            place = tape.start;
        }

        private void advance() {
            tape.advance();
            if (tape.token == Tape.NO_TOKEN) {
                fail(NO_TOKEN_FAULT);
            }
        }

        private void readLine() {
            int line = lineOfWord();
            if (line == NO_LINE) {
                fail(WRONG_TOKEN);
            } else if (!hasRoomFor(line)) {
                fail(TOO_MANY);
            } else {
                readRest(line);
            }
        }

        private int lineOfWord() {
            for (int line = 0; line < NO_LINE; line++) {
                if (tape.isWord(wordOf(line))) {
                    return line;
                }
            }
            return NO_LINE;
        }

        private static String wordOf(int line) {
            switch (line) {
                case METHOD_LINE:
                    return "method";
                case SAY_LINE:
                    return "say";
                case CALL_LINE:
                    return "call";
                case CLASS_LINE:
                    return "class";
                case HAS_LINE:
                    return "has";
                default:
                    return "test";
            }
        }

        private boolean hasRoomFor(int line) {
            switch (line) {
                case METHOD_LINE:
                    return draft.methods < MOST_METHODS;
                case SAY_LINE:
                case CALL_LINE:
                    return draft.methods > 0 && draft.nodes[draft.methods - 1] < MOST_NODES;
                case CLASS_LINE:
                    return draft.classes < MOST_CLASSES;
                case TEST_LINE:
                    return !drafted.isFull();
                default:
                    return true;
            }
        }

        private void readRest(int line) {
            int got = 0;
            advance();
            while (fault == 0 && got < mostArguments(line) && tape.token == Tape.NUMBER) {
                if (!isWithin(line, got, tape.value)) {
                    fail(OUT_OF_BOUNDS);
                    return;
                }
                arguments[got] = tape.value;
                got++;
                advance();
            }
            if (fault == 0 && (got < leastArguments(line) || tape.token != Tape.STOP)) {
                fail(WRONG_TOKEN);
            }
            if (fault == 0) {
                tell(line, got);
                lines++;
                advance();
            }
        }

        private static int leastArguments(int line) {
            switch (line) {
                case METHOD_LINE:
                    return 0;
                case SAY_LINE:
                case CALL_LINE:
                case CLASS_LINE:
                    return 1;
                default:
                    return MOST_ARGUMENTS;
            }
        }

        private static int mostArguments(int line) {
            switch (line) {
                case METHOD_LINE:
                    return 0;
                case CLASS_LINE:
                    return 1;
                default:
                    return MOST_ARGUMENTS;
            }
        }

        private boolean isWithin(int line, int which, int v) {
            switch (line) {
                case SAY_LINE:
                    return which == 0 ? v <= MOST_NUMBER : v < MOST_NODES || v == END;
                case CALL_LINE:
                    return which == 0 ? isName(v) : v < MOST_NODES || v == END;
                case CLASS_LINE:
                    return v < draft.classes || v == END;
                case HAS_LINE:
                    return which == 0 ? v < MOST_CLASSES : which == 1 ? isName(v) : v < MOST_METHODS;
                default:
                    return which == 0 ? v < MOST_CLASSES : which == 1 ? v <= MOST_DECISIONS : v >= 1 && v <= MOST_COST;
            }
        }

        private void tell(int line, int got) {
            switch (line) {
                case METHOD_LINE:
                    draft.appendMethod();
                    break;
                case SAY_LINE:
                    tellNode(SAYS, got);
                    break;
                case CALL_LINE:
                    tellNode(CALLS, got);
                    break;
                case CLASS_LINE:
                    draft.appendClass(arguments[0]);
                    break;
                case HAS_LINE:
                    tellHas();
                    break;
                default:
                    latestClass = Math.max(latestClass, arguments[0]);
                    drafted.append(arguments[0], arguments[1], arguments[2]);
                    break;
            }
        }

        private void tellNode(int kind, int got) {
            draft.appendNode(kind, arguments[0]);
            for (int k = 1; k < got; k++) {
                draft.appendNext(arguments[k]);
            }
        }

        private void tellHas() {
            latestClass = Math.max(latestClass, arguments[0]);
            latestMethod = Math.max(latestMethod, arguments[2]);
            draft.owned[NAMES * arguments[0] + arguments[1]] = arguments[2];
        }

        // A class or method may be told behind the line that names it, so this waits for the end.
        private boolean tellsWhatIsNotThere() {
            return latestClass >= draft.classes || latestMethod >= draft.methods || !draft.leadsOnlyToNodes();
        }
    }
}
