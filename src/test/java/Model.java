import java.util.ArrayList;
import java.util.HashMap;
import java.util.List;
import java.util.Map;
import java.util.Set;
import java.util.TreeMap;
import java.util.TreeSet;
import java.util.regex.Matcher;
import java.util.regex.Pattern;

/** The document once more, written another way, with the whole Java library: what random runs are held against. */
final class Model {
    private static final Pattern TOKEN = Pattern.compile("[a-z]+|[0-9]+|;");

    private static final class Node {
        int kind;
        int n;
        List<Integer> next = new ArrayList<>();

        Node copy() {
            Node c = new Node();
            c.kind = kind;
            c.n = n;
            c.next.addAll(next);
            return c;
        }

        boolean alike(Node o) {
            return kind == o.kind && n == o.n && next.size() == o.next.size();
        }
    }

    private static final class Prog {
        List<List<Node>> methods = new ArrayList<>();
        List<Integer> under = new ArrayList<>();
        Map<String, Integer> has = new HashMap<>();

        Prog copy() {
            Prog p = new Prog();
            for (List<Node> m : methods) {
                List<Node> l = new ArrayList<>();
                for (Node n : m) {
                    l.add(n.copy());
                }
                p.methods.add(l);
            }
            p.under.addAll(under);
            p.has.putAll(has);
            return p;
        }

        Node at(int m, int i) {
            return m < 0 || m >= methods.size() || i < 0 || i >= methods.get(m).size() ? null : methods.get(m).get(i);
        }

        int meant(int c, int name) {
            if (c == 9) {
                return -4;
            }
            Integer own = has.get(c + "." + name);
            return own != null ? own : meant(under.get(c), name);
        }

        boolean leads(int m, int i, int k, int to) {
            Node n = at(m, i);
            return n != null && k >= 0 && k < n.next.size() && (to == 9 || at(m, to) != null);
        }
    }

    private static final class Stop extends RuntimeException {
        private static final long serialVersionUID = 1L;
        final int fault;
        final int place;

        Stop(int fault, int place) {
            super(null, null, false, false);
            this.fault = fault;
            this.place = place;
        }
    }

    private static final class Walk {
        final Prog p;
        final int c;
        final int d;
        int said;
        int nodes;
        int bits;
        final Set<Integer> edges = new TreeSet<>();

        Walk(Prog p, int c, int d) {
            this.p = p;
            this.c = c;
            this.d = d;
            try {
                if (!p.methods.isEmpty()) {
                    method(0, 0);
                }
            } catch (Stop cut) {
                bits = 0;
            }
        }

        private void method(int m, int depth) {
            said = said * 31 + m + 101;
            edges.add(100 + m);
            int i = p.methods.get(m).isEmpty() ? 9 : 0;
            while (i != 9) {
                if (nodes == 60) {
                    throw new Stop(0, 0);
                }
                nodes++;
                Node n = p.at(m, i);
                said = said * 31 + n.n + (n.kind == 0 ? 1 : 11);
                if (n.kind == 1) {
                    edges.add(200 + 4 * c + n.n);
                    int to = p.meant(c, n.n);
                    if (to >= 0 && depth < 4) {
                        method(to, depth + 1);
                    }
                }
                if (n.next.isEmpty()) {
                    return;
                }
                int k = 0;
                if (n.next.size() == 2) {
                    k = Integer.toBinaryString(256 + d).charAt(8 - bits % 8) - '0';
                    bits++;
                }
                edges.add(16 * m + 2 * i + k);
                i = n.next.get(k);
            }
        }
    }

    private Prog old = new Prog();
    private Prog now = new Prog();
    private List<int[]> tests = new ArrayList<>();
    private final Object[][] images = new Object[2][];
    private final Object[] sheets = new Object[4];
    private String tape = "";
    private int fault;
    private int torn;

    int feed(int c) {
        if (c < 0 || c > 127) {
            return -1;
        }
        if (tape.length() == 320) {
            return -3;
        }
        tape += (char) c;
        return tape.length();
    }

    int end(int n) {
        if (n < 0 || n > tape.length()) {
            return -1;
        }
        int had = tape.length();
        tape = tape.substring(0, n);
        return had;
    }

    int text() {
        String all = tape;
        tape = "";
        try {
            int lines = parse(all);
            fault = 0;
            images[0] = null;
            images[1] = null;
            return lines;
        } catch (Stop s) {
            fault = s.fault;
            return -10 - s.place;
        }
    }

    private String read;
    private int at;
    private String token;

    /** Passes blanks, reads a token that is not taken yet; "" at the end. */
    private void look() {
        while (at < read.length() && read.charAt(at) == ' ') {
            at++;
        }
        if (at == read.length()) {
            token = "";
            return;
        }
        Matcher m = TOKEN.matcher(read).region(at, read.length());
        if (!m.lookingAt() || m.group().matches("[0-9]{4,}")) {
            throw new Stop(1, at);
        }
        token = m.group();
    }

    private void pass() {
        at += token.length();
        look();
    }

    private int number(String bounds) {
        if (!token.matches("[0-9]+")) {
            throw new Stop(2, at);
        }
        int v = Integer.parseInt(token);
        boolean in = false;
        for (String part : bounds.split(",")) {
            String[] ends = part.split("-");
            in |= v >= Integer.parseInt(ends[0]) && v <= Integer.parseInt(ends[ends.length - 1]);
        }
        if (!in) {
            throw new Stop(3, at);
        }
        pass();
        return v;
    }

    private void room(boolean there) {
        if (!there) {
            throw new Stop(5, at);
        }
        pass();
    }

    private int parse(String all) {
        Prog p = new Prog();
        List<int[]> t = new ArrayList<>();
        List<Integer> classes = new ArrayList<>();
        List<Integer> methods = new ArrayList<>();
        read = all;
        at = 0;
        int lines = 0;
        look();
        while (!token.isEmpty()) {
            List<Node> m = p.methods.isEmpty() ? null : p.methods.get(p.methods.size() - 1);
            switch (token) {
                case "method" -> {
                    room(p.methods.size() < 6);
                    p.methods.add(new ArrayList<>());
                }
                case "say", "call" -> {
                    Node n = new Node();
                    n.kind = token.equals("say") ? 0 : 1;
                    room(m != null && m.size() < 8);
                    n.n = number(n.kind == 0 ? "0-9" : "0-3");
                    while (token.matches("[0-9]+") && n.next.size() < 2) {
                        n.next.add(number("0-7,9"));
                    }
                    if (m != null) {
                        m.add(n);
                    }
                }
                case "class" -> {
                    room(p.under.size() < 4);
                    p.under.add(number(p.under.isEmpty() ? "9" : "9,0-" + (p.under.size() - 1)));
                }
                case "has" -> {
                    room(true);
                    int c = number("0-3");
                    int name = number("0-3");
                    int to = number("0-5");
                    p.has.put(c + "." + name, to);
                    classes.add(c);
                    methods.add(to);
                }
                case "test" -> {
                    room(t.size() < 8);
                    int[] one = {number("0-3"), number("0-255"), number("1-9")};
                    t.add(one);
                    classes.add(one[0]);
                }
                default -> throw new Stop(2, at);
            }
            if (!token.equals(";")) {
                throw new Stop(2, at);
            }
            pass();
            lines++;
        }
        boolean there = classes.stream().allMatch(c -> c < p.under.size())
            && methods.stream().allMatch(m -> m < p.methods.size());
        for (List<Node> m : p.methods) {
            for (Node n : m) {
                there &= n.next.stream().allMatch(to -> to == 9 || to < m.size());
            }
        }
        if (!there) {
            throw new Stop(6, all.length());
        }
        old = p;
        now = p.copy();
        tests = t;
        return lines;
    }

    int fault() {
        return fault;
    }

    private Set<Integer> allEdges() {
        Set<Integer> all = new TreeSet<>();
        for (int m = 0; m < old.methods.size(); m++) {
            all.add(100 + m);
            for (int i = 0; i < old.methods.get(m).size(); i++) {
                for (int k = 0; k < old.at(m, i).next.size(); k++) {
                    all.add(16 * m + 2 * i + k);
                }
            }
        }
        for (int c = 0; c < old.under.size(); c++) {
            for (int name = 0; name < 4; name++) {
                all.add(200 + 4 * c + name);
            }
        }
        return all;
    }

    private Set<Integer> danger() {
        Set<Integer> in = new TreeSet<>();
        for (int m = 0; m < old.methods.size(); m++) {
            if (!old.methods.get(m).isEmpty()) {
                if (old.at(m, 0).alike(now.at(m, 0))) {
                    pair(m, 0, 0, new TreeSet<>(), in);
                } else {
                    in.add(100 + m);
                }
            }
        }
        for (int c = 0; c < old.under.size(); c++) {
            for (int name = 0; name < 4; name++) {
                if (old.meant(c, name) != now.meant(c, name)) {
                    in.add(200 + 4 * c + name);
                }
            }
        }
        return in;
    }

    private void pair(int m, int i, int j, Set<String> done, Set<Integer> in) {
        if (!done.add(i + "/" + j)) {
            return;
        }
        for (int k = 0; k < old.at(m, i).next.size(); k++) {
            int was = old.at(m, i).next.get(k);
            int is = now.at(m, j).next.get(k);
            if (was == 9 && is == 9) {
                continue;
            }
            if (was != 9 && is != 9 && old.at(m, was).alike(now.at(m, is))) {
                pair(m, was, is, done, in);
            } else {
                in.add(16 * m + 2 * i + k);
            }
        }
    }

    private Walk walk(Prog p, int t) {
        return new Walk(p, tests.get(t)[0], tests.get(t)[1]);
    }

    private Set<Integer> both(int t, Set<Integer> in) {
        Set<Integer> s = new TreeSet<>(walk(old, t).edges);
        s.retainAll(in);
        return s;
    }

    /** The order: a test and how many it met first, for each place. */
    private List<int[]> ordered() {
        Set<Integer> left = danger();
        Map<Integer, Set<Integer>> chosen = new TreeMap<>();
        for (int t = 0; t < tests.size(); t++) {
            if (!both(t, left).isEmpty()) {
                chosen.put(t, both(t, left));
            }
        }
        List<int[]> order = new ArrayList<>();
        while (!chosen.isEmpty()) {
            int best = -1;
            double most = -1;
            for (Map.Entry<Integer, Set<Integer>> e : chosen.entrySet()) {
                Set<Integer> s = new TreeSet<>(e.getValue());
                s.retainAll(left);
                // 2520 is a multiple of every cost, so nothing is rounded.
                double worth = 2520 / tests.get(e.getKey())[2] * s.size();
                if (worth > most) {
                    most = worth;
                    best = e.getKey();
                }
            }
            Set<Integer> s = chosen.remove(best);
            s.retainAll(left);
            left.removeAll(s);
            order.add(new int[] {best, s.size()});
        }
        return order;
    }

    private int rank(int t) {
        List<int[]> order = ordered();
        for (int i = 0; i < order.size(); i++) {
            if (order.get(i)[0] == t) {
                return i;
            }
        }
        return -4;
    }

    private boolean sameWords(int c, int d) {
        return new Walk(old, c, d).said == new Walk(now, c, d).said;
    }

    int rule(int what) {
        return switch (what) {
            case 0 -> old.methods.size();
            case 1 -> old.methods.stream().mapToInt(List::size).sum();
            case 2 -> old.under.size();
            case 3 -> tests.size();
            case 4 -> danger().size();
            case 5 -> ordered().size();
            case 6 -> ordered().stream().mapToInt(o -> tests.get(o[0])[2]).sum();
            case 7 -> (int) tests.stream().filter(t -> !sameWords(t[0], t[1])).count();
            default -> -1;
        };
    }

    int node(int m, int i, int what) {
        Node n = what >= 10 ? now.at(m, i) : old.at(m, i);
        int w = what >= 10 ? what - 10 : what;
        if (n == null || w < 0 || w > 4) {
            return -1;
        }
        return switch (w) {
            case 0 -> n.kind;
            case 1 -> n.n;
            case 2 -> n.next.size();
            default -> w - 3 < n.next.size() ? n.next.get(w - 3) : -4;
        };
    }

    private boolean noClass(int c) {
        return c < 0 || c >= old.under.size();
    }

    private boolean noTest(int t) {
        return t < 0 || t >= tests.size();
    }

    int meant(int c, int name, int what) {
        if (noClass(c) || name < 0 || name > 3 || what < 0 || what > 1) {
            return -1;
        }
        return (what == 0 ? old : now).meant(c, name);
    }

    int test(int t, int what) {
        if (noTest(t) || what < 0 || what > 8) {
            return -1;
        }
        return switch (what) {
            case 3 -> walk(old, t).nodes;
            case 4 -> walk(now, t).nodes;
            case 5 -> rank(t) < 0 ? 0 : 1;
            case 6 -> rank(t);
            case 7 -> walk(old, t).edges.size();
            case 8 -> both(t, danger()).size();
            default -> tests.get(t)[what];
        };
    }

    int said(int t, int what) {
        if (noTest(t) || what < 0 || what > 1) {
            return 0;
        }
        return walk(what == 0 ? old : now, t).said;
    }

    int edge(int e, int what) {
        if (!allEdges().contains(e) || what < 0 || what > 1) {
            return -1;
        }
        if (what == 0) {
            return danger().contains(e) ? 1 : 0;
        }
        int n = 0;
        for (int t = 0; t < tests.size(); t++) {
            n += covers(t, e);
        }
        return n;
    }

    int covers(int t, int e) {
        if (noTest(t) || !allEdges().contains(e)) {
            return -1;
        }
        return walk(old, t).edges.contains(e) ? 1 : 0;
    }

    int order(int i, int what) {
        if (i < 0 || what < 0 || what > 1) {
            return -1;
        }
        return i < ordered().size() ? ordered().get(i)[what] : -4;
    }

    int same(int c) {
        if (noClass(c)) {
            return -1;
        }
        int n = 0;
        for (int d = 0; d < 256; d++) {
            n += sameWords(c, d) ? 1 : 0;
        }
        return n;
    }

    int say(int m, int i, int kind, int n) {
        Node node = now.at(m, i);
        if (node == null || kind < 0 || kind > 1 || n < 0 || n > (kind == 0 ? 9 : 3)) {
            return -1;
        }
        int was = node.kind * 10 + node.n;
        node.kind = kind;
        node.n = n;
        return was;
    }

    int lead(int m, int i, int k, int to) {
        return now.leads(m, i, k, to) ? now.at(m, i).next.set(k, to) : -1;
    }

    int nexts(int m, int i, int n) {
        Node node = now.at(m, i);
        if (node == null || n < 0 || n > 2) {
            return -1;
        }
        int had = node.next.size();
        while (node.next.size() < n) {
            node.next.add(9);
        }
        while (node.next.size() > n) {
            node.next.remove(node.next.size() - 1);
        }
        return had;
    }

    int has(int c, int name, int m) {
        if (noClass(c) || name < 0 || name > 3 || m != -4 && (m < 0 || m >= now.methods.size())) {
            return -1;
        }
        Integer was = m == -4 ? now.has.remove(c + "." + name) : now.has.put(c + "." + name, m);
        return was == null ? -4 : was;
    }

    int take() {
        int n = danger().size();
        old = now.copy();
        return n;
    }

    int leave() {
        int n = danger().size();
        now = old.copy();
        return n;
    }

    int add(int c, int decisions, int cost) {
        if (noClass(c) || decisions < 0 || decisions > 255 || cost < 1 || cost > 9) {
            return -1;
        }
        if (tests.size() == 8) {
            return -3;
        }
        tests.add(new int[] {c, decisions, cost});
        return tests.size();
    }

    int drop(int t) {
        if (noTest(t)) {
            return -1;
        }
        tests.remove(t);
        return tests.size();
    }

    int draw(int seed, int n) {
        if (n < 1 || n > 8) {
            return -1;
        }
        if (old.under.isEmpty()) {
            return -2;
        }
        long s = seed;
        int came = 0;
        for (; came < n && tests.size() < 8; came++) {
            s = (s * 1103515245L + 12345L) & 0xffffffffL;
            int got = (int) (s / 65536 % 32768);
            tests.add(new int[] {got % old.under.size(), got / 4 % 256, got / 1024 % 9 + 1});
        }
        return came;
    }

    int keep(int k) {
        if (k < 0 || k > 1) {
            return -1;
        }
        int was = images[k] == null ? 0 : 1;
        images[k] = new Object[] {old.copy(), now.copy(), new ArrayList<>(tests)};
        return was;
    }

    @SuppressWarnings("unchecked")
    int back(int k) {
        if (k < 0 || k > 1) {
            return -1;
        }
        if (images[k] == null) {
            return -2;
        }
        old = ((Prog) images[k][0]).copy();
        now = ((Prog) images[k][1]).copy();
        tests = new ArrayList<>((List<int[]>) images[k][2]);
        return tests.size();
    }

    int sheet(int k, int lane, int n) {
        if (k < 0 || k > 3 || lane < 0 || lane > 2 || n > 40) {
            return -1;
        }
        try {
            sheets[k] = lane == 0 ? new byte[n] : lane == 1 ? new short[n] : (Object) new int[n];
            return 1;
        } catch (NegativeArraySizeException e) {
            return -14;
        }
    }

    int lay(int k, int i, int v) {
        if (k < 0 || k > 3) {
            return -1;
        }
        try {
            if (sheets[k] instanceof byte[] b) {
                b[i] = (byte) v;
            } else if (sheets[k] instanceof short[] s) {
                s[i] = (short) v;
            } else {
                ((int[]) sheets[k])[i] = v;
            }
            return 1;
        } catch (NullPointerException e) {
            return -11;
        } catch (ArrayIndexOutOfBoundsException e) {
            return -12;
        }
    }

    private int cell(int k, int lane, int i) {
        if (lane == 0) {
            return ((byte[]) sheets[k])[i];
        }
        return lane == 1 ? ((short[]) sheets[k])[i] : ((int[]) sheets[k])[i];
    }

    int read(int k, int lane, int f, int n) {
        if (k < 0 || k > 3 || lane < 0 || lane > 2 || n < 0 || n > 10) {
            return -1;
        }
        Prog p = now.copy();
        int came = 0;
        int met = 0;
        try {
            for (; came < n; came++) {
                int[] c = new int[4];
                for (int i = 0; i < 4; i++) {
                    c[i] = cell(k, lane, f + 4 * came + i);
                }
                if (!p.leads(c[0], c[1], c[2], c[3])) {
                    return -20 - came;
                }
                p.at(c[0], c[1]).next.set(c[2], c[3]);
            }
        } catch (NullPointerException e) {
            met = 1;
        } catch (ArrayIndexOutOfBoundsException e) {
            met = 2;
        } catch (ClassCastException e) {
            met = 3;
        }
        now = p;
        torn = met;
        return came;
    }

    int torn() {
        return torn;
    }

    int count(int what) {
        switch (what) {
            case 0:
                return (images[0] == null ? 0 : 1) + (images[1] == null ? 0 : 1);
            case 1:
                return (int) old.methods.stream().flatMap(List::stream).filter(n -> n.kind == 1).count();
            case 2:
                return tape.length();
            case 3:
                return sheets[0] == null ? -4 : java.lang.reflect.Array.getLength(sheets[0]);
            case 4:
                Set<Integer> any = new TreeSet<>();
                for (int t = 0; t < tests.size(); t++) {
                    any.addAll(walk(old, t).edges);
                }
                return any.size();
            case 5:
                int other = 0;
                for (int m = 0; m < old.methods.size(); m++) {
                    for (int i = 0; i < old.methods.get(m).size(); i++) {
                        boolean as = old.at(m, i).alike(now.at(m, i)) && old.at(m, i).next.equals(now.at(m, i).next);
                        other += as ? 0 : 1;
                    }
                }
                return other;
            default:
                return -1;
        }
    }
}
