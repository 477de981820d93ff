import java.util.Random;

/** What holds for all calls: the constants, the answers and which goes ahead, what is refused, how long one is used. */
final class BoundsOfAnswers {
    private static final int MAX = Sample.MAX;
    private static final int MIN = Sample.MIN;
    private static final String ANSWERS = "Answers: BAD -1 (a number is not as told, there is no such METHOD, NODE, "
        + "CLASS, NAME, TEST, EDGE, IMAGE, SHEET), STATE -2 (as told), FULL -3, NONE -4 (there is none), the first that "
        + "fits;";

    private BoundsOfAnswers() {
    }

    static void all(String source) {
        constants();
        partsOfTheFace(source);
        badWhenThereIsNoSuch();
        theFirstThatFits();
        whatIsRefusedChangesNothing();
        aTextThatIsRefusedEmptiesTheTape();
        usedFor512Calls();
        noCallEverThrows();
    }

    private static void constants() {
        Doc.says("The public face", "public static final int BAD = -1, STATE = -2, FULL = -3, NONE = -4;");
        Due.due("BAD", TestChoice.BAD, -1);
        Due.due("STATE", TestChoice.STATE, -2);
        Due.due("FULL", TestChoice.FULL, -3);
        Due.due("NONE", TestChoice.NONE, -4);
    }

    private static void partsOfTheFace(String source) {
        Doc.terms("Ahead of the calls `feed`, `end`, `text`, `fault`, `rule`, `node`, `meant`, `test`, `said`, `edge`, "
            + "`covers`, `order`, `same` the interface says: ---- the text.");
        inOrder(source, "// ---- the text\n\n    public int feed(", "public int same(");
        Doc.terms("Ahead of the calls `say`, `lead`, `nexts`, `has`, `take`, `leave` the interface says: "
            + "---- the NEW PROGRAM.");
        inOrder(source, "// ---- the NEW PROGRAM\n\n    public int say(", "public int leave(");
        Doc.terms("Ahead of the calls `add`, `drop`, `draw` the interface says: ---- tests.");
        inOrder(source, "// ---- tests\n\n    public int add(", "public int draw(");
        Doc.terms("Ahead of the calls `keep`, `back`, `sheet`, `lay`, `read`, `torn`, `count` the interface says: "
            + "---- images, sheets.");
        inOrder(source, "// ---- images, sheets\n\n    public int keep(", "public int count(");
    }

    private static void inOrder(String source, String head, String last) {
        Due.holds("the class says so", source.contains(head) && source.indexOf(head) < source.indexOf(last));
    }

    private static void badWhenThereIsNoSuch() {
        Doc.terms(ANSWERS);
        Sample.refused("no such METHOD: node(2, 0, 0)", x -> x.node(2, 0, 0), -1);
        Sample.refused("no such NODE: node(0, 3, 0)", x -> x.node(0, 3, 0), -1);
        Sample.refused("no such CLASS: meant(2, 0, 0)", x -> x.meant(2, 0, 0), -1);
        Sample.refused("no such NAME: meant(0, 4, 0)", x -> x.meant(0, 4, 0), -1);
        Sample.refused("no such TEST: test(2, 0)", x -> x.test(2, 0), -1);
        Sample.refused("no such EDGE: covers(0, 216)", x -> x.covers(0, 216), -1);
        Sample.refused("no such IMAGE: keep(2)", x -> x.keep(2), -1);
        Sample.refused("no such SHEET: lay(4, 0, 0)", x -> x.lay(4, 0, 0), -1);
        Sample.refused("a number is not as told: add(0, 256, 1)", x -> x.add(0, 256, 1), -1);
    }

    private static void theFirstThatFits() {
        Doc.terms(ANSWERS);
        TestChoice empty = new TestChoice();
        Due.due("BAD ahead of STATE: draw(0, 0)", empty.draw(0, 0), -1);
        Due.due("STATE: draw(0, 1)", empty.draw(0, 1), -2);
        Due.due("BAD ahead of STATE: back(2)", empty.back(2), -1);
        Due.due("STATE: back(1)", empty.back(1), -2);
        Due.due("BAD ahead of NONE: order(0, 2)", empty.order(0, 2), -1);
        Due.due("BAD ahead of NONE: order(-1, 0)", empty.order(-1, 0), -1);
        Due.due("NONE: order(0, 0)", empty.order(0, 0), -4);
        Due.due("BAD ahead of NONE: meant(0, 0, 0)", empty.meant(0, 0, 0), -1);
        TestChoice full = Due.told("class 9;");
        full.draw(1, 8);
        Due.due("BAD ahead of FULL: add(0, 0, 10)", full.add(0, 0, 10), -1);
        Due.due("BAD ahead of FULL: add(1, 0, 1)", full.add(1, 0, 1), -1);
        Due.due("FULL: add(0, 0, 1)", full.add(0, 0, 1), -3);
        for (int i = 0; i < 320; i++) {
            full.feed(32);
        }
        Due.due("BAD ahead of FULL: feed(128)", full.feed(128), -1);
        Due.due("FULL: feed(127)", full.feed(127), -3);
    }

    private static void whatIsRefusedChangesNothing() {
        Doc.terms("what is refused changes nothing (but THE TAPE, as told).");
        Sample.unchanged("no call at all", Sample.make());
        Sample.refused("feed(128)", x -> x.feed(128), -1);
        Sample.refused("end(4)", x -> x.end(4), -1);
        Sample.refused("rule(8)", x -> x.rule(8), -1);
        Sample.refused("node(0, 0, 5)", x -> x.node(0, 0, 5), -1);
        Sample.refused("meant(0, 0, 2)", x -> x.meant(0, 0, 2), -1);
        Sample.refused("meant(0, 3, 0)", x -> x.meant(0, 3, 0), -4);
        Sample.refused("test(0, 9)", x -> x.test(0, 9), -1);
        Sample.refused("said(2, 0)", x -> x.said(2, 0), 0);
        Sample.refused("edge(0, 2)", x -> x.edge(0, 2), -1);
        Sample.refused("covers(0, 96)", x -> x.covers(0, 96), -1);
        Sample.refused("order(8, 0)", x -> x.order(8, 0), -4);
        Sample.refused("same(2)", x -> x.same(2), -1);
        Sample.refused("say(0, 0, 1, 4)", x -> x.say(0, 0, 1, 4), -1);
        Sample.refused("lead(0, 0, 0, 3)", x -> x.lead(0, 0, 0, 3), -1);
        Sample.refused("nexts(0, 0, 3)", x -> x.nexts(0, 0, 3), -1);
        Sample.refused("has(0, 0, 2)", x -> x.has(0, 0, 2), -1);
        Sample.refused("add(0, 0, 0)", x -> x.add(0, 0, 0), -1);
        Sample.refused("drop(2)", x -> x.drop(2), -1);
        Sample.refused("draw(1, 9)", x -> x.draw(1, 9), -1);
        Sample.refused("keep(-1)", x -> x.keep(-1), -1);
        Sample.refused("back(0)", x -> x.back(0), -2);
        Sample.refused("sheet(1, 0, 41)", x -> x.sheet(1, 0, 41), -1);
        Sample.refused("lay(1, 4, 9)", x -> x.lay(1, 4, 9), -12);
        Sample.refused("read(1, 0, 0, 11)", x -> x.read(1, 0, 0, 11), -1);
        Sample.refused("count(6)", x -> x.count(6), -1);
    }

    private static void aTextThatIsRefusedEmptiesTheTape() {
        Doc.terms("what is refused changes nothing (but THE TAPE, as told).");
        TestChoice x = Due.told("method;say 1;class 9;test 0 0 1;");
        Due.tells(x, "method;say 2;say", -26);
        Due.due("count(2)", x.count(2), 0);
        Due.due("node(0, 0, 1)", x.node(0, 0, 1), 1);
        Due.due("rule(3)", x.rule(3), 1);
        Due.due("feed(32)", x.feed(32), 1);
    }

    private static void usedFor512Calls() {
        Doc.says("What it is", "An object is used for at most 512 calls after it has been made;");
        TestChoice x = new TestChoice();
        for (int call = 1; call <= 511; call++) {
            Due.due("call " + call, x.feed(32), call <= 320 ? call : -3);
        }
        Due.due("the 512th call: end(319)", x.end(319), 320);
        TestChoice y = Due.told("method;say 3;");
        for (int call = 16; call <= 511; call++) {
            Due.due("call " + call, y.say(0, 0, 0, call % 10), call == 16 ? 3 : (call - 1) % 10);
        }
        Due.due("the 512th call: node(0, 0, 11)", y.node(0, 0, 11), 1);
    }

    private static void noCallEverThrows() {
        Doc.says("What it is", "what later calls answer is free.");
        Random random = new Random(7);
        int[] numbers = {0, 1, 2, 3, 4, 5, 7, 8, 9, 39, 40, 41, 95, 96, 100, 127, 200, 215, 216, 255, 256, 320, -1, -4,
            MAX, MIN, MAX - 1, MIN + 1, 1 << 30};
        for (int object = 0; object < 400; object++) {
            TestChoice x = Sample.make();
            int[] n = new int[4];
            for (int call = 0; call < 600; call++) {
                for (int i = 0; i < 4; i++) {
                    n[i] = random.nextInt(3) == 0 ? numbers[random.nextInt(numbers.length)] : random.nextInt(3);
                }
                oneOfAll(x, random.nextInt(29), n);
            }
            Due.due("said(8, 0) at last", x.said(8, 0), 0);
        }
    }

    private static void oneOfAll(TestChoice x, int which, int[] n) {
        switch (which) {
            case 0 -> x.feed(n[0]);
            case 1 -> x.end(n[0]);
            case 2 -> {
                // A text that is taken leaves nothing to ask, so most of them get a FAULT first.
                x.feed(n[0] == 0 ? 32 : ';');
                x.text();
            }
            case 3 -> x.fault();
            case 4 -> x.rule(n[0]);
            case 5 -> x.node(n[0], n[1], n[2]);
            case 6 -> x.meant(n[0], n[1], n[2]);
            case 7 -> x.test(n[0], n[1]);
            case 8 -> x.said(n[0], n[1]);
            case 9 -> x.edge(n[0], n[1]);
            case 10 -> x.covers(n[0], n[1]);
            case 11 -> x.order(n[0], n[1]);
            case 12 -> x.same(n[0]);
            case 13 -> x.say(n[0], n[1], n[2], n[3]);
            case 14 -> x.lead(n[0], n[1], n[2], n[3]);
            case 15 -> x.nexts(n[0], n[1], n[2]);
            case 16 -> x.has(n[0], n[1], n[2]);
            case 17 -> x.take();
            case 18 -> x.leave();
            case 19 -> x.add(n[0], n[1], n[2]);
            case 20 -> x.drop(n[0]);
            case 21 -> x.draw(n[0], n[1]);
            case 22 -> x.keep(n[0]);
            case 23 -> x.back(n[0]);
            case 24 -> x.sheet(n[0], n[1], n[2]);
            case 25 -> x.lay(n[0], n[1], n[2]);
            case 26 -> x.read(n[0], n[1], n[2], n[3]);
            case 27 -> x.torn();
            default -> x.count(n[0]);
        }
    }
}
