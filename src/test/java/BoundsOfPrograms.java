/** The boundaries of the first block of the terms: how many there may be of what, and what they may be. */
final class BoundsOfPrograms {
    /** 6 METHODS of 8 NODES each, 4 CLASSES, told within 320 bytes. */
    static final String FULL = ("method;" + "say1;".repeat(8)).repeat(6) + "class9;".repeat(4);

    private BoundsOfPrograms() {
    }

    static void all() {
        methods6AtMost();
        nodes8AtMost();
        numbers0To9();
        names0To3();
        nextOnesAtMost2();
        nextOnesOfItsMethodOr9();
        classes4AtMost();
        classesUnderOneToldAheadOrNone();
        aMethodForEachName();
        meantByTheClassItIsUnder();
        asManyInBothPrograms();
        tests8AtMost();
        testsDecisionsAndCosts();
        tape320Bytes();
    }

    private static void methods6AtMost() {
        Doc.terms("METHODS 0 on (6 at most), each of NODES 0 on (8 at most).");
        TestChoice x = Due.told("method;".repeat(6));
        Due.due("rule(0) of six", x.rule(0), 6);
        Due.due("edge(105, 0), entering the last", x.edge(105, 0), 0);
        Due.due("edge(106, 0)", x.edge(106, 0), -1);
        Due.fails("method;".repeat(7), 5, 42);
        TestChoice none = Due.told("class 9;");
        Due.due("rule(0) of none", none.rule(0), 0);
        Due.due("edge(100, 0) of none", none.edge(100, 0), -1);
        Due.due("node(0, 0, 0) of none", none.node(0, 0, 0), -1);
    }

    private static void nodes8AtMost() {
        Doc.terms("METHODS 0 on (6 at most), each of NODES 0 on (8 at most).");
        TestChoice x = Due.told(FULL);
        Due.due("rule(1)", x.rule(1), 48);
        for (int m = 0; m < 6; m++) {
            Due.due("the last one of METHOD " + m, x.node(m, 7, 1), 1);
            Due.due("one more of METHOD " + m, x.node(m, 8, 1), -1);
        }
        Due.due("one of METHOD 6", x.node(6, 0, 1), -1);
        String eight = "method;" + "say 1;".repeat(4) + "call 1;".repeat(4);
        Due.due("rule(1) of eight", Due.told(eight).rule(1), 8);
        Due.fails(eight + "say 1;", 5, eight.length());
        Due.fails(eight + "call 1;", 5, eight.length());
        TestChoice empty = Due.told("method;method;say 4;method;");
        Due.due("a METHOD of no NODES", empty.node(0, 0, 0), -1);
        Due.due("a METHOD of one", empty.node(1, 0, 1), 4);
        Due.due("a METHOD of no NODES behind it", empty.node(2, 0, 0), -1);
    }

    private static void numbers0To9() {
        Doc.terms("A NODE says (KIND 0) a NUMBER 0 to 9, or calls (1) a NAME 0 to 3; it has no, one or two NEXT ones "
            + "(0, 1): a NODE of its METHOD, or 9: the end.");
        TestChoice x = Due.told("method;say 0;say 9;");
        Due.due("KIND of a NODE that says", x.node(0, 0, 0), 0);
        Due.due("NUMBER 0", x.node(0, 0, 1), 0);
        Due.due("NUMBER 9", x.node(0, 1, 1), 9);
        Due.fails("method;say 10;", 3, 11);
        Due.due("say(0, 0, 0, 9)", x.say(0, 0, 0, 9), 0);
        Due.due("say(0, 1, 0, 0)", x.say(0, 1, 0, 0), 9);
        Due.due("say(0, 0, 0, 10)", x.say(0, 0, 0, 10), -1);
        Due.due("say(0, 0, 0, -1)", x.say(0, 0, 0, -1), -1);
    }

    private static void names0To3() {
        Doc.terms("A NODE says (KIND 0) a NUMBER 0 to 9, or calls (1) a NAME 0 to 3; it has no, one or two NEXT ones "
            + "(0, 1): a NODE of its METHOD, or 9: the end.");
        TestChoice x = Due.told("method;call 0;call 3;");
        Due.due("KIND of a NODE that calls", x.node(0, 0, 0), 1);
        Due.due("NAME 0", x.node(0, 0, 1), 0);
        Due.due("NAME 3", x.node(0, 1, 1), 3);
        Due.fails("method;call 4;", 3, 12);
        Due.due("say(0, 0, 1, 3)", x.say(0, 0, 1, 3), 10);
        Due.due("say(0, 1, 1, 0)", x.say(0, 1, 1, 0), 13);
        Due.due("say(0, 0, 1, 4)", x.say(0, 0, 1, 4), -1);
        Due.due("say(0, 0, 1, -1)", x.say(0, 0, 1, -1), -1);
        Due.due("KIND 2", x.say(0, 0, 2, 0), -1);
        Due.due("KIND -1", x.say(0, 0, -1, 0), -1);
    }

    private static void nextOnesAtMost2() {
        Doc.terms("it has no, one or two NEXT ones (0, 1): a NODE of its METHOD, or 9: the end.");
        TestChoice x = Due.told("method;say 1;say 1 0;say 1 0 1;");
        for (int n = 0; n <= 2; n++) {
            Due.due("how many NODE " + n + " has", x.node(0, n, 2), n);
            Due.due("its first", x.node(0, n, 3), n > 0 ? 0 : -4);
            Due.due("its second", x.node(0, n, 4), n > 1 ? 1 : -4);
        }
        Due.fails("method;say 1 0 0 0;", 2, 17);
        Due.due("nexts(0, 0, 3)", x.nexts(0, 0, 3), -1);
        Due.due("nexts(0, 0, -1)", x.nexts(0, 0, -1), -1);
    }

    private static void nextOnesOfItsMethodOr9() {
        Doc.terms("it has no, one or two NEXT ones (0, 1): a NODE of its METHOD, or 9: the end.");
        TestChoice x = Due.told("method;say 1 7 9;" + "say 1;".repeat(7) + "method;say 1 0;");
        Due.due("to the last NODE", x.node(0, 0, 3), 7);
        Due.due("to the end", x.node(0, 0, 4), 9);
        Due.due("lead(1, 0, 0, 1): a NODE of another METHOD", x.lead(1, 0, 0, 1), -1);
        Due.due("lead(1, 0, 0, 9)", x.lead(1, 0, 0, 9), 0);
        Due.due("lead(1, 0, 0, 0)", x.lead(1, 0, 0, 0), 9);
        Due.fails("method;say 1;say 1;method;say 1 1;", 6, 34);
    }

    private static void classes4AtMost() {
        Doc.terms("CLASSES 0 on (4 at most), each under another one, told ahead of it, or none (9).");
        TestChoice x = Due.told("class 9;class 0;class 1;class 2;");
        Due.due("rule(2)", x.rule(2), 4);
        Due.due("same(3)", x.same(3), 256);
        Due.due("same(4)", x.same(4), -1);
        Due.fails("class 9;".repeat(5), 5, 32);
        TestChoice none = Due.told("method;");
        Due.due("rule(2) of none", none.rule(2), 0);
        Due.due("same(0) of none", none.same(0), -1);
    }

    private static void classesUnderOneToldAheadOrNone() {
        Doc.terms("CLASSES 0 on (4 at most), each under another one, told ahead of it, or none (9).");
        Due.told("class 9;class 9;class 9;class 2;");
        Due.told("class 9;class 9;class 9;class 0;");
        Due.fails("class 0;", 3, 6);
        Due.fails("class 9;class 1;", 3, 14);
        Due.fails("class 9;class 9;class 2;", 3, 22);
        Due.fails("class 9;class 9;class 9;class 3;", 3, 30);
    }

    private static void aMethodForEachName() {
        Doc.terms("A CLASS may have a METHOD for each NAME.");
        TestChoice x = Due.told("method;".repeat(6) + "class 9;".repeat(4)
            + "has 0 0 0;has 0 1 1;has 0 2 2;has 0 3 3;has 3 0 5;has 3 1 4;has 3 2 3;has 3 3 2;");
        for (int name = 0; name < 4; name++) {
            Due.due("CLASS 0 has for NAME " + name, x.meant(0, name, 0), name);
            Due.due("CLASS 1 has for NAME " + name, x.meant(1, name, 0), -4);
            Due.due("CLASS 3 has for NAME " + name, x.meant(3, name, 0), 5 - name);
        }
    }

    private static void meantByTheClassItIsUnder() {
        Doc.terms("MEANT by a CLASS and a NAME: the METHOD it has for it, or that which is MEANT by the CLASS it is "
            + "under; or none.");
        TestChoice x = Due.told("method;method;method;class 9;class 0;class 1;class 2;has 0 3 0;has 0 2 0;has 2 2 1;");
        Due.due("by the first of four, each under the one ahead", x.meant(3, 3, 0), 0);
        Due.due("by that which is nearest", x.meant(3, 2, 0), 1);
        Due.due("not by those under it", x.meant(1, 2, 0), 0);
        Due.due("its own goes ahead", x.meant(2, 2, 0), 1);
        Due.due("METHOD 0 is one, too", x.meant(0, 3, 0), 0);
        Due.due("none", x.meant(3, 1, 0), -4);
        Due.due("has(3, 3, 2)", x.has(3, 3, 2), -4);
        Due.due("its own in the NEW PROGRAM", x.meant(3, 3, 1), 2);
        Due.due("as it was in the OLD one", x.meant(3, 3, 0), 0);
    }

    private static void asManyInBothPrograms() {
        Doc.terms("There are two PROGRAMS of this: the OLD and the NEW one (with as many METHODS, NODES, CLASSES).");
        TestChoice x = Due.told(FULL);
        for (int m = 0; m <= 6; m++) {
            for (int i = 0; i <= 8; i++) {
                boolean there = m < 6 && i < 8;
                Due.due("OLD node(" + m + ", " + i + ", 0)", x.node(m, i, 0), there ? 0 : -1);
                Due.due("NEW node(" + m + ", " + i + ", 10)", x.node(m, i, 10), there ? 0 : -1);
            }
        }
        for (int c = 0; c <= 4; c++) {
            Due.due("OLD meant(" + c + ", 0, 0)", x.meant(c, 0, 0), c < 4 ? -4 : -1);
            Due.due("NEW meant(" + c + ", 0, 1)", x.meant(c, 0, 1), c < 4 ? -4 : -1);
        }
    }

    private static void tests8AtMost() {
        Doc.terms("TESTS 0 on (8 at most), each of a CLASS, DECISIONS (0 to 255), a COST (1 to 9).");
        TestChoice x = Due.told("class 9;" + "test 0 0 1;".repeat(8));
        Due.due("rule(3)", x.rule(3), 8);
        Due.due("test(7, 2)", x.test(7, 2), 1);
        Due.due("test(8, 2)", x.test(8, 2), -1);
        Due.due("a ninth by add()", x.add(0, 0, 1), -3);
        Due.due("a ninth by draw()", x.draw(1, 1), 0);
        Due.fails("class 9;" + "test 0 0 1;".repeat(9), 5, 8 + 8 * 11);
        TestChoice none = Due.told("class 9;");
        Due.due("rule(3) of none", none.rule(3), 0);
        Due.due("test(0, 0) of none", none.test(0, 0), -1);
    }

    private static void testsDecisionsAndCosts() {
        Doc.terms("TESTS 0 on (8 at most), each of a CLASS, DECISIONS (0 to 255), a COST (1 to 9).");
        TestChoice x = Due.told("class 9;test 0 0 1;test 0 255 9;");
        Due.due("the least DECISIONS", x.test(0, 1), 0);
        Due.due("the most DECISIONS", x.test(1, 1), 255);
        Due.due("the least COST", x.test(0, 2), 1);
        Due.due("the most COST", x.test(1, 2), 9);
        Due.fails("class 9;test 0 256 1;", 3, 15);
        Due.fails("class 9;test 0 0 0;", 3, 17);
        Due.fails("class 9;test 0 0 10;", 3, 17);
    }

    private static void tape320Bytes() {
        Doc.terms("THE TAPE has 320 bytes, places from 0.");
        TestChoice x = new TestChoice();
        for (int i = 1; i <= 320; i++) {
            Due.due("feed(32)", x.feed(32), i);
        }
        Due.due("the 321st", x.feed(32), -3);
        Due.due("end(319)", x.end(319), 320);
        Due.due("the 320th", x.feed('?'), 320);
        Due.due("text(): the last place is 319", x.text(), -10 - 319);
        Due.due("feed('?')", x.feed('?'), 1);
        Due.due("text(): the first place is 0", x.text(), -10);
    }
}
