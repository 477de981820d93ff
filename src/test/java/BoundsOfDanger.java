/** The boundaries of what is ALIKE, which EDGES are IN DANGER, which TESTS are CHOSEN, in which ORDER. */
final class BoundsOfDanger {
    private static final String ALIKE = "ALIKE are two NODES of one KIND, with one NUMBER or NAME, with as many NEXT ones.";
    private static final String PAIRS = "PAIRS of a METHOD, of a NODE as it was, one as it is: both 0, if they are ALIKE (or "
        + "there is none); of PAIRS for each NEXT: those that lead to NODES, if these are ALIKE.";
    private static final String IN_DANGER = "IN DANGER are EDGES: ENTERING a METHOD of which the NODES 0 are not ALIKE; that "
        + "of NEXT of the one as it was of a PAIR, if one leads to 9, the other does not, or to NODES that are not ALIKE; a "
        + "call by a CLASS and a NAME by which another METHOD (or none, or one) is MEANT.";
    private static final String ORDER = "ORDER of those: always that one of which the EDGES IN DANGER that it COVERS and none "
        + "ahead did, by its COST, are most (as a fraction), of several the first.";
    // METHOD 0 by bits: call 0, then maybe 1, maybe 2, maybe 3. METHOD 1 is what may be MEANT then.
    private static final String CALLS = "method;call 0 1 9;call 1 2 9;call 2 3 9;call 3;method;class 9;class 9;";

    private BoundsOfDanger() {
    }

    static void all() {
        alike();
        whereTheyLeadIsNoMatter();
        nodes0ThatAreAlike();
        noNodes();
        pairsForEachNext();
        noPairsBehindWhatIsNotAlike();
        allPairsOfEightNodes();
        enteringInDanger();
        oneLeadsTo9();
        nodesThatAreNotAlike();
        theNextOfTheOneAsItWas();
        callsInDanger();
        nothingInDanger();
        mostInDanger();
        chosen();
        orderByCost();
        orderOfSeveralTheFirst();
        orderOfThoseThatCoverNothingMore();
        orderOfEight();
    }

    private static void inDanger(TestChoice x, int... edges) {
        Due.due("rule(4)", x.rule(4), edges.length);
        for (int e : edges) {
            Due.due("edge(" + e + ", 0)", x.edge(e, 0), 1);
        }
    }

    private static void alike() {
        Doc.terms(ALIKE);
        TestChoice x = Due.told("method;say 2 0;class 9;");
        inDanger(x);
        x.say(0, 0, 1, 2);
        inDanger(x, 100);
        x.say(0, 0, 0, 3);
        inDanger(x, 100);
        x.say(0, 0, 0, 2);
        inDanger(x);
        x.nexts(0, 0, 0);
        inDanger(x, 100);
        x.nexts(0, 0, 2);
        inDanger(x, 100);
        TestChoice y = Due.told("method;call 2;class 9;");
        y.say(0, 0, 1, 3);
        inDanger(y, 100);
        y.say(0, 0, 0, 2);
        inDanger(y, 100);
        y.say(0, 0, 1, 2);
        inDanger(y);
        y.nexts(0, 0, 1);
        inDanger(y, 100);
    }

    private static void whereTheyLeadIsNoMatter() {
        Doc.terms(ALIKE);
        TestChoice x = Due.told("method;say 1 1;say 2 9;say 2 9;class 9;");
        x.lead(0, 0, 0, 2);
        Due.due("one NODE is other", x.count(5), 1);
        inDanger(x);
    }

    private static void nodes0ThatAreAlike() {
        Doc.terms(PAIRS);
        TestChoice x = Due.told("method;say 1 1;say 2;class 9;");
        x.say(0, 1, 0, 3);
        inDanger(x, 0);
        x.say(0, 0, 0, 3);
        inDanger(x, 100);
    }

    private static void noNodes() {
        Doc.terms(PAIRS);
        inDanger(Due.told("method;method;class 9;"));
        TestChoice again = Due.told("method;say 1 0 0;class 9;");
        again.say(0, 0, 0, 2);
        inDanger(again, 100);
        Due.tells(again, "method;class 9;", 2);
        inDanger(again);
        Due.due("edge(100, 0)", again.edge(100, 0), 0);
        TestChoice x = Due.told("method;method;say 1;method;class 9;");
        x.say(1, 0, 0, 2);
        inDanger(x, 101);
    }

    private static void pairsForEachNext() {
        Doc.terms(PAIRS);
        // By NEXT 0 NODES 1 and 3 come to be one of the PAIRS, by NEXT 1 both NODES 2.
        TestChoice x = Due.told("method;say 0 1 2;say 1 9;say 2 9;say 1 9;say 4;class 9;");
        x.lead(0, 0, 0, 3);
        inDanger(x);
        x.lead(0, 3, 0, 4);
        inDanger(x, 2);
        x.lead(0, 2, 0, 4);
        inDanger(x, 2, 4);
        x.lead(0, 1, 0, 4);
        inDanger(x, 2, 4);
        x.lead(0, 3, 0, 9);
        inDanger(x, 4);
        // NEXT 0 of the one and NEXT 1 of the other are none of them.
        TestChoice y = Due.told("method;say 0 1 2;say 1;say 2;class 9;");
        y.lead(0, 0, 0, 2);
        inDanger(y, 0);
        y.lead(0, 0, 1, 1);
        inDanger(y, 0, 1);
    }

    private static void noPairsBehindWhatIsNotAlike() {
        Doc.terms(PAIRS);
        TestChoice x = Due.told("method;say 0 1;say 1 2;say 2 3;say 3;class 9;");
        x.say(0, 3, 0, 9);
        inDanger(x, 4);
        x.say(0, 1, 0, 9);
        inDanger(x, 0);
        x.say(0, 1, 0, 1);
        x.lead(0, 0, 0, 9);
        inDanger(x, 0);
        x.leave();
        x.say(0, 0, 0, 9);
        x.lead(0, 2, 0, 9);
        inDanger(x, 100);
    }

    private static void allPairsOfEightNodes() {
        Doc.terms(PAIRS);
        // All NODES are ALIKE; by NEXT 1 it goes one further as it is: any two of them come to be one of the PAIRS.
        StringBuilder text = new StringBuilder("method;");
        for (int i = 0; i < 8; i++) {
            text.append("say 0 ").append((i + 1) % 8).append(' ').append((i + 1) % 8).append(';');
        }
        TestChoice x = Due.told(text.toString());
        for (int i = 0; i < 8; i++) {
            x.lead(0, i, 1, (i + 2) % 8);
        }
        inDanger(x);
        for (int i = 0; i < 8; i++) {
            x.lead(0, i, 1, 9);
            inDanger(x, 1, 3, 5, 7, 9, 11, 13, 15);
            x.lead(0, i, 1, (i + 2) % 8);
        }
    }

    private static void enteringInDanger() {
        Doc.terms(IN_DANGER);
        TestChoice x = Due.told("method;say 1;".repeat(6) + "class 9;test 0 0 1;");
        for (int m = 0; m < 6; m++) {
            x.say(m, 0, 0, 2);
            Due.due("edge(" + (100 + m) + ", 0)", x.edge(100 + m, 0), 1);
            Due.due("rule(4)", x.rule(4), m + 1);
        }
    }

    private static void oneLeadsTo9() {
        Doc.terms(IN_DANGER);
        TestChoice x = Due.told("method;say 1 9 1;say 1 9 1;class 9;");
        inDanger(x);
        x.lead(0, 0, 0, 0);
        inDanger(x, 0);
        x.leave();
        x.lead(0, 0, 1, 9);
        inDanger(x, 1);
        x.leave();
        x.lead(0, 0, 1, 0);
        inDanger(x);
    }

    private static void nodesThatAreNotAlike() {
        Doc.terms(IN_DANGER);
        TestChoice x = Due.told("method;say 1 1;say 2;say 3;class 9;");
        x.lead(0, 0, 0, 2);
        inDanger(x, 0);
        x.say(0, 2, 0, 2);
        inDanger(x);
        x.nexts(0, 2, 1);
        inDanger(x, 0);
        x.lead(0, 0, 0, 1);
        inDanger(x);
        x.say(0, 1, 1, 2);
        inDanger(x, 0);
    }

    private static void theNextOfTheOneAsItWas() {
        Doc.terms(IN_DANGER);
        // NODE 1 as it was and NODE 2 as it is are one of the PAIRS.
        TestChoice x = Due.told("method;say 0 1;say 1 3;say 1 4;say 3;say 4;class 9;");
        x.lead(0, 0, 0, 2);
        inDanger(x, 2);
        x.lead(0, 1, 0, 9);
        inDanger(x, 2);
        x.lead(0, 2, 0, 3);
        inDanger(x);
    }

    private static void callsInDanger() {
        Doc.terms(IN_DANGER);
        TestChoice x = Due.told("method;method;class 9;class 0;class 1;has 0 0 0;has 1 1 0;");
        x.has(0, 0, 1);
        inDanger(x, 200, 204, 208);
        x.has(0, 0, -4);
        inDanger(x, 200, 204, 208);
        x.has(0, 0, 0);
        inDanger(x);
        x.has(2, 3, 1);
        inDanger(x, 211);
        x.has(2, 1, 0);
        inDanger(x, 211);
        x.has(1, 1, -4);
        inDanger(x, 205, 211);
        x.has(0, 1, 0);
        inDanger(x, 201, 211);
    }

    private static void nothingInDanger() {
        Doc.terms(IN_DANGER);
        inDanger(new TestChoice());
        inDanger(Due.told(""));
        inDanger(Due.told(BoundsOfPrograms.FULL));
    }

    private static void mostInDanger() {
        Doc.terms(IN_DANGER);
        TestChoice x = Due.told(BoundsOfPrograms.FULL);
        for (int m = 0; m < 6; m++) {
            for (int i = 0; i < 8; i++) {
                x.nexts(m, i, 2);
                x.lead(m, i, 0, Math.min(i + 1, 7));
            }
        }
        x.take();
        for (int m = 0; m < 6; m++) {
            x.lead(m, 0, 1, 0);
            x.lead(m, 7, 0, 9);
        }
        for (int both = 0; both < 16; both++) {
            x.has(both / 4, both % 4, 0);
        }
        Due.due("two EDGES of each METHOD and all calls", x.rule(4), 12 + 16);
        Due.due("take()", x.take(), 28);
        Due.due("none is left", x.rule(4), 0);
    }

    private static void chosen() {
        Doc.terms("CHOSEN is a TEST that COVERS any EDGE IN DANGER.");
        TestChoice x = Due.told(CALLS + "test 0 0 1;test 0 1 2;test 1 0 9;");
        Due.due("none of them: rule(5)", x.rule(5), 0);
        Due.due("none of them: rule(6)", x.rule(6), 0);
        x.has(0, 3, 1);
        Due.due("test(0, 5)", x.test(0, 5), 1);
        Due.due("test(1, 5): it does not go there", x.test(1, 5), 0);
        Due.due("test(2, 5): it is of another CLASS", x.test(2, 5), 0);
        Due.due("one EDGE is enough: test(0, 8)", x.test(0, 8), 1);
        x.has(0, 0, 1);
        x.has(1, 0, 1);
        Due.due("all of them: rule(5)", x.rule(5), 3);
        Due.due("all of them: rule(6)", x.rule(6), 12);
    }

    private static void ordered(TestChoice x, int... testsAndEdges) {
        int n = testsAndEdges.length / 2;
        for (int i = 0; i < n; i++) {
            Due.due("order(" + i + ", 0)", x.order(i, 0), testsAndEdges[2 * i]);
            Due.due("order(" + i + ", 1)", x.order(i, 1), testsAndEdges[2 * i + 1]);
            Due.due("test(" + testsAndEdges[2 * i] + ", 6)", x.test(testsAndEdges[2 * i], 6), i);
        }
        Due.due("order(" + n + ", 0)", x.order(n, 0), -4);
        Due.due("order(" + n + ", 1)", x.order(n, 1), -4);
    }

    /** All calls by CLASS 0 are IN DANGER: TESTS of DECISIONS 0, 4, 2, 1 COVER four, three, two, one of them. */
    private static TestChoice allCallsInDanger(String tests) {
        TestChoice x = Due.told(CALLS + tests);
        for (int name = 0; name < 4; name++) {
            x.has(0, name, 1);
        }
        return x;
    }

    private static void orderByCost() {
        Doc.terms(ORDER);
        ordered(allCallsInDanger("test 0 4 4;test 0 1 1;"), 1, 1, 0, 2);
        ordered(allCallsInDanger("test 0 4 2;test 0 1 1;"), 0, 3, 1, 0);
        // 4 by 9 is less than 1 by 2, and more than 3 by 7; 3 by 7 is more than 2 by 5.
        ordered(allCallsInDanger("test 0 0 9;test 0 1 2;"), 1, 1, 0, 3);
        ordered(allCallsInDanger("test 0 4 7;test 0 0 9;"), 1, 4, 0, 0);
        ordered(allCallsInDanger("test 0 2 5;test 0 4 7;"), 1, 3, 0, 0);
    }

    private static void orderOfSeveralTheFirst() {
        Doc.terms(ORDER);
        ordered(allCallsInDanger("test 0 0 4;test 0 1 1;"), 0, 4, 1, 0);
        ordered(allCallsInDanger("test 0 1 1;test 0 0 4;"), 0, 1, 1, 3);
        ordered(allCallsInDanger("test 0 4 9;test 0 1 3;test 0 1 3;"), 0, 3, 1, 0, 2, 0);
        ordered(allCallsInDanger("test 0 2 2;test 0 2 2;test 0 2 2;"), 0, 2, 1, 0, 2, 0);
    }

    private static void orderOfThoseThatCoverNothingMore() {
        Doc.terms(ORDER);
        TestChoice x = allCallsInDanger("test 0 1 9;test 1 0 1;test 0 1 1;test 0 0 9;");
        ordered(x, 2, 1, 3, 3, 0, 0);
        Due.due("test(1, 6)", x.test(1, 6), -4);
    }

    private static void orderOfEight() {
        Doc.terms(ORDER);
        ordered(allCallsInDanger("test 0 1 1;".repeat(8)), 0, 1, 1, 0, 2, 0, 3, 0, 4, 0, 5, 0, 6, 0, 7, 0);
        ordered(allCallsInDanger("test 1 0 1;".repeat(8)));
        ordered(allCallsInDanger(""));
    }
}
