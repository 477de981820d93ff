/** The boundaries of the text: what is a TOKEN, what is a line, which FAULT is met first and where. */
final class BoundsOfText {
    private static final String NODE_LINE = "say, call: a NODE more of the latest METHOD: its NUMBER (0 to 9), NAME "
        + "(0 to 3), its NEXT ones (0 to 7, or 9).";
    private static final String TOKENS = "TOKENS, each as long as may be, blanks (32) ahead, between, behind, as many as "
        + "wanted (none is needed): NAMES (a .. z), NUMBERS (1 to 3 figures), one ; .";
    private static final String FIRST_MET = "FAULTS, the first met as it is read (a TOKEN is read when the one before has "
        + "been taken): 1 no TOKEN, a NUMBER that is too long (its first byte).";

    private BoundsOfText() {
    }

    static void all() {
        blanks();
        tokensAsLongAsMayBe();
        namesAToZ();
        numbersOf1To3Figures();
        bytesThatAreNoToken();
        linesAsManyAsWanted();
        lineForms();
        methodLine();
        nodeLine();
        classLine();
        hasLine();
        testLine();
        fault1();
        aTokenIsReadWhenTheOneBeforeHasBeenTaken();
        fault2();
        fault2AtTheEnd();
        fault3();
        fault5();
        fault5GoesAheadOfWhatIsBehindItsName();
        fault6();
        aTextThatIsTaken();
    }

    private static void blanks() {
        Doc.terms(TOKENS);
        TestChoice x = Due.told("method;say1 0 9;call0;class9;test0 0 1;");
        Due.due("none is needed: its NUMBER", x.node(0, 0, 1), 1);
        TestChoice y = Due.told("   method   ;   say   1   0   9   ;call 0;class 9;test 0 0 1;   ");
        for (int what = 0; what < 5; what++) {
            Due.due("as many as wanted: node(0, 0, " + what + ")", y.node(0, 0, what), x.node(0, 0, what));
        }
        Due.told(" ".repeat(320));
        Due.told(" ".repeat(313) + "method;");
        Due.told("method;" + " ".repeat(313));
        Due.fails("method\t;", 1, 6);
        Due.fails("method\n;", 1, 6);
        Due.fails("method" + (char) 31 + ";", 1, 6);
        Due.fails("method!;", 1, 6);
        Due.fails("me thod;", 2, 0);
    }

    private static void tokensAsLongAsMayBe() {
        Doc.terms(TOKENS);
        Due.fails("methodmethod;", 2, 0);
        Due.fails("methods;", 2, 0);
        Due.fails("method;say100;", 3, 10);
        Due.fails("method;say1 00 09;say1 0 10;", 3, 25);
        Due.fails("class9class9;", 2, 6);
        TestChoice x = Due.told("method;say1 00 09;");
        Due.due("00 is one NUMBER: node(0, 0, 3)", x.node(0, 0, 3), 0);
        Due.due("09 is one NUMBER: node(0, 0, 4)", x.node(0, 0, 4), 9);
    }

    private static void namesAToZ() {
        Doc.terms(TOKENS);
        Due.fails("a", 2, 0);
        Due.fails("z", 2, 0);
        Due.fails("`", 1, 0);
        Due.fails("{", 1, 0);
        Due.fails("A", 1, 0);
        Due.fails("Z", 1, 0);
        Due.fails("method;say1 a;", 2, 12);
        Due.fails("method;say1 z;", 2, 12);
        Due.fails("methodz;", 2, 0);
        Due.fails("methoda;", 2, 0);
        Due.fails("method`;", 1, 6);
        Due.fails("method{;", 1, 6);
        Due.fails("Method;", 1, 0);
    }

    private static void numbersOf1To3Figures() {
        Doc.terms(TOKENS);
        TestChoice x = Due.told("method;say 9;say 09;say 009;class 9;test 0 0 1;test 0 00 01;test 0 255 009;");
        for (int i = 0; i < 3; i++) {
            Due.due("NUMBER of NODE " + i, x.node(0, i, 1), 9);
        }
        Due.due("COST 009", x.test(2, 2), 9);
        Due.fails("method;say 0009;", 1, 11);
        Due.fails("method;say 9999;", 1, 11);
        Due.fails("class 9;test 0 0255 1;", 1, 15);
        Due.fails("method;say " + "0".repeat(309), 1, 11);
        Due.fails("method;say 4294967296;", 1, 11);
        Due.fails("method;say /;", 1, 11);
        Due.fails("method;say :;", 1, 11);
        Due.fails("method;say 1/;", 1, 12);
        Due.fails("method;say 1:;", 1, 12);
    }

    private static void bytesThatAreNoToken() {
        Doc.terms(TOKENS);
        for (int c = 0; c < 128; c++) {
            boolean name = c >= 'a' && c <= 'z';
            boolean number = c >= '0' && c <= '9';
            String at = "method;" + (char) c;
            if (c == ' ') {
                Due.told(at);
            } else {
                Due.fails(at, name || number || c == ';' ? 2 : 1, 7);
            }
        }
    }

    private static void linesAsManyAsWanted() {
        Doc.terms("text: { line }");
        Due.due("no line", Due.told("").rule(0), 0);
        Due.due("one line", Due.told("method;").rule(0), 1);
        TestChoice most = Due.told(BoundsOfPrograms.FULL);
        Due.due("58 lines", most.rule(1), 48);
    }

    private static void lineForms() {
        Doc.terms("text: { line } line: method ; | say N [ N [ N ] ] ; | call N [ N [ N ] ] ; | class N ; | has N N N ; | "
            + "test N N N ;");
        Due.told("method;say 1;say 1 0;say 1 0 0;call 1;call 1 0;call 1 0 0;class 9;has 0 0 0;test 0 0 1;");
        Due.fails("method 1;", 2, 7);
        Due.fails("method;say;", 2, 10);
        Due.fails("method;say 1 0 0 0;", 2, 17);
        Due.fails("method;call;", 2, 11);
        Due.fails("method;call 1 0 0 0;", 2, 18);
        Due.fails("class;", 2, 5);
        Due.fails("class 9 9;", 2, 8);
        Due.fails("has 0 0;", 2, 7);
        Due.fails("has 0 0 0 0;", 2, 10);
        Due.fails("test 0 0;", 2, 8);
        Due.fails("test 0 0 1 1;", 2, 11);
    }

    private static void methodLine() {
        Doc.terms("method: a METHOD more.");
        TestChoice x = Due.told("method;method;");
        Due.due("rule(0)", x.rule(0), 2);
        Due.due("rule(1)", x.rule(1), 0);
    }

    private static void nodeLine() {
        Doc.terms(NODE_LINE);
        TestChoice x = Due.told("method;say 5;method;" + "say 0 7 9;say 9 0 0;call 0 9 7;call 3 0 9;" + "say 1;".repeat(4));
        Due.due("the latest METHOD has eight", x.rule(1), 9);
        Due.due("NEXT 7", x.node(1, 0, 3), 7);
        Due.due("NEXT 9", x.node(1, 0, 4), 9);
        Due.due("NEXT 7 of a call", x.node(1, 2, 4), 7);
        Due.due("NAME 3", x.node(1, 3, 1), 3);
        Due.fails("method;say 10;", 3, 11);
        Due.fails("method;call 4;", 3, 12);
        Due.fails("method;call 9;", 3, 12);
        for (String line : new String[] {"say 1 ", "say 1 0 ", "call 1 ", "call 1 0 "}) {
            Due.fails("method;" + line + "8;", 3, 7 + line.length());
            Due.fails("method;" + line + "10;", 3, 7 + line.length());
            Due.told("method;" + line + "9;");
            Due.told("method;" + line + "7;" + "say 1;".repeat(7));
        }
    }

    private static void classLine() {
        Doc.terms("class: a CLASS more, under which (0 to 3, or 9).");
        TestChoice x = Due.told("class 9;class 0;class 9;class 2;");
        Due.due("rule(2)", x.rule(2), 4);
        Due.fails("class 9;class 9;class 9;class 3;", 3, 30);
        Due.fails("class 9;class 9;class 9;class 4;", 3, 30);
        Due.fails("class 8;", 3, 6);
        Due.fails("class 10;", 3, 6);
        Due.fails("class 999;", 3, 6);
    }

    private static void hasLine() {
        Doc.terms("has: CLASS (0 to 3), NAME (0 to 3), METHOD (0 to 5; the latter holds).");
        TestChoice x = Due.told("method;".repeat(6) + "class 9;".repeat(4) + "has 3 3 5;has 0 0 0;has 0 0 5;has 1 2 4;"
            + "has 1 2 0;");
        Due.due("the last of each", x.meant(3, 3, 0), 5);
        Due.due("the latter holds", x.meant(0, 0, 0), 5);
        Due.due("the latter holds, METHOD 0 too", x.meant(1, 2, 0), 0);
        Due.fails("has 4 0 0;", 3, 4);
        Due.fails("has 9 0 0;", 3, 4);
        Due.fails("has 0 4 0;", 3, 6);
        Due.fails("has 0 9 0;", 3, 6);
        Due.fails("has 0 0 6;", 3, 8);
        Due.fails("has 0 0 9;", 3, 8);
    }

    private static void testLine() {
        Doc.terms("test: CLASS (0 to 3), DECISIONS, COST.");
        TestChoice x = Due.told("class 9;".repeat(4) + "test 0 0 1;test 3 255 9;");
        Due.due("CLASS 0", x.test(0, 0), 0);
        Due.due("CLASS 3", x.test(1, 0), 3);
        Due.due("DECISIONS", x.test(1, 1), 255);
        Due.due("COST", x.test(1, 2), 9);
        Due.fails("test 4 0 1;", 3, 5);
        Due.fails("test 9 0 1;", 3, 5);
        Due.fails("test 0 256 1;", 3, 7);
        Due.fails("test 0 999 1;", 3, 7);
        Due.fails("test 0 0 0;", 3, 9);
        Due.fails("test 0 0 10;", 3, 9);
    }

    private static void fault1() {
        Doc.terms(FIRST_MET);
        Due.fails("?", 1, 0);
        Due.fails("  ?", 1, 2);
        Due.fails(" ".repeat(319) + "?", 1, 319);
        Due.fails("method;?", 1, 7);
        Due.fails("method;say 1234;", 1, 11);
        Due.fails("1234", 1, 0);
        Due.fails(" ".repeat(316) + "1234", 1, 316);
        Due.fails("method;say 1 0 1234;", 1, 15);
        Due.fails("method;say 1 0 0 1234;", 1, 17);
        Due.fails("method;say 123 ?;", 3, 11);
    }

    private static void aTokenIsReadWhenTheOneBeforeHasBeenTaken() {
        Doc.terms(FIRST_MET);
        Due.fails("method;say 10 ?", 3, 11);
        Due.fails("method;say 1 8 ?", 3, 13);
        Due.fails("method;say 1 ? 8", 1, 13);
        Due.fails("method;say ; ?", 2, 11);
        Due.fails("metho ?", 2, 0);
        Due.fails("method ? methods", 1, 7);
        Due.fails("class 5 ?", 3, 6);
        Due.fails("method;say 1 1;?", 1, 15);
        Due.fails("method;say 1 1;say 10;", 3, 19);
        Due.fails("method;say 1 1", 2, 14);
        Due.fails("test 0 0 1;has 0 0 0;;", 2, 21);
    }

    private static void fault2() {
        Doc.terms("2 a TOKEN that can not stand there (a NAME that begins no line; or the end: the length).");
        for (String word : new String[] {"method", "say", "call", "class", "has", "test"}) {
            Due.fails(" " + word.substring(1) + ";", 2, 1);
            Due.fails(" " + word.substring(0, word.length() - 1) + ";", 2, 1);
            Due.fails(" " + word + "s;", 2, 1);
            for (int i = 0; i < word.length(); i++) {
                Due.fails(word.substring(0, i) + "x" + word.substring(i + 1) + " 9;", 2, 0);
            }
        }
        Due.fails(";", 2, 0);
        Due.fails("0", 2, 0);
        Due.fails("999", 2, 0);
        Due.fails("method;;", 2, 7);
        Due.fails("method method;", 2, 7);
        Due.fails("method;say say;", 2, 11);
        Due.fails("method;say 1 say;", 2, 13);
        Due.fails("method;say 1 0 0 8;", 2, 17);
        Due.fails("has 0;", 2, 5);
        Due.fails("test;", 2, 4);
    }

    private static void fault2AtTheEnd() {
        Doc.terms("2 a TOKEN that can not stand there (a NAME that begins no line; or the end: the length).");
        Due.fails("method", 2, 6);
        Due.fails("method   ", 2, 9);
        Due.fails("method;say", 2, 10);
        Due.fails("method;say 1", 2, 12);
        Due.fails("method;say 1 0", 2, 14);
        Due.fails("method;say 1 0 0", 2, 16);
        Due.fails("class", 2, 5);
        Due.fails("has 0 0", 2, 7);
        Due.fails("test 0 0 1", 2, 10);
        Due.fails("method" + " ".repeat(314), 2, 320);
        Due.fails(" ".repeat(314) + "method", 2, 320);
    }

    private static void fault3() {
        Doc.terms("3 a NUMBER out of its bounds (8, too; of class one that is not told ahead).");
        Due.fails("method;say 1 8;", 3, 13);
        Due.fails("method;say 1 0 8;", 3, 15);
        Due.fails("method;call 1 8;", 3, 14);
        Due.fails("method;call 1 0 8;", 3, 16);
        Due.fails("class 8;", 3, 6);
        Due.fails("class 0;", 3, 6);
        Due.fails("class 9;class 1;", 3, 14);
        Due.fails("class 9;class 9;class 3;class 9;", 3, 22);
        Due.fails("method;say 010;", 3, 11);
        Due.told("method;say 008;class 9;class 0;test 0 8 8;");
    }

    private static void fault5() {
        Doc.terms("5 the 7th METHOD, a NODE ahead of all METHODS, the 9th NODE, the 5th CLASS, the 9th TEST (its NAME).");
        String methods = "method;".repeat(6);
        Due.told(methods);
        Due.fails(methods + "method;", 5, 42);
        Due.fails(methods + "   method;", 5, 45);
        Due.fails("say 1;", 5, 0);
        Due.fails("  call 1;", 5, 2);
        Due.fails("class 9;say 1;method;", 5, 8);
        String nodes = "method;" + "say 1;".repeat(8);
        Due.told(nodes + "method;say 1;");
        Due.fails(nodes + "say 1;", 5, 55);
        Due.fails(nodes + " call 1;", 5, 56);
        Due.fails("method;" + nodes + "say 1;", 5, 62);
        Due.told("class 9;".repeat(4));
        Due.fails("class 9;".repeat(5), 5, 32);
        String tests = "class 9;" + "test 0 0 1;".repeat(8);
        Due.told(tests);
        Due.fails(tests + "test 0 0 1;", 5, 96);
        Due.told("method;class 9;" + "has 0 0 0;".repeat(30));
    }

    private static void fault5GoesAheadOfWhatIsBehindItsName() {
        Doc.terms("5 the 7th METHOD, a NODE ahead of all METHODS, the 9th NODE, the 5th CLASS, the 9th TEST (its NAME).");
        Due.fails("method;".repeat(6) + "method", 5, 42);
        Due.fails("method;".repeat(6) + "method?", 5, 42);
        Due.fails("say", 5, 0);
        Due.fails("say 10;", 5, 0);
        Due.fails("call?", 5, 0);
        Due.fails("method;" + "say 1;".repeat(8) + "say", 5, 55);
        Due.fails("method;" + "say 1;".repeat(8) + "call 9;", 5, 55);
        Due.fails("class 9;".repeat(4) + "class 8;", 5, 32);
        Due.fails("class 9;" + "test 0 0 1;".repeat(8) + "test 1234", 5, 96);
    }

    private static void fault6() {
        Doc.terms("Behind all (the length): 6 a NODE (of NEXT ones), a CLASS, a METHOD is told that there is not.");
        Due.told("method;say 1 1;say 2 1 0;");
        Due.fails("method;say 1 1;", 6, 15);
        Due.fails("method;say 1 1;   ", 6, 18);
        Due.fails("method;say 1 0 1;", 6, 17);
        Due.fails("method;say 1;say 1;method;say 1 1;", 6, 34);
        Due.fails("method;say 1 1;method;say 1;say 1;", 6, 34);
        Due.fails("method;say 1 7;" + "say 1;".repeat(6), 6, 51);
        Due.told("method;say 1 7;" + "say 1;".repeat(7));
        Due.told("has 3 0 5;test 3 0 1;" + "class 9;".repeat(4) + "method;".repeat(6));
        Due.fails("has 3 0 5;" + "class 9;".repeat(3) + "method;".repeat(6), 6, 76);
        Due.fails("has 3 0 5;" + "class 9;".repeat(4) + "method;".repeat(5), 6, 77);
        Due.fails("has 0 0 0;class 9;", 6, 18);
        Due.fails("has 0 0 0;method;", 6, 17);
        Due.fails("test 3 0 1;" + "class 9;".repeat(3), 6, 35);
        Due.fails("test 0 0 1;", 6, 11);
        Due.fails("class 9;test 1 0 1;test 0 0 1;", 6, 30);
        Due.fails("test 0 0 1;" + " ".repeat(309), 6, 320);
    }

    private static void aTextThatIsTaken() {
        Doc.terms("A text that is taken tells both PROGRAMS alike, and all TESTS, in place of what there was; IMAGES are gone.");
        TestChoice x = Sample.make();
        x.keep(0);
        x.end(0);
        Due.tells(x, "method;say 5;class 9;test 0 7 8;", 4);
        Due.due("METHODS", x.rule(0), 1);
        Due.due("NODES", x.rule(1), 1);
        Due.due("CLASSES", x.rule(2), 1);
        Due.due("TESTS", x.rule(3), 1);
        Due.due("its DECISIONS", x.test(0, 1), 7);
        Due.due("EDGES IN DANGER", x.rule(4), 0);
        Due.due("NODES that are other", x.count(5), 0);
        Due.due("OLD NUMBER", x.node(0, 0, 1), 5);
        Due.due("NEW NUMBER", x.node(0, 0, 11), 5);
        Due.due("OLD meant(0, 0, 0)", x.meant(0, 0, 0), -4);
        Due.due("NEW meant(0, 0, 1)", x.meant(0, 0, 1), -4);
        Due.due("IMAGES", x.count(0), 0);
        Due.due("back(0)", x.back(0), -2);
        Due.due("back(1)", x.back(1), -2);
        Due.due("torn() stays", x.torn(), 3);
        Due.due("SHEETS stay", x.lay(3, 7, 0), 1);
        x.keep(0);
        Due.tells(x, "", 0);
        Due.due("a text of nothing: METHODS", x.rule(0), 0);
        Due.due("a text of nothing: TESTS", x.rule(3), 0);
        Due.due("a text of nothing: IMAGES", x.count(0), 0);
    }
}
