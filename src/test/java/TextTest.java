/** Promises 1 to 5: a new object, the tape, and the text with its faults. */
public final class TextTest {
    public static void main(String[] args) {
        newObject();
        tape();
        tapeIsFull();
        lines();
        tokens();
        noToken();
        wrongToken();
        outOfBounds();
        tooMany();
        notThere();
        firstFaultIsMet();
        whatWasToldStays();
        textStandsInPlaceOfWhatWas();
        Due.close("TextTest");
    }

    private static void newObject() {
        TestChoice x = new TestChoice();
        for (int what = 0; what <= 7; what++) {
            Due.due("1: rule(" + what + ")", x.rule(what), 0);
        }
        Due.due("1: fault()", x.fault(), 0);
        Due.due("1: torn()", x.torn(), 0);
        int[] counts = {0, 0, 0, TestChoice.NONE, 0, 0};
        for (int what = 0; what < counts.length; what++) {
            Due.due("1: count(" + what + ")", x.count(what), counts[what]);
        }
        for (int k = 0; k < 4; k++) {
            Due.due("1: lay of nothing", x.lay(k, 0, 0), -11);
        }
        Due.due("1: node", x.node(0, 0, 0), -1);
        Due.due("1: meant", x.meant(0, 0, 0), -1);
        Due.due("1: said", x.said(0, 0), 0);
        Due.due("1: same", x.same(0), -1);
        Due.due("1: edge", x.edge(100, 0), -1);
        Due.due("1: order", x.order(0, 0), -4);
        Due.due("1: draw", x.draw(1, 1), -2);
        Due.due("1: back", x.back(0), -2);
        Due.due("1: take", x.take(), 0);
        Due.due("1: leave", x.leave(), 0);
        Due.due("1: keep", x.keep(1), 0);
        Due.due("1: back to nothing", x.back(1), 0);
    }

    private static void tape() {
        TestChoice x = new TestChoice();
        Due.due("2: feed(0)", x.feed(0), 1);
        Due.due("2: feed(127)", x.feed(127), 2);
        Due.due("2: feed(-1)", x.feed(-1), -1);
        Due.due("2: feed(128)", x.feed(128), -1);
        Due.due("2: feed(max)", x.feed(Integer.MAX_VALUE), -1);
        Due.due("2: feed(min)", x.feed(Integer.MIN_VALUE), -1);
        Due.due("2: feed(256 + 32)", x.feed(288), -1);
        Due.due("2: count(2)", x.count(2), 2);
        Due.due("3: end(3)", x.end(3), -1);
        Due.due("3: end(-1)", x.end(-1), -1);
        Due.due("3: end(min)", x.end(Integer.MIN_VALUE), -1);
        Due.due("3: end(max)", x.end(Integer.MAX_VALUE), -1);
        Due.due("3: refused end changes nothing", x.count(2), 2);
        Due.due("3: end(2)", x.end(2), 2);
        Due.due("3: end(1)", x.end(1), 2);
        Due.due("3: after end(1)", x.count(2), 1);
        Due.due("3: end(0)", x.end(0), 1);
        Due.due("3: end(0) of none", x.end(0), 0);
        Due.feedAll(x, "method;say 1;?");
        Due.due("3: end keeps the first ones", x.end(7), 14);
        Due.due("3: text of these", x.text(), 1);
        Due.due("3: no node", x.rule(1), 0);
    }

    private static void tapeIsFull() {
        TestChoice x = new TestChoice();
        for (int i = 1; i <= 320; i++) {
            Due.due("2: feed", x.feed(i == 320 ? 'A' : ' '), i);
        }
        Due.due("2: full", x.feed(' '), -3);
        Due.due("2: BAD goes ahead of FULL", x.feed(-1), -1);
        Due.due("2: still full", x.count(2), 320);
        Due.due("4: the last place", x.text(), -10 - 319);
        Due.due("5: its fault", x.fault(), 1);
        Due.due("4: the tape is empty", x.feed(' '), 1);
    }

    private static void lines() {
        TestChoice x = Due.told("method;say 9 7 9;say 0;say 1;say 2;say 3;say 4;say 5;call 3 0 9;"
            + "method;class 9;class 0;class 1;class 0;has 3 3 1;has 0 0 0;test 3 255 9;test 0 0 1;");
        Due.due("4: methods", x.rule(0), 2);
        Due.due("4: nodes", x.rule(1), 8);
        Due.due("4: classes", x.rule(2), 4);
        Due.due("4: tests", x.rule(3), 2);
        Due.due("4: the tape is empty", x.count(2), 0);
        Due.due("4: a call by its name", x.node(0, 7, 0), 1);
        Due.due("4: its name", x.node(0, 7, 1), 3);
        Due.due("4: next 0 of a say", x.node(0, 0, 3), 7);
        Due.due("4: next 1 of a say", x.node(0, 0, 4), 9);
        Due.due("4: class of a test", x.test(0, 0), 3);
        Due.due("4: decisions of a test", x.test(0, 1), 255);
        Due.due("4: cost of a test", x.test(0, 2), 9);
        TestChoice y = Due.told("class 9;has 0 1 0;has 0 1 1;method;method;");
        Due.due("4: the latter holds", y.meant(0, 1, 0), 1);
        TestChoice z = Due.told("");
        Due.due("4: a text of nothing", z.rule(0), 0);
        Due.told("   ");
    }

    private static void tokens() {
        TestChoice x = Due.told("  method  ;say1 0 9;call 003 009;class9;test 0 007 001 ;  ");
        Due.due("4: say1", x.node(0, 0, 1), 1);
        Due.due("4: 003", x.node(0, 1, 1), 3);
        Due.due("4: 009", x.node(0, 1, 3), 9);
        Due.due("4: 007", x.test(0, 1), 7);
        Due.due("4: 001", x.test(0, 2), 1);
    }

    private static void noToken() {
        Due.fails("A", 1, 0);
        Due.fails(" -", 1, 1);
        Due.fails("method\n;", 1, 6);
        Due.fails("method;say 1234;", 1, 11);
        Due.fails("method;say 0001;", 1, 11);
        Due.fails("1234", 1, 0);
        Due.fails("method;{", 1, 7);
        Due.fails("method;`", 1, 7);
        Due.fails("method;/", 1, 7);
        Due.fails("method;:", 1, 7);
        Due.fails("method;say 1 0 0 1234;", 1, 17);
        Due.fails("method 1234;", 1, 7);
        Due.fails("say1111", 5, 0);
        Due.fails("\0", 1, 0);
        Due.fails("method;\t", 1, 7);
    }

    private static void wrongToken() {
        Due.fails("metho;", 2, 0);
        Due.fails("methods;", 2, 0);
        Due.fails("methodsay;", 2, 0);
        Due.fails(";", 2, 0);
        Due.fails("  12", 2, 2);
        Due.fails("method;;", 2, 7);
        Due.fails("method", 2, 6);
        Due.fails("method  ", 2, 8);
        Due.fails("method say", 2, 7);
        Due.fails("method 1;", 2, 7);
        for (String word : new String[] {"method", "say", "call", "class", "has", "test"}) {
            for (int i = 0; i < word.length(); i++) {
                Due.fails("method;" + word.substring(0, i) + "z" + word.substring(i + 1) + " 9;", 2, 7);
            }
            Due.fails("method;" + word + "a 9;", 2, 7);
            Due.fails("method;" + word.substring(1) + ";", 2, 7);
        }
        Due.fails("method;say;", 2, 10);
        Due.fails("method;say", 2, 10);
        Due.fails("method;say say;", 2, 11);
        Due.fails("method;say 1 0 0 0;", 2, 17);
        Due.fails("method;say 1 0 0 8;", 2, 17);
        Due.fails("method;call 1 0 0 0;", 2, 18);
        Due.fails("method;say 1 0 x;", 2, 15);
        Due.fails("class;", 2, 5);
        Due.fails("class 9 9;", 2, 8);
        Due.fails("has 0 0;", 2, 7);
        Due.fails("has 0 0 0 0;", 2, 10);
        Due.fails("test 0 0;", 2, 8);
        Due.fails("test 0 0 1 1;", 2, 11);
        Due.fails("test 0 0 1", 2, 10);
        Due.fails("test;", 2, 4);
    }

    private static void outOfBounds() {
        Due.fails("method;say 10;", 3, 11);
        Due.fails("method;say 999;", 3, 11);
        Due.fails("method;say 1 8;", 3, 13);
        Due.fails("method;say 1 10;", 3, 13);
        Due.fails("method;say 1 9 8;", 3, 15);
        Due.fails("method;call 4;", 3, 12);
        Due.fails("method;call 0 8;", 3, 14);
        Due.fails("method;call 0 0 10;", 3, 16);
        Due.fails("class 0;", 3, 6);
        Due.fails("class 8;", 3, 6);
        Due.fails("class 10;", 3, 6);
        Due.fails("class 9;class 1;", 3, 14);
        Due.fails("class 9;class 9;class 9;class 3;", 3, 30);
        Due.fails("class 9;class 9;class 9;class 4;", 3, 30);
        Due.fails("has 4 0 0;", 3, 4);
        Due.fails("has 9 0 0;", 3, 4);
        Due.fails("has 0 4 0;", 3, 6);
        Due.fails("has 0 0 6;", 3, 8);
        Due.fails("has 0 0 9;", 3, 8);
        Due.fails("test 4 0 1;", 3, 5);
        Due.fails("test 9 0 1;", 3, 5);
        Due.fails("test 0 256 1;", 3, 7);
        Due.fails("test 0 0 0;", 3, 9);
        Due.fails("test 0 0 10;", 3, 9);
    }

    private static void tooMany() {
        String six = "method;method;method;method;method;method;";
        TestChoice x = Due.told(six);
        Due.due("4: six methods", x.rule(0), 6);
        Due.fails(six + "method;", 5, 42);
        Due.fails(six + "  method", 5, 44);
        Due.fails("say 1;", 5, 0);
        Due.fails(" call 1;", 5, 1);
        Due.fails("class 9;say", 5, 8);
        String eight = "method;say 1;say 1;say 1;say 1;call 1;call 1;call 1;call 1;";
        Due.due("4: eight nodes", Due.told(eight).rule(1), 8);
        Due.due("4: eight nodes, and one more method", Due.told(eight + "method;say 1;").rule(1), 9);
        Due.fails(eight + "say 1;", 5, eight.length());
        Due.fails(eight + "call", 5, eight.length());
        String four = "class 9;class 9;class 9;class 9;";
        Due.due("4: four classes", Due.told(four).rule(2), 4);
        Due.fails(four + "class 9;", 5, 32);
        Due.fails(four + "class 8;", 5, 32);
        String tests = "test 0 1 1;test 0 2 2;test 0 3 3;test 0 4 4;test 0 5 5;test 0 6 6;test 0 7 7;test 0 8 8;";
        Due.due("4: eight tests", Due.told("class 9;" + tests).rule(3), 8);
        Due.fails("class 9;" + tests + "test 9 9 0;", 5, 8 + tests.length());
    }

    private static void notThere() {
        Due.fails("method;say 1 1;", 6, 15);
        Due.fails("method;say 1 1;  ", 6, 17);
        Due.fails("method;say 1 0 1;", 6, 17);
        Due.fails("method;say 1 1;method;say 1;say 1;", 6, 34);
        Due.fails("method;say 1;say 1;method;call 1 9 1;", 6, 37);
        Due.fails("has 0 0 0;method;", 6, 17);
        Due.fails("class 9;has 0 0 0;", 6, 18);
        Due.fails("class 9;has 0 0 1;method;", 6, 25);
        Due.fails("class 9;has 0 0 1;has 0 0 0;method;", 6, 35);
        Due.fails("method;class 9;has 1 0 0;", 6, 25);
        Due.fails("class 9;test 1 0 1;", 6, 19);
        Due.fails("test 0 0 1;", 6, 11);
        Due.told("method;say 1 1;say 2 0;");
        Due.told("has 0 0 0;test 0 0 1;class 9;method;");
    }

    private static void firstFaultIsMet() {
        Due.fails("method;say 1 7;say 10;", 3, 19);
        Due.fails("method;say 1 7;A", 1, 15);
        Due.fails("method;say 10 A;", 3, 11);
        Due.fails("method;say A 10;", 1, 11);
        Due.fails("method;say 1 7", 2, 14);
        Due.fails("say A;", 5, 0);
        Due.fails("class 5 A", 3, 6);
    }

    private static void whatWasToldStays() {
        TestChoice x = Due.told("method;say 4;class 9;test 0 5 6;");
        Due.due("24: keep", x.keep(0), 0);
        Due.feedAll(x, "class 9;method;say 1;test 0 0 1;say");
        Due.due("4: a fault", x.text(), -45);
        Due.due("5: its fault", x.fault(), 2);
        Due.due("4: what was told stays, its number", x.node(0, 0, 1), 4);
        Due.due("4: its tests", x.test(0, 1), 5);
        Due.due("4: its images", x.count(0), 1);
        Due.due("4: empty", x.text(), 0);
        Due.due("5: none then", x.fault(), 0);
        Due.due("4: nothing is told", x.rule(0) + x.rule(1) + x.rule(2) + x.rule(3), 0);
    }

    private static void textStandsInPlaceOfWhatWas() {
        TestChoice x = Due.told("method;say 4 0 0;say 5;method;say 6;class 9;class 9;has 0 0 1;has 1 1 0;test 0 5 6;");
        Due.due("15: say", x.say(0, 0, 0, 9), 4);
        Due.due("24: keep", x.keep(0), 0);
        Due.due("24: keep", x.keep(1), 0);
        Due.due("26: sheet", x.sheet(0, 0, 3), 1);
        Due.feedAll(x, "method;call 2;class 9;");
        Due.due("4: text", x.text(), 3);
        Due.due("4: methods", x.rule(0), 1);
        Due.due("4: nodes", x.rule(1), 1);
        Due.due("4: classes", x.rule(2), 1);
        Due.due("4: tests", x.rule(3), 0);
        Due.due("4: both programs are alike", x.count(5) + x.rule(4), 0);
        Due.due("4: old", x.node(0, 0, 0) * 10 + x.node(0, 0, 1), 12);
        Due.due("4: new", x.node(0, 0, 10) * 10 + x.node(0, 0, 11), 12);
        Due.due("4: no next", x.node(0, 0, 3), -4);
        Due.due("4: no next in the new one", x.node(0, 0, 13), -4);
        Due.due("4: has nothing", x.meant(0, 0, 0), -4);
        Due.due("4: images are gone", x.count(0), 0);
        Due.due("4: image 0 is gone", x.back(0), -2);
        Due.due("4: image 1 is gone", x.back(1), -2);
        Due.due("4: sheets stay", x.count(3), 3);
        Due.due("18: has", x.has(0, 0, 0), -4);
        Due.due("4: one method", x.has(0, 0, 1), -1);
    }
}
