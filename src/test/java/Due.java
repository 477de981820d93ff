/** What the tests share: it counts the answers that are due, and tells texts to objects. */
final class Due {
    private static int passed;
    private static int failed;
    private static String sentence = "";

    private Due() {
    }

    static void due(String call, long got, long want) {
        if (got == want) {
            passed++;
        } else {
            failed++;
            System.out.println(sentence + call + " answered " + got + ", due is " + want);
        }
    }

    /** Answers that are not as due are told with this sentence of the document from now on. */
    static void by(String said) {
        sentence = said + " ";
    }

    static void holds(String what, boolean so) {
        due(what, so ? 1 : 0, 1);
    }

    static void feedAll(TestChoice x, String text) {
        for (int i = 0; i < text.length(); i++) {
            due("feed of '" + text + "' at " + i, x.feed(text.charAt(i)), i + 1);
        }
    }

    /** A new object that has been told a text without a fault. */
    static TestChoice told(String text) {
        TestChoice x = new TestChoice();
        feedAll(x, text);
        int lines = (int) text.chars().filter(c -> c == ';').count();
        due("text() of '" + text + "'", x.text(), lines);
        due("fault() of '" + text + "'", x.fault(), 0);
        return x;
    }

    /** A new object is told a text that has this FAULT at this place: nothing is told, THE TAPE is empty. */
    static void fails(String text, int fault, int place) {
        TestChoice x = new TestChoice();
        feedAll(x, text);
        due("text() of '" + text + "'", x.text(), -10 - place);
        due("fault() of '" + text + "'", x.fault(), fault);
        due("fault() again", x.fault(), fault);
        due("the tape is empty by a fault, too", x.count(2), 0);
        due("what is told by '" + text + "'", x.rule(0) + x.rule(1) + x.rule(2) + x.rule(3), 0);
    }

    /** A text is told to an object behind what it has on its tape. */
    static void tells(TestChoice x, String text, int want) {
        for (int i = 0; i < text.length(); i++) {
            x.feed(text.charAt(i));
        }
        due("text() of '" + text + "'", x.text(), want);
    }

    /** Ends the test: with code 1 if any answer was not as due. */
    static void close(String name) {
        System.out.println(name + ": " + passed + " answers as due, " + failed + " not");
        if (failed != 0 || passed == 0) {
            System.exit(1);
        }
    }
}
