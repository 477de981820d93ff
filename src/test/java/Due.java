/** What the tests share: it counts the answers that are due, and tells texts to objects. */
final class Due {
    private static int passed;
    private static int failed;

    private Due() {
    }

    static void due(String call, long got, long want) {
        if (got == want) {
            passed++;
        } else {
            failed++;
            System.out.println(call + " answered " + got + ", due is " + want);
        }
    }

    static void holds(String what, boolean so) {
        due(what, so ? 1 : 0, 1);
    }

    static void feedAll(TestChoice x, String text) {
        for (int i = 0; i < text.length(); i++) {
            due("feed of '" + text + "' at " + i, x.feed(text.charAt(i)), i + 1);
        }
    }

    /** A new object that has been told a text without a fault. */
    static TestChoice told(String text) {
        TestChoice x = new TestChoice();
        feedAll(x, text);
        int lines = (int) text.chars().filter(c -> c == ';').count();
        due("text() of '" + text + "'", x.text(), lines);
        due("fault() of '" + text + "'", x.fault(), 0);
        return x;
    }

    /** Ends the test: with code 1 if any answer was not as due. */
    static void close(String name) {
        System.out.println(name + ": " + passed + " answers as due, " + failed + " not");
        if (failed != 0 || passed == 0) {
            System.exit(1);
        }
    }
}
