import java.io.IOException;
import java.nio.file.Files;
import java.nio.file.Path;
import java.util.Arrays;
import java.util.LinkedHashMap;
import java.util.Map;
import java.util.regex.Matcher;
import java.util.regex.Pattern;

/** The document's sentences: each test of a boundary quotes the one that it holds, and none may be left over. */
final class Doc {
    private static final Path FILE = Path.of("../shared/DOC.md");
    // What is no sentence: how a block begins and ends, and the call that a promise is about.
    private static final Pattern FRAME = Pattern.compile("```(text)?|======== \\d|`\\w+ ?\\w*\\([^`]*\\)`:");
    private static final Pattern WORD = Pattern.compile("[A-Za-z0-9]+");
    private static final Map<String, String> SECTIONS = new LinkedHashMap<>();
    private static final Map<String, boolean[]> QUOTED = new LinkedHashMap<>();

    private Doc() {
    }

    static void open() throws IOException {
        String name = "";
        for (String line : Files.readAllLines(FILE)) {
            if (line.startsWith("## ")) {
                name = line.substring(3).replaceAll(":.*", "");
            } else {
                SECTIONS.merge(name, line, (was, more) -> was + " " + more);
            }
        }
        SECTIONS.replaceAll((section, text) -> text.replaceAll("\\s+", " "));
        SECTIONS.forEach((section, text) -> QUOTED.put(section, new boolean[text.length()]));
    }

    /** What comes now holds this sentence: it must stand in that section of the document, letter by letter. */
    static void says(String section, String sentence) {
        Due.by("[" + section + ": \"" + sentence + "\"]");
        String text = SECTIONS.getOrDefault(section, "");
        int at = text.indexOf(sentence);
        Due.holds("the document says so", at >= 0);
        for (; at >= 0; at = text.indexOf(sentence, at + 1)) {
            Arrays.fill(QUOTED.get(section), at, at + sentence.length(), true);
        }
    }

    static void promise(int number, String sentence) {
        says("Promise " + number, sentence);
    }

    static void terms(String sentence) {
        says("Terms", sentence);
    }

    /** Of the terms and of all promises, no word is without a test that quotes it. */
    static void everySentenceIsQuoted() {
        Due.by("[a sentence without a test]");
        everyWordIsQuoted("Terms");
        for (int number = 1; number <= 30; number++) {
            everyWordIsQuoted("Promise " + number);
        }
    }

    private static void everyWordIsQuoted(String section) {
        String text = SECTIONS.getOrDefault(section, "");
        Due.holds(section + " is in the document", !text.isEmpty());
        boolean[] quoted = QUOTED.getOrDefault(section, new boolean[0]);
        Matcher frame = FRAME.matcher(text);
        while (frame.find()) {
            Arrays.fill(quoted, frame.start(), frame.end(), true);
        }
        Matcher word = WORD.matcher(text);
        while (word.find()) {
            Due.holds(section + ": the word '" + word.group() + "' at " + word.start(), quoted[word.start()]);
        }
    }
}
