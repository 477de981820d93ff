import java.io.IOException;
import java.nio.file.Files;
import java.nio.file.Path;

/** The boundary cases: each sentence of the document that names one has a test here that quotes it. */
public final class BoundsTest {
    public static void main(String[] args) throws IOException {
        Doc.open();
        BoundsOfAnswers.all(Files.readString(Path.of(args.length > 0 ? args[0] : "src/main/java/TestChoice.java")));
        BoundsOfPrograms.all();
        BoundsOfText.all();
        BoundsOfRuns.all();
        BoundsOfDanger.all();
        BoundsOfSheets.all();
        BoundsOfAsking.all();
        BoundsOfChanging.all();
        Doc.everySentenceIsQuoted();
        Due.close("BoundsTest");
    }
}
