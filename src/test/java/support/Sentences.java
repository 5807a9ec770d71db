import java.io.IOException;
import java.nio.file.Files;
import java.nio.file.Path;
import java.util.function.Consumer;

/** Tests that are each named by the words of the document that they hold the program against. */
final class Sentences {
    private static final Path DOCUMENT = Path.of("../shared/DOC.md");
    private static final String SAID = read();

    private Sentences() { }

    /** The test has a new object; what it makes besides may have 512 calls each, as the document says. */
    static void holds(String sentence, Consumer<Bench> test) {
        int wrongBefore = Bench.wrongs();
        int duesBefore = Bench.dues();
        Bench.forgetLongest();
        if (!SAID.isEmpty() && !SAID.contains(plain(sentence))) {
            Bench.tell("the document does not say this");
        }
        test.accept(new Bench());
        if (Bench.dues() - duesBefore < 2) {
            Bench.tell("a boundary has two sides: fewer than two answers were looked at");
        }
        if (Bench.longest() > 512) {
            Bench.tell("an object was used for " + Bench.longest() + " calls");
        }
        if (Bench.wrongs() > wrongBefore) {
            System.out.println("  so this does not hold: " + sentence);
        }
    }

    private static String plain(String text) {
        return text.replaceAll("\\s+", " ");
    }

    // Without the document the tests run all the same, but their names are not held against it.
    private static String read() {
        try {
            return Files.exists(DOCUMENT) ? plain(Files.readString(DOCUMENT)) : "";
        } catch (IOException unreadable) {
            return "";
        }
    }
}
