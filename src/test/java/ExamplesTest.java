import java.io.IOException;
import java.nio.file.Files;
import java.nio.file.Path;

/** The six examples, as they stand in the document. */
final class ExamplesTest {
    private static final Path DOCUMENT = Path.of("../shared/DOC.md");

    public static void main(String[] args) throws IOException {
        int examples = 0;
        for (String line : Files.readAllLines(DOCUMENT)) {
            if (line.matches("\\d\\. .*")) {
                examples++;
                Script.run("example " + examples, callsOf(line));
            }
        }
        Script.due("examples", "number of examples", examples, 6);
        Script.finish();
    }

    /** The calls stand behind the last colon of an example, which ends with a full stop. */
    private static String callsOf(String line) {
        return line.substring(line.lastIndexOf(": ") + 2, line.length() - 1);
    }
}
